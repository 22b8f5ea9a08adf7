def fF_node : List Nat := [10, 11, 28]
def fA_node : List Nat := [65, 66, 67, 68]
def Q_node (m : mR) (c : Nat → Option am_C) (N : Nat) (a : Int) (b : Int) (n : Int) (v : Int) (B : Int) (h : Int) : ag_Re af_T → Prop := fun R => ∃ (M : mR), Ty M ∧ fr fF_node fA_node m M ∧ ((M.1 10) = 0 → (m.1 10) = 0) ∧ (M.1 10 = 0 → ((M.1 28) = (m.1 28) + 1) ∧ (EX (M.2 65) (M.2 67) B (M.1 28) (h + 1 - ar a)) ∧ (agr (m.2 65) (M.2 65) (m.1 28))) ∧ R = (.inl (none), (mhp M c, N), 0, 0)
set_option maxHeartbeats 3000000 in
theorem c_node (w : wX) (m : mR) (c : Nat → Option am_C) (N D : Nat) (hD : 2 ≤ D) (hT : Ty m) (a : Int) (b : Int) (n : Int) (v : Int) (B : Int) (h : Int) (qa : R32 a) (qb : R32 b) (qn : R32 n) (qv : R64 v) (hC : m.1 10 = 0 → (0 ≤ a ∧ a ≤ 408) ∧ (0 ≤ b ∧ b ≤ 64) ∧ (0 ≤ n ∧ n ≤ 191) ∧ (CNk a n) ∧ (ar a ≤ h) ∧ (EX (m.2 65) (m.2 67) B (m.1 28) h)) : TC w D 248 [.ref 189, .int (i32 a), .int (i32 b), .int (i32 n), .long (i64 v)] (mhp m c, N) (Q_node m c N a b n v B h) := by
  obtain ⟨D, rfl⟩ : ∃ k, D = k + 1 := ⟨D - 1, by omega⟩
  obtain ⟨qaa, qab⟩ := id qa
  obtain ⟨qba, qbb⟩ := id qb
  obtain ⟨qna, qnb⟩ := id qn
  obtain ⟨qva, qvb⟩ := id qv
  have f10 : 0 ≤ m.1 10 ∧ m.1 10 ≤ 8 := hT.1 10
  have f11 : (-1) ≤ m.1 11 ∧ m.1 11 ≤ 4000 := hT.1 11
  have f28 : 0 ≤ m.1 28 ∧ m.1 28 ≤ 800 := hT.1 28
  have f8 : 0 ≤ m.1 8 ∧ m.1 8 ≤ 4000 := hT.1 8
  refine Tc_of rfl ?_
  show TT w D pm_248 (0, [(0, .ref 189), (1, .int (i32 a)), (2, .int (i32 b)), (3, .int (i32 n)), (4, .long (i64 v))], [], (mhp (mO m [] []) c, N), 0, 0) (Q_node m c N a b n v B h)
  by_cases hf0 : m.1 10 = 0
  · skip
    obtain ⟨c1, c2, c3, hCk, hAr, hEX⟩ := hC hf0
    refine T_gf 4 (.int (i32 (m.1 10))) rfl rfl rfl rfl rfl rfl ?_
    refine T_if 26 7 rfl rfl rfl (r32 (by omega) (by omega)) (fun (h5 : (m.1 10) ≠ 0) => by exfalso; omega) (fun (h5 : ¬ ((m.1 10) ≠ 0)) => ?_)
    refine T_gf 11 (.int (i32 (m.1 28))) rfl rfl rfl rfl rfl rfl ?_
    refine T_ld 14 (.int (i32 800)) rfl (fun _ => rfl) ?_
    refine T_icmp 26 17 rfl rfl rfl (r32 (by omega) (by omega)) ⟨by decide, by decide⟩ (fun (h6 : (m.1 28) ≠ 800) => ?_) (fun (h6 : ¬ ((m.1 28) ≠ 800)) => ?_)
    · skip
      refine T_gf 30 (.int (i32 (m.1 10))) rfl rfl rfl rfl rfl rfl ?_
      refine T_if 34 33 rfl rfl rfl (r32 (by omega) (by omega)) (fun (h7 : (m.1 10) ≤ 0) => ?_) (fun (h7 : ¬ ((m.1 10) ≤ 0)) => by exfalso; omega)
      refine T_gf 38 (.ref 234) rfl rfl rfl rfl rfl rfl ?_
      refine T_gf 42 (.int (i32 (m.1 28))) rfl rfl rfl rfl rfl rfl ?_
      refine T_ld 43 (.int (i32 a)) rfl (fun _ => rfl) ?_
      have G8 : ∀ j, 0 ≤ (upI (m.2 65) (m.1 28) a) j ∧ (upI (m.2 65) (m.1 28) a) j ≤ 408 := upI_rg (hT.2.1 65) ⟨by omega, by omega⟩
      refine T_iast (a' := [(65, upI (m.2 65) (m.1 28) a)]) 44 65 (m.2 65) rfl rfl rfl (by omega) (show (m.1 28) < (800 : Int) by omega) rfl rfl ?_
      refine T_gf 48 (.ref 235) rfl rfl rfl rfl rfl rfl ?_
      refine T_gf 52 (.int (i32 (m.1 28))) rfl rfl rfl rfl rfl rfl ?_
      refine T_ld 53 (.int (i32 b)) rfl (fun _ => rfl) ?_
      have G9 : ∀ j, 0 ≤ (upI (m.2 66) (m.1 28) b) j ∧ (upI (m.2 66) (m.1 28) b) j ≤ 64 := upI_rg (hT.2.1 66) ⟨by omega, by omega⟩
      refine T_iast (a' := [(65, upI (m.2 65) (m.1 28) a), (66, upI (m.2 66) (m.1 28) b)]) 54 66 (m.2 66) rfl rfl rfl (by omega) (show (m.1 28) < (800 : Int) by omega) rfl rfl ?_
      refine T_gf 58 (.ref 236) rfl rfl rfl rfl rfl rfl ?_
      refine T_gf 62 (.int (i32 (m.1 28))) rfl rfl rfl rfl rfl rfl ?_
      refine T_ld 63 (.int (i32 n)) rfl (fun _ => rfl) ?_
      have G10 : ∀ j, 0 ≤ (upI (m.2 67) (m.1 28) n) j ∧ (upI (m.2 67) (m.1 28) n) j ≤ 191 := upI_rg (hT.2.1 67) ⟨by omega, by omega⟩
      refine T_iast (a' := [(65, upI (m.2 65) (m.1 28) a), (66, upI (m.2 66) (m.1 28) b), (67, upI (m.2 67) (m.1 28) n)]) 64 67 (m.2 67) rfl rfl rfl (by omega) (show (m.1 28) < (800 : Int) by omega) rfl rfl ?_
      refine T_gf 68 (.ref 237) rfl rfl rfl rfl rfl rfl ?_
      refine T_gf 72 (.int (i32 (m.1 28))) rfl rfl rfl rfl rfl rfl ?_
      refine T_ld 74 (.long (i64 v)) rfl (fun _ => rfl) ?_
      have G11 : ∀ j, (-9223372036854775808) ≤ (upI (m.2 68) (m.1 28) v) j ∧ (upI (m.2 68) (m.1 28) v) j ≤ 9223372036854775807 := upI_rg (hT.2.1 68) ⟨by omega, by omega⟩
      refine T_last (a' := [(65, upI (m.2 65) (m.1 28) a), (66, upI (m.2 66) (m.1 28) b), (67, upI (m.2 67) (m.1 28) n), (68, upI (m.2 68) (m.1 28) v)]) 75 68 (m.2 68) rfl rfl rfl (by omega) (show (m.1 28) < (800 : Int) by omega) rfl rfl ?_
      refine T_ld 76 (.ref 189) rfl (fun _ => rfl) ?_
      refine T_ld 77 (.ref 189) rfl (fun _ => rfl) ?_
      refine T_gf1 80 (.int (i32 (m.1 28))) rfl rfl rfl rfl ?_
      refine T_ld 81 (.int (i32 1)) rfl (fun _ => rfl) ?_
      refine T_iadd 82 rfl rfl ?_
      refine T_pf (l' := [(28, (m.1 28) + 1)]) 85 ((m.1 28) + 1) rfl rfl rfl rfl rfl rfl ?_
      have g12 : 0 ≤ (m.1 28) + 1 ∧ (m.1 28) + 1 ≤ 800 := ⟨by omega, by omega⟩
      refine T_ret rfl (fun _ => rfl) ?_
      exact ⟨(mO m [(28, (m.1 28) + 1)] [(65, upI (m.2 65) (m.1 28) a), (66, upI (m.2 66) (m.1 28) b), (67, upI (m.2 67) (m.1 28) n), (68, upI (m.2 68) (m.1 28) v)]), (Ty_mO hT rfl rfl ⟨g12, trivial⟩ ⟨G8, G9, G10, G11, trivial⟩), (fr_m fr_0 rfl rfl), (show (m.1 10) = 0 → (m.1 10) = 0 by omega), (fun _ => ⟨(show ((m.1 28) + 1) = (m.1 28) + 1 by omega), (show EX (upI (m.2 65) (m.1 28) a) (upI (m.2 67) (m.1 28) n) B ((m.1 28) + 1) (h + 1 - ar a) by first | (exact EX_put hEX hAr hCk) | (exfalso; omega)), (show agr (m.2 65) (upI (m.2 65) (m.1 28) a) (m.1 28) by first | (exact agr_u (Int.le_refl _)) | (exfalso; omega))⟩), rfl⟩
    · skip
      refine T_ld 18 (.ref 189) rfl (fun _ => rfl) ?_
      refine T_ld 19 (.int (i32 4)) rfl (fun _ => rfl) ?_
      refine T_gf 23 (.int (i32 (m.1 8))) rfl rfl rfl rfl rfl rfl ?_
      refine T_call 26 222 [.ref 189, .int (i32 4), .int (i32 (m.1 8))] [] rfl (fun _ => rfl) rfl (d_wrong w (mO m [] []) c N D (by omega) hT 4 (m.1 8) ⟨by decide, by decide⟩ (r32 (by omega) (by omega)) (show 1 ≤ (4 : Int) ∧ (4 : Int) ≤ 8 by omega) (show 0 ≤ (m.1 8) ∧ (m.1 8) ≤ 4000 by omega)) (fun rr13 k14 => ?_)
      obtain ⟨m15, Tm15, Fm15, h16, rfl⟩ := k14
      refine ⟨_, _, rfl, ?_⟩
      refine T_nb (st' := []) rfl ?_
      have g17 : 0 ≤ m15.1 10 ∧ m15.1 10 ≤ 8 := Tm15.1 10
      have g18 : (-1) ≤ m15.1 11 ∧ m15.1 11 ≤ 4000 := Tm15.1 11
      replace h16 : (0 < (m.1 10) → (m15.1 10) = (m.1 10) ∧ (m15.1 11) = (m.1 11)) ∧ ((m.1 10) ≤ 0 → (m15.1 10) = (4 : Int) ∧ (m15.1 11) = (m.1 8)) := h16
      have hf19 : 1 ≤ (m15.1 10) := by omega
      refine T_gf 30 (.int (i32 (m15.1 10))) rfl rfl rfl rfl rfl rfl ?_
      refine T_if 34 33 rfl rfl rfl (r32 (by omega) (by omega)) (fun (h20 : (m15.1 10) ≤ 0) => by exfalso; omega) (fun (h20 : ¬ ((m15.1 10) ≤ 0)) => ?_)
      refine T_ret rfl (fun _ => rfl) ?_
      exact ⟨(mO m15 [] []), Tm15, (fr_m (fr_s Fm15 (fr_m fr_0 rfl rfl) rfl rfl) rfl rfl), (show (m15.1 10) = 0 → (m.1 10) = 0 by omega), (fun (h : (m15.1 10) = 0) => absurd h (by omega)), rfl⟩
  · skip
    clear hC
    refine T_gf 4 (.int (i32 (m.1 10))) rfl rfl rfl rfl rfl rfl ?_
    refine T_if 26 7 rfl rfl rfl (r32 (by omega) (by omega)) (fun (h21 : (m.1 10) ≠ 0) => ?_) (fun (h21 : ¬ ((m.1 10) ≠ 0)) => by exfalso; omega)
    refine T_gf 30 (.int (i32 (m.1 10))) rfl rfl rfl rfl rfl rfl ?_
    refine T_if 34 33 rfl rfl rfl (r32 (by omega) (by omega)) (fun (h22 : (m.1 10) ≤ 0) => by exfalso; omega) (fun (h22 : ¬ ((m.1 10) ≤ 0)) => ?_)
    refine T_ret rfl (fun _ => rfl) ?_
    exact ⟨(mO m [] []), hT, (fr_m fr_0 rfl rfl), (show (m.1 10) = 0 → (m.1 10) = 0 by omega), (fun (h : (m.1 10) = 0) => absurd h (by omega)), rfl⟩
def Q_fits (m : mR) (c : Nat → Option am_C) (N : Nat) (v : Int) (b : Int) : ag_Re af_T → Prop := fun R => ∃ (r : Int), (0 ≤ r ∧ r ≤ 1) ∧ R = (.inl (some (.int (i32 r))), (mhp m c, N), 0, 0)
set_option maxHeartbeats 3000000 in
theorem c_fits (w : wX) (m : mR) (c : Nat → Option am_C) (N D : Nat) (hD : 1 ≤ D) (hT : Ty m) (v : Int) (b : Int) (qv : R64 v) (qb : R32 b) : TC w D 262 [.long (i64 v), .int (i32 b)] (mhp m c, N) (Q_fits m c N v b) := by
  obtain ⟨D, rfl⟩ : ∃ k, D = k + 1 := ⟨D - 1, by omega⟩
  obtain ⟨qva, qvb⟩ := id qv
  obtain ⟨qba, qbb⟩ := id qb
  refine Tc_of rfl ?_
  show TT w D pm_262 (0, [(0, .long (i64 v)), (2, .int (i32 b))], [], (mhp (mO m [] []) c, N), 0, 0) (Q_fits m c N v b)
  refine T_ld 1 (.int (i32 b)) rfl (fun _ => rfl) ?_
  refine T_ld 3 (.int (i32 64)) rfl (fun _ => rfl) ?_
  refine T_icmp 14 6 rfl rfl rfl (r32 (by omega) (by omega)) ⟨by decide, by decide⟩ (fun (h1 : b = 64) => ?_) (fun (h1 : ¬ (b = 64)) => ?_)
  · skip
    refine T_ld 15 (.int (i32 1)) rfl (fun _ => rfl) ?_
    refine T_goto 19 rfl (fun _ => rfl) ?_
    refine T_ret rfl (fun _ => rfl) ?_
    exact ⟨1, ⟨by omega, by omega⟩, rfl⟩
  · skip
    refine T_ld 7 (.long (i64 v)) rfl (fun _ => rfl) ?_
    refine T_ld 8 (.int (i32 b)) rfl (fun _ => rfl) ?_
    refine T_lhv 9 _ rfl (fun _ => rfl) (fun z2 h3 => ?_)
    obtain ⟨h3a, h3b⟩ := h3
    refine T_ld 10 (.long (i64 0)) rfl (fun _ => rfl) ?_
    refine T_lcmp 11 rfl rfl (r64 (by omega) (by omega)) ⟨by decide, by decide⟩ (fun z4 h5 => ?_)
    obtain ⟨h5a, h5b, h5c, h5d, h5e⟩ := h5
    refine T_if 18 14 rfl rfl rfl (r32 (by omega) (by omega)) (fun (h6 : z4 ≠ 0) => ?_) (fun (h6 : ¬ (z4 ≠ 0)) => ?_)
    · skip
      have hl7 : z2 ≠ 0 := by omega
      refine T_ld 19 (.int (i32 0)) rfl (fun _ => rfl) ?_
      refine T_ret rfl (fun _ => rfl) ?_
      exact ⟨0, ⟨by omega, by omega⟩, rfl⟩
    · skip
      have hl8 : z2 = 0 := by omega
      refine T_ld 15 (.int (i32 1)) rfl (fun _ => rfl) ?_
      refine T_goto 19 rfl (fun _ => rfl) ?_
      refine T_ret rfl (fun _ => rfl) ?_
      exact ⟨1, ⟨by omega, by omega⟩, rfl⟩
def fF_want : List Nat := [10, 11]
def fA_want : List Nat := []
def Q_want (m : mR) (c : Nat → Option am_C) (N : Nat) (g : Int) (p : Int) : ag_Re af_T → Prop := fun R => ∃ (M : mR), Ty M ∧ fr fF_want fA_want m M ∧ ((M.1 10) = 0 → (m.1 10) = 0) ∧ (M.1 10 = 0 → (g ≠ 0)) ∧ R = (.inl (none), (mhp M c, N), 0, 0)
set_option maxHeartbeats 3000000 in
theorem c_want (w : wX) (m : mR) (c : Nat → Option am_C) (N D : Nat) (hD : 2 ≤ D) (hT : Ty m) (g : Int) (p : Int) (qg : R32 g) (qp : R32 p) (p0 : 0 ≤ p ∧ p ≤ 4000) (hC : m.1 10 = 0 → True) : TC w D 256 [.ref 189, .int (i32 g), .int (i32 p)] (mhp m c, N) (Q_want m c N g p) := by
  obtain ⟨D, rfl⟩ : ∃ k, D = k + 1 := ⟨D - 1, by omega⟩
  obtain ⟨qga, qgb⟩ := id qg
  obtain ⟨qpa, qpb⟩ := id qp
  have f10 : 0 ≤ m.1 10 ∧ m.1 10 ≤ 8 := hT.1 10
  have f11 : (-1) ≤ m.1 11 ∧ m.1 11 ≤ 4000 := hT.1 11
  refine Tc_of rfl ?_
  show TT w D pm_256 (0, [(0, .ref 189), (1, .int (i32 g)), (2, .int (i32 p))], [], (mhp (mO m [] []) c, N), 0, 0) (Q_want m c N g p)
  by_cases hf0 : m.1 10 = 0
  · skip
    refine T_ld 1 (.int (i32 g)) rfl (fun _ => rfl) ?_
    refine T_if 11 4 rfl rfl rfl (r32 (by omega) (by omega)) (fun (h2 : g ≠ 0) => ?_) (fun (h2 : ¬ (g ≠ 0)) => ?_)
    · skip
      refine T_ret rfl (fun _ => rfl) ?_
      exact ⟨(mO m [] []), hT, (fr_m fr_0 rfl rfl), (show (m.1 10) = 0 → (m.1 10) = 0 by omega), (fun _ => (show g ≠ 0 by omega)), rfl⟩
    · skip
      refine T_ld 5 (.ref 189) rfl (fun _ => rfl) ?_
      refine T_ld 7 (.int (i32 7)) rfl (fun _ => rfl) ?_
      refine T_ld 8 (.int (i32 p)) rfl (fun _ => rfl) ?_
      refine T_call 11 222 [.ref 189, .int (i32 7), .int (i32 p)] [] rfl (fun _ => rfl) rfl (d_wrong w (mO m [] []) c N D (by omega) hT 7 p ⟨by decide, by decide⟩ (r32 (by omega) (by omega)) (show 1 ≤ (7 : Int) ∧ (7 : Int) ≤ 8 by omega) (show 0 ≤ p ∧ p ≤ 4000 by omega)) (fun rr3 k4 => ?_)
      obtain ⟨m5, Tm5, Fm5, h6, rfl⟩ := k4
      refine ⟨_, _, rfl, ?_⟩
      refine T_nb (st' := []) rfl ?_
      have g7 : 0 ≤ m5.1 10 ∧ m5.1 10 ≤ 8 := Tm5.1 10
      have g8 : (-1) ≤ m5.1 11 ∧ m5.1 11 ≤ 4000 := Tm5.1 11
      replace h6 : (0 < (m.1 10) → (m5.1 10) = (m.1 10) ∧ (m5.1 11) = (m.1 11)) ∧ ((m.1 10) ≤ 0 → (m5.1 10) = (7 : Int) ∧ (m5.1 11) = p) := h6
      have hf9 : 1 ≤ (m5.1 10) := by omega
      refine T_ret rfl (fun _ => rfl) ?_
      exact ⟨(mO m5 [] []), Tm5, (fr_m (fr_s Fm5 (fr_m fr_0 rfl rfl) rfl rfl) rfl rfl), (show (m5.1 10) = 0 → (m.1 10) = 0 by omega), (fun (h : (m5.1 10) = 0) => absurd h (by omega)), rfl⟩
  · skip
    clear hC
    refine T_ld 1 (.int (i32 g)) rfl (fun _ => rfl) ?_
    refine T_if 11 4 rfl rfl rfl (r32 (by omega) (by omega)) (fun (h10 : g ≠ 0) => ?_) (fun (h10 : ¬ (g ≠ 0)) => ?_)
    · skip
      refine T_ret rfl (fun _ => rfl) ?_
      exact ⟨(mO m [] []), hT, (fr_m fr_0 rfl rfl), (show (m.1 10) = 0 → (m.1 10) = 0 by omega), (fun (h : (m.1 10) = 0) => absurd h (by omega)), rfl⟩
    · skip
      refine T_ld 5 (.ref 189) rfl (fun _ => rfl) ?_
      refine T_ld 7 (.int (i32 7)) rfl (fun _ => rfl) ?_
      refine T_ld 8 (.int (i32 p)) rfl (fun _ => rfl) ?_
      refine T_call 11 222 [.ref 189, .int (i32 7), .int (i32 p)] [] rfl (fun _ => rfl) rfl (d_wrong w (mO m [] []) c N D (by omega) hT 7 p ⟨by decide, by decide⟩ (r32 (by omega) (by omega)) (show 1 ≤ (7 : Int) ∧ (7 : Int) ≤ 8 by omega) (show 0 ≤ p ∧ p ≤ 4000 by omega)) (fun rr11 k12 => ?_)
      obtain ⟨m13, Tm13, Fm13, h14, rfl⟩ := k12
      refine ⟨_, _, rfl, ?_⟩
      refine T_nb (st' := []) rfl ?_
      have g15 : 0 ≤ m13.1 10 ∧ m13.1 10 ≤ 8 := Tm13.1 10
      have g16 : (-1) ≤ m13.1 11 ∧ m13.1 11 ≤ 4000 := Tm13.1 11
      replace h14 : (0 < (m.1 10) → (m13.1 10) = (m.1 10) ∧ (m13.1 11) = (m.1 11)) ∧ ((m.1 10) ≤ 0 → (m13.1 10) = (7 : Int) ∧ (m13.1 11) = p) := h14
      have hf17 : 1 ≤ (m13.1 10) := by omega
      refine T_ret rfl (fun _ => rfl) ?_
      exact ⟨(mO m13 [] []), Tm13, (fr_m (fr_s Fm13 (fr_m fr_0 rfl rfl) rfl rfl) rfl rfl), (show (m13.1 10) = 0 → (m.1 10) = 0 by omega), (fun (h : (m13.1 10) = 0) => absurd h (by omega)), rfl⟩
def fF_wantBit : List Nat := [10, 11]
def fA_wantBit : List Nat := []
def Q_wantBit (m : mR) (c : Nat → Option am_C) (N : Nat) (b : Int) (g : Int) (v : Int) (p : Int) : ag_Re af_T → Prop := fun R => ∃ (M : mR), Ty M ∧ fr fF_wantBit fA_wantBit m M ∧ ((M.1 10) = 0 → (m.1 10) = 0) ∧ (M.1 10 = 0 → True) ∧ R = (.inl (none), (mhp M c, N), 0, 0)
set_option maxHeartbeats 3000000 in
theorem c_wantBit (w : wX) (m : mR) (c : Nat → Option am_C) (N D : Nat) (hD : 3 ≤ D) (hT : Ty m) (b : Int) (g : Int) (v : Int) (p : Int) (qb : R32 b) (qg : R32 g) (qv : R64 v) (qp : R32 p) (p0 : 0 ≤ p ∧ p ≤ 4000) (hC : m.1 10 = 0 → True) : TC w D 258 [.ref 189, .int (i32 b), .int (i32 g), .long (i64 v), .int (i32 p)] (mhp m c, N) (Q_wantBit m c N b g v p) := by
  obtain ⟨D, rfl⟩ : ∃ k, D = k + 1 := ⟨D - 1, by omega⟩
  obtain ⟨qba, qbb⟩ := id qb
  obtain ⟨qga, qgb⟩ := id qg
  obtain ⟨qva, qvb⟩ := id qv
  obtain ⟨qpa, qpb⟩ := id qp
  have f10 : 0 ≤ m.1 10 ∧ m.1 10 ≤ 8 := hT.1 10
  refine Tc_of rfl ?_
  show TT w D pm_258 (0, [(0, .ref 189), (1, .int (i32 b)), (2, .int (i32 g)), (3, .long (i64 v)), (5, .int (i32 p))], [], (mhp (mO m [] []) c, N), 0, 0) (Q_wantBit m c N b g v p)
  by_cases hf0 : m.1 10 = 0
  · skip
    have J36_3 : ∀ (m2 : mR), Ty m2 → fr [10, 11] [] (mO m [] []) m2 → (1 ≤ (m2.1 10)) → TT w D pm_258 (36, [(0, .ref 189), (1, .int (i32 b)), (2, .int (i32 g)), (3, .long (i64 v)), (5, .int (i32 p))], [], (mhp (mO m2 [] []) c, N), 0, 0) (Q_wantBit m c N b g v p) := by
      intro m2 Tm2 Fm2 ic4
      have q5_10 : 0 ≤ m2.1 10 ∧ m2.1 10 ≤ 8 := Tm2.1 10
      refine T_ret rfl (fun _ => rfl) ?_
      exact ⟨(mO m2 [] []), Tm2, (fr_m (fr_s Fm2 (fr_m fr_0 rfl rfl) rfl rfl) rfl rfl), (show (m2.1 10) = 0 → (m.1 10) = 0 by omega), (fun (h : (m2.1 10) = 0) => absurd h (by omega)), rfl⟩
    refine T_ld 1 (.ref 189) rfl (fun _ => rfl) ?_
    refine T_ld 2 (.int (i32 g)) rfl (fun _ => rfl) ?_
    refine T_if 21 5 rfl rfl rfl (r32 (by omega) (by omega)) (fun (h8 : g = 0) => ?_) (fun (h8 : ¬ (g = 0)) => ?_)
    · skip
      refine T_ld 22 (.int (i32 b)) rfl (fun _ => rfl) ?_
      refine T_ld 23 (.int (i32 1)) rfl (fun _ => rfl) ?_
      refine T_icmp 30 26 rfl rfl rfl (r32 (by omega) (by omega)) ⟨by decide, by decide⟩ (fun (h9 : b ≠ 1) => ?_) (fun (h9 : ¬ (b ≠ 1)) => ?_)
      · skip
        refine T_ld 31 (.int (i32 0)) rfl (fun _ => rfl) ?_
        refine T_ld 33 (.int (i32 p)) rfl (fun _ => rfl) ?_
        refine T_call 36 256 [.ref 189, .int (i32 0), .int (i32 p)] [] rfl (fun _ => rfl) rfl (c_want w (mO m [] []) c N D (by omega) hT 0 p ⟨by decide, by decide⟩ (r32 (by omega) (by omega)) (show 0 ≤ p ∧ p ≤ 4000 by omega) (fun _ => trivial)) (fun rr10 k11 => ?_)
        obtain ⟨m12, Tm12, Fm12, h13, c14, rfl⟩ := k11
        refine ⟨_, _, rfl, ?_⟩
        refine T_nb (st' := []) rfl ?_
        have g15 : 0 ≤ m12.1 10 ∧ m12.1 10 ≤ 8 := Tm12.1 10
        by_cases hf16 : (m12.1 10) = 0
        · skip
          replace h13 : (m.1 10) = 0 := h13 hf16
          have c17 := c14 hf16
          replace c17 : (0 : Int) ≠ 0 := c17
          clear c14
          refine T_ret rfl (fun _ => rfl) ?_
          exact ⟨(mO m12 [] []), Tm12, (fr_m (fr_s Fm12 (fr_m fr_0 rfl rfl) rfl rfl) rfl rfl), (show (m12.1 10) = 0 → (m.1 10) = 0 by omega), (fun _ => trivial), rfl⟩
        · skip
          clear c14
          clear h13
          have hf18 : 1 ≤ (m12.1 10) := by omega
          exact J36_3 (mO m12 [] []) Tm12 (fr_m (fr_s Fm12 (fr_m fr_0 rfl rfl) rfl rfl) rfl rfl) (show 1 ≤ (m12.1 10) by omega)
      · skip
        refine T_ld 27 (.int (i32 1)) rfl (fun _ => rfl) ?_
        refine T_goto 31 rfl (fun _ => rfl) ?_
        refine T_ld 33 (.int (i32 p)) rfl (fun _ => rfl) ?_
        refine T_call 36 256 [.ref 189, .int (i32 1), .int (i32 p)] [] rfl (fun _ => rfl) rfl (c_want w (mO m [] []) c N D (by omega) hT 1 p ⟨by decide, by decide⟩ (r32 (by omega) (by omega)) (show 0 ≤ p ∧ p ≤ 4000 by omega) (fun _ => trivial)) (fun rr19 k20 => ?_)
        obtain ⟨m21, Tm21, Fm21, h22, c23, rfl⟩ := k20
        refine ⟨_, _, rfl, ?_⟩
        refine T_nb (st' := []) rfl ?_
        have g24 : 0 ≤ m21.1 10 ∧ m21.1 10 ≤ 8 := Tm21.1 10
        by_cases hf25 : (m21.1 10) = 0
        · skip
          replace h22 : (m.1 10) = 0 := h22 hf25
          have c26 := c23 hf25
          replace c26 : (1 : Int) ≠ 0 := c26
          clear c23
          refine T_ret rfl (fun _ => rfl) ?_
          exact ⟨(mO m21 [] []), Tm21, (fr_m (fr_s Fm21 (fr_m fr_0 rfl rfl) rfl rfl) rfl rfl), (show (m21.1 10) = 0 → (m.1 10) = 0 by omega), (fun _ => trivial), rfl⟩
        · skip
          clear c23
          clear h22
          have hf27 : 1 ≤ (m21.1 10) := by omega
          exact J36_3 (mO m21 [] []) Tm21 (fr_m (fr_s Fm21 (fr_m fr_0 rfl rfl) rfl rfl) rfl rfl) (show 1 ≤ (m21.1 10) by omega)
    · skip
      refine T_ld 6 (.long (i64 v)) rfl (fun _ => rfl) ?_
      refine T_ld 7 (.int (i32 1)) rfl (fun _ => rfl) ?_
      refine T_lhv 8 _ rfl (fun _ => rfl) (fun z28 h29 => ?_)
      obtain ⟨h29a, h29b⟩ := h29
      refine T_ld 9 (.long (i64 0)) rfl (fun _ => rfl) ?_
      refine T_lcmp 10 rfl rfl (r64 (by omega) (by omega)) ⟨by decide, by decide⟩ (fun z30 h31 => ?_)
      obtain ⟨h31a, h31b, h31c, h31d, h31e⟩ := h31
      refine T_if 17 13 rfl rfl rfl (r32 (by omega) (by omega)) (fun (h32 : z30 ≠ 0) => ?_) (fun (h32 : ¬ (z30 ≠ 0)) => ?_)
      · skip
        have hl33 : z28 ≠ 0 := by omega
        refine T_ld 18 (.int (i32 0)) rfl (fun _ => rfl) ?_
        refine T_goto 31 rfl (fun _ => rfl) ?_
        refine T_ld 33 (.int (i32 p)) rfl (fun _ => rfl) ?_
        refine T_call 36 256 [.ref 189, .int (i32 0), .int (i32 p)] [] rfl (fun _ => rfl) rfl (c_want w (mO m [] []) c N D (by omega) hT 0 p ⟨by decide, by decide⟩ (r32 (by omega) (by omega)) (show 0 ≤ p ∧ p ≤ 4000 by omega) (fun _ => trivial)) (fun rr34 k35 => ?_)
        obtain ⟨m36, Tm36, Fm36, h37, c38, rfl⟩ := k35
        refine ⟨_, _, rfl, ?_⟩
        refine T_nb (st' := []) rfl ?_
        have g39 : 0 ≤ m36.1 10 ∧ m36.1 10 ≤ 8 := Tm36.1 10
        by_cases hf40 : (m36.1 10) = 0
        · skip
          replace h37 : (m.1 10) = 0 := h37 hf40
          have c41 := c38 hf40
          replace c41 : (0 : Int) ≠ 0 := c41
          clear c38
          clear h29a h29b h31a h31b h31c h31d h31e h32 hl33
          refine T_ret rfl (fun _ => rfl) ?_
          exact ⟨(mO m36 [] []), Tm36, (fr_m (fr_s Fm36 (fr_m fr_0 rfl rfl) rfl rfl) rfl rfl), (show (m36.1 10) = 0 → (m.1 10) = 0 by omega), (fun _ => trivial), rfl⟩
        · skip
          clear c38
          clear h37
          have hf42 : 1 ≤ (m36.1 10) := by omega
          clear h29a h29b h31a h31b h31c h31d h31e h32 hl33
          exact J36_3 (mO m36 [] []) Tm36 (fr_m (fr_s Fm36 (fr_m fr_0 rfl rfl) rfl rfl) rfl rfl) (show 1 ≤ (m36.1 10) by omega)
      · skip
        have hl43 : z28 = 0 := by omega
        refine T_ld 14 (.int (i32 1)) rfl (fun _ => rfl) ?_
        refine T_goto 31 rfl (fun _ => rfl) ?_
        refine T_ld 33 (.int (i32 p)) rfl (fun _ => rfl) ?_
        refine T_call 36 256 [.ref 189, .int (i32 1), .int (i32 p)] [] rfl (fun _ => rfl) rfl (c_want w (mO m [] []) c N D (by omega) hT 1 p ⟨by decide, by decide⟩ (r32 (by omega) (by omega)) (show 0 ≤ p ∧ p ≤ 4000 by omega) (fun _ => trivial)) (fun rr44 k45 => ?_)
        obtain ⟨m46, Tm46, Fm46, h47, c48, rfl⟩ := k45
        refine ⟨_, _, rfl, ?_⟩
        refine T_nb (st' := []) rfl ?_
        have g49 : 0 ≤ m46.1 10 ∧ m46.1 10 ≤ 8 := Tm46.1 10
        by_cases hf50 : (m46.1 10) = 0
        · skip
          replace h47 : (m.1 10) = 0 := h47 hf50
          have c51 := c48 hf50
          replace c51 : (1 : Int) ≠ 0 := c51
          clear c48
          clear h29a h29b h31a h31b h31c h31d h31e h32 hl43
          refine T_ret rfl (fun _ => rfl) ?_
          exact ⟨(mO m46 [] []), Tm46, (fr_m (fr_s Fm46 (fr_m fr_0 rfl rfl) rfl rfl) rfl rfl), (show (m46.1 10) = 0 → (m.1 10) = 0 by omega), (fun _ => trivial), rfl⟩
        · skip
          clear c48
          clear h47
          have hf52 : 1 ≤ (m46.1 10) := by omega
          clear h29a h29b h31a h31b h31c h31d h31e h32 hl43
          exact J36_3 (mO m46 [] []) Tm46 (fr_m (fr_s Fm46 (fr_m fr_0 rfl rfl) rfl rfl) rfl rfl) (show 1 ≤ (m46.1 10) by omega)
  · skip
    clear hC
    refine T_ld 1 (.ref 189) rfl (fun _ => rfl) ?_
    refine T_ld 2 (.int (i32 g)) rfl (fun _ => rfl) ?_
    refine T_if 21 5 rfl rfl rfl (r32 (by omega) (by omega)) (fun (h53 : g = 0) => ?_) (fun (h53 : ¬ (g = 0)) => ?_)
    · skip
      refine T_ld 22 (.int (i32 b)) rfl (fun _ => rfl) ?_
      refine T_ld 23 (.int (i32 1)) rfl (fun _ => rfl) ?_
      refine T_icmp 30 26 rfl rfl rfl (r32 (by omega) (by omega)) ⟨by decide, by decide⟩ (fun (h54 : b ≠ 1) => ?_) (fun (h54 : ¬ (b ≠ 1)) => ?_)
      · skip
        refine T_ld 31 (.int (i32 0)) rfl (fun _ => rfl) ?_
        refine T_ld 33 (.int (i32 p)) rfl (fun _ => rfl) ?_
        refine T_call 36 256 [.ref 189, .int (i32 0), .int (i32 p)] [] rfl (fun _ => rfl) rfl (c_want w (mO m [] []) c N D (by omega) hT 0 p ⟨by decide, by decide⟩ (r32 (by omega) (by omega)) (show 0 ≤ p ∧ p ≤ 4000 by omega) (fun (h : (m.1 10) = 0) => absurd h (by omega))) (fun rr55 k56 => ?_)
        obtain ⟨m57, Tm57, Fm57, h58, c59, rfl⟩ := k56
        refine ⟨_, _, rfl, ?_⟩
        refine T_nb (st' := []) rfl ?_
        have g60 : 0 ≤ m57.1 10 ∧ m57.1 10 ≤ 8 := Tm57.1 10
        replace h58 : (m57.1 10) = 0 → (m.1 10) = 0 := h58
        have hf61 : 1 ≤ (m57.1 10) := by omega
        clear c59
        clear h58
        refine T_ret rfl (fun _ => rfl) ?_
        exact ⟨(mO m57 [] []), Tm57, (fr_m (fr_s Fm57 (fr_m fr_0 rfl rfl) rfl rfl) rfl rfl), (show (m57.1 10) = 0 → (m.1 10) = 0 by omega), (fun (h : (m57.1 10) = 0) => absurd h (by omega)), rfl⟩
      · skip
        refine T_ld 27 (.int (i32 1)) rfl (fun _ => rfl) ?_
        refine T_goto 31 rfl (fun _ => rfl) ?_
        refine T_ld 33 (.int (i32 p)) rfl (fun _ => rfl) ?_
        refine T_call 36 256 [.ref 189, .int (i32 1), .int (i32 p)] [] rfl (fun _ => rfl) rfl (c_want w (mO m [] []) c N D (by omega) hT 1 p ⟨by decide, by decide⟩ (r32 (by omega) (by omega)) (show 0 ≤ p ∧ p ≤ 4000 by omega) (fun (h : (m.1 10) = 0) => absurd h (by omega))) (fun rr62 k63 => ?_)
        obtain ⟨m64, Tm64, Fm64, h65, c66, rfl⟩ := k63
        refine ⟨_, _, rfl, ?_⟩
        refine T_nb (st' := []) rfl ?_
        have g67 : 0 ≤ m64.1 10 ∧ m64.1 10 ≤ 8 := Tm64.1 10
        replace h65 : (m64.1 10) = 0 → (m.1 10) = 0 := h65
        have hf68 : 1 ≤ (m64.1 10) := by omega
        clear c66
        clear h65
        refine T_ret rfl (fun _ => rfl) ?_
        exact ⟨(mO m64 [] []), Tm64, (fr_m (fr_s Fm64 (fr_m fr_0 rfl rfl) rfl rfl) rfl rfl), (show (m64.1 10) = 0 → (m.1 10) = 0 by omega), (fun (h : (m64.1 10) = 0) => absurd h (by omega)), rfl⟩
    · skip
      refine T_ld 6 (.long (i64 v)) rfl (fun _ => rfl) ?_
      refine T_ld 7 (.int (i32 1)) rfl (fun _ => rfl) ?_
      refine T_lhv 8 _ rfl (fun _ => rfl) (fun z69 h70 => ?_)
      obtain ⟨h70a, h70b⟩ := h70
      refine T_ld 9 (.long (i64 0)) rfl (fun _ => rfl) ?_
      refine T_lcmp 10 rfl rfl (r64 (by omega) (by omega)) ⟨by decide, by decide⟩ (fun z71 h72 => ?_)
      obtain ⟨h72a, h72b, h72c, h72d, h72e⟩ := h72
      refine T_if 17 13 rfl rfl rfl (r32 (by omega) (by omega)) (fun (h73 : z71 ≠ 0) => ?_) (fun (h73 : ¬ (z71 ≠ 0)) => ?_)
      · skip
        have hl74 : z69 ≠ 0 := by omega
        refine T_ld 18 (.int (i32 0)) rfl (fun _ => rfl) ?_
        refine T_goto 31 rfl (fun _ => rfl) ?_
        refine T_ld 33 (.int (i32 p)) rfl (fun _ => rfl) ?_
        refine T_call 36 256 [.ref 189, .int (i32 0), .int (i32 p)] [] rfl (fun _ => rfl) rfl (c_want w (mO m [] []) c N D (by omega) hT 0 p ⟨by decide, by decide⟩ (r32 (by omega) (by omega)) (show 0 ≤ p ∧ p ≤ 4000 by omega) (fun (h : (m.1 10) = 0) => absurd h (by omega))) (fun rr75 k76 => ?_)
        obtain ⟨m77, Tm77, Fm77, h78, c79, rfl⟩ := k76
        refine ⟨_, _, rfl, ?_⟩
        refine T_nb (st' := []) rfl ?_
        have g80 : 0 ≤ m77.1 10 ∧ m77.1 10 ≤ 8 := Tm77.1 10
        replace h78 : (m77.1 10) = 0 → (m.1 10) = 0 := h78
        have hf81 : 1 ≤ (m77.1 10) := by omega
        clear c79
        clear h78
        clear h70a h70b h72a h72b h72c h72d h72e h73 hl74
        refine T_ret rfl (fun _ => rfl) ?_
        exact ⟨(mO m77 [] []), Tm77, (fr_m (fr_s Fm77 (fr_m fr_0 rfl rfl) rfl rfl) rfl rfl), (show (m77.1 10) = 0 → (m.1 10) = 0 by omega), (fun (h : (m77.1 10) = 0) => absurd h (by omega)), rfl⟩
      · skip
        have hl82 : z69 = 0 := by omega
        refine T_ld 14 (.int (i32 1)) rfl (fun _ => rfl) ?_
        refine T_goto 31 rfl (fun _ => rfl) ?_
        refine T_ld 33 (.int (i32 p)) rfl (fun _ => rfl) ?_
        refine T_call 36 256 [.ref 189, .int (i32 1), .int (i32 p)] [] rfl (fun _ => rfl) rfl (c_want w (mO m [] []) c N D (by omega) hT 1 p ⟨by decide, by decide⟩ (r32 (by omega) (by omega)) (show 0 ≤ p ∧ p ≤ 4000 by omega) (fun (h : (m.1 10) = 0) => absurd h (by omega))) (fun rr83 k84 => ?_)
        obtain ⟨m85, Tm85, Fm85, h86, c87, rfl⟩ := k84
        refine ⟨_, _, rfl, ?_⟩
        refine T_nb (st' := []) rfl ?_
        have g88 : 0 ≤ m85.1 10 ∧ m85.1 10 ≤ 8 := Tm85.1 10
        replace h86 : (m85.1 10) = 0 → (m.1 10) = 0 := h86
        have hf89 : 1 ≤ (m85.1 10) := by omega
        clear c87
        clear h86
        clear h70a h70b h72a h72b h72c h72d h72e h73 hl82
        refine T_ret rfl (fun _ => rfl) ?_
        exact ⟨(mO m85 [] []), Tm85, (fr_m (fr_s Fm85 (fr_m fr_0 rfl rfl) rfl rfl) rfl rfl), (show (m85.1 10) = 0 → (m.1 10) = 0 by omega), (fun (h : (m85.1 10) = 0) => absurd h (by omega)), rfl⟩
def fF_common : List Nat := [10, 11]
def fA_common : List Nat := []
def Q_common (m : mR) (c : Nat → Option am_C) (N : Nat) (a : Int) (g : Int) (v : Int) (p : Int) (e : Int) (k : Int) (x : Int) (q : Int) : ag_Re af_T → Prop := fun R => ∃ (M : mR) (r : Int), Ty M ∧ fr fF_common fA_common m M ∧ ((-2147483648) ≤ r ∧ r ≤ 2147483647) ∧ ((M.1 10) = 0 → (m.1 10) = 0) ∧ (r = 64 ∨ r = a ∨ r = e) ∧ (M.1 10 = 0 → True) ∧ R = (.inl (some (.int (i32 r))), (mhp M c, N), 0, 0)
set_option maxHeartbeats 3000000 in
theorem c_common (w : wX) (m : mR) (c : Nat → Option am_C) (N D : Nat) (hD : 3 ≤ D) (hT : Ty m) (a : Int) (g : Int) (v : Int) (p : Int) (e : Int) (k : Int) (x : Int) (q : Int) (qa : R32 a) (qg : R32 g) (qv : R64 v) (qp : R32 p) (qe : R32 e) (qk : R32 k) (qx : R64 x) (qq : R32 q) (p0 : 0 ≤ p ∧ p ≤ 4000) (p1 : 0 ≤ q ∧ q ≤ 4000) (p2 : 0 ≤ a ∧ a ≤ 1024) (p3 : 0 ≤ e ∧ e ≤ 1024) (hC : m.1 10 = 0 → True) : TC w D 261 [.ref 189, .int (i32 a), .int (i32 g), .long (i64 v), .int (i32 p), .int (i32 e), .int (i32 k), .long (i64 x), .int (i32 q)] (mhp m c, N) (Q_common m c N a g v p e k x q) := by
  obtain ⟨D, rfl⟩ : ∃ k, D = k + 1 := ⟨D - 1, by omega⟩
  obtain ⟨qaa, qab⟩ := id qa
  obtain ⟨qga, qgb⟩ := id qg
  obtain ⟨qva, qvb⟩ := id qv
  obtain ⟨qpa, qpb⟩ := id qp
  obtain ⟨qea, qeb⟩ := id qe
  obtain ⟨qka, qkb⟩ := id qk
  obtain ⟨qxa, qxb⟩ := id qx
  obtain ⟨qqa, qqb⟩ := id qq
  have f10 : 0 ≤ m.1 10 ∧ m.1 10 ≤ 8 := hT.1 10
  refine Tc_of rfl ?_
  show TT w D pm_261 (0, [(0, .ref 189), (1, .int (i32 a)), (2, .int (i32 g)), (3, .long (i64 v)), (5, .int (i32 p)), (6, .int (i32 e)), (7, .int (i32 k)), (8, .long (i64 x)), (10, .int (i32 q))], [], (mhp (mO m [] []) c, N), 0, 0) (Q_common m c N a g v p e k x q)
  by_cases hf0 : m.1 10 = 0
  · skip
    have J68_5 : ∀ (m4 : mR), Ty m4 → fr [10, 11] [] (mO m [] []) m4 → (1 ≤ (m4.1 10)) → TT w D pm_261 (68, [(0, .ref 189), (1, .int (i32 a)), (2, .int (i32 g)), (3, .long (i64 v)), (5, .int (i32 p)), (6, .int (i32 e)), (7, .int (i32 k)), (8, .long (i64 x)), (10, .int (i32 q))], [], (mhp (mO m4 [] []) c, N), 0, 0) (Q_common m c N a g v p e k x q) := by
      intro m4 Tm4 Fm4 ic6
      have q7_10 : 0 ≤ m4.1 10 ∧ m4.1 10 ≤ 8 := Tm4.1 10
      refine T_ld 69 (.int (i32 a)) rfl (fun _ => rfl) ?_
      refine T_ret rfl (fun _ => rfl) ?_
      exact ⟨(mO m4 [] []), a, Tm4, (fr_m (fr_s Fm4 (fr_m fr_0 rfl rfl) rfl rfl) rfl rfl), ⟨by omega, by omega⟩, (show (m4.1 10) = 0 → (m.1 10) = 0 by omega), (show a = 64 ∨ a = a ∨ a = e by omega), (fun (h : (m4.1 10) = 0) => absurd h (by omega)), rfl⟩
    refine T_ld 1 (.int (i32 g)) rfl (fun _ => rfl) ?_
    refine T_if 12 4 rfl rfl rfl (r32 (by omega) (by omega)) (fun (h10 : g = 0) => ?_) (fun (h10 : ¬ (g = 0)) => ?_)
    · skip
      refine T_ld 13 (.int (i32 g)) rfl (fun _ => rfl) ?_
      refine T_if 31 16 rfl rfl rfl (r32 (by omega) (by omega)) (fun (h11 : g = 0) => ?_) (fun (h11 : ¬ (g = 0)) => by exfalso; omega)
      refine T_ld 33 (.int (i32 k)) rfl (fun _ => rfl) ?_
      refine T_if 51 36 rfl rfl rfl (r32 (by omega) (by omega)) (fun (h12 : k = 0) => ?_) (fun (h12 : ¬ (k = 0)) => ?_)
      · skip
        refine T_ld 52 (.ref 189) rfl (fun _ => rfl) ?_
        refine T_ld 53 (.int (i32 a)) rfl (fun _ => rfl) ?_
        refine T_ld 55 (.int (i32 e)) rfl (fun _ => rfl) ?_
        refine T_icmp 62 58 rfl rfl rfl (r32 (by omega) (by omega)) (r32 (by omega) (by omega)) (fun (h13 : a ≠ e) => ?_) (fun (h13 : ¬ (a ≠ e)) => ?_)
        · skip
          refine T_ld 63 (.int (i32 0)) rfl (fun _ => rfl) ?_
          refine T_ld 65 (.int (i32 q)) rfl (fun _ => rfl) ?_
          refine T_call 68 256 [.ref 189, .int (i32 0), .int (i32 q)] [] rfl (fun _ => rfl) rfl (c_want w (mO m [] []) c N D (by omega) hT 0 q ⟨by decide, by decide⟩ (r32 (by omega) (by omega)) (show 0 ≤ q ∧ q ≤ 4000 by omega) (fun _ => trivial)) (fun rr14 k15 => ?_)
          obtain ⟨m16, Tm16, Fm16, h17, c18, rfl⟩ := k15
          refine ⟨_, _, rfl, ?_⟩
          refine T_nb (st' := []) rfl ?_
          have g19 : 0 ≤ m16.1 10 ∧ m16.1 10 ≤ 8 := Tm16.1 10
          by_cases hf20 : (m16.1 10) = 0
          · skip
            replace h17 : (m.1 10) = 0 := h17 hf20
            have c21 := c18 hf20
            replace c21 : (0 : Int) ≠ 0 := c21
            clear c18
            refine T_ld 69 (.int (i32 a)) rfl (fun _ => rfl) ?_
            refine T_ret rfl (fun _ => rfl) ?_
            exact ⟨(mO m16 [] []), a, Tm16, (fr_m (fr_s Fm16 (fr_m fr_0 rfl rfl) rfl rfl) rfl rfl), ⟨by omega, by omega⟩, (show (m16.1 10) = 0 → (m.1 10) = 0 by omega), (show a = 64 ∨ a = a ∨ a = e by omega), (fun _ => trivial), rfl⟩
          · skip
            clear c18
            clear h17
            have hf22 : 1 ≤ (m16.1 10) := by omega
            exact J68_5 (mO m16 [] []) Tm16 (fr_m (fr_s Fm16 (fr_m fr_0 rfl rfl) rfl rfl) rfl rfl) (show 1 ≤ (m16.1 10) by omega)
        · skip
          refine T_ld 59 (.int (i32 1)) rfl (fun _ => rfl) ?_
          refine T_goto 63 rfl (fun _ => rfl) ?_
          refine T_ld 65 (.int (i32 q)) rfl (fun _ => rfl) ?_
          refine T_call 68 256 [.ref 189, .int (i32 1), .int (i32 q)] [] rfl (fun _ => rfl) rfl (c_want w (mO m [] []) c N D (by omega) hT 1 q ⟨by decide, by decide⟩ (r32 (by omega) (by omega)) (show 0 ≤ q ∧ q ≤ 4000 by omega) (fun _ => trivial)) (fun rr23 k24 => ?_)
          obtain ⟨m25, Tm25, Fm25, h26, c27, rfl⟩ := k24
          refine ⟨_, _, rfl, ?_⟩
          refine T_nb (st' := []) rfl ?_
          have g28 : 0 ≤ m25.1 10 ∧ m25.1 10 ≤ 8 := Tm25.1 10
          by_cases hf29 : (m25.1 10) = 0
          · skip
            replace h26 : (m.1 10) = 0 := h26 hf29
            have c30 := c27 hf29
            replace c30 : (1 : Int) ≠ 0 := c30
            clear c27
            refine T_ld 69 (.int (i32 a)) rfl (fun _ => rfl) ?_
            refine T_ret rfl (fun _ => rfl) ?_
            exact ⟨(mO m25 [] []), a, Tm25, (fr_m (fr_s Fm25 (fr_m fr_0 rfl rfl) rfl rfl) rfl rfl), ⟨by omega, by omega⟩, (show (m25.1 10) = 0 → (m.1 10) = 0 by omega), (show a = 64 ∨ a = a ∨ a = e by omega), (fun _ => trivial), rfl⟩
          · skip
            clear c27
            clear h26
            have hf31 : 1 ≤ (m25.1 10) := by omega
            exact J68_5 (mO m25 [] []) Tm25 (fr_m (fr_s Fm25 (fr_m fr_0 rfl rfl) rfl rfl) rfl rfl) (show 1 ≤ (m25.1 10) by omega)
      · skip
        refine T_ld 37 (.ref 189) rfl (fun _ => rfl) ?_
        refine T_ld 39 (.long (i64 x)) rfl (fun _ => rfl) ?_
        refine T_ld 40 (.int (i32 a)) rfl (fun _ => rfl) ?_
        refine T_call 43 262 [.long (i64 x), .int (i32 a)] [.ref 189] rfl (fun _ => rfl) rfl (c_fits w (mO m [] []) c N D (by omega) hT x a (r64 (by omega) (by omega)) (r32 (by omega) (by omega))) (fun rr32 k33 => ?_)
        obtain ⟨x34, g35, rfl⟩ := k33
        refine ⟨_, _, rfl, ?_⟩
        refine T_ns (st' := [.int (i32 x34), .ref 189]) rfl ?_
        obtain ⟨g35a, g35b⟩ := g35
        refine T_ld 45 (.int (i32 q)) rfl (fun _ => rfl) ?_
        refine T_call 48 256 [.ref 189, .int (i32 x34), .int (i32 q)] [] rfl (fun _ => rfl) rfl (c_want w (mO m [] []) c N D (by omega) hT x34 q (r32 (by omega) (by omega)) (r32 (by omega) (by omega)) (show 0 ≤ q ∧ q ≤ 4000 by omega) (fun _ => trivial)) (fun rr36 k37 => ?_)
        obtain ⟨m38, Tm38, Fm38, h39, c40, rfl⟩ := k37
        refine ⟨_, _, rfl, ?_⟩
        refine T_nb (st' := []) rfl ?_
        have g41 : 0 ≤ m38.1 10 ∧ m38.1 10 ≤ 8 := Tm38.1 10
        by_cases hf42 : (m38.1 10) = 0
        · skip
          replace h39 : (m.1 10) = 0 := h39 hf42
          have c43 := c40 hf42
          replace c43 : x34 ≠ 0 := c43
          clear c40
          clear g35a g35b c43
          refine T_goto 68 rfl (fun _ => rfl) ?_
          refine T_ld 69 (.int (i32 a)) rfl (fun _ => rfl) ?_
          refine T_ret rfl (fun _ => rfl) ?_
          exact ⟨(mO m38 [] []), a, Tm38, (fr_m (fr_s Fm38 (fr_m fr_0 rfl rfl) rfl rfl) rfl rfl), ⟨by omega, by omega⟩, (show (m38.1 10) = 0 → (m.1 10) = 0 by omega), (show a = 64 ∨ a = a ∨ a = e by omega), (fun _ => trivial), rfl⟩
        · skip
          clear c40
          clear h39
          have hf44 : 1 ≤ (m38.1 10) := by omega
          clear g35a g35b
          refine T_goto 68 rfl (fun _ => rfl) ?_
          refine T_ld 69 (.int (i32 a)) rfl (fun _ => rfl) ?_
          refine T_ret rfl (fun _ => rfl) ?_
          exact ⟨(mO m38 [] []), a, Tm38, (fr_m (fr_s Fm38 (fr_m fr_0 rfl rfl) rfl rfl) rfl rfl), ⟨by omega, by omega⟩, (show (m38.1 10) = 0 → (m.1 10) = 0 by omega), (show a = 64 ∨ a = a ∨ a = e by omega), (fun (h : (m38.1 10) = 0) => absurd h (by omega)), rfl⟩
    · skip
      refine T_ld 6 (.int (i32 k)) rfl (fun _ => rfl) ?_
      refine T_if 12 9 rfl rfl rfl (r32 (by omega) (by omega)) (fun (h45 : k = 0) => ?_) (fun (h45 : ¬ (k = 0)) => ?_)
      · skip
        refine T_ld 13 (.int (i32 g)) rfl (fun _ => rfl) ?_
        refine T_if 31 16 rfl rfl rfl (r32 (by omega) (by omega)) (fun (h46 : g = 0) => ?_) (fun (h46 : ¬ (g = 0)) => ?_)
        · skip
          refine T_ld 33 (.int (i32 k)) rfl (fun _ => rfl) ?_
          refine T_if 51 36 rfl rfl rfl (r32 (by omega) (by omega)) (fun (h47 : k = 0) => ?_) (fun (h47 : ¬ (k = 0)) => by exfalso; omega)
          refine T_ld 52 (.ref 189) rfl (fun _ => rfl) ?_
          refine T_ld 53 (.int (i32 a)) rfl (fun _ => rfl) ?_
          refine T_ld 55 (.int (i32 e)) rfl (fun _ => rfl) ?_
          refine T_icmp 62 58 rfl rfl rfl (r32 (by omega) (by omega)) (r32 (by omega) (by omega)) (fun (h48 : a ≠ e) => ?_) (fun (h48 : ¬ (a ≠ e)) => ?_)
          · skip
            refine T_ld 63 (.int (i32 0)) rfl (fun _ => rfl) ?_
            refine T_ld 65 (.int (i32 q)) rfl (fun _ => rfl) ?_
            refine T_call 68 256 [.ref 189, .int (i32 0), .int (i32 q)] [] rfl (fun _ => rfl) rfl (c_want w (mO m [] []) c N D (by omega) hT 0 q ⟨by decide, by decide⟩ (r32 (by omega) (by omega)) (show 0 ≤ q ∧ q ≤ 4000 by omega) (fun _ => trivial)) (fun rr49 k50 => ?_)
            obtain ⟨m51, Tm51, Fm51, h52, c53, rfl⟩ := k50
            refine ⟨_, _, rfl, ?_⟩
            refine T_nb (st' := []) rfl ?_
            have g54 : 0 ≤ m51.1 10 ∧ m51.1 10 ≤ 8 := Tm51.1 10
            by_cases hf55 : (m51.1 10) = 0
            · skip
              replace h52 : (m.1 10) = 0 := h52 hf55
              have c56 := c53 hf55
              replace c56 : (0 : Int) ≠ 0 := c56
              clear c53
              refine T_ld 69 (.int (i32 a)) rfl (fun _ => rfl) ?_
              refine T_ret rfl (fun _ => rfl) ?_
              exact ⟨(mO m51 [] []), a, Tm51, (fr_m (fr_s Fm51 (fr_m fr_0 rfl rfl) rfl rfl) rfl rfl), ⟨by omega, by omega⟩, (show (m51.1 10) = 0 → (m.1 10) = 0 by omega), (show a = 64 ∨ a = a ∨ a = e by omega), (fun _ => trivial), rfl⟩
            · skip
              clear c53
              clear h52
              have hf57 : 1 ≤ (m51.1 10) := by omega
              exact J68_5 (mO m51 [] []) Tm51 (fr_m (fr_s Fm51 (fr_m fr_0 rfl rfl) rfl rfl) rfl rfl) (show 1 ≤ (m51.1 10) by omega)
          · skip
            refine T_ld 59 (.int (i32 1)) rfl (fun _ => rfl) ?_
            refine T_goto 63 rfl (fun _ => rfl) ?_
            refine T_ld 65 (.int (i32 q)) rfl (fun _ => rfl) ?_
            refine T_call 68 256 [.ref 189, .int (i32 1), .int (i32 q)] [] rfl (fun _ => rfl) rfl (c_want w (mO m [] []) c N D (by omega) hT 1 q ⟨by decide, by decide⟩ (r32 (by omega) (by omega)) (show 0 ≤ q ∧ q ≤ 4000 by omega) (fun _ => trivial)) (fun rr58 k59 => ?_)
            obtain ⟨m60, Tm60, Fm60, h61, c62, rfl⟩ := k59
            refine ⟨_, _, rfl, ?_⟩
            refine T_nb (st' := []) rfl ?_
            have g63 : 0 ≤ m60.1 10 ∧ m60.1 10 ≤ 8 := Tm60.1 10
            by_cases hf64 : (m60.1 10) = 0
            · skip
              replace h61 : (m.1 10) = 0 := h61 hf64
              have c65 := c62 hf64
              replace c65 : (1 : Int) ≠ 0 := c65
              clear c62
              refine T_ld 69 (.int (i32 a)) rfl (fun _ => rfl) ?_
              refine T_ret rfl (fun _ => rfl) ?_
              exact ⟨(mO m60 [] []), a, Tm60, (fr_m (fr_s Fm60 (fr_m fr_0 rfl rfl) rfl rfl) rfl rfl), ⟨by omega, by omega⟩, (show (m60.1 10) = 0 → (m.1 10) = 0 by omega), (show a = 64 ∨ a = a ∨ a = e by omega), (fun _ => trivial), rfl⟩
            · skip
              clear c62
              clear h61
              have hf66 : 1 ≤ (m60.1 10) := by omega
              exact J68_5 (mO m60 [] []) Tm60 (fr_m (fr_s Fm60 (fr_m fr_0 rfl rfl) rfl rfl) rfl rfl) (show 1 ≤ (m60.1 10) by omega)
        · skip
          refine T_ld 17 (.ref 189) rfl (fun _ => rfl) ?_
          refine T_ld 18 (.long (i64 v)) rfl (fun _ => rfl) ?_
          refine T_ld 20 (.int (i32 e)) rfl (fun _ => rfl) ?_
          refine T_call 23 262 [.long (i64 v), .int (i32 e)] [.ref 189] rfl (fun _ => rfl) rfl (c_fits w (mO m [] []) c N D (by omega) hT v e (r64 (by omega) (by omega)) (r32 (by omega) (by omega))) (fun rr67 k68 => ?_)
          obtain ⟨x69, g70, rfl⟩ := k68
          refine ⟨_, _, rfl, ?_⟩
          refine T_ns (st' := [.int (i32 x69), .ref 189]) rfl ?_
          obtain ⟨g70a, g70b⟩ := g70
          refine T_ld 25 (.int (i32 p)) rfl (fun _ => rfl) ?_
          refine T_call 28 256 [.ref 189, .int (i32 x69), .int (i32 p)] [] rfl (fun _ => rfl) rfl (c_want w (mO m [] []) c N D (by omega) hT x69 p (r32 (by omega) (by omega)) (r32 (by omega) (by omega)) (show 0 ≤ p ∧ p ≤ 4000 by omega) (fun _ => trivial)) (fun rr71 k72 => ?_)
          obtain ⟨m73, Tm73, Fm73, h74, c75, rfl⟩ := k72
          refine ⟨_, _, rfl, ?_⟩
          refine T_nb (st' := []) rfl ?_
          have g76 : 0 ≤ m73.1 10 ∧ m73.1 10 ≤ 8 := Tm73.1 10
          by_cases hf77 : (m73.1 10) = 0
          · skip
            replace h74 : (m.1 10) = 0 := h74 hf77
            have c78 := c75 hf77
            replace c78 : x69 ≠ 0 := c78
            clear c75
            clear g70a g70b c78
            refine T_ld 30 (.int (i32 e)) rfl (fun _ => rfl) ?_
            refine T_ret rfl (fun _ => rfl) ?_
            exact ⟨(mO m73 [] []), e, Tm73, (fr_m (fr_s Fm73 (fr_m fr_0 rfl rfl) rfl rfl) rfl rfl), ⟨by omega, by omega⟩, (show (m73.1 10) = 0 → (m.1 10) = 0 by omega), (show e = 64 ∨ e = a ∨ e = e by omega), (fun _ => trivial), rfl⟩
          · skip
            clear c75
            clear h74
            have hf79 : 1 ≤ (m73.1 10) := by omega
            clear g70a g70b
            refine T_ld 30 (.int (i32 e)) rfl (fun _ => rfl) ?_
            refine T_ret rfl (fun _ => rfl) ?_
            exact ⟨(mO m73 [] []), e, Tm73, (fr_m (fr_s Fm73 (fr_m fr_0 rfl rfl) rfl rfl) rfl rfl), ⟨by omega, by omega⟩, (show (m73.1 10) = 0 → (m.1 10) = 0 by omega), (show e = 64 ∨ e = a ∨ e = e by omega), (fun (h : (m73.1 10) = 0) => absurd h (by omega)), rfl⟩
      · skip
        refine T_ld 11 (.int (i32 64)) rfl (fun _ => rfl) ?_
        refine T_ret rfl (fun _ => rfl) ?_
        exact ⟨(mO m [] []), 64, hT, (fr_m fr_0 rfl rfl), ⟨by omega, by omega⟩, (show (m.1 10) = 0 → (m.1 10) = 0 by omega), (show (64 : Int) = 64 ∨ (64 : Int) = a ∨ (64 : Int) = e by omega), (fun _ => trivial), rfl⟩
  · skip
    clear hC
    refine T_ld 1 (.int (i32 g)) rfl (fun _ => rfl) ?_
    refine T_if 12 4 rfl rfl rfl (r32 (by omega) (by omega)) (fun (h80 : g = 0) => ?_) (fun (h80 : ¬ (g = 0)) => ?_)
    · skip
      refine T_ld 13 (.int (i32 g)) rfl (fun _ => rfl) ?_
      refine T_if 31 16 rfl rfl rfl (r32 (by omega) (by omega)) (fun (h81 : g = 0) => ?_) (fun (h81 : ¬ (g = 0)) => by exfalso; omega)
      refine T_ld 33 (.int (i32 k)) rfl (fun _ => rfl) ?_
      refine T_if 51 36 rfl rfl rfl (r32 (by omega) (by omega)) (fun (h82 : k = 0) => ?_) (fun (h82 : ¬ (k = 0)) => ?_)
      · skip
        refine T_ld 52 (.ref 189) rfl (fun _ => rfl) ?_
        refine T_ld 53 (.int (i32 a)) rfl (fun _ => rfl) ?_
        refine T_ld 55 (.int (i32 e)) rfl (fun _ => rfl) ?_
        refine T_icmp 62 58 rfl rfl rfl (r32 (by omega) (by omega)) (r32 (by omega) (by omega)) (fun (h83 : a ≠ e) => ?_) (fun (h83 : ¬ (a ≠ e)) => ?_)
        · skip
          refine T_ld 63 (.int (i32 0)) rfl (fun _ => rfl) ?_
          refine T_ld 65 (.int (i32 q)) rfl (fun _ => rfl) ?_
          refine T_call 68 256 [.ref 189, .int (i32 0), .int (i32 q)] [] rfl (fun _ => rfl) rfl (c_want w (mO m [] []) c N D (by omega) hT 0 q ⟨by decide, by decide⟩ (r32 (by omega) (by omega)) (show 0 ≤ q ∧ q ≤ 4000 by omega) (fun (h : (m.1 10) = 0) => absurd h (by omega))) (fun rr84 k85 => ?_)
          obtain ⟨m86, Tm86, Fm86, h87, c88, rfl⟩ := k85
          refine ⟨_, _, rfl, ?_⟩
          refine T_nb (st' := []) rfl ?_
          have g89 : 0 ≤ m86.1 10 ∧ m86.1 10 ≤ 8 := Tm86.1 10
          replace h87 : (m86.1 10) = 0 → (m.1 10) = 0 := h87
          have hf90 : 1 ≤ (m86.1 10) := by omega
          clear c88
          clear h87
          refine T_ld 69 (.int (i32 a)) rfl (fun _ => rfl) ?_
          refine T_ret rfl (fun _ => rfl) ?_
          exact ⟨(mO m86 [] []), a, Tm86, (fr_m (fr_s Fm86 (fr_m fr_0 rfl rfl) rfl rfl) rfl rfl), ⟨by omega, by omega⟩, (show (m86.1 10) = 0 → (m.1 10) = 0 by omega), (show a = 64 ∨ a = a ∨ a = e by omega), (fun (h : (m86.1 10) = 0) => absurd h (by omega)), rfl⟩
        · skip
          refine T_ld 59 (.int (i32 1)) rfl (fun _ => rfl) ?_
          refine T_goto 63 rfl (fun _ => rfl) ?_
          refine T_ld 65 (.int (i32 q)) rfl (fun _ => rfl) ?_
          refine T_call 68 256 [.ref 189, .int (i32 1), .int (i32 q)] [] rfl (fun _ => rfl) rfl (c_want w (mO m [] []) c N D (by omega) hT 1 q ⟨by decide, by decide⟩ (r32 (by omega) (by omega)) (show 0 ≤ q ∧ q ≤ 4000 by omega) (fun (h : (m.1 10) = 0) => absurd h (by omega))) (fun rr91 k92 => ?_)
          obtain ⟨m93, Tm93, Fm93, h94, c95, rfl⟩ := k92
          refine ⟨_, _, rfl, ?_⟩
          refine T_nb (st' := []) rfl ?_
          have g96 : 0 ≤ m93.1 10 ∧ m93.1 10 ≤ 8 := Tm93.1 10
          replace h94 : (m93.1 10) = 0 → (m.1 10) = 0 := h94
          have hf97 : 1 ≤ (m93.1 10) := by omega
          clear c95
          clear h94
          refine T_ld 69 (.int (i32 a)) rfl (fun _ => rfl) ?_
          refine T_ret rfl (fun _ => rfl) ?_
          exact ⟨(mO m93 [] []), a, Tm93, (fr_m (fr_s Fm93 (fr_m fr_0 rfl rfl) rfl rfl) rfl rfl), ⟨by omega, by omega⟩, (show (m93.1 10) = 0 → (m.1 10) = 0 by omega), (show a = 64 ∨ a = a ∨ a = e by omega), (fun (h : (m93.1 10) = 0) => absurd h (by omega)), rfl⟩
      · skip
        refine T_ld 37 (.ref 189) rfl (fun _ => rfl) ?_
        refine T_ld 39 (.long (i64 x)) rfl (fun _ => rfl) ?_
        refine T_ld 40 (.int (i32 a)) rfl (fun _ => rfl) ?_
        refine T_call 43 262 [.long (i64 x), .int (i32 a)] [.ref 189] rfl (fun _ => rfl) rfl (c_fits w (mO m [] []) c N D (by omega) hT x a (r64 (by omega) (by omega)) (r32 (by omega) (by omega))) (fun rr98 k99 => ?_)
        obtain ⟨x100, g101, rfl⟩ := k99
        refine ⟨_, _, rfl, ?_⟩
        refine T_ns (st' := [.int (i32 x100), .ref 189]) rfl ?_
        obtain ⟨g101a, g101b⟩ := g101
        refine T_ld 45 (.int (i32 q)) rfl (fun _ => rfl) ?_
        refine T_call 48 256 [.ref 189, .int (i32 x100), .int (i32 q)] [] rfl (fun _ => rfl) rfl (c_want w (mO m [] []) c N D (by omega) hT x100 q (r32 (by omega) (by omega)) (r32 (by omega) (by omega)) (show 0 ≤ q ∧ q ≤ 4000 by omega) (fun (h : (m.1 10) = 0) => absurd h (by omega))) (fun rr102 k103 => ?_)
        obtain ⟨m104, Tm104, Fm104, h105, c106, rfl⟩ := k103
        refine ⟨_, _, rfl, ?_⟩
        refine T_nb (st' := []) rfl ?_
        have g107 : 0 ≤ m104.1 10 ∧ m104.1 10 ≤ 8 := Tm104.1 10
        replace h105 : (m104.1 10) = 0 → (m.1 10) = 0 := h105
        have hf108 : 1 ≤ (m104.1 10) := by omega
        clear c106
        clear h105
        clear g101a g101b
        refine T_goto 68 rfl (fun _ => rfl) ?_
        refine T_ld 69 (.int (i32 a)) rfl (fun _ => rfl) ?_
        refine T_ret rfl (fun _ => rfl) ?_
        exact ⟨(mO m104 [] []), a, Tm104, (fr_m (fr_s Fm104 (fr_m fr_0 rfl rfl) rfl rfl) rfl rfl), ⟨by omega, by omega⟩, (show (m104.1 10) = 0 → (m.1 10) = 0 by omega), (show a = 64 ∨ a = a ∨ a = e by omega), (fun (h : (m104.1 10) = 0) => absurd h (by omega)), rfl⟩
    · skip
      refine T_ld 6 (.int (i32 k)) rfl (fun _ => rfl) ?_
      refine T_if 12 9 rfl rfl rfl (r32 (by omega) (by omega)) (fun (h109 : k = 0) => ?_) (fun (h109 : ¬ (k = 0)) => ?_)
      · skip
        refine T_ld 13 (.int (i32 g)) rfl (fun _ => rfl) ?_
        refine T_if 31 16 rfl rfl rfl (r32 (by omega) (by omega)) (fun (h110 : g = 0) => ?_) (fun (h110 : ¬ (g = 0)) => ?_)
        · skip
          refine T_ld 33 (.int (i32 k)) rfl (fun _ => rfl) ?_
          refine T_if 51 36 rfl rfl rfl (r32 (by omega) (by omega)) (fun (h111 : k = 0) => ?_) (fun (h111 : ¬ (k = 0)) => by exfalso; omega)
          refine T_ld 52 (.ref 189) rfl (fun _ => rfl) ?_
          refine T_ld 53 (.int (i32 a)) rfl (fun _ => rfl) ?_
          refine T_ld 55 (.int (i32 e)) rfl (fun _ => rfl) ?_
          refine T_icmp 62 58 rfl rfl rfl (r32 (by omega) (by omega)) (r32 (by omega) (by omega)) (fun (h112 : a ≠ e) => ?_) (fun (h112 : ¬ (a ≠ e)) => ?_)
          · skip
            refine T_ld 63 (.int (i32 0)) rfl (fun _ => rfl) ?_
            refine T_ld 65 (.int (i32 q)) rfl (fun _ => rfl) ?_
            refine T_call 68 256 [.ref 189, .int (i32 0), .int (i32 q)] [] rfl (fun _ => rfl) rfl (c_want w (mO m [] []) c N D (by omega) hT 0 q ⟨by decide, by decide⟩ (r32 (by omega) (by omega)) (show 0 ≤ q ∧ q ≤ 4000 by omega) (fun (h : (m.1 10) = 0) => absurd h (by omega))) (fun rr113 k114 => ?_)
            obtain ⟨m115, Tm115, Fm115, h116, c117, rfl⟩ := k114
            refine ⟨_, _, rfl, ?_⟩
            refine T_nb (st' := []) rfl ?_
            have g118 : 0 ≤ m115.1 10 ∧ m115.1 10 ≤ 8 := Tm115.1 10
            replace h116 : (m115.1 10) = 0 → (m.1 10) = 0 := h116
            have hf119 : 1 ≤ (m115.1 10) := by omega
            clear c117
            clear h116
            refine T_ld 69 (.int (i32 a)) rfl (fun _ => rfl) ?_
            refine T_ret rfl (fun _ => rfl) ?_
            exact ⟨(mO m115 [] []), a, Tm115, (fr_m (fr_s Fm115 (fr_m fr_0 rfl rfl) rfl rfl) rfl rfl), ⟨by omega, by omega⟩, (show (m115.1 10) = 0 → (m.1 10) = 0 by omega), (show a = 64 ∨ a = a ∨ a = e by omega), (fun (h : (m115.1 10) = 0) => absurd h (by omega)), rfl⟩
          · skip
            refine T_ld 59 (.int (i32 1)) rfl (fun _ => rfl) ?_
            refine T_goto 63 rfl (fun _ => rfl) ?_
            refine T_ld 65 (.int (i32 q)) rfl (fun _ => rfl) ?_
            refine T_call 68 256 [.ref 189, .int (i32 1), .int (i32 q)] [] rfl (fun _ => rfl) rfl (c_want w (mO m [] []) c N D (by omega) hT 1 q ⟨by decide, by decide⟩ (r32 (by omega) (by omega)) (show 0 ≤ q ∧ q ≤ 4000 by omega) (fun (h : (m.1 10) = 0) => absurd h (by omega))) (fun rr120 k121 => ?_)
            obtain ⟨m122, Tm122, Fm122, h123, c124, rfl⟩ := k121
            refine ⟨_, _, rfl, ?_⟩
            refine T_nb (st' := []) rfl ?_
            have g125 : 0 ≤ m122.1 10 ∧ m122.1 10 ≤ 8 := Tm122.1 10
            replace h123 : (m122.1 10) = 0 → (m.1 10) = 0 := h123
            have hf126 : 1 ≤ (m122.1 10) := by omega
            clear c124
            clear h123
            refine T_ld 69 (.int (i32 a)) rfl (fun _ => rfl) ?_
            refine T_ret rfl (fun _ => rfl) ?_
            exact ⟨(mO m122 [] []), a, Tm122, (fr_m (fr_s Fm122 (fr_m fr_0 rfl rfl) rfl rfl) rfl rfl), ⟨by omega, by omega⟩, (show (m122.1 10) = 0 → (m.1 10) = 0 by omega), (show a = 64 ∨ a = a ∨ a = e by omega), (fun (h : (m122.1 10) = 0) => absurd h (by omega)), rfl⟩
        · skip
          refine T_ld 17 (.ref 189) rfl (fun _ => rfl) ?_
          refine T_ld 18 (.long (i64 v)) rfl (fun _ => rfl) ?_
          refine T_ld 20 (.int (i32 e)) rfl (fun _ => rfl) ?_
          refine T_call 23 262 [.long (i64 v), .int (i32 e)] [.ref 189] rfl (fun _ => rfl) rfl (c_fits w (mO m [] []) c N D (by omega) hT v e (r64 (by omega) (by omega)) (r32 (by omega) (by omega))) (fun rr127 k128 => ?_)
          obtain ⟨x129, g130, rfl⟩ := k128
          refine ⟨_, _, rfl, ?_⟩
          refine T_ns (st' := [.int (i32 x129), .ref 189]) rfl ?_
          obtain ⟨g130a, g130b⟩ := g130
          refine T_ld 25 (.int (i32 p)) rfl (fun _ => rfl) ?_
          refine T_call 28 256 [.ref 189, .int (i32 x129), .int (i32 p)] [] rfl (fun _ => rfl) rfl (c_want w (mO m [] []) c N D (by omega) hT x129 p (r32 (by omega) (by omega)) (r32 (by omega) (by omega)) (show 0 ≤ p ∧ p ≤ 4000 by omega) (fun (h : (m.1 10) = 0) => absurd h (by omega))) (fun rr131 k132 => ?_)
          obtain ⟨m133, Tm133, Fm133, h134, c135, rfl⟩ := k132
          refine ⟨_, _, rfl, ?_⟩
          refine T_nb (st' := []) rfl ?_
          have g136 : 0 ≤ m133.1 10 ∧ m133.1 10 ≤ 8 := Tm133.1 10
          replace h134 : (m133.1 10) = 0 → (m.1 10) = 0 := h134
          have hf137 : 1 ≤ (m133.1 10) := by omega
          clear c135
          clear h134
          clear g130a g130b
          refine T_ld 30 (.int (i32 e)) rfl (fun _ => rfl) ?_
          refine T_ret rfl (fun _ => rfl) ?_
          exact ⟨(mO m133 [] []), e, Tm133, (fr_m (fr_s Fm133 (fr_m fr_0 rfl rfl) rfl rfl) rfl rfl), ⟨by omega, by omega⟩, (show (m133.1 10) = 0 → (m.1 10) = 0 by omega), (show e = 64 ∨ e = a ∨ e = e by omega), (fun (h : (m133.1 10) = 0) => absurd h (by omega)), rfl⟩
      · skip
        refine T_ld 11 (.int (i32 64)) rfl (fun _ => rfl) ?_
        refine T_ret rfl (fun _ => rfl) ?_
        exact ⟨(mO m [] []), 64, hT, (fr_m fr_0 rfl rfl), ⟨by omega, by omega⟩, (show (m.1 10) = 0 → (m.1 10) = 0 by omega), (show (64 : Int) = 64 ∨ (64 : Int) = a ∨ (64 : Int) = e by omega), (fun (h : (m.1 10) = 0) => absurd h (by omega)), rfl⟩
def fF_unit : List Nat := [69, 70, 71, 72]
def fA_unit : List Nat := []
def Q_unit (m : mR) (c : Nat → Option am_C) (N : Nat) (b : Int) (p : Int) : ag_Re af_T → Prop := fun R => ∃ (M : mR), Ty M ∧ fr fF_unit fA_unit m M ∧ ((M.1 69) = b) ∧ R = (.inl (none), (mhp M c, N), 0, 0)
set_option maxHeartbeats 3000000 in
theorem c_unit (w : wX) (m : mR) (c : Nat → Option am_C) (N D : Nat) (hD : 1 ≤ D) (hT : Ty m) (b : Int) (p : Int) (qb : R32 b) (qp : R32 p) (p0 : 0 ≤ b ∧ b ≤ 1024) (p1 : 0 ≤ p ∧ p ≤ 4000) : TC w D 250 [.ref 189, .int (i32 b), .int (i32 p)] (mhp m c, N) (Q_unit m c N b p) := by
  obtain ⟨D, rfl⟩ : ∃ k, D = k + 1 := ⟨D - 1, by omega⟩
  obtain ⟨qba, qbb⟩ := id qb
  obtain ⟨qpa, qpb⟩ := id qp
  have f69 : 0 ≤ m.1 69 ∧ m.1 69 ≤ 1024 := hT.1 69
  refine Tc_of rfl ?_
  show TT w D pm_250 (0, [(0, .ref 189), (1, .int (i32 b)), (2, .int (i32 p))], [], (mhp (mO m [] []) c, N), 0, 0) (Q_unit m c N b p)
  refine T_ld 1 (.ref 189) rfl (fun _ => rfl) ?_
  refine T_ld 2 (.int (i32 b)) rfl (fun _ => rfl) ?_
  refine T_pf (l' := [(69, b)]) 5 b rfl rfl rfl rfl rfl rfl ?_
  have g1 : 0 ≤ b ∧ b ≤ 1024 := ⟨by omega, by omega⟩
  refine T_ld 6 (.ref 189) rfl (fun _ => rfl) ?_
  refine T_ld 7 (.int (i32 p)) rfl (fun _ => rfl) ?_
  refine T_pf (l' := [(69, b), (70, p)]) 10 p rfl rfl rfl rfl rfl rfl ?_
  have g2 : 0 ≤ p ∧ p ≤ 4000 := ⟨by omega, by omega⟩
  refine T_ld 11 (.ref 189) rfl (fun _ => rfl) ?_
  refine T_ld 12 (.int (i32 0)) rfl (fun _ => rfl) ?_
  refine T_pf (l' := [(69, b), (70, p), (71, 0)]) 15 0 rfl rfl rfl rfl rfl rfl ?_
  refine T_ld 16 (.ref 189) rfl (fun _ => rfl) ?_
  refine T_ld 17 (.long (i64 0)) rfl (fun _ => rfl) ?_
  refine T_pf (l' := [(69, b), (70, p), (71, 0), (72, 0)]) 20 0 rfl rfl rfl rfl rfl rfl ?_
  refine T_ret rfl (fun _ => rfl) ?_
  exact ⟨(mO m [(69, b), (70, p), (71, 0), (72, 0)] []), (Ty_mO hT rfl rfl ⟨g1, g2, ⟨(by omega : (0 : Int) ≤ 0), (by omega : (0 : Int) ≤ 1)⟩, ⟨(by omega : ((-9223372036854775808) : Int) ≤ 0), (by omega : (0 : Int) ≤ 9223372036854775807)⟩, trivial⟩ trivial), (fr_m fr_0 rfl rfl), (show b = b by omega), rfl⟩
def fF_open : List Nat := [73]
def fA_open : List Nat := [76, 77, 78, 79, 80]
def Q_open (m : mR) (c : Nat → Option am_C) (N : Nat) (k : Int) (p : Int) (s : Int) : ag_Re af_T → Prop := fun R => ∃ (M : mR), Ty M ∧ fr fF_open fA_open m M ∧ ((M.1 73) = (m.1 73) + 1) ∧ ((M.2 76) = upI (m.2 76) (m.1 73) k) ∧ ((M.2 78) = upI (m.2 78) (m.1 73) s) ∧ ((M.2 79) = upI (m.2 79) (m.1 73) 0) ∧ (∀ j, j < 9 * (m.1 73) → (M.2 80) j = (m.2 80) j) ∧ (∀ j, 9 * (m.1 73) ≤ j → j < 9 * (m.1 73) + 9 → (M.2 80) j = -1) ∧ R = (.inl (none), (mhp M c, N), 0, 0)
set_option maxHeartbeats 3000000 in
theorem c_open (w : wX) (m : mR) (c : Nat → Option am_C) (N D : Nat) (hD : 1 ≤ D) (hT : Ty m) (k : Int) (p : Int) (s : Int) (qk : R32 k) (qp : R32 p) (qs : R32 s) (p0 : (m.1 73) ≤ 59) (p1 : 0 ≤ k ∧ k ≤ 2) (p2 : 0 ≤ p ∧ p ≤ 4000) (p3 : 0 ≤ s ∧ s ≤ 330) : TC w D 246 [.ref 189, .int (i32 k), .int (i32 p), .int (i32 s)] (mhp m c, N) (Q_open m c N k p s) := by
  obtain ⟨D, rfl⟩ : ∃ k, D = k + 1 := ⟨D - 1, by omega⟩
  obtain ⟨qka, qkb⟩ := id qk
  obtain ⟨qpa, qpb⟩ := id qp
  obtain ⟨qsa, qsb⟩ := id qs
  have f73 : 0 ≤ m.1 73 ∧ m.1 73 ≤ 60 := hT.1 73
  refine Tc_of rfl ?_
  show TT w D pm_246 (0, [(0, .ref 189), (1, .int (i32 k)), (2, .int (i32 p)), (3, .int (i32 s))], [], (mhp (mO m [] []) c, N), 0, 0) (Q_open m c N k p s)
  refine T_gf 4 (.ref 238) rfl rfl rfl rfl rfl rfl ?_
  refine T_gf 8 (.int (i32 (m.1 73))) rfl rfl rfl rfl rfl rfl ?_
  refine T_ld 9 (.int (i32 k)) rfl (fun _ => rfl) ?_
  have G1 : ∀ j, 0 ≤ (upI (m.2 76) (m.1 73) k) j ∧ (upI (m.2 76) (m.1 73) k) j ≤ 2 := upI_rg (hT.2.1 76) ⟨by omega, by omega⟩
  refine T_iast (a' := [(76, upI (m.2 76) (m.1 73) k)]) 10 76 (m.2 76) rfl rfl rfl (by omega) (show (m.1 73) < (60 : Int) by omega) rfl rfl ?_
  refine T_gf 14 (.ref 239) rfl rfl rfl rfl rfl rfl ?_
  refine T_gf 18 (.int (i32 (m.1 73))) rfl rfl rfl rfl rfl rfl ?_
  refine T_ld 19 (.int (i32 p)) rfl (fun _ => rfl) ?_
  have G2 : ∀ j, 0 ≤ (upI (m.2 77) (m.1 73) p) j ∧ (upI (m.2 77) (m.1 73) p) j ≤ 4000 := upI_rg (hT.2.1 77) ⟨by omega, by omega⟩
  refine T_iast (a' := [(76, upI (m.2 76) (m.1 73) k), (77, upI (m.2 77) (m.1 73) p)]) 20 77 (m.2 77) rfl rfl rfl (by omega) (show (m.1 73) < (60 : Int) by omega) rfl rfl ?_
  refine T_gf 24 (.ref 240) rfl rfl rfl rfl rfl rfl ?_
  refine T_gf 28 (.int (i32 (m.1 73))) rfl rfl rfl rfl rfl rfl ?_
  refine T_ld 29 (.int (i32 s)) rfl (fun _ => rfl) ?_
  have G3 : ∀ j, 0 ≤ (upI (m.2 78) (m.1 73) s) j ∧ (upI (m.2 78) (m.1 73) s) j ≤ 330 := upI_rg (hT.2.1 78) ⟨by omega, by omega⟩
  refine T_iast (a' := [(76, upI (m.2 76) (m.1 73) k), (77, upI (m.2 77) (m.1 73) p), (78, upI (m.2 78) (m.1 73) s)]) 30 78 (m.2 78) rfl rfl rfl (by omega) (show (m.1 73) < (60 : Int) by omega) rfl rfl ?_
  refine T_gf 34 (.ref 241) rfl rfl rfl rfl rfl rfl ?_
  refine T_gf 38 (.int (i32 (m.1 73))) rfl rfl rfl rfl rfl rfl ?_
  refine T_ld 39 (.int (i32 0)) rfl (fun _ => rfl) ?_
  have G4 : ∀ j, 0 ≤ (upI (m.2 79) (m.1 73) 0) j ∧ (upI (m.2 79) (m.1 73) 0) j ≤ 2 := upI_rg (hT.2.1 79) ⟨by omega, by omega⟩
  refine T_iast (a' := [(76, upI (m.2 76) (m.1 73) k), (77, upI (m.2 77) (m.1 73) p), (78, upI (m.2 78) (m.1 73) s), (79, upI (m.2 79) (m.1 73) 0)]) 40 79 (m.2 79) rfl rfl rfl (by omega) (show (m.1 73) < (60 : Int) by omega) rfl rfl ?_
  refine T_ld 41 (.int (i32 0)) rfl (fun _ => rfl) ?_
  refine T_sto 43 [(4, .int (i32 0)), (0, .ref 189), (1, .int (i32 k)), (2, .int (i32 p)), (3, .int (i32 s))] rfl (fun _ => rfl) ?_
  refine T_fl (Ty_mO hT rfl rfl trivial ⟨G1, G2, G3, G4, trivial⟩) (fun m5 Tm5 Fm5 => ?_)
  have L43_8 : ∀ (n16 : Nat) (v6 : Int) (m7 : mR), (R32 v6) → Ty m7 → fr [] [80] (mO m5 [] []) m7 → (0 ≤ v6) → (v6 ≤ 9) → (∀ j, j < 9 * (m.1 73) → (m7.2 80) j = (m.2 80) j) → (∀ j, 9 * (m.1 73) ≤ j → j < 9 * (m.1 73) + v6 → (m7.2 80) j = -1) → 9 - v6 < (n16 : Int) → TT w D pm_246 (43, [(0, .ref 189), (1, .int (i32 k)), (2, .int (i32 p)), (3, .int (i32 s)), (4, .int (i32 v6))], [], (mhp (mO m7 [] []) c, N), 0, 0) (Q_open m c N k p s) := by
    intro n16
    induction n16 with
    | zero =>
      intro v6 m7 q13 Tm7 Fm7 ic9 ic10 ic11 ic12 hmu
      obtain ⟨q13a, q13b⟩ := id q13
      have hW1 := ic11
      have hW2 := ic12
      exfalso
      omega
    | succ n16 ih =>
      intro v6 m7 q13 Tm7 Fm7 ic9 ic10 ic11 ic12 hmu
      obtain ⟨q13a, q13b⟩ := id q13
      have hW1 := ic11
      have hW2 := ic12
      have ih17 := ih
      refine T_ld 45 (.int (i32 v6)) rfl (fun _ => rfl) ?_
      refine T_ld 47 (.int (i32 9)) rfl (fun _ => rfl) ?_
      refine T_icmp 72 50 rfl rfl rfl (r32 (by omega) (by omega)) ⟨by decide, by decide⟩ (fun (h18 : (9 : Int) ≤ v6) => ?_) (fun (h18 : ¬ ((9 : Int) ≤ v6)) => ?_)
      · skip
        refine T_ld 73 (.ref 189) rfl (fun _ => rfl) ?_
        refine T_ld 74 (.ref 189) rfl (fun _ => rfl) ?_
        refine T_gf1 77 (.int (i32 (m.1 73))) rfl rfl (mfv_c (F := fun x => .int (i32 x)) rfl (show (m7.1 73) = (m.1 73) from ((fr1 Fm7 73 rfl).trans (fr1 Fm5 73 rfl)))) rfl ?_
        refine T_ld 78 (.int (i32 1)) rfl (fun _ => rfl) ?_
        refine T_iadd 79 rfl rfl ?_
        refine T_pf (l' := [(73, (m.1 73) + 1)]) 82 ((m.1 73) + 1) rfl rfl rfl rfl rfl rfl ?_
        have g19 : 0 ≤ (m.1 73) + 1 ∧ (m.1 73) + 1 ≤ 60 := ⟨by omega, by omega⟩
        refine T_ret rfl (fun _ => rfl) ?_
        exact ⟨(mO m7 [(73, (m.1 73) + 1)] []), (Ty_mO Tm7 rfl rfl ⟨g19, trivial⟩ trivial), (fr_m (fr_s Fm7 (fr_m (fr_s Fm5 (fr_m fr_0 rfl rfl) rfl rfl) rfl rfl) rfl rfl) rfl rfl), (show ((m.1 73) + 1) = (m.1 73) + 1 by omega), (show (m7.2 76) = upI (m.2 76) (m.1 73) k by rewrite [(show (m7.2 76) = (upI (m.2 76) (m.1 73) k) from ((fr2 Fm7 76 rfl).trans (fr2 Fm5 76 rfl)))]; rfl), (show (m7.2 78) = upI (m.2 78) (m.1 73) s by rewrite [(show (m7.2 78) = (upI (m.2 78) (m.1 73) s) from ((fr2 Fm7 78 rfl).trans (fr2 Fm5 78 rfl)))]; rfl), (show (m7.2 79) = upI (m.2 79) (m.1 73) 0 by rewrite [(show (m7.2 79) = (upI (m.2 79) (m.1 73) 0) from ((fr2 Fm7 79 rfl).trans (fr2 Fm5 79 rfl)))]; rfl), (show ∀ j, j < 9 * (m.1 73) → (m7.2 80) j = (m.2 80) j by first | (exact hW1) | (exfalso; omega)), (show ∀ j, 9 * (m.1 73) ≤ j → j < 9 * (m.1 73) + 9 → (m7.2 80) j = -1 by first | (exact fun j h1 h2 => hW2 j h1 (by omega)) | (exfalso; omega)), rfl⟩
      · skip
        refine T_gf 54 (.ref 242) rfl rfl rfl rfl rfl rfl ?_
        refine T_ld 56 (.int (i32 9)) rfl (fun _ => rfl) ?_
        refine T_gf 60 (.int (i32 (m.1 73))) rfl rfl rfl rfl (mfv_c (F := fun x => .int (i32 x)) rfl (show (m7.1 73) = (m.1 73) from ((fr1 Fm7 73 rfl).trans (fr1 Fm5 73 rfl)))) rfl ?_
        refine T_imul 61 rfl rfl ?_
        refine T_ld 63 (.int (i32 v6)) rfl (fun _ => rfl) ?_
        refine T_iadd 64 rfl rfl ?_
        refine T_ld 65 (.int (i32 (-1))) rfl (fun _ => rfl) ?_
        have G20 : ∀ j, (-1) ≤ (upI (m7.2 80) ((9 * (m.1 73)) + v6) (-1)) j ∧ (upI (m7.2 80) ((9 * (m.1 73)) + v6) (-1)) j ≤ 330 := upI_rg (Tm7.2.1 80) ⟨by omega, by omega⟩
        refine T_iast (a' := [(80, upI (m7.2 80) ((9 * (m.1 73)) + v6) (-1))]) 66 80 (m7.2 80) rfl rfl rfl (by omega) (show ((9 * (m.1 73)) + v6) < (540 : Int) by omega) rfl rfl ?_
        refine T_iinc 69 [(4, .int (i32 (v6 + 1))), (0, .ref 189), (1, .int (i32 k)), (2, .int (i32 p)), (3, .int (i32 s))] rfl rfl (by decide) rfl rfl ?_
        refine T_goto 43 rfl (fun _ => rfl) ?_
        refine Tm_lv (a := [(0, .ref 189), (1, .int (i32 k)), (2, .int (i32 p)), (3, .int (i32 s)), (4, .int (i32 (v6 + 1)))]) rfl rfl ⟨rfl, rfl, rfl, rfl, rfl, trivial⟩ ?_
        exact ih17 (v6 + 1) (mO m7 [] [(80, upI (m7.2 80) ((9 * (m.1 73)) + v6) (-1))]) (r32 (by omega) (by omega)) (Ty_mO Tm7 rfl rfl trivial ⟨G20, trivial⟩) (fr_m (fr_s Fm7 (fr_m fr_0 rfl rfl) rfl rfl) rfl rfl) (show 0 ≤ (v6 + 1) by omega) (show (v6 + 1) ≤ 9 by omega) (show ∀ j, j < 9 * (m.1 73) → (upI (m7.2 80) ((9 * (m.1 73)) + v6) (-1)) j = (m.2 80) j by first | exact fun j _ => rfl | exact fun j h1 => (upI_n (by omega)).trans (hW1 j h1)) (show ∀ j, 9 * (m.1 73) ≤ j → j < 9 * (m.1 73) + (v6 + 1) → (upI (m7.2 80) ((9 * (m.1 73)) + v6) (-1)) j = -1 by first | (intro j h1 h2; omega) | (intro j h1 h2; by_cases e : j = 9 * (m.1 73) + v6; (rw [e, upI_s]); (rw [upI_n e]; exact hW2 j h1 (by omega)))) (show 9 - (v6 + 1) < (n16 : Int) by omega)
  refine Tm_lv (a := [(0, .ref 189), (1, .int (i32 k)), (2, .int (i32 p)), (3, .int (i32 s)), (4, .int (i32 0))]) rfl rfl ⟨rfl, rfl, rfl, rfl, rfl, trivial⟩ ?_
  exact L43_8 ((9 - (0 : Int) : Int) + 1).toNat 0 (mO m5 [] []) ⟨by decide, by decide⟩ Tm5 (fr_m fr_0 rfl rfl) (show 0 ≤ (0 : Int) by omega) (show (0 : Int) ≤ 9 by omega) (show ∀ j, j < 9 * (m.1 73) → (m5.2 80) j = (m.2 80) j by rewrite [(show (m5.2 80) = (m.2 80) from (fr2 Fm5 80 rfl))]; first | exact fun j _ => rfl | exact fun j h1 => (upI_n (by omega)).trans (hW1 j h1)) (show ∀ j, 9 * (m.1 73) ≤ j → j < 9 * (m.1 73) + (0 : Int) → (m5.2 80) j = -1 by rewrite [(show (m5.2 80) = (m.2 80) from (fr2 Fm5 80 rfl))]; first | (intro j h1 h2; omega) | (intro j h1 h2; by_cases e : j = 9 * (m.1 73) + v6; (rw [e, upI_s]); (rw [upI_n e]; exact hW2 j h1 (by omega)))) (show 9 - (0 : Int) < ((((9 - (0 : Int) : Int) + 1).toNat : Nat) : Int) by omega)
def fF_beginChoice : List Nat := [10, 11, 73, 74, 75]
def fA_beginChoice : List Nat := [76, 77, 78, 79, 80]
def Q_beginChoice (m : mR) (c : Nat → Option am_C) (N : Nat) (B : Int) (U : Int) : ag_Re af_T → Prop := fun R => ∃ (M : mR), Ty M ∧ fr fF_beginChoice fA_beginChoice m M ∧ ((M.1 10) = 0 → (m.1 10) = 0) ∧ (M.1 10 = 0 → (XS (m.2 65) (m.2 67) (M.2 76) (M.2 78) (M.2 79) (M.2 80) B (m.1 28) (M.1 73) (M.1 74) U) ∧ ((M.1 73) = (m.1 73) + 1) ∧ ((M.1 75) = 0)) ∧ R = (.inl (none), (mhp M c, N), 0, 0)
set_option maxHeartbeats 3000000 in
theorem c_beginChoice (w : wX) (m : mR) (c : Nat → Option am_C) (N D : Nat) (hD : 2 ≤ D) (hT : Ty m) (B : Int) (U : Int) (hC : m.1 10 = 0 → (XT (m.2 65) (m.2 67) (m.2 76) (m.2 78) (m.2 79) (m.2 80) B (m.1 28) (m.1 73) (m.1 74) U) ∧ ((m.1 73) = 0 ∨ (m.2 76) ((m.1 73) - 1) = 2 ∨ ((m.2 76) ((m.1 73) - 1) = 0 ∧ (m.2 79) ((m.1 73) - 1) = 2))) : TC w D 245 [.ref 189] (mhp m c, N) (Q_beginChoice m c N B U) := by
  obtain ⟨D, rfl⟩ : ∃ k, D = k + 1 := ⟨D - 1, by omega⟩
  have f10 : 0 ≤ m.1 10 ∧ m.1 10 ≤ 8 := hT.1 10
  have f11 : (-1) ≤ m.1 11 ∧ m.1 11 ≤ 4000 := hT.1 11
  have f73 : 0 ≤ m.1 73 ∧ m.1 73 ≤ 60 := hT.1 73
  have f74 : 0 ≤ m.1 74 ∧ m.1 74 ≤ 24 := hT.1 74
  have f75 : 0 ≤ m.1 75 ∧ m.1 75 ≤ 3 := hT.1 75
  have f28 : 0 ≤ m.1 28 ∧ m.1 28 ≤ 800 := hT.1 28
  have f8 : 0 ≤ m.1 8 ∧ m.1 8 ≤ 4000 := hT.1 8
  refine Tc_of rfl ?_
  show TT w D pm_245 (0, [(0, .ref 189)], [], (mhp (mO m [] []) c, N), 0, 0) (Q_beginChoice m c N B U)
  by_cases hf0 : m.1 10 = 0
  · skip
    obtain ⟨hXT, hTop⟩ := hC hf0
    have hb := OS_hi hXT.2
    refine T_gf 4 (.int (i32 (m.1 10))) rfl rfl rfl rfl rfl rfl ?_
    refine T_if 8 7 rfl rfl rfl (r32 (by omega) (by omega)) (fun (h2 : (m.1 10) ≤ 0) => ?_) (fun (h2 : ¬ ((m.1 10) ≤ 0)) => by exfalso; omega)
    refine T_gf 12 (.int (i32 (m.1 74))) rfl rfl rfl rfl rfl rfl ?_
    refine T_ld 14 (.int (i32 24)) rfl (fun _ => rfl) ?_
    refine T_icmp 26 17 rfl rfl rfl (r32 (by omega) (by omega)) ⟨by decide, by decide⟩ (fun (h3 : (m.1 74) ≠ 24) => ?_) (fun (h3 : ¬ ((m.1 74) ≠ 24)) => ?_)
    · skip
      refine T_gf 30 (.int (i32 (m.1 10))) rfl rfl rfl rfl rfl rfl ?_
      refine T_if 34 33 rfl rfl rfl (r32 (by omega) (by omega)) (fun (h4 : (m.1 10) ≤ 0) => ?_) (fun (h4 : ¬ ((m.1 10) ≤ 0)) => by exfalso; omega)
      refine T_ld 35 (.ref 189) rfl (fun _ => rfl) ?_
      refine T_ld 36 (.ref 189) rfl (fun _ => rfl) ?_
      refine T_gf1 39 (.int (i32 (m.1 74))) rfl rfl rfl rfl ?_
      refine T_ld 40 (.int (i32 1)) rfl (fun _ => rfl) ?_
      refine T_iadd 41 rfl rfl ?_
      refine T_pf (l' := [(74, (m.1 74) + 1)]) 44 ((m.1 74) + 1) rfl rfl rfl rfl rfl rfl ?_
      have g5 : 0 ≤ (m.1 74) + 1 ∧ (m.1 74) + 1 ≤ 24 := ⟨by omega, by omega⟩
      refine T_ld 45 (.ref 189) rfl (fun _ => rfl) ?_
      refine T_ld 46 (.int (i32 0)) rfl (fun _ => rfl) ?_
      refine T_gf 50 (.int (i32 (m.1 8))) rfl rfl rfl rfl rfl rfl ?_
      refine T_ld 51 (.int (i32 0)) rfl (fun _ => rfl) ?_
      refine T_call 54 246 [.ref 189, .int (i32 0), .int (i32 (m.1 8)), .int (i32 0)] [] rfl (fun _ => rfl) rfl (c_open w (mO m [(74, (m.1 74) + 1)] []) c N D (by omega) (Ty_mO hT rfl rfl ⟨g5, trivial⟩ trivial) 0 (m.1 8) 0 ⟨by decide, by decide⟩ (r32 (by omega) (by omega)) ⟨by decide, by decide⟩ (show (m.1 73) ≤ 59 by omega) (show 0 ≤ (0 : Int) ∧ (0 : Int) ≤ 2 by omega) (show 0 ≤ (m.1 8) ∧ (m.1 8) ≤ 4000 by omega) (show 0 ≤ (0 : Int) ∧ (0 : Int) ≤ 330 by omega)) (fun rr6 k7 => ?_)
      obtain ⟨m8, Tm8, Fm8, h9, h10, h11, h12, h13, h14, rfl⟩ := k7
      refine ⟨_, _, rfl, ?_⟩
      refine T_nb (st' := []) rfl ?_
      have g15 : 0 ≤ m8.1 73 ∧ m8.1 73 ≤ 60 := Tm8.1 73
      replace h9 : (m8.1 73) = (m.1 73) + 1 := h9
      have hO0 := h9
      replace h10 : (m8.2 76) = upI (m.2 76) (m.1 73) (0 : Int) := h10
      have hO1 := h10
      replace h11 : (m8.2 78) = upI (m.2 78) (m.1 73) (0 : Int) := h11
      have hO2 := h11
      replace h12 : (m8.2 79) = upI (m.2 79) (m.1 73) 0 := h12
      have hO3 := h12
      replace h13 : ∀ j, j < 9 * (m.1 73) → (m8.2 80) j = (m.2 80) j := h13
      have hW1 := h13
      replace h14 : ∀ j, 9 * (m.1 73) ≤ j → j < 9 * (m.1 73) + 9 → (m8.2 80) j = -1 := h14
      have hW2 := h14
      refine T_ld 55 (.ref 189) rfl (fun _ => rfl) ?_
      refine T_ld 56 (.int (i32 0)) rfl (fun _ => rfl) ?_
      refine T_pf (l' := [(75, 0)]) 59 0 rfl rfl rfl rfl rfl rfl ?_
      refine T_ret rfl (fun _ => rfl) ?_
      exact ⟨(mO m8 [(75, 0)] []), (Ty_mO Tm8 rfl rfl ⟨⟨(by omega : (0 : Int) ≤ 0), (by omega : (0 : Int) ≤ 3)⟩, trivial⟩ trivial), (fr_m (fr_s Fm8 (fr_m fr_0 rfl rfl) rfl rfl) rfl rfl), (show (m8.1 10) = 0 → (m.1 10) = 0 by rewrite [(show (m8.1 10) = (m.1 10) from (fr1 Fm8 10 rfl))]; omega), (fun _ => ⟨(show XS (m.2 65) (m.2 67) (m8.2 76) (m8.2 78) (m8.2 79) (m8.2 80) B (m.1 28) (m8.1 73) (m8.1 74) U by rewrite [(show (m8.1 74) = ((m.1 74) + 1) from (fr1 Fm8 74 rfl))]; first | (rw [hO0, hO1, hO2, hO3]; exact XS_cho hXT hTop hW1 hW2) | (exfalso; omega)), (show (m8.1 73) = (m.1 73) + 1 by omega), (show (0 : Int) = 0 by omega)⟩), rfl⟩
    · skip
      refine T_ld 18 (.ref 189) rfl (fun _ => rfl) ?_
      refine T_ld 19 (.int (i32 4)) rfl (fun _ => rfl) ?_
      refine T_gf 23 (.int (i32 (m.1 8))) rfl rfl rfl rfl rfl rfl ?_
      refine T_call 26 222 [.ref 189, .int (i32 4), .int (i32 (m.1 8))] [] rfl (fun _ => rfl) rfl (d_wrong w (mO m [] []) c N D (by omega) hT 4 (m.1 8) ⟨by decide, by decide⟩ (r32 (by omega) (by omega)) (show 1 ≤ (4 : Int) ∧ (4 : Int) ≤ 8 by omega) (show 0 ≤ (m.1 8) ∧ (m.1 8) ≤ 4000 by omega)) (fun rr16 k17 => ?_)
      obtain ⟨m18, Tm18, Fm18, h19, rfl⟩ := k17
      refine ⟨_, _, rfl, ?_⟩
      refine T_nb (st' := []) rfl ?_
      have g20 : 0 ≤ m18.1 10 ∧ m18.1 10 ≤ 8 := Tm18.1 10
      have g21 : (-1) ≤ m18.1 11 ∧ m18.1 11 ≤ 4000 := Tm18.1 11
      replace h19 : (0 < (m.1 10) → (m18.1 10) = (m.1 10) ∧ (m18.1 11) = (m.1 11)) ∧ ((m.1 10) ≤ 0 → (m18.1 10) = (4 : Int) ∧ (m18.1 11) = (m.1 8)) := h19
      have hf22 : 1 ≤ (m18.1 10) := by omega
      refine T_gf 30 (.int (i32 (m18.1 10))) rfl rfl rfl rfl rfl rfl ?_
      refine T_if 34 33 rfl rfl rfl (r32 (by omega) (by omega)) (fun (h23 : (m18.1 10) ≤ 0) => by exfalso; omega) (fun (h23 : ¬ ((m18.1 10) ≤ 0)) => ?_)
      refine T_ret rfl (fun _ => rfl) ?_
      exact ⟨(mO m18 [] []), Tm18, (fr_m (fr_s Fm18 (fr_m fr_0 rfl rfl) rfl rfl) rfl rfl), (show (m18.1 10) = 0 → (m.1 10) = 0 by omega), (fun (h : (m18.1 10) = 0) => absurd h (by omega)), rfl⟩
  · skip
    clear hC
    refine T_gf 4 (.int (i32 (m.1 10))) rfl rfl rfl rfl rfl rfl ?_
    refine T_if 8 7 rfl rfl rfl (r32 (by omega) (by omega)) (fun (h24 : (m.1 10) ≤ 0) => by exfalso; omega) (fun (h24 : ¬ ((m.1 10) ≤ 0)) => ?_)
    refine T_ret rfl (fun _ => rfl) ?_
    exact ⟨(mO m [] []), hT, (fr_m fr_0 rfl rfl), (show (m.1 10) = 0 → (m.1 10) = 0 by omega), (fun (h : (m.1 10) = 0) => absurd h (by omega)), rfl⟩
def Q_parameterHere (m : mR) (c : Nat → Option am_C) (N : Nat) : ag_Re af_T → Prop := fun R => ∃ (r : Int), ((-2147483648) ≤ r ∧ r ≤ 2147483647) ∧ (-1 ≤ r ∧ r ≤ 63) ∧ R = (.inl (some (.int (i32 r))), (mhp m c, N), 0, 0)
set_option maxHeartbeats 3000000 in
theorem c_parameterHere (w : wX) (m : mR) (c : Nat → Option am_C) (N D : Nat) (hD : 2 ≤ D) (hT : Ty m) (p0 : 1 ≤ (m.1 9) ∧ (m.1 8) + (m.1 9) ≤ (m.1 6)) (p1 : ∀ k, (m.2 47) k + (m.2 48) k ≤ 4000) : TC w D 252 [.ref 189] (mhp m c, N) (Q_parameterHere m c N) := by
  obtain ⟨D, rfl⟩ : ∃ k, D = k + 1 := ⟨D - 1, by omega⟩
  have f8 : 0 ≤ m.1 8 ∧ m.1 8 ≤ 4000 := hT.1 8
  have f6 : 0 ≤ m.1 6 ∧ m.1 6 ≤ 4000 := hT.1 6
  have f9 : 0 ≤ m.1 9 ∧ m.1 9 ≤ 4000 := hT.1 9
  have f64 : (-1) ≤ m.1 64 ∧ m.1 64 ≤ 15 := hT.1 64
  refine Tc_of rfl ?_
  show TT w D pm_252 (0, [(0, .ref 189)], [], (mhp (mO m [] []) c, N), 0, 0) (Q_parameterHere m c N)
  refine T_ld 1 (.int (i32 (-1))) rfl (fun _ => rfl) ?_
  refine T_sto 2 [(1, .int (i32 (-1))), (0, .ref 189)] rfl (fun _ => rfl) ?_
  refine T_gf 6 (.int (i32 (m.1 64))) rfl rfl rfl rfl rfl rfl ?_
  refine T_if 63 9 rfl rfl rfl (r32 (by omega) (by omega)) (fun (h1 : (m.1 64) < 0) => ?_) (fun (h1 : ¬ ((m.1 64) < 0)) => ?_)
  · skip
    refine T_ld 64 (.int (i32 (-1))) rfl (fun _ => rfl) ?_
    refine T_ret rfl (fun _ => rfl) ?_
    exact ⟨(-1), ⟨by omega, by omega⟩, (show -1 ≤ (-1 : Int) ∧ (-1 : Int) ≤ 63 by omega), rfl⟩
  · skip
    refine T_ld 10 (.int (i32 4)) rfl (fun _ => rfl) ?_
    refine T_gf 14 (.int (i32 (m.1 64))) rfl rfl rfl rfl rfl rfl ?_
    refine T_imul 15 rfl rfl ?_
    refine T_sto 16 [(2, .int (i32 (4 * (m.1 64)))), (1, .int (i32 (-1))), (0, .ref 189)] rfl (fun _ => rfl) ?_
    have e13 : 0 ≤ m.2 46 (m.1 64) ∧ m.2 46 (m.1 64) ≤ 4 := hT.2.1 46 (m.1 64)
    have L16_4 : ∀ (n12 : Nat) (v2 : Int) (v3 : Int), (R32 v2) → (R32 v3) → ((-1) ≤ v2) → (0 ≤ v3) → (v3 ≤ (4 * (m.1 64)) + ((m.2 46) (m.1 64))) → (v2 ≤ 63) → ((4 * (m.1 64)) + ((m.2 46) (m.1 64))) - v3 < (n12 : Int) → TT w D pm_252 (16, [(0, .ref 189), (1, .int (i32 v2)), (2, .int (i32 v3))], [], (mhp (mO m [] []) c, N), 0, 0) (Q_parameterHere m c N) := by
      intro n12
      induction n12 with
      | zero =>
        intro v2 v3 q9 q10 ic5 ic6 ic7 ic8 hmu
        obtain ⟨q9a, q9b⟩ := id q9
        obtain ⟨q10a, q10b⟩ := id q10
        exfalso
        omega
      | succ n12 ih =>
        intro v2 v3 q9 q10 ic5 ic6 ic7 ic8 hmu
        obtain ⟨q9a, q9b⟩ := id q9
        obtain ⟨q10a, q10b⟩ := id q10
        have ih14 := ih
        refine T_ld 17 (.int (i32 v3)) rfl (fun _ => rfl) ?_
        refine T_ld 18 (.int (i32 4)) rfl (fun _ => rfl) ?_
        refine T_gf 22 (.int (i32 (m.1 64))) rfl rfl rfl rfl rfl rfl ?_
        refine T_imul 23 rfl rfl ?_
        refine T_gf 27 (.ref 216) rfl rfl rfl rfl rfl rfl ?_
        refine T_gf 31 (.int (i32 (m.1 64))) rfl rfl rfl rfl rfl rfl ?_
        refine T_iald 32 46 (m.2 46) rfl rfl rfl (by omega) (show (m.1 64) < (16 : Int) by omega) rfl ?_
        have e15 : 0 ≤ m.2 46 (m.1 64) ∧ m.2 46 (m.1 64) ≤ 4 := hT.2.1 46 (m.1 64)
        refine T_iadd 33 rfl rfl ?_
        refine T_icmp 63 36 rfl rfl rfl (r32 (by omega) (by omega)) (r32 (by omega) (by omega)) (fun (h16 : (4 * (m.1 64)) + ((m.2 46) (m.1 64)) ≤ v3) => ?_) (fun (h16 : ¬ ((4 * (m.1 64)) + ((m.2 46) (m.1 64)) ≤ v3)) => ?_)
        · skip
          refine T_ld 64 (.int (i32 v2)) rfl (fun _ => rfl) ?_
          refine T_ret rfl (fun _ => rfl) ?_
          exact ⟨v2, ⟨by omega, by omega⟩, (show -1 ≤ v2 ∧ v2 ≤ 63 by omega), rfl⟩
        · skip
          have hp2 := p1 v3
          refine T_ld 37 (.ref 189) rfl (fun _ => rfl) ?_
          refine T_gf 41 (.ref 217) rfl rfl rfl rfl rfl rfl ?_
          refine T_ld 42 (.int (i32 v3)) rfl (fun _ => rfl) ?_
          refine T_iald 43 47 (m.2 47) rfl rfl rfl (by omega) (show v3 < (64 : Int) by omega) rfl ?_
          have e17 : 0 ≤ m.2 47 v3 ∧ m.2 47 v3 ≤ 4000 := hT.2.1 47 v3
          refine T_gf 47 (.ref 218) rfl rfl rfl rfl rfl rfl ?_
          refine T_ld 48 (.int (i32 v3)) rfl (fun _ => rfl) ?_
          refine T_iald 49 48 (m.2 48) rfl rfl rfl (by omega) (show v3 < (64 : Int) by omega) rfl ?_
          have e18 : 0 ≤ m.2 48 v3 ∧ m.2 48 v3 ≤ 4000 := hT.2.1 48 v3
          refine T_call 52 230 [.ref 189, .int (i32 ((m.2 47) v3)), .int (i32 ((m.2 48) v3))] [] rfl (fun _ => rfl) rfl (d_isHere w (mO m [] []) c N D (by omega) hT ((m.2 47) v3) ((m.2 48) v3) (r32 (by omega) (by omega)) (r32 (by omega) (by omega)) (show 0 ≤ ((m.2 47) v3) by omega) (show 0 ≤ ((m.2 48) v3) by omega) (show ((m.2 47) v3) + ((m.2 48) v3) ≤ 4000 by omega) (show 1 ≤ (m.1 9) ∧ (m.1 8) + (m.1 9) ≤ (m.1 6) by first | omega | (have h8 := hLx (by omega); omega))) (fun rr19 k20 => ?_)
          obtain ⟨x21, g22, h23, rfl⟩ := k20
          refine ⟨_, _, rfl, ?_⟩
          refine T_ns (st' := [.int (i32 x21)]) rfl ?_
          obtain ⟨g22a, g22b⟩ := g22
          replace h23 : (x21 = 1 ∧ sameN (m.2 4) (m.1 8) (m.1 9) ((m.2 47) v3) ((m.2 48) v3)) ∨ (x21 = 0 ∧ ¬ sameN (m.2 4) (m.1 8) (m.1 9) ((m.2 47) v3) ((m.2 48) v3)) := h23
          have hh := h23
          refine T_if 57 55 rfl rfl rfl (r32 (by omega) (by omega)) (fun (h24 : x21 = 0) => ?_) (fun (h24 : ¬ (x21 = 0)) => ?_)
          · skip
            refine T_iinc 60 [(2, .int (i32 (v3 + 1))), (0, .ref 189), (1, .int (i32 v2))] rfl rfl (by decide) rfl rfl ?_
            refine T_goto 16 rfl (fun _ => rfl) ?_
            refine Tm_lv (a := [(0, .ref 189), (1, .int (i32 v2)), (2, .int (i32 (v3 + 1)))]) rfl rfl ⟨rfl, rfl, rfl, trivial⟩ ?_
            exact ih14 v2 (v3 + 1) (r32 (by omega) (by omega)) (r32 (by omega) (by omega)) (show (-1) ≤ v2 by omega) (show 0 ≤ (v3 + 1) by omega) (show (v3 + 1) ≤ (4 * (m.1 64)) + ((m.2 46) (m.1 64)) by omega) (show v2 ≤ 63 by omega) (show ((4 * (m.1 64)) + ((m.2 46) (m.1 64))) - (v3 + 1) < (n12 : Int) by omega)
          · skip
            refine T_ld 56 (.int (i32 v3)) rfl (fun _ => rfl) ?_
            refine T_sto 57 [(1, .int (i32 v3)), (0, .ref 189), (2, .int (i32 v3))] rfl (fun _ => rfl) ?_
            refine T_iinc 60 [(2, .int (i32 (v3 + 1))), (1, .int (i32 v3)), (0, .ref 189)] rfl rfl (by decide) rfl rfl ?_
            refine T_goto 16 rfl (fun _ => rfl) ?_
            refine Tm_lv (a := [(0, .ref 189), (1, .int (i32 v3)), (2, .int (i32 (v3 + 1)))]) rfl rfl ⟨rfl, rfl, rfl, trivial⟩ ?_
            exact ih14 v3 (v3 + 1) (r32 (by omega) (by omega)) (r32 (by omega) (by omega)) (show (-1) ≤ v3 by omega) (show 0 ≤ (v3 + 1) by omega) (show (v3 + 1) ≤ (4 * (m.1 64)) + ((m.2 46) (m.1 64)) by omega) (show v3 ≤ 63 by omega) (show ((4 * (m.1 64)) + ((m.2 46) (m.1 64))) - (v3 + 1) < (n12 : Int) by omega)
    refine Tm_lv (a := [(0, .ref 189), (1, .int (i32 (-1))), (2, .int (i32 (4 * (m.1 64))))]) rfl rfl ⟨rfl, rfl, rfl, trivial⟩ ?_
    exact L16_4 ((((4 * (m.1 64)) + ((m.2 46) (m.1 64))) - (4 * (m.1 64)) : Int) + 1).toNat (-1) (4 * (m.1 64)) ⟨by decide, by decide⟩ (r32 (by omega) (by omega)) (show (-1) ≤ (-1 : Int) by omega) (show 0 ≤ (4 * (m.1 64)) by omega) (show (4 * (m.1 64)) ≤ (4 * (m.1 64)) + ((m.2 46) (m.1 64)) by omega) (show (-1 : Int) ≤ 63 by omega) (show ((4 * (m.1 64)) + ((m.2 46) (m.1 64))) - (4 * (m.1 64)) < ((((((4 * (m.1 64)) + ((m.2 46) (m.1 64))) - (4 * (m.1 64)) : Int) + 1).toNat : Nat) : Int) by omega)
def Q_bitsOfField (m : mR) (c : Nat → Option am_C) (N : Nat) (f : Int) : ag_Re af_T → Prop := fun R => ∃ (r : Int), (0 ≤ r ∧ r ≤ 64) ∧ R = (.inl (some (.int (i32 r))), (mhp m c, N), 0, 0)
set_option maxHeartbeats 3000000 in
theorem c_bitsOfField (w : wX) (m : mR) (c : Nat → Option am_C) (N D : Nat) (hD : 1 ≤ D) (hT : Ty m) (f : Int) (qf : R32 f) (p0 : 0 ≤ f ∧ f ≤ 191) : TC w D 254 [.ref 189, .int (i32 f)] (mhp m c, N) (Q_bitsOfField m c N f) := by
  obtain ⟨D, rfl⟩ : ∃ k, D = k + 1 := ⟨D - 1, by omega⟩
  obtain ⟨qfa, qfb⟩ := id qf
  refine Tc_of rfl ?_
  show TT w D pm_254 (0, [(0, .ref 189), (1, .int (i32 f))], [], (mhp (mO m [] []) c, N), 0, 0) (Q_bitsOfField m c N f)
  refine T_gf 4 (.ref 203) rfl rfl rfl rfl rfl rfl ?_
  refine T_ld 6 (.int (i32 16)) rfl (fun _ => rfl) ?_
  refine T_gf 10 (.ref 204) rfl rfl rfl rfl rfl rfl ?_
  refine T_ld 11 (.int (i32 f)) rfl (fun _ => rfl) ?_
  refine T_ld 13 (.int (i32 16)) rfl (fun _ => rfl) ?_
  refine T_idiv 14 rfl rfl (by omega) (by omega) (by omega) (by omega) ?_
  refine T_iald 15 34 (m.2 34) rfl rfl rfl (by omega) (show (f / 16) < (12 : Int) by omega) rfl ?_
  have e1 : 0 ≤ m.2 34 (f / 16) ∧ m.2 34 (f / 16) ≤ 11 := hT.2.1 34 (f / 16)
  refine T_imul 16 rfl rfl ?_
  refine T_ld 17 (.int (i32 f)) rfl (fun _ => rfl) ?_
  refine T_ld 19 (.int (i32 16)) rfl (fun _ => rfl) ?_
  refine T_irem 20 rfl rfl (by omega) (by omega) (by omega) (by omega) ?_
  refine T_iadd 21 rfl rfl ?_
  refine T_iald 22 33 (m.2 33) rfl rfl rfl (by omega) (show ((16 * ((m.2 34) (f / 16))) + (f % 16)) < (192 : Int) by omega) rfl ?_
  have e2 : 0 ≤ m.2 33 ((16 * ((m.2 34) (f / 16))) + (f % 16)) ∧ m.2 33 ((16 * ((m.2 34) (f / 16))) + (f % 16)) ≤ 64 := hT.2.1 33 ((16 * ((m.2 34) (f / 16))) + (f % 16))
  refine T_ret rfl (fun _ => rfl) ?_
  exact ⟨(m.2 33) ((16 * ((m.2 34) (f / 16))) + (f % 16)), ⟨by omega, by omega⟩, rfl⟩
def fF_takeField : List Nat := [7, 8, 9, 10, 11, 12]
def fA_takeField : List Nat := []
def Q_takeField (m : mR) (c : Nat → Option am_C) (N : Nat) (i : Int) : ag_Re af_T → Prop := fun R => ∃ (M : mR) (r : Int), Ty M ∧ fr fF_takeField fA_takeField m M ∧ (0 ≤ r ∧ r ≤ 191) ∧ ((M.1 10) = 0 → (m.1 10) = 0) ∧ (LxP (M.1 7) (M.1 8) (M.1 9) (m.1 6) (M.1 10)) ∧ (M.1 10 = 0 → ((m.1 8) + 1 ≤ (M.1 8)) ∧ ((m.1 7) = 1)) ∧ R = (.inl (some (.int (i32 r))), (mhp M c, N), 0, 0)
set_option maxHeartbeats 3000000 in
theorem c_takeField (w : wX) (m : mR) (c : Nat → Option am_C) (N D : Nat) (hD : 6 ≤ D) (hT : Ty m) (i : Int) (qi : R32 i) (hLx0 : LxP (m.1 7) (m.1 8) (m.1 9) (m.1 6) (m.1 10)) (hFA0 : ∀ k, (m.2 31) k + (m.2 32) k ≤ 4000) (p2 : 0 ≤ i ∧ i ≤ 11) (hC : m.1 10 = 0 → True) : TC w D 253 [.ref 189, .int (i32 i)] (mhp m c, N) (Q_takeField m c N i) := by
  obtain ⟨D, rfl⟩ : ∃ k, D = k + 1 := ⟨D - 1, by omega⟩
  obtain ⟨qia, qib⟩ := id qi
  have hLx := hLx0
  have hFA := hFA0
  have f7 : 0 ≤ m.1 7 ∧ m.1 7 ≤ 330 := hT.1 7
  have f8 : 0 ≤ m.1 8 ∧ m.1 8 ≤ 4000 := hT.1 8
  have f9 : 0 ≤ m.1 9 ∧ m.1 9 ≤ 4000 := hT.1 9
  have f10 : 0 ≤ m.1 10 ∧ m.1 10 ≤ 8 := hT.1 10
  have f11 : (-1) ≤ m.1 11 ∧ m.1 11 ≤ 4000 := hT.1 11
  have f6 : 0 ≤ m.1 6 ∧ m.1 6 ≤ 4000 := hT.1 6
  refine Tc_of rfl ?_
  show TT w D pm_253 (0, [(0, .ref 189), (1, .int (i32 i))], [], (mhp (mO m [] []) c, N), 0, 0) (Q_takeField m c N i)
  by_cases hf0 : m.1 10 = 0
  · skip
    have h7 := hLx (by omega)
    have J115_11 : ∀ (v8 : Int) (v9 : Int) (m10 : mR), (R32 v8) → (R32 v9) → Ty m10 → fr [7, 8, 9, 10, 11, 12] [] (mO m [] []) m10 → (0 ≤ v8) → (0 ≤ v9) → (0 ≤ v8 - 16 * ((m.2 34) i) ∧ v8 - 16 * ((m.2 34) i) ≤ 15) → (0 ≤ ((m.2 34) i) ∧ ((m.2 34) i) ≤ 11) → (1 ≤ (m10.1 10)) → TT w D pm_253 (115, [(0, .ref 189), (1, .int (i32 i)), (2, .int (i32 ((m.2 34) i))), (3, .int (i32 v8)), (4, .int (i32 v9))], [], (mhp (mO m10 [] []) c, N), 0, 0) (Q_takeField m c N i) := by
      intro v8 v9 m10 q17 q18 Tm10 Fm10 ic12 ic13 ic14 ic15 ic16
      obtain ⟨q17a, q17b⟩ := id q17
      obtain ⟨q18a, q18b⟩ := id q18
      have q19_7 : 0 ≤ m10.1 7 ∧ m10.1 7 ≤ 330 := Tm10.1 7
      have q19_8 : 0 ≤ m10.1 8 ∧ m10.1 8 ≤ 4000 := Tm10.1 8
      have q19_9 : 0 ≤ m10.1 9 ∧ m10.1 9 ≤ 4000 := Tm10.1 9
      have q19_10 : 0 ≤ m10.1 10 ∧ m10.1 10 ≤ 8 := Tm10.1 10
      have q19_11 : (-1) ≤ m10.1 11 ∧ m10.1 11 ≤ 4000 := Tm10.1 11
      refine T_ld 117 (.int (i32 16)) rfl (fun _ => rfl) ?_
      refine T_ld 118 (.int (i32 i)) rfl (fun _ => rfl) ?_
      refine T_imul 119 rfl rfl ?_
      refine T_ld 120 (.int (i32 v8)) rfl (fun _ => rfl) ?_
      refine T_iadd 121 rfl rfl ?_
      refine T_ld 123 (.int (i32 16)) rfl (fun _ => rfl) ?_
      refine T_ld 124 (.int (i32 ((m.2 34) i))) rfl (fun _ => rfl) ?_
      refine T_imul 125 rfl rfl ?_
      refine T_isub 126 rfl rfl ?_
      refine T_ret rfl (fun _ => rfl) ?_
      exact ⟨(mO m10 [] []), ((16 * i) + v8) - (16 * ((m.2 34) i)), Tm10, (fr_m (fr_s Fm10 (fr_m fr_0 rfl rfl) rfl rfl) rfl rfl), ⟨by omega, by omega⟩, (show (m10.1 10) = 0 → (m.1 10) = 0 by omega), (show LxP (m10.1 7) (m10.1 8) (m10.1 9) (m.1 6) (m10.1 10) by first | (first | exact hLx | exact (fun _ => hLx (by omega)) | (intro h9; exfalso; omega)) | (exfalso; omega)), (fun (h : (m10.1 10) = 0) => absurd h (by omega)), rfl⟩
    have J102_25 : ∀ (v22 : Int) (v23 : Int) (m24 : mR), (R32 v22) → (R32 v23) → Ty m24 → fr [10, 11] [] (mO m [] []) m24 → ((-1) ≤ v22) → (v22 ≤ (-1)) → (0 ≤ v23) → (0 ≤ ((m.2 34) i) ∧ ((m.2 34) i) ≤ 11) → (1 ≤ (m24.1 10)) → TT w D pm_253 (102, [(0, .ref 189), (1, .int (i32 i)), (2, .int (i32 ((m.2 34) i))), (3, .int (i32 v22)), (4, .int (i32 v23))], [], (mhp (mO m24 [] []) c, N), 0, 0) (Q_takeField m c N i) := by
      intro v22 v23 m24 q31 q32 Tm24 Fm24 ic26 ic27 ic28 ic29 ic30
      obtain ⟨q31a, q31b⟩ := id q31
      obtain ⟨q32a, q32b⟩ := id q32
      have q33_10 : 0 ≤ m24.1 10 ∧ m24.1 10 ≤ 8 := Tm24.1 10
      have q33_11 : (-1) ≤ m24.1 11 ∧ m24.1 11 ≤ 4000 := Tm24.1 11
      refine T_gf 106 (.int (i32 (m24.1 10))) rfl rfl rfl rfl rfl rfl ?_
      refine T_if 111 109 rfl rfl rfl (r32 (by omega) (by omega)) (fun (h36 : (m24.1 10) ≤ 0) => by exfalso; omega) (fun (h36 : ¬ ((m24.1 10) ≤ 0)) => ?_)
      refine T_ld 110 (.int (i32 0)) rfl (fun _ => rfl) ?_
      refine T_ret rfl (fun _ => rfl) ?_
      exact ⟨(mO m24 [] []), 0, Tm24, (fr_m (fr_s Fm24 (fr_m fr_0 rfl rfl) rfl rfl) rfl rfl), ⟨by omega, by omega⟩, (show (m24.1 10) = 0 → (m.1 10) = 0 by omega), (show LxP (m24.1 7) (m24.1 8) (m24.1 9) (m.1 6) (m24.1 10) by rewrite [(show (m24.1 7) = (m.1 7) from (fr1 Fm24 7 rfl)), (show (m24.1 8) = (m.1 8) from (fr1 Fm24 8 rfl)), (show (m24.1 9) = (m.1 9) from (fr1 Fm24 9 rfl))]; first | (first | exact hLx | exact (fun _ => hLx (by omega)) | (intro h9; exfalso; omega)) | (exfalso; omega)), (fun (h : (m24.1 10) = 0) => absurd h (by omega)), rfl⟩
    refine T_gf 4 (.int (i32 (m.1 10))) rfl rfl rfl rfl rfl rfl ?_
    refine T_if 9 7 rfl rfl rfl (r32 (by omega) (by omega)) (fun (h37 : (m.1 10) ≤ 0) => ?_) (fun (h37 : ¬ ((m.1 10) ≤ 0)) => by exfalso; omega)
    refine T_gf 13 (.ref 204) rfl rfl rfl rfl rfl rfl ?_
    refine T_ld 14 (.int (i32 i)) rfl (fun _ => rfl) ?_
    refine T_iald 15 34 (m.2 34) rfl rfl rfl (by omega) (show i < (12 : Int) by omega) rfl ?_
    have e38 : 0 ≤ m.2 34 i ∧ m.2 34 i ≤ 11 := hT.2.1 34 i
    refine T_sto 16 [(2, .int (i32 ((m.2 34) i))), (0, .ref 189), (1, .int (i32 i))] rfl (fun _ => rfl) ?_
    refine T_ld 17 (.int (i32 (-1))) rfl (fun _ => rfl) ?_
    refine T_sto 18 [(3, .int (i32 (-1))), (2, .int (i32 ((m.2 34) i))), (0, .ref 189), (1, .int (i32 i))] rfl (fun _ => rfl) ?_
    refine T_gf 22 (.int (i32 (m.1 7))) rfl rfl rfl rfl rfl rfl ?_
    refine T_ld 23 (.int (i32 1)) rfl (fun _ => rfl) ?_
    refine T_icmp 32 26 rfl rfl rfl (r32 (by omega) (by omega)) ⟨by decide, by decide⟩ (fun (h39 : (m.1 7) = 1) => ?_) (fun (h39 : ¬ ((m.1 7) = 1)) => ?_)
    · skip
      refine T_ld 34 (.int (i32 16)) rfl (fun _ => rfl) ?_
      refine T_ld 35 (.int (i32 ((m.2 34) i))) rfl (fun _ => rfl) ?_
      refine T_imul 36 rfl rfl ?_
      refine T_sto 38 [(4, .int (i32 (16 * ((m.2 34) i)))), (3, .int (i32 (-1))), (2, .int (i32 ((m.2 34) i))), (0, .ref 189), (1, .int (i32 i))] rfl (fun _ => rfl) ?_
      have e54 : 0 ≤ m.2 29 ((m.2 34) i) ∧ m.2 29 ((m.2 34) i) ≤ 16 := hT.2.1 29 ((m.2 34) i)
      have L38_42 : ∀ (n53 : Nat) (v40 : Int) (v41 : Int), (R32 v40) → (R32 v41) → ((-1) ≤ v40) → (0 ≤ v41) → (v41 ≤ (16 * ((m.2 34) i)) + ((m.2 29) ((m.2 34) i))) → ((-1) ≤ v40) → (v40 < v41) → (16 * ((m.2 34) i) ≤ v41) → (v40 = -1 ∨ 16 * ((m.2 34) i) ≤ v40) → ((16 * ((m.2 34) i)) + ((m.2 29) ((m.2 34) i))) - v41 < (n53 : Int) → TT w D pm_253 (38, [(0, .ref 189), (1, .int (i32 i)), (2, .int (i32 ((m.2 34) i))), (3, .int (i32 v40)), (4, .int (i32 v41))], [], (mhp (mO m [] []) c, N), 0, 0) (Q_takeField m c N i) := by
        intro n53
        induction n53 with
        | zero =>
          intro v40 v41 q50 q51 ic43 ic44 ic45 ic46 ic47 ic48 ic49 hmu
          obtain ⟨q50a, q50b⟩ := id q50
          obtain ⟨q51a, q51b⟩ := id q51
          exfalso
          omega
        | succ n53 ih =>
          intro v40 v41 q50 q51 ic43 ic44 ic45 ic46 ic47 ic48 ic49 hmu
          obtain ⟨q50a, q50b⟩ := id q50
          obtain ⟨q51a, q51b⟩ := id q51
          have ih55 := ih
          refine T_ld 40 (.int (i32 v41)) rfl (fun _ => rfl) ?_
          refine T_ld 42 (.int (i32 16)) rfl (fun _ => rfl) ?_
          refine T_ld 43 (.int (i32 ((m.2 34) i))) rfl (fun _ => rfl) ?_
          refine T_imul 44 rfl rfl ?_
          refine T_gf 48 (.ref 199) rfl rfl rfl rfl rfl rfl ?_
          refine T_ld 49 (.int (i32 ((m.2 34) i))) rfl (fun _ => rfl) ?_
          refine T_iald 50 29 (m.2 29) rfl rfl rfl (by omega) (show ((m.2 34) i) < (12 : Int) by omega) rfl ?_
          have e56 : 0 ≤ m.2 29 ((m.2 34) i) ∧ m.2 29 ((m.2 34) i) ≤ 16 := hT.2.1 29 ((m.2 34) i)
          refine T_iadd 51 rfl rfl ?_
          refine T_icmp 88 54 rfl rfl rfl (r32 (by omega) (by omega)) (r32 (by omega) (by omega)) (fun (h57 : (16 * ((m.2 34) i)) + ((m.2 29) ((m.2 34) i)) ≤ v41) => ?_) (fun (h57 : ¬ ((16 * ((m.2 34) i)) + ((m.2 29) ((m.2 34) i)) ≤ v41)) => ?_)
          · skip
            refine T_ld 89 (.int (i32 v40)) rfl (fun _ => rfl) ?_
            refine T_if 102 92 rfl rfl rfl (r32 (by omega) (by omega)) (fun (h58 : (0 : Int) ≤ v40) => ?_) (fun (h58 : ¬ ((0 : Int) ≤ v40)) => ?_)
            · skip
              refine T_gf 106 (.int (i32 (m.1 10))) rfl rfl rfl rfl rfl rfl ?_
              refine T_if 111 109 rfl rfl rfl (r32 (by omega) (by omega)) (fun (h59 : (m.1 10) ≤ 0) => ?_) (fun (h59 : ¬ ((m.1 10) ≤ 0)) => by exfalso; omega)
              refine T_ld 112 (.ref 189) rfl (fun _ => rfl) ?_
              refine T_call 115 212 [.ref 189] [] rfl (fun _ => rfl) rfl (d_next w (mO m [] []) c N D (by omega) hT (show (m.1 10) = 0 → (m.1 8) + (m.1 9) ≤ (m.1 6) by first | omega | (intro h9; have h8 := hLx h9; omega))) (fun rr60 k61 => ?_)
              obtain ⟨m62, Tm62, Fm62, h63, h64, h65, h66, rfl⟩ := k61
              refine ⟨_, _, rfl, ?_⟩
              refine T_nb (st' := []) rfl ?_
              have g67 : 0 ≤ m62.1 7 ∧ m62.1 7 ≤ 330 := Tm62.1 7
              have g68 : 0 ≤ m62.1 8 ∧ m62.1 8 ≤ 4000 := Tm62.1 8
              have g69 : 0 ≤ m62.1 9 ∧ m62.1 9 ≤ 4000 := Tm62.1 9
              have g70 : 0 ≤ m62.1 10 ∧ m62.1 10 ≤ 8 := Tm62.1 10
              have g71 : (-1) ≤ m62.1 11 ∧ m62.1 11 ≤ 4000 := Tm62.1 11
              by_cases hf72 : (m62.1 10) = 0
              · skip
                replace h63 : LxP (m62.1 7) (m62.1 8) (m62.1 9) (m.1 6) (m62.1 10) := h63
                have hLx := h63
                replace h64 : (m.1 10) = 0 := h64 hf72
                replace h65 : (m.1 8) ≤ (m62.1 8) := h65
                replace h66 : (m.1 8) + (m.1 9) ≤ (m62.1 8) := h66 hf72
                have u73 : (m.1 8) + 1 ≤ (m62.1 8) := by omega
                refine T_ld 117 (.int (i32 16)) rfl (fun _ => rfl) ?_
                refine T_ld 118 (.int (i32 i)) rfl (fun _ => rfl) ?_
                refine T_imul 119 rfl rfl ?_
                refine T_ld 120 (.int (i32 v40)) rfl (fun _ => rfl) ?_
                refine T_iadd 121 rfl rfl ?_
                refine T_ld 123 (.int (i32 16)) rfl (fun _ => rfl) ?_
                refine T_ld 124 (.int (i32 ((m.2 34) i))) rfl (fun _ => rfl) ?_
                refine T_imul 125 rfl rfl ?_
                refine T_isub 126 rfl rfl ?_
                refine T_ret rfl (fun _ => rfl) ?_
                exact ⟨(mO m62 [] []), ((16 * i) + v40) - (16 * ((m.2 34) i)), Tm62, (fr_m (fr_s Fm62 (fr_m fr_0 rfl rfl) rfl rfl) rfl rfl), ⟨by omega, by omega⟩, (show (m62.1 10) = 0 → (m.1 10) = 0 by omega), (show LxP (m62.1 7) (m62.1 8) (m62.1 9) (m.1 6) (m62.1 10) by first | (first | exact hLx | exact (fun _ => hLx (by omega)) | (intro h9; exfalso; omega)) | (exfalso; omega)), (fun _ => ⟨(show (m.1 8) + 1 ≤ (m62.1 8) by omega), (show (m.1 7) = 1 by omega)⟩), rfl⟩
              · skip
                replace h63 : LxP (m62.1 7) (m62.1 8) (m62.1 9) (m.1 6) (m62.1 10) := h63
                have hLx := h63
                clear h64
                replace h65 : (m.1 8) ≤ (m62.1 8) := h65
                clear h66
                have hf74 : 1 ≤ (m62.1 10) := by omega
                exact J115_11 v40 v41 (mO m62 [] []) (r32 (by omega) (by omega)) (r32 (by omega) (by omega)) Tm62 (fr_m (fr_s Fm62 (fr_m fr_0 rfl rfl) rfl rfl) rfl rfl) (show 0 ≤ v40 by omega) (show 0 ≤ v41 by omega) (show 0 ≤ v40 - 16 * ((m.2 34) i) ∧ v40 - 16 * ((m.2 34) i) ≤ 15 by omega) (show 0 ≤ ((m.2 34) i) ∧ ((m.2 34) i) ≤ 11 by omega) (show 1 ≤ (m62.1 10) by omega)
            · skip
              refine T_ld 93 (.ref 189) rfl (fun _ => rfl) ?_
              refine T_ld 95 (.int (i32 6)) rfl (fun _ => rfl) ?_
              refine T_gf 99 (.int (i32 (m.1 8))) rfl rfl rfl rfl rfl rfl ?_
              refine T_call 102 222 [.ref 189, .int (i32 6), .int (i32 (m.1 8))] [] rfl (fun _ => rfl) rfl (d_wrong w (mO m [] []) c N D (by omega) hT 6 (m.1 8) ⟨by decide, by decide⟩ (r32 (by omega) (by omega)) (show 1 ≤ (6 : Int) ∧ (6 : Int) ≤ 8 by omega) (show 0 ≤ (m.1 8) ∧ (m.1 8) ≤ 4000 by omega)) (fun rr75 k76 => ?_)
              obtain ⟨m77, Tm77, Fm77, h78, rfl⟩ := k76
              refine ⟨_, _, rfl, ?_⟩
              refine T_nb (st' := []) rfl ?_
              have g79 : 0 ≤ m77.1 10 ∧ m77.1 10 ≤ 8 := Tm77.1 10
              have g80 : (-1) ≤ m77.1 11 ∧ m77.1 11 ≤ 4000 := Tm77.1 11
              replace h78 : (0 < (m.1 10) → (m77.1 10) = (m.1 10) ∧ (m77.1 11) = (m.1 11)) ∧ ((m.1 10) ≤ 0 → (m77.1 10) = (6 : Int) ∧ (m77.1 11) = (m.1 8)) := h78
              have hf81 : 1 ≤ (m77.1 10) := by omega
              exact J102_25 v40 v41 (mO m77 [] []) (r32 (by omega) (by omega)) (r32 (by omega) (by omega)) Tm77 (fr_m (fr_s Fm77 (fr_m fr_0 rfl rfl) rfl rfl) rfl rfl) (show (-1) ≤ v40 by omega) (show v40 ≤ (-1) by omega) (show 0 ≤ v41 by omega) (show 0 ≤ ((m.2 34) i) ∧ ((m.2 34) i) ≤ 11 by omega) (show 1 ≤ (m77.1 10) by omega)
          · skip
            have hp3 := hFA v41
            have h7 := hLx (by omega)
            refine T_ld 55 (.ref 189) rfl (fun _ => rfl) ?_
            refine T_gf 59 (.ref 201) rfl rfl rfl rfl rfl rfl ?_
            refine T_ld 61 (.int (i32 v41)) rfl (fun _ => rfl) ?_
            refine T_iald 62 31 (m.2 31) rfl rfl rfl (by omega) (show v41 < (192 : Int) by omega) rfl ?_
            have e82 : 0 ≤ m.2 31 v41 ∧ m.2 31 v41 ≤ 4000 := hT.2.1 31 v41
            refine T_gf 66 (.ref 202) rfl rfl rfl rfl rfl rfl ?_
            refine T_ld 68 (.int (i32 v41)) rfl (fun _ => rfl) ?_
            refine T_iald 69 32 (m.2 32) rfl rfl rfl (by omega) (show v41 < (192 : Int) by omega) rfl ?_
            have e83 : 0 ≤ m.2 32 v41 ∧ m.2 32 v41 ≤ 4000 := hT.2.1 32 v41
            refine T_call 72 230 [.ref 189, .int (i32 ((m.2 31) v41)), .int (i32 ((m.2 32) v41))] [] rfl (fun _ => rfl) rfl (d_isHere w (mO m [] []) c N D (by omega) hT ((m.2 31) v41) ((m.2 32) v41) (r32 (by omega) (by omega)) (r32 (by omega) (by omega)) (show 0 ≤ ((m.2 31) v41) by omega) (show 0 ≤ ((m.2 32) v41) by omega) (show ((m.2 31) v41) + ((m.2 32) v41) ≤ 4000 by omega) (show 1 ≤ (m.1 9) ∧ (m.1 8) + (m.1 9) ≤ (m.1 6) by first | omega | (have h8 := hLx (by omega); omega))) (fun rr84 k85 => ?_)
            obtain ⟨x86, g87, h88, rfl⟩ := k85
            refine ⟨_, _, rfl, ?_⟩
            refine T_ns (st' := [.int (i32 x86)]) rfl ?_
            obtain ⟨g87a, g87b⟩ := g87
            replace h88 : (x86 = 1 ∧ sameN (m.2 4) (m.1 8) (m.1 9) ((m.2 31) v41) ((m.2 32) v41)) ∨ (x86 = 0 ∧ ¬ sameN (m.2 4) (m.1 8) (m.1 9) ((m.2 31) v41) ((m.2 32) v41)) := h88
            have hh := h88
            have u89 : (m.1 8) ≤ (m.1 8) := by omega
            refine T_if 80 75 rfl rfl rfl (r32 (by omega) (by omega)) (fun (h90 : x86 = 0) => ?_) (fun (h90 : ¬ (x86 = 0)) => ?_)
            · skip
              refine T_ld 81 (.int (i32 v40)) rfl (fun _ => rfl) ?_
              refine T_sto 82 [(3, .int (i32 v40)), (0, .ref 189), (1, .int (i32 i)), (2, .int (i32 ((m.2 34) i))), (4, .int (i32 v41))] rfl (fun _ => rfl) ?_
              refine T_iinc 85 [(4, .int (i32 (v41 + 1))), (3, .int (i32 v40)), (0, .ref 189), (1, .int (i32 i)), (2, .int (i32 ((m.2 34) i)))] rfl rfl (by decide) rfl rfl ?_
              refine T_goto 38 rfl (fun _ => rfl) ?_
              refine Tm_lv (a := [(0, .ref 189), (1, .int (i32 i)), (2, .int (i32 ((m.2 34) i))), (3, .int (i32 v40)), (4, .int (i32 (v41 + 1)))]) rfl rfl ⟨rfl, rfl, rfl, rfl, rfl, trivial⟩ ?_
              exact ih55 v40 (v41 + 1) (r32 (by omega) (by omega)) (r32 (by omega) (by omega)) (show (-1) ≤ v40 by omega) (show 0 ≤ (v41 + 1) by omega) (show (v41 + 1) ≤ (16 * ((m.2 34) i)) + ((m.2 29) ((m.2 34) i)) by omega) (show (-1) ≤ v40 by omega) (show v40 < (v41 + 1) by omega) (show 16 * ((m.2 34) i) ≤ (v41 + 1) by omega) (show v40 = -1 ∨ 16 * ((m.2 34) i) ≤ v40 by omega) (show ((16 * ((m.2 34) i)) + ((m.2 29) ((m.2 34) i))) - (v41 + 1) < (n53 : Int) by omega)
            · skip
              refine T_ld 77 (.int (i32 v41)) rfl (fun _ => rfl) ?_
              refine T_goto 81 rfl (fun _ => rfl) ?_
              refine T_sto 82 [(3, .int (i32 v41)), (0, .ref 189), (1, .int (i32 i)), (2, .int (i32 ((m.2 34) i))), (4, .int (i32 v41))] rfl (fun _ => rfl) ?_
              refine T_iinc 85 [(4, .int (i32 (v41 + 1))), (3, .int (i32 v41)), (0, .ref 189), (1, .int (i32 i)), (2, .int (i32 ((m.2 34) i)))] rfl rfl (by decide) rfl rfl ?_
              refine T_goto 38 rfl (fun _ => rfl) ?_
              refine Tm_lv (a := [(0, .ref 189), (1, .int (i32 i)), (2, .int (i32 ((m.2 34) i))), (3, .int (i32 v41)), (4, .int (i32 (v41 + 1)))]) rfl rfl ⟨rfl, rfl, rfl, rfl, rfl, trivial⟩ ?_
              exact ih55 v41 (v41 + 1) (r32 (by omega) (by omega)) (r32 (by omega) (by omega)) (show (-1) ≤ v41 by omega) (show 0 ≤ (v41 + 1) by omega) (show (v41 + 1) ≤ (16 * ((m.2 34) i)) + ((m.2 29) ((m.2 34) i)) by omega) (show (-1) ≤ v41 by omega) (show v41 < (v41 + 1) by omega) (show 16 * ((m.2 34) i) ≤ (v41 + 1) by omega) (show v41 = -1 ∨ 16 * ((m.2 34) i) ≤ v41 by omega) (show ((16 * ((m.2 34) i)) + ((m.2 29) ((m.2 34) i))) - (v41 + 1) < (n53 : Int) by omega)
      refine Tm_lv (a := [(0, .ref 189), (1, .int (i32 i)), (2, .int (i32 ((m.2 34) i))), (3, .int (i32 (-1))), (4, .int (i32 (16 * ((m.2 34) i))))]) rfl rfl ⟨rfl, rfl, rfl, rfl, rfl, trivial⟩ ?_
      exact L38_42 ((((16 * ((m.2 34) i)) + ((m.2 29) ((m.2 34) i))) - (16 * ((m.2 34) i)) : Int) + 1).toNat (-1) (16 * ((m.2 34) i)) ⟨by decide, by decide⟩ (r32 (by omega) (by omega)) (show (-1) ≤ (-1 : Int) by omega) (show 0 ≤ (16 * ((m.2 34) i)) by omega) (show (16 * ((m.2 34) i)) ≤ (16 * ((m.2 34) i)) + ((m.2 29) ((m.2 34) i)) by omega) (show (-1) ≤ (-1 : Int) by omega) (show (-1 : Int) < (16 * ((m.2 34) i)) by omega) (show 16 * ((m.2 34) i) ≤ (16 * ((m.2 34) i)) by omega) (show (-1 : Int) = -1 ∨ 16 * ((m.2 34) i) ≤ (-1 : Int) by omega) (show ((16 * ((m.2 34) i)) + ((m.2 29) ((m.2 34) i))) - (16 * ((m.2 34) i)) < ((((((16 * ((m.2 34) i)) + ((m.2 29) ((m.2 34) i))) - (16 * ((m.2 34) i)) : Int) + 1).toNat : Nat) : Int) by omega)
    · skip
      refine T_ld 27 (.ref 189) rfl (fun _ => rfl) ?_
      refine T_call 30 226 [.ref 189] [] rfl (fun _ => rfl) rfl (d_bad w (mO m [] []) c N D (by omega) hT ) (fun rr91 k92 => ?_)
      obtain ⟨m93, Tm93, Fm93, h94, rfl⟩ := k92
      refine ⟨_, _, rfl, ?_⟩
      refine T_nb (st' := []) rfl ?_
      have g95 : 0 ≤ m93.1 10 ∧ m93.1 10 ≤ 8 := Tm93.1 10
      have g96 : (-1) ≤ m93.1 11 ∧ m93.1 11 ≤ 4000 := Tm93.1 11
      replace h94 : (0 < (m.1 10) → (m93.1 10) = (m.1 10) ∧ (m93.1 11) = (m.1 11)) ∧ ((m.1 10) ≤ 0 → (m93.1 10) = 1 ∧ (m93.1 11) = (m.1 8)) := h94
      have hf97 : 1 ≤ (m93.1 10) := by omega
      refine T_ld 31 (.int (i32 0)) rfl (fun _ => rfl) ?_
      refine T_ret rfl (fun _ => rfl) ?_
      exact ⟨(mO m93 [] []), 0, Tm93, (fr_m (fr_s Fm93 (fr_m fr_0 rfl rfl) rfl rfl) rfl rfl), ⟨by omega, by omega⟩, (show (m93.1 10) = 0 → (m.1 10) = 0 by omega), (show LxP (m93.1 7) (m93.1 8) (m93.1 9) (m.1 6) (m93.1 10) by rewrite [(show (m93.1 7) = (m.1 7) from (fr1 Fm93 7 rfl)), (show (m93.1 8) = (m.1 8) from (fr1 Fm93 8 rfl)), (show (m93.1 9) = (m.1 9) from (fr1 Fm93 9 rfl))]; first | (first | exact hLx | exact (fun _ => hLx (by omega)) | (intro h9; exfalso; omega)) | (exfalso; omega)), (fun (h : (m93.1 10) = 0) => absurd h (by omega)), rfl⟩
  · skip
    clear hC
    refine T_gf 4 (.int (i32 (m.1 10))) rfl rfl rfl rfl rfl rfl ?_
    refine T_if 9 7 rfl rfl rfl (r32 (by omega) (by omega)) (fun (h98 : (m.1 10) ≤ 0) => by exfalso; omega) (fun (h98 : ¬ ((m.1 10) ≤ 0)) => ?_)
    refine T_ld 8 (.int (i32 0)) rfl (fun _ => rfl) ?_
    refine T_ret rfl (fun _ => rfl) ?_
    exact ⟨(mO m [] []), 0, hT, (fr_m fr_0 rfl rfl), ⟨by omega, by omega⟩, (show (m.1 10) = 0 → (m.1 10) = 0 by omega), (show LxP (m.1 7) (m.1 8) (m.1 9) (m.1 6) (m.1 10) by first | (first | exact hLx | exact (fun _ => hLx (by omega)) | (intro h9; exfalso; omega)) | (exfalso; omega)), (fun (h : (m.1 10) = 0) => absurd h (by omega)), rfl⟩
def fF_atom : List Nat := [69, 70, 71, 72, 75]
def fA_atom : List Nat := []
def Q_atom (m : mR) (c : Nat → Option am_C) (N : Nat) (b : Int) (p : Int) : ag_Re af_T → Prop := fun R => ∃ (M : mR), Ty M ∧ fr fF_atom fA_atom m M ∧ ((m.1 10) = 0 → (M.1 75) = 1 ∧ (M.1 69) = b) ∧ R = (.inl (none), (mhp M c, N), 0, 0)
set_option maxHeartbeats 3000000 in
theorem c_atom (w : wX) (m : mR) (c : Nat → Option am_C) (N D : Nat) (hD : 2 ≤ D) (hT : Ty m) (b : Int) (p : Int) (qb : R32 b) (qp : R32 p) (p0 : 0 ≤ b ∧ b ≤ 64) (p1 : 0 ≤ p ∧ p ≤ 4000) : TC w D 249 [.ref 189, .int (i32 b), .int (i32 p)] (mhp m c, N) (Q_atom m c N b p) := by
  obtain ⟨D, rfl⟩ : ∃ k, D = k + 1 := ⟨D - 1, by omega⟩
  obtain ⟨qba, qbb⟩ := id qb
  obtain ⟨qpa, qpb⟩ := id qp
  have f69 : 0 ≤ m.1 69 ∧ m.1 69 ≤ 1024 := hT.1 69
  have f75 : 0 ≤ m.1 75 ∧ m.1 75 ≤ 3 := hT.1 75
  have f10 : 0 ≤ m.1 10 ∧ m.1 10 ≤ 8 := hT.1 10
  refine Tc_of rfl ?_
  show TT w D pm_249 (0, [(0, .ref 189), (1, .int (i32 b)), (2, .int (i32 p))], [], (mhp (mO m [] []) c, N), 0, 0) (Q_atom m c N b p)
  refine T_gf 4 (.int (i32 (m.1 10))) rfl rfl rfl rfl rfl rfl ?_
  refine T_if 8 7 rfl rfl rfl (r32 (by omega) (by omega)) (fun (h1 : (m.1 10) ≤ 0) => ?_) (fun (h1 : ¬ ((m.1 10) ≤ 0)) => ?_)
  · skip
    refine T_ld 9 (.ref 189) rfl (fun _ => rfl) ?_
    refine T_ld 10 (.int (i32 b)) rfl (fun _ => rfl) ?_
    refine T_ld 11 (.int (i32 p)) rfl (fun _ => rfl) ?_
    refine T_call 14 250 [.ref 189, .int (i32 b), .int (i32 p)] [] rfl (fun _ => rfl) rfl (c_unit w (mO m [] []) c N D (by omega) hT b p (r32 (by omega) (by omega)) (r32 (by omega) (by omega)) (show 0 ≤ b ∧ b ≤ 1024 by omega) (show 0 ≤ p ∧ p ≤ 4000 by omega)) (fun rr2 k3 => ?_)
    obtain ⟨m4, Tm4, Fm4, h5, rfl⟩ := k3
    refine ⟨_, _, rfl, ?_⟩
    refine T_nb (st' := []) rfl ?_
    have g6 : 0 ≤ m4.1 69 ∧ m4.1 69 ≤ 1024 := Tm4.1 69
    replace h5 : (m4.1 69) = b := h5
    refine T_ld 15 (.ref 189) rfl (fun _ => rfl) ?_
    refine T_ld 16 (.int (i32 1)) rfl (fun _ => rfl) ?_
    refine T_pf (l' := [(75, 1)]) 19 1 rfl rfl rfl rfl rfl rfl ?_
    refine T_ret rfl (fun _ => rfl) ?_
    exact ⟨(mO m4 [(75, 1)] []), (Ty_mO Tm4 rfl rfl ⟨⟨(by omega : (0 : Int) ≤ 1), (by omega : (1 : Int) ≤ 3)⟩, trivial⟩ trivial), (fr_m (fr_s Fm4 (fr_m fr_0 rfl rfl) rfl rfl) rfl rfl), (show (m.1 10) = 0 → (1 : Int) = 1 ∧ (m4.1 69) = b by omega), rfl⟩
  · skip
    refine T_ret rfl (fun _ => rfl) ?_
    exact ⟨(mO m [] []), hT, (fr_m fr_0 rfl rfl), (show (m.1 10) = 0 → (m.1 75) = 1 ∧ (m.1 69) = b by omega), rfl⟩
