def fF_tx_fail : List Nat := [211, 212]
def fA_tx_fail : List Nat := []
def Q_tx_fail (m : mR) (c : Nat → Option am_C) (N : Nat) (k : Int) (p : Int) : ag_Re af_T → Prop := fun R => (∃ (M : mR), KTy M ∧ fr fF_tx_fail fA_tx_fail m M ∧ (False) ∧ R = (.inl (none), (khp M c, N), 0, 0)) ∨ (∃ (x : Nat) (M : mR), (x = 0) ∧ (KTy M) ∧ (fr fF_tx_fail fA_tx_fail m M) ∧ R = (.inr x, (khp M c, N), 1, 6))
set_option maxHeartbeats 3000000 in
theorem c_tx_fail (w : wX) (m : mR) (c : Nat → Option am_C) (N D : Nat) (hD : 6 ≤ D) (hT : KTy m) (k : Int) (p : Int) (qk : R32 k) (qp : R32 p) (p0 : 1 ≤ k ∧ k ≤ 8) (p1 : 0 ≤ p ∧ p ≤ 4001) : TC w D 51 [.ref 6, .int (i32 k), .int (i32 p)] (khp m c, N) (Q_tx_fail m c N k p) := by
  obtain ⟨D, rfl⟩ : ∃ k, D = k + 1 := ⟨D - 1, by omega⟩
  obtain ⟨qka, qkb⟩ := id qk
  obtain ⟨qpa, qpb⟩ := id qp
  have f207 : 0 ≤ m.1 207 ∧ m.1 207 ≤ 4001 := hT.1 207
  have f213 : 0 ≤ m.1 213 ∧ m.1 213 ≤ 1 := hT.1 213
  refine Tc_of rfl ?_
  rw [show (khp m c, N) = (khp (mO m [] []) c, N) from by rw [mO_nil m]]
  show TT w D pm_51 (0, [(0, .ref 6), (1, .int (i32 k)), (2, .int (i32 p))], [], (khp (mO m [] []) c, N), 0, 0) (Q_tx_fail m c N k p)
  refine T_ld 1 (.ref 6) rfl (fun _ => rfl) ?_
  refine K_gf 4 (.int (i32 (m.1 213))) rfl rfl kd_6 rfl rfl rfl ?_
  have J18_2 : ∀ (s1 : Int), (R32 s1) → (0 ≤ s1) → (s1 ≤ 1) → TT w D pm_51 (18, [(0, .ref 6), (1, .int (i32 k)), (2, .int (i32 p))], [.int (i32 s1)], (khp (mO m [] []) c, N), 0, 0) (Q_tx_fail m c N k p) := by
    intro s1 q5 ic3 ic4
    obtain ⟨q5a, q5b⟩ := id q5
    refine T_sto 19 [(3, .int (i32 s1)), (0, .ref 6), (1, .int (i32 k)), (2, .int (i32 p))] rfl (fun _ => rfl) ?_
    refine T_ld 20 (.ref 6) rfl (fun _ => rfl) ?_
    refine T_ld 21 (.int (i32 s1)) rfl (fun _ => rfl) ?_
    have J29_9 : ∀ (s8 : Int), (R32 s8) → (1 ≤ s8) → (s8 ≤ 8) → TT w D pm_51 (29, [(0, .ref 6), (2, .int (i32 p)), (3, .int (i32 s1))], [.int (i32 s8), .ref 6], (khp (mO m [] []) c, N), 0, 0) (Q_tx_fail m c N k p) := by
      intro s8 q12 ic10 ic11
      obtain ⟨q12a, q12b⟩ := id q12
      refine K_pf (l' := [(211, s8)]) 32 s8 rfl rfl kd_6 rfl rfl rfl rfl rfl rfl rfl ?_
      have g15 : 0 ≤ s8 ∧ s8 ≤ 8 := ⟨by omega, by omega⟩
      refine T_ld 33 (.ref 6) rfl (fun _ => rfl) ?_
      refine T_ld 34 (.int (i32 s1)) rfl (fun _ => rfl) ?_
      refine T_if 44 37 rfl rfl rfl (r32 (by omega) (by omega)) (fun (h16 : s1 = 0) => ?_) (fun (h16 : ¬ (s1 = 0)) => ?_)
      · skip
        refine T_ld 45 (.int (i32 p)) rfl (fun _ => rfl) ?_
        refine K_pf (l' := [(211, s8), (212, p)]) 48 p rfl rfl kd_6 rfl rfl rfl rfl rfl rfl rfl ?_
        have g17 : (-1) ≤ p ∧ p ≤ 4001 := ⟨by omega, by omega⟩
        refine T_thr rfl (by omega) rfl rfl ?_
        exact Or.inr ⟨0, (mO m [(211, s8), (212, p)] []), rfl, (KTy_mO hT rfl rfl ⟨g15, g17, trivial⟩ trivial), (fr_m fr_0 rfl rfl), rfl⟩
      · skip
        refine T_ld 38 (.ref 6) rfl (fun _ => rfl) ?_
        refine K_gf 41 (.int (i32 (m.1 207))) rfl rfl kd_6 rfl rfl rfl ?_
        refine T_goto 45 rfl (fun _ => rfl) ?_
        refine K_pf (l' := [(211, s8), (212, (m.1 207))]) 48 (m.1 207) rfl rfl kd_6 rfl rfl rfl rfl rfl rfl rfl ?_
        have g18 : (-1) ≤ (m.1 207) ∧ (m.1 207) ≤ 4001 := ⟨by omega, by omega⟩
        refine T_thr rfl (by omega) rfl rfl ?_
        exact Or.inr ⟨0, (mO m [(211, s8), (212, (m.1 207))] []), rfl, (KTy_mO hT rfl rfl ⟨g15, g18, trivial⟩ trivial), (fr_m fr_0 rfl rfl), rfl⟩
    refine T_if 28 24 rfl rfl rfl (r32 (by omega) (by omega)) (fun (h19 : s1 = 0) => ?_) (fun (h19 : ¬ (s1 = 0)) => ?_)
    · skip
      refine T_ld 29 (.int (i32 k)) rfl (fun _ => rfl) ?_
      refine Tm_lv (a := [(0, .ref 6), (2, .int (i32 p)), (3, .int (i32 s1))]) rfl rfl ⟨rfl, rfl, rfl, trivial⟩ ?_
      exact J29_9 k (r32 (by omega) (by omega)) (show 1 ≤ k by omega) (show k ≤ 8 by omega)
    · skip
      refine T_ld 25 (.int (i32 4)) rfl (fun _ => rfl) ?_
      refine T_goto 29 rfl (fun _ => rfl) ?_
      refine Tm_lv (a := [(0, .ref 6), (2, .int (i32 p)), (3, .int (i32 s1))]) rfl rfl ⟨rfl, rfl, rfl, trivial⟩ ?_
      exact J29_9 4 ⟨by decide, by decide⟩ (show 1 ≤ (4 : Int) by omega) (show (4 : Int) ≤ 8 by omega)
  refine T_if 17 7 rfl rfl rfl (r32 (by omega) (by omega)) (fun (h20 : (m.1 213) = 0) => ?_) (fun (h20 : ¬ ((m.1 213) = 0)) => ?_)
  · skip
    refine T_ld 18 (.int (i32 0)) rfl (fun _ => rfl) ?_
    exact J18_2 0 ⟨by decide, by decide⟩ (show 0 ≤ (0 : Int) by omega) (show (0 : Int) ≤ 1 by omega)
  · skip
    refine T_ld 8 (.int (i32 k)) rfl (fun _ => rfl) ?_
    refine T_ld 10 (.int (i32 7)) rfl (fun _ => rfl) ?_
    refine T_icmp 17 13 rfl rfl rfl (r32 (by omega) (by omega)) ⟨by decide, by decide⟩ (fun (h21 : (7 : Int) ≤ k) => ?_) (fun (h21 : ¬ ((7 : Int) ≤ k)) => ?_)
    · skip
      refine T_ld 18 (.int (i32 0)) rfl (fun _ => rfl) ?_
      exact J18_2 0 ⟨by decide, by decide⟩ (show 0 ≤ (0 : Int) by omega) (show (0 : Int) ≤ 1 by omega)
    · skip
      refine T_ld 14 (.int (i32 1)) rfl (fun _ => rfl) ?_
      refine T_goto 18 rfl (fun _ => rfl) ?_
      exact J18_2 1 ⟨by decide, by decide⟩ (show 0 ≤ (1 : Int) by omega) (show (1 : Int) ≤ 1 by omega)
def fF_tx_refuse : List Nat := [211, 212]
def fA_tx_refuse : List Nat := []
def Q_tx_refuse (m : mR) (c : Nat → Option am_C) (N : Nat) : ag_Re af_T → Prop := fun R => (∃ (M : mR), KTy M ∧ fr fF_tx_refuse fA_tx_refuse m M ∧ (False) ∧ R = (.inl (none), (khp M c, N), 0, 0)) ∨ (∃ (x : Nat) (M : mR), (x = 0) ∧ (KTy M) ∧ (fr fF_tx_refuse fA_tx_refuse m M) ∧ R = (.inr x, (khp M c, N), 1, 6))
set_option maxHeartbeats 3000000 in
theorem c_tx_refuse (w : wX) (m : mR) (c : Nat → Option am_C) (N D : Nat) (hD : 6 ≤ D) (hT : KTy m) : TC w D 76 [.ref 6] (khp m c, N) (Q_tx_refuse m c N) := by
  obtain ⟨D, rfl⟩ : ∃ k, D = k + 1 := ⟨D - 1, by omega⟩
  have f207 : 0 ≤ m.1 207 ∧ m.1 207 ≤ 4001 := hT.1 207
  have f213 : 0 ≤ m.1 213 ∧ m.1 213 ≤ 1 := hT.1 213
  refine Tc_of rfl ?_
  rw [show (khp m c, N) = (khp (mO m [] []) c, N) from by rw [mO_nil m]]
  show TT w D pm_76 (0, [(0, .ref 6)], [], (khp (mO m [] []) c, N), 0, 0) (Q_tx_refuse m c N)
  refine T_ld 1 (.ref 6) rfl (fun _ => rfl) ?_
  refine T_ld 2 (.ref 6) rfl (fun _ => rfl) ?_
  refine K_gf 5 (.int (i32 (m.1 213))) rfl rfl kd_6 rfl rfl rfl ?_
  refine T_if 12 8 rfl rfl rfl (r32 (by omega) (by omega)) (fun (h1 : (m.1 213) = 0) => ?_) (fun (h1 : ¬ ((m.1 213) = 0)) => ?_)
  · skip
    refine T_ld 13 (.int (i32 1)) rfl (fun _ => rfl) ?_
    refine K_pf (l' := [(211, 1)]) 16 1 rfl rfl kd_6 rfl rfl rfl rfl rfl rfl rfl ?_
    refine T_ld 17 (.ref 6) rfl (fun _ => rfl) ?_
    refine T_ld 18 (.ref 6) rfl (fun _ => rfl) ?_
    refine K_gf 21 (.int (i32 (m.1 207))) rfl rfl kd_6 rfl rfl rfl ?_
    refine K_pf (l' := [(211, 1), (212, (m.1 207))]) 24 (m.1 207) rfl rfl kd_6 rfl rfl rfl rfl rfl rfl rfl ?_
    have g2 : (-1) ≤ (m.1 207) ∧ (m.1 207) ≤ 4001 := ⟨by omega, by omega⟩
    refine T_thr rfl (by omega) rfl rfl ?_
    exact Or.inr ⟨0, (mO m [(211, 1), (212, (m.1 207))] []), rfl, (KTy_mO hT rfl rfl ⟨⟨(by omega : (0 : Int) ≤ 1), (by omega : (1 : Int) ≤ 8)⟩, g2, trivial⟩ trivial), (fr_m fr_0 rfl rfl), rfl⟩
  · skip
    refine T_ld 9 (.int (i32 4)) rfl (fun _ => rfl) ?_
    refine T_goto 13 rfl (fun _ => rfl) ?_
    refine K_pf (l' := [(211, 4)]) 16 4 rfl rfl kd_6 rfl rfl rfl rfl rfl rfl rfl ?_
    refine T_ld 17 (.ref 6) rfl (fun _ => rfl) ?_
    refine T_ld 18 (.ref 6) rfl (fun _ => rfl) ?_
    refine K_gf 21 (.int (i32 (m.1 207))) rfl rfl kd_6 rfl rfl rfl ?_
    refine K_pf (l' := [(211, 4), (212, (m.1 207))]) 24 (m.1 207) rfl rfl kd_6 rfl rfl rfl rfl rfl rfl rfl ?_
    have g3 : (-1) ≤ (m.1 207) ∧ (m.1 207) ≤ 4001 := ⟨by omega, by omega⟩
    refine T_thr rfl (by omega) rfl rfl ?_
    exact Or.inr ⟨0, (mO m [(211, 4), (212, (m.1 207))] []), rfl, (KTy_mO hT rfl rfl ⟨⟨(by omega : (0 : Int) ≤ 4), (by omega : (4 : Int) ≤ 8)⟩, g3, trivial⟩ trivial), (fr_m fr_0 rfl rfl), rfl⟩
def fF_tx_scanName : List Nat := [205, 209, 210]
def fA_tx_scanName : List Nat := []
def Q_tx_scanName (m : mR) (c : Nat → Option am_C) (N : Nat) : ag_Re af_T → Prop := fun R => (∃ (M : mR), KTy M ∧ fr fF_tx_scanName fA_tx_scanName m M ∧ ((m.1 205) ≤ (M.1 205)) ∧ R = (.inl (none), (khp M c, N), 0, 0))
set_option maxHeartbeats 3000000 in
theorem c_tx_scanName (w : wX) (m : mR) (c : Nat → Option am_C) (N D : Nat) (hD : 1 ≤ D) (hT : KTy m) (p0 : (m.1 207) ≤ (m.1 205)) : TC w D 52 [.ref 6] (khp m c, N) (Q_tx_scanName m c N) := by
  obtain ⟨D, rfl⟩ : ∃ k, D = k + 1 := ⟨D - 1, by omega⟩
  have f205 : 0 ≤ m.1 205 ∧ m.1 205 ≤ 4001 := hT.1 205
  have f209 : (-9223372036854775808) ≤ m.1 209 ∧ m.1 209 ≤ 9223372036854775807 := hT.1 209
  have f210 : (-9223372036854775808) ≤ m.1 210 ∧ m.1 210 ≤ 9223372036854775807 := hT.1 210
  have f204 : 0 ≤ m.1 204 ∧ m.1 204 ≤ 4000 := hT.1 204
  have f207 : 0 ≤ m.1 207 ∧ m.1 207 ≤ 4001 := hT.1 207
  refine Tc_of rfl ?_
  rw [show (khp m c, N) = (khp (mO m [] []) c, N) from by rw [mO_nil m]]
  show TT w D pm_52 (0, [(0, .ref 6)], [], (khp (mO m [] []) c, N), 0, 0) (Q_tx_scanName m c N)
  refine T_ld 1 (.ref 6) rfl (fun _ => rfl) ?_
  refine T_ld 2 (.long (i64 0)) rfl (fun _ => rfl) ?_
  refine K_pf (l' := [(209, 0)]) 5 0 rfl rfl kd_6 rfl rfl rfl rfl rfl rfl rfl ?_
  refine T_ld 6 (.ref 6) rfl (fun _ => rfl) ?_
  refine T_ld 7 (.long (i64 0)) rfl (fun _ => rfl) ?_
  refine K_pf (l' := [(209, 0), (210, 0)]) 10 0 rfl rfl kd_6 rfl rfl rfl rfl rfl rfl rfl ?_
  refine T_ld 11 (.int (i32 1)) rfl (fun _ => rfl) ?_
  refine T_sto 12 [(1, .int (i32 1)), (0, .ref 6)] rfl (fun _ => rfl) ?_
  refine K_fl (KTy_mO hT rfl rfl ⟨⟨(by omega : ((-9223372036854775808) : Int) ≤ 0), (by omega : (0 : Int) ≤ 9223372036854775807)⟩, ⟨(by omega : ((-9223372036854775808) : Int) ≤ 0), (by omega : (0 : Int) ≤ 9223372036854775807)⟩, trivial⟩ trivial) (fun m1 Tm1 Fm1 => ?_)
  have L12_4 : ∀ (n12 : Nat) (v2 : Int) (m3 : mR), (R32 v2) → KTy m3 → fr [205, 209, 210] [] (mO m1 [] []) m3 → (0 ≤ v2) → (v2 ≤ 1) → (v2 = 0 ∨ v2 = 1) → ((m.1 205) ≤ (m3.1 205)) → 2 * (4001 - (m3.1 205)) + v2 < (n12 : Int) → TT w D pm_52 (12, [(0, .ref 6), (1, .int (i32 v2))], [], (khp (mO m3 [] []) c, N), 0, 0) (Q_tx_scanName m c N) := by
    intro n12
    induction n12 with
    | zero =>
      intro v2 m3 q9 Tm3 Fm3 ic5 ic6 ic7 ic8 hmu
      obtain ⟨q9a, q9b⟩ := id q9
      have q10_205 : 0 ≤ m3.1 205 ∧ m3.1 205 ≤ 4001 := Tm3.1 205
      have q10_209 : (-9223372036854775808) ≤ m3.1 209 ∧ m3.1 209 ≤ 9223372036854775807 := Tm3.1 209
      have q10_210 : (-9223372036854775808) ≤ m3.1 210 ∧ m3.1 210 ≤ 9223372036854775807 := Tm3.1 210
      exfalso
      omega
    | succ n12 ih =>
      intro v2 m3 q9 Tm3 Fm3 ic5 ic6 ic7 ic8 hmu
      obtain ⟨q9a, q9b⟩ := id q9
      have q10_205 : 0 ≤ m3.1 205 ∧ m3.1 205 ≤ 4001 := Tm3.1 205
      have q10_209 : (-9223372036854775808) ≤ m3.1 209 ∧ m3.1 209 ≤ 9223372036854775807 := Tm3.1 209
      have q10_210 : (-9223372036854775808) ≤ m3.1 210 ∧ m3.1 210 ≤ 9223372036854775807 := Tm3.1 210
      have ih13 := ih
      refine T_ld 13 (.int (i32 v2)) rfl (fun _ => rfl) ?_
      refine T_if 164 16 rfl rfl rfl (r32 (by omega) (by omega)) (fun (h14 : v2 = 0) => ?_) (fun (h14 : ¬ (v2 = 0)) => ?_)
      · skip
        refine T_ret rfl (fun _ => rfl) ?_
        exact ⟨(mO m3 [] []), Tm3, (fr_m (fr_s Fm3 (fr_m (fr_s Fm1 (fr_m fr_0 rfl rfl) rfl rfl) rfl rfl) rfl rfl) rfl rfl), (show (m.1 205) ≤ (m3.1 205) by omega), rfl⟩
      · skip
        refine T_ld 17 (.ref 6) rfl (fun _ => rfl) ?_
        refine K_gf 20 (.int (i32 (m3.1 205))) rfl rfl kd_6 rfl rfl rfl ?_
        refine T_ld 21 (.ref 6) rfl (fun _ => rfl) ?_
        refine K_gf 24 (.int (i32 (m.1 204))) rfl rfl kd_6 rfl (kval_c2 (k := 204) (F := fun x => .int (i32 x)) rfl (show (m3.1 204) = (m.1 204) from ((fr1 Fm3 204 rfl).trans (fr1 Fm1 204 rfl)))) rfl ?_
        refine T_icmp 164 27 rfl rfl rfl (r32 (by omega) (by omega)) (r32 (by omega) (by omega)) (fun (h15 : (m.1 204) ≤ (m3.1 205)) => ?_) (fun (h15 : ¬ ((m.1 204) ≤ (m3.1 205))) => ?_)
        · skip
          refine T_ret rfl (fun _ => rfl) ?_
          exact ⟨(mO m3 [] []), Tm3, (fr_m (fr_s Fm3 (fr_m (fr_s Fm1 (fr_m fr_0 rfl rfl) rfl rfl) rfl rfl) rfl rfl) rfl rfl), (show (m.1 205) ≤ (m3.1 205) by omega), rfl⟩
        · skip
          refine T_ld 28 (.ref 6) rfl (fun _ => rfl) ?_
          refine K_gf 31 (.ref 2) rfl rfl kd_6 rfl rfl rfl ?_
          refine T_ld 32 (.ref 6) rfl (fun _ => rfl) ?_
          refine K_gf 35 (.int (i32 (m3.1 205))) rfl rfl kd_6 rfl rfl rfl ?_
          refine K_bald 36 1 (m.2 1) rfl rfl rfl (by omega) (show (m3.1 205) < (4000 : Int) by omega) (show (m3.2 1) = (m.2 1) from ((fr2 Fm3 1 rfl).trans (fr2 Fm1 1 rfl))) ?_
          have e16 : (-128) ≤ m.2 1 (m3.1 205) ∧ m.2 1 (m3.1 205) ≤ 127 := hT.2.1 1 (m3.1 205)
          refine T_sto 37 [(2, .int (i32 ((m.2 1) (m3.1 205)))), (0, .ref 6), (1, .int (i32 v2))] rfl (fun _ => rfl) ?_
          refine T_ld 38 (.int (i32 ((m.2 1) (m3.1 205)))) rfl (fun _ => rfl) ?_
          refine T_ld 40 (.int (i32 97)) rfl (fun _ => rfl) ?_
          have J72_18 : ∀ (s17 : Int), (R32 s17) → (0 ≤ s17) → (s17 ≤ 1) → TT w D pm_52 (72, [(0, .ref 6), (2, .int (i32 ((m.2 1) (m3.1 205))))], [.int (i32 s17)], (khp (mO m3 [] []) c, N), 0, 0) (Q_tx_scanName m c N) := by
            intro s17 q21 ic19 ic20
            obtain ⟨q21a, q21b⟩ := id q21
            refine T_sto 73 [(1, .int (i32 s17)), (0, .ref 6), (2, .int (i32 ((m.2 1) (m3.1 205))))] rfl (fun _ => rfl) ?_
            refine T_ld 74 (.int (i32 s17)) rfl (fun _ => rfl) ?_
            refine T_if 161 77 rfl rfl rfl (r32 (by omega) (by omega)) (fun (h24 : s17 = 0) => ?_) (fun (h24 : ¬ (s17 = 0)) => ?_)
            · skip
              refine T_goto 12 rfl (fun _ => rfl) ?_
              refine Tm_lv (a := [(0, .ref 6), (1, .int (i32 s17))]) rfl rfl ⟨rfl, rfl, trivial⟩ ?_
              exact ih13 s17 (mO m3 [] []) (r32 (by omega) (by omega)) Tm3 (fr_m (fr_s Fm3 (fr_m fr_0 rfl rfl) rfl rfl) rfl rfl) (show 0 ≤ s17 by omega) (show s17 ≤ 1 by omega) (show s17 = 0 ∨ s17 = 1 by omega) (show (m.1 205) ≤ (m3.1 205) by omega) (show 2 * (4001 - (m3.1 205)) + s17 < (n12 : Int) by omega)
            · skip
              refine T_ld 78 (.ref 6) rfl (fun _ => rfl) ?_
              refine K_gf 81 (.int (i32 (m3.1 205))) rfl rfl kd_6 rfl rfl rfl ?_
              refine T_ld 82 (.ref 6) rfl (fun _ => rfl) ?_
              refine K_gf 85 (.int (i32 (m.1 207))) rfl rfl kd_6 rfl (kval_c2 (k := 207) (F := fun x => .int (i32 x)) rfl (show (m3.1 207) = (m.1 207) from ((fr1 Fm3 207 rfl).trans (fr1 Fm1 207 rfl)))) rfl ?_
              refine T_isub 86 rfl rfl ?_
              refine T_sto 87 [(3, .int (i32 ((m3.1 205) - (m.1 207)))), (1, .int (i32 s17)), (0, .ref 6), (2, .int (i32 ((m.2 1) (m3.1 205))))] rfl (fun _ => rfl) ?_
              refine T_ld 88 (.ref 6) rfl (fun _ => rfl) ?_
              refine T_ld 89 (.ref 6) rfl (fun _ => rfl) ?_
              refine K_gf 92 (.long (i64 (m3.1 209))) rfl rfl kd_6 rfl rfl rfl ?_
              refine T_ld 93 (.int (i32 ((m3.1 205) - (m.1 207)))) rfl (fun _ => rfl) ?_
              refine T_ld 95 (.int (i32 8)) rfl (fun _ => rfl) ?_
              have J112_26 : ∀ (s25 : Int), (R64 s25) → TT w D pm_52 (112, [(0, .ref 6), (1, .int (i32 s17)), (2, .int (i32 ((m.2 1) (m3.1 205)))), (3, .int (i32 ((m3.1 205) - (m.1 207))))], [.long (i64 s25), .long (i64 (m3.1 209)), .ref 6], (khp (mO m3 [] []) c, N), 0, 0) (Q_tx_scanName m c N) := by
                intro s25 q27
                obtain ⟨q27a, q27b⟩ := id q27
                refine T_lhv 113 _ rfl (fun _ => rfl) (fun z30 h31 => ?_)
                obtain ⟨h31a, h31b⟩ := h31
                refine K_pf (l' := [(209, z30)]) 116 z30 rfl rfl kd_6 rfl rfl rfl rfl rfl rfl rfl ?_
                have g32 : (-9223372036854775808) ≤ z30 ∧ z30 ≤ 9223372036854775807 := ⟨by omega, by omega⟩
                refine T_ld 117 (.ref 6) rfl (fun _ => rfl) ?_
                refine T_ld 118 (.ref 6) rfl (fun _ => rfl) ?_
                refine K_gf 121 (.long (i64 (m3.1 210))) rfl rfl kd_6 rfl rfl rfl ?_
                refine T_ld 122 (.int (i32 ((m3.1 205) - (m.1 207)))) rfl (fun _ => rfl) ?_
                refine T_ld 124 (.int (i32 8)) rfl (fun _ => rfl) ?_
                have J147_34 : ∀ (s33 : Int), (R64 s33) → TT w D pm_52 (147, [(0, .ref 6), (1, .int (i32 s17))], [.long (i64 s33), .long (i64 (m3.1 210)), .ref 6], (khp (mO m3 [(209, z30)] []) c, N), 0, 0) (Q_tx_scanName m c N) := by
                  intro s33 q35
                  obtain ⟨q35a, q35b⟩ := id q35
                  refine T_lhv 148 _ rfl (fun _ => rfl) (fun z38 h39 => ?_)
                  obtain ⟨h39a, h39b⟩ := h39
                  refine K_pf (l' := [(209, z30), (210, z38)]) 151 z38 rfl rfl kd_6 rfl rfl rfl rfl rfl rfl rfl ?_
                  have g40 : (-9223372036854775808) ≤ z38 ∧ z38 ≤ 9223372036854775807 := ⟨by omega, by omega⟩
                  refine T_ld 152 (.ref 6) rfl (fun _ => rfl) ?_
                  refine T_ld 153 (.ref 6) rfl (fun _ => rfl) ?_
                  refine K_gf 156 (.int (i32 (m3.1 205))) rfl rfl kd_6 rfl rfl rfl ?_
                  refine T_ld 157 (.int (i32 1)) rfl (fun _ => rfl) ?_
                  refine T_iadd 158 rfl rfl ?_
                  refine K_pf (l' := [(205, (m3.1 205) + 1), (209, z30), (210, z38)]) 161 ((m3.1 205) + 1) rfl rfl kd_6 rfl rfl rfl rfl rfl rfl rfl ?_
                  have g41 : 0 ≤ (m3.1 205) + 1 ∧ (m3.1 205) + 1 ≤ 4001 := ⟨by omega, by omega⟩
                  refine T_goto 12 rfl (fun _ => rfl) ?_
                  exact ih13 s17 (mO m3 [(205, (m3.1 205) + 1), (209, z30), (210, z38)] []) (r32 (by omega) (by omega)) (KTy_mO Tm3 rfl rfl ⟨g41, g32, g40, trivial⟩ trivial) (fr_m (fr_s Fm3 (fr_m fr_0 rfl rfl) rfl rfl) rfl rfl) (show 0 ≤ s17 by omega) (show s17 ≤ 1 by omega) (show s17 = 0 ∨ s17 = 1 by omega) (show (m.1 205) ≤ ((m3.1 205) + 1) by omega) (show 2 * (4001 - ((m3.1 205) + 1)) + s17 < (n12 : Int) by omega)
                refine T_icmp 146 127 rfl rfl rfl (r32 (by omega) (by omega)) ⟨by decide, by decide⟩ (fun (h42 : (m3.1 205) - (m.1 207) < 8) => ?_) (fun (h42 : ¬ ((m3.1 205) - (m.1 207) < 8)) => ?_)
                · skip
                  refine T_ld 147 (.long (i64 0)) rfl (fun _ => rfl) ?_
                  refine Tm_lv (a := [(0, .ref 6), (1, .int (i32 s17))]) rfl rfl ⟨rfl, rfl, trivial⟩ ?_
                  exact J147_34 0 ⟨by decide, by decide⟩
                · skip
                  refine T_ld 128 (.int (i32 ((m3.1 205) - (m.1 207)))) rfl (fun _ => rfl) ?_
                  refine T_ld 130 (.int (i32 16)) rfl (fun _ => rfl) ?_
                  refine T_icmp 146 133 rfl rfl rfl (r32 (by omega) (by omega)) ⟨by decide, by decide⟩ (fun (h43 : (16 : Int) ≤ (m3.1 205) - (m.1 207)) => ?_) (fun (h43 : ¬ ((16 : Int) ≤ (m3.1 205) - (m.1 207))) => ?_)
                  · skip
                    refine T_ld 147 (.long (i64 0)) rfl (fun _ => rfl) ?_
                    refine Tm_lv (a := [(0, .ref 6), (1, .int (i32 s17))]) rfl rfl ⟨rfl, rfl, trivial⟩ ?_
                    exact J147_34 0 ⟨by decide, by decide⟩
                  · skip
                    refine T_ld 134 (.int (i32 ((m.2 1) (m3.1 205)))) rfl (fun _ => rfl) ?_
                    refine T_i2l 135 rfl rfl (r32 (by omega) (by omega)) ?_
                    refine T_ld 137 (.int (i32 120)) rfl (fun _ => rfl) ?_
                    refine T_ld 139 (.int (i32 8)) rfl (fun _ => rfl) ?_
                    refine T_ld 140 (.int (i32 ((m3.1 205) - (m.1 207)))) rfl (fun _ => rfl) ?_
                    refine T_imul 141 rfl rfl ?_
                    refine T_isub 142 rfl rfl ?_
                    refine T_lhv 143 _ rfl (fun _ => rfl) (fun z44 h45 => ?_)
                    obtain ⟨h45a, h45b⟩ := h45
                    refine T_goto 147 rfl (fun _ => rfl) ?_
                    refine Tm_lv (a := [(0, .ref 6), (1, .int (i32 s17))]) rfl rfl ⟨rfl, rfl, trivial⟩ ?_
                    exact J147_34 z44 (r64 (by omega) (by omega))
              refine T_icmp 111 98 rfl rfl rfl (r32 (by omega) (by omega)) ⟨by decide, by decide⟩ (fun (h46 : (8 : Int) ≤ (m3.1 205) - (m.1 207)) => ?_) (fun (h46 : ¬ ((8 : Int) ≤ (m3.1 205) - (m.1 207))) => ?_)
              · skip
                refine T_ld 112 (.long (i64 0)) rfl (fun _ => rfl) ?_
                refine Tm_lv (a := [(0, .ref 6), (1, .int (i32 s17)), (2, .int (i32 ((m.2 1) (m3.1 205)))), (3, .int (i32 ((m3.1 205) - (m.1 207))))]) rfl rfl ⟨rfl, rfl, rfl, rfl, trivial⟩ ?_
                exact J112_26 0 ⟨by decide, by decide⟩
              · skip
                refine T_ld 99 (.int (i32 ((m.2 1) (m3.1 205)))) rfl (fun _ => rfl) ?_
                refine T_i2l 100 rfl rfl (r32 (by omega) (by omega)) ?_
                refine T_ld 102 (.int (i32 56)) rfl (fun _ => rfl) ?_
                refine T_ld 104 (.int (i32 8)) rfl (fun _ => rfl) ?_
                refine T_ld 105 (.int (i32 ((m3.1 205) - (m.1 207)))) rfl (fun _ => rfl) ?_
                refine T_imul 106 rfl rfl ?_
                refine T_isub 107 rfl rfl ?_
                refine T_lhv 108 _ rfl (fun _ => rfl) (fun z47 h48 => ?_)
                obtain ⟨h48a, h48b⟩ := h48
                refine T_goto 112 rfl (fun _ => rfl) ?_
                refine Tm_lv (a := [(0, .ref 6), (1, .int (i32 s17)), (2, .int (i32 ((m.2 1) (m3.1 205)))), (3, .int (i32 ((m3.1 205) - (m.1 207))))]) rfl rfl ⟨rfl, rfl, rfl, rfl, trivial⟩ ?_
                exact J112_26 z47 (r64 (by omega) (by omega))
          refine T_icmp 49 43 rfl rfl rfl (r32 (by omega) (by omega)) ⟨by decide, by decide⟩ (fun (h49 : (m.2 1) (m3.1 205) < 97) => ?_) (fun (h49 : ¬ ((m.2 1) (m3.1 205) < 97)) => ?_)
          · skip
            refine T_ld 50 (.int (i32 ((m.2 1) (m3.1 205)))) rfl (fun _ => rfl) ?_
            refine T_ld 52 (.int (i32 48)) rfl (fun _ => rfl) ?_
            refine T_icmp 61 55 rfl rfl rfl (r32 (by omega) (by omega)) ⟨by decide, by decide⟩ (fun (h50 : (m.2 1) (m3.1 205) < 48) => ?_) (fun (h50 : ¬ ((m.2 1) (m3.1 205) < 48)) => ?_)
            · skip
              refine T_ld 62 (.int (i32 ((m.2 1) (m3.1 205)))) rfl (fun _ => rfl) ?_
              refine T_ld 64 (.int (i32 95)) rfl (fun _ => rfl) ?_
              refine T_icmp 71 67 rfl rfl rfl (r32 (by omega) (by omega)) ⟨by decide, by decide⟩ (fun (h51 : (m.2 1) (m3.1 205) ≠ 95) => ?_) (fun (h51 : ¬ ((m.2 1) (m3.1 205) ≠ 95)) => by exfalso; omega)
              refine T_ld 72 (.int (i32 0)) rfl (fun _ => rfl) ?_
              refine Tm_lv (a := [(0, .ref 6), (2, .int (i32 ((m.2 1) (m3.1 205))))]) rfl rfl ⟨rfl, rfl, trivial⟩ ?_
              exact J72_18 0 ⟨by decide, by decide⟩ (show 0 ≤ (0 : Int) by omega) (show (0 : Int) ≤ 1 by omega)
            · skip
              refine T_ld 56 (.int (i32 ((m.2 1) (m3.1 205)))) rfl (fun _ => rfl) ?_
              refine T_ld 58 (.int (i32 57)) rfl (fun _ => rfl) ?_
              refine T_icmp 67 61 rfl rfl rfl (r32 (by omega) (by omega)) ⟨by decide, by decide⟩ (fun (h52 : (m.2 1) (m3.1 205) ≤ 57) => ?_) (fun (h52 : ¬ ((m.2 1) (m3.1 205) ≤ 57)) => ?_)
              · skip
                refine T_ld 68 (.int (i32 1)) rfl (fun _ => rfl) ?_
                refine T_goto 72 rfl (fun _ => rfl) ?_
                refine Tm_lv (a := [(0, .ref 6), (2, .int (i32 ((m.2 1) (m3.1 205))))]) rfl rfl ⟨rfl, rfl, trivial⟩ ?_
                exact J72_18 1 ⟨by decide, by decide⟩ (show 0 ≤ (1 : Int) by omega) (show (1 : Int) ≤ 1 by omega)
              · skip
                refine T_ld 62 (.int (i32 ((m.2 1) (m3.1 205)))) rfl (fun _ => rfl) ?_
                refine T_ld 64 (.int (i32 95)) rfl (fun _ => rfl) ?_
                refine T_icmp 71 67 rfl rfl rfl (r32 (by omega) (by omega)) ⟨by decide, by decide⟩ (fun (h53 : (m.2 1) (m3.1 205) ≠ 95) => ?_) (fun (h53 : ¬ ((m.2 1) (m3.1 205) ≠ 95)) => ?_)
                · skip
                  refine T_ld 72 (.int (i32 0)) rfl (fun _ => rfl) ?_
                  refine Tm_lv (a := [(0, .ref 6), (2, .int (i32 ((m.2 1) (m3.1 205))))]) rfl rfl ⟨rfl, rfl, trivial⟩ ?_
                  exact J72_18 0 ⟨by decide, by decide⟩ (show 0 ≤ (0 : Int) by omega) (show (0 : Int) ≤ 1 by omega)
                · skip
                  refine T_ld 68 (.int (i32 1)) rfl (fun _ => rfl) ?_
                  refine T_goto 72 rfl (fun _ => rfl) ?_
                  refine Tm_lv (a := [(0, .ref 6), (2, .int (i32 ((m.2 1) (m3.1 205))))]) rfl rfl ⟨rfl, rfl, trivial⟩ ?_
                  exact J72_18 1 ⟨by decide, by decide⟩ (show 0 ≤ (1 : Int) by omega) (show (1 : Int) ≤ 1 by omega)
          · skip
            refine T_ld 44 (.int (i32 ((m.2 1) (m3.1 205)))) rfl (fun _ => rfl) ?_
            refine T_ld 46 (.int (i32 122)) rfl (fun _ => rfl) ?_
            refine T_icmp 67 49 rfl rfl rfl (r32 (by omega) (by omega)) ⟨by decide, by decide⟩ (fun (h54 : (m.2 1) (m3.1 205) ≤ 122) => ?_) (fun (h54 : ¬ ((m.2 1) (m3.1 205) ≤ 122)) => ?_)
            · skip
              refine T_ld 68 (.int (i32 1)) rfl (fun _ => rfl) ?_
              refine T_goto 72 rfl (fun _ => rfl) ?_
              refine Tm_lv (a := [(0, .ref 6), (2, .int (i32 ((m.2 1) (m3.1 205))))]) rfl rfl ⟨rfl, rfl, trivial⟩ ?_
              exact J72_18 1 ⟨by decide, by decide⟩ (show 0 ≤ (1 : Int) by omega) (show (1 : Int) ≤ 1 by omega)
            · skip
              refine T_ld 50 (.int (i32 ((m.2 1) (m3.1 205)))) rfl (fun _ => rfl) ?_
              refine T_ld 52 (.int (i32 48)) rfl (fun _ => rfl) ?_
              refine T_icmp 61 55 rfl rfl rfl (r32 (by omega) (by omega)) ⟨by decide, by decide⟩ (fun (h55 : (m.2 1) (m3.1 205) < 48) => by exfalso; omega) (fun (h55 : ¬ ((m.2 1) (m3.1 205) < 48)) => ?_)
              refine T_ld 56 (.int (i32 ((m.2 1) (m3.1 205)))) rfl (fun _ => rfl) ?_
              refine T_ld 58 (.int (i32 57)) rfl (fun _ => rfl) ?_
              refine T_icmp 67 61 rfl rfl rfl (r32 (by omega) (by omega)) ⟨by decide, by decide⟩ (fun (h56 : (m.2 1) (m3.1 205) ≤ 57) => by exfalso; omega) (fun (h56 : ¬ ((m.2 1) (m3.1 205) ≤ 57)) => ?_)
              refine T_ld 62 (.int (i32 ((m.2 1) (m3.1 205)))) rfl (fun _ => rfl) ?_
              refine T_ld 64 (.int (i32 95)) rfl (fun _ => rfl) ?_
              refine T_icmp 71 67 rfl rfl rfl (r32 (by omega) (by omega)) ⟨by decide, by decide⟩ (fun (h57 : (m.2 1) (m3.1 205) ≠ 95) => ?_) (fun (h57 : ¬ ((m.2 1) (m3.1 205) ≠ 95)) => by exfalso; omega)
              refine T_ld 72 (.int (i32 0)) rfl (fun _ => rfl) ?_
              refine Tm_lv (a := [(0, .ref 6), (2, .int (i32 ((m.2 1) (m3.1 205))))]) rfl rfl ⟨rfl, rfl, trivial⟩ ?_
              exact J72_18 0 ⟨by decide, by decide⟩ (show 0 ≤ (0 : Int) by omega) (show (0 : Int) ≤ 1 by omega)
  refine Tm_lv (a := [(0, .ref 6), (1, .int (i32 1))]) rfl rfl ⟨rfl, rfl, trivial⟩ ?_
  exact L12_4 ((2 * (4001 - (m.1 205)) + (1 : Int) : Int) + 1).toNat 1 (mO m1 [] []) ⟨by decide, by decide⟩ Tm1 (fr_m fr_0 rfl rfl) (show 0 ≤ (1 : Int) by omega) (show (1 : Int) ≤ 1 by omega) (show (1 : Int) = 0 ∨ (1 : Int) = 1 by omega) (show (m.1 205) ≤ (m1.1 205) by rewrite [(show (m1.1 205) = (m.1 205) from (fr1 Fm1 205 rfl))]; omega) (show 2 * (4001 - (m1.1 205)) + (1 : Int) < ((((2 * (4001 - (m.1 205)) + (1 : Int) : Int) + 1).toNat : Nat) : Int) by rewrite [(show (m1.1 205) = (m.1 205) from (fr1 Fm1 205 rfl))]; omega)
def Q_tx_wordOfName (m : mR) (c : Nat → Option am_C) (N : Nat) : ag_Re af_T → Prop := fun R => (∃ (r : Int), (256 ≤ r ∧ r ≤ 330) ∧ R = (.inl (some (.int (i32 r))), (khp m c, N), 0, 0))
set_option maxHeartbeats 3000000 in
theorem c_tx_wordOfName (w : wX) (m : mR) (c : Nat → Option am_C) (N D : Nat) (hD : 1 ≤ D) (hT : KTy m) : TC w D 53 [.ref 6] (khp m c, N) (Q_tx_wordOfName m c N) := by
  obtain ⟨D, rfl⟩ : ∃ k, D = k + 1 := ⟨D - 1, by omega⟩
  have f209 : (-9223372036854775808) ≤ m.1 209 ∧ m.1 209 ≤ 9223372036854775807 := hT.1 209
  have f210 : (-9223372036854775808) ≤ m.1 210 ∧ m.1 210 ≤ 9223372036854775807 := hT.1 210
  refine Tc_of rfl ?_
  rw [show (khp m c, N) = (khp (mO m [] []) c, N) from by rw [mO_nil m]]
  show TT w D pm_53 (0, [(0, .ref 6)], [], (khp (mO m [] []) c, N), 0, 0) (Q_tx_wordOfName m c N)
  refine T_ld 1 (.int (i32 0)) rfl (fun _ => rfl) ?_
  refine T_sto 2 [(1, .int (i32 0)), (0, .ref 6)] rfl (fun _ => rfl) ?_
  have L2_2 : ∀ (n7 : Nat) (v1 : Int), (R32 v1) → (0 ≤ v1) → (v1 ≤ 31) → 31 - v1 < (n7 : Int) → TT w D pm_53 (2, [(0, .ref 6), (1, .int (i32 v1))], [], (khp (mO m [] []) c, N), 0, 0) (Q_tx_wordOfName m c N) := by
    intro n7
    induction n7 with
    | zero =>
      intro v1 q5 ic3 ic4 hmu
      obtain ⟨q5a, q5b⟩ := id q5
      exfalso
      omega
    | succ n7 ih =>
      intro v1 q5 ic3 ic4 hmu
      obtain ⟨q5a, q5b⟩ := id q5
      have ih8 := ih
      refine T_ld 3 (.int (i32 v1)) rfl (fun _ => rfl) ?_
      refine T_ld 5 (.int (i32 31)) rfl (fun _ => rfl) ?_
      refine T_icmp 43 8 rfl rfl rfl (r32 (by omega) (by omega)) ⟨by decide, by decide⟩ (fun (h9 : (31 : Int) ≤ v1) => ?_) (fun (h9 : ¬ ((31 : Int) ≤ v1)) => ?_)
      · skip
        refine T_ld 46 (.int (i32 256)) rfl (fun _ => rfl) ?_
        refine T_ret rfl (fun _ => rfl) ?_
        exact ⟨256, ⟨by omega, by omega⟩, rfl⟩
      · skip
        refine T_ld 9 (.ref 6) rfl (fun _ => rfl) ?_
        refine K_gf 12 (.long (i64 (m.1 210))) rfl rfl kd_6 rfl rfl rfl ?_
        refine T_ld 13 (.long (i64 0)) rfl (fun _ => rfl) ?_
        refine T_lcmp 14 rfl rfl (r64 (by omega) (by omega)) ⟨by decide, by decide⟩ (fun z10 h11 => ?_)
        obtain ⟨h11a, h11b, h11c, h11d, h11e⟩ := h11
        refine T_if 43 17 rfl rfl rfl (r32 (by omega) (by omega)) (fun (h12 : z10 ≠ 0) => ?_) (fun (h12 : ¬ (z10 ≠ 0)) => ?_)
        · skip
          have hl13 : (m.1 210) ≠ 0 := by omega
          refine T_ld 46 (.int (i32 256)) rfl (fun _ => rfl) ?_
          refine T_ret rfl (fun _ => rfl) ?_
          exact ⟨256, ⟨by omega, by omega⟩, rfl⟩
        · skip
          have hl14 : (m.1 210) = 0 := by omega
          refine T_ld 18 (.ref 6) rfl (fun _ => rfl) ?_
          refine K_gf 21 (.ref 7) rfl rfl kd_6 rfl rfl rfl ?_
          refine T_ld 22 (.int (i32 v1)) rfl (fun _ => rfl) ?_
          refine K_lald 23 5 (m.2 5) rfl rfl rfl (by omega) (show v1 < (31 : Int) by omega) rfl ?_
          have e15 : (-9223372036854775808) ≤ m.2 5 v1 ∧ m.2 5 v1 ≤ 9223372036854775807 := hT.2.1 5 v1
          refine T_ld 24 (.ref 6) rfl (fun _ => rfl) ?_
          refine K_gf 27 (.long (i64 (m.1 209))) rfl rfl kd_6 rfl rfl rfl ?_
          refine T_lcmp 28 rfl rfl (r64 (by omega) (by omega)) (r64 (by omega) (by omega)) (fun z16 h17 => ?_)
          obtain ⟨h17a, h17b, h17c, h17d, h17e⟩ := h17
          refine T_if 37 31 rfl rfl rfl (r32 (by omega) (by omega)) (fun (h18 : z16 ≠ 0) => ?_) (fun (h18 : ¬ (z16 ≠ 0)) => ?_)
          · skip
            have hl19 : (m.2 5) v1 ≠ (m.1 209) := by omega
            refine T_iinc 40 [(1, .int (i32 (v1 + 1))), (0, .ref 6)] rfl rfl (by decide) rfl rfl ?_
            refine T_goto 2 rfl (fun _ => rfl) ?_
            refine Tm_lv (a := [(0, .ref 6), (1, .int (i32 (v1 + 1)))]) rfl rfl ⟨rfl, rfl, trivial⟩ ?_
            exact ih8 (v1 + 1) (r32 (by omega) (by omega)) (show 0 ≤ (v1 + 1) by omega) (show (v1 + 1) ≤ 31 by omega) (show 31 - (v1 + 1) < (n7 : Int) by omega)
          · skip
            have hl20 : (m.2 5) v1 = (m.1 209) := by omega
            refine T_ld 34 (.int (i32 300)) rfl (fun _ => rfl) ?_
            refine T_ld 35 (.int (i32 v1)) rfl (fun _ => rfl) ?_
            refine T_iadd 36 rfl rfl ?_
            refine T_ret rfl (fun _ => rfl) ?_
            exact ⟨300 + v1, ⟨by omega, by omega⟩, rfl⟩
  refine Tm_lv (a := [(0, .ref 6), (1, .int (i32 0))]) rfl rfl ⟨rfl, rfl, trivial⟩ ?_
  exact L2_2 ((31 - (0 : Int) : Int) + 1).toNat 0 ⟨by decide, by decide⟩ (show 0 ≤ (0 : Int) by omega) (show (0 : Int) ≤ 31 by omega) (show 31 - (0 : Int) < ((((31 - (0 : Int) : Int) + 1).toNat : Nat) : Int) by omega)
def Q_tx_find (m : mR) (c : Nat → Option am_C) (N : Nat) : ag_Re af_T → Prop := fun R => (∃ (r : Int), ((-1) ≤ r ∧ r ≤ 89) ∧ (r < (m.1 203)) ∧ R = (.inl (some (.int (i32 r))), (khp m c, N), 0, 0))
set_option maxHeartbeats 3000000 in
theorem c_tx_find (w : wX) (m : mR) (c : Nat → Option am_C) (N D : Nat) (hD : 1 ≤ D) (hT : KTy m) : TC w D 77 [.ref 6] (khp m c, N) (Q_tx_find m c N) := by
  obtain ⟨D, rfl⟩ : ∃ k, D = k + 1 := ⟨D - 1, by omega⟩
  have f203 : 0 ≤ m.1 203 ∧ m.1 203 ≤ 90 := hT.1 203
  have f209 : (-9223372036854775808) ≤ m.1 209 ∧ m.1 209 ≤ 9223372036854775807 := hT.1 209
  have f210 : (-9223372036854775808) ≤ m.1 210 ∧ m.1 210 ≤ 9223372036854775807 := hT.1 210
  refine Tc_of rfl ?_
  rw [show (khp m c, N) = (khp (mO m [] []) c, N) from by rw [mO_nil m]]
  show TT w D pm_77 (0, [(0, .ref 6)], [], (khp (mO m [] []) c, N), 0, 0) (Q_tx_find m c N)
  refine T_ld 1 (.int (i32 0)) rfl (fun _ => rfl) ?_
  refine T_sto 2 [(1, .int (i32 0)), (0, .ref 6)] rfl (fun _ => rfl) ?_
  have L2_2 : ∀ (n7 : Nat) (v1 : Int), (R32 v1) → (0 ≤ v1) → (v1 ≤ (m.1 203)) → (m.1 203) - v1 < (n7 : Int) → TT w D pm_77 (2, [(0, .ref 6), (1, .int (i32 v1))], [], (khp (mO m [] []) c, N), 0, 0) (Q_tx_find m c N) := by
    intro n7
    induction n7 with
    | zero =>
      intro v1 q5 ic3 ic4 hmu
      obtain ⟨q5a, q5b⟩ := id q5
      exfalso
      omega
    | succ n7 ih =>
      intro v1 q5 ic3 ic4 hmu
      obtain ⟨q5a, q5b⟩ := id q5
      have ih8 := ih
      refine T_ld 3 (.int (i32 v1)) rfl (fun _ => rfl) ?_
      refine T_ld 4 (.ref 6) rfl (fun _ => rfl) ?_
      refine K_gf 7 (.int (i32 (m.1 203))) rfl rfl kd_6 rfl rfl rfl ?_
      refine T_icmp 46 10 rfl rfl rfl (r32 (by omega) (by omega)) (r32 (by omega) (by omega)) (fun (h9 : (m.1 203) ≤ v1) => ?_) (fun (h9 : ¬ ((m.1 203) ≤ v1)) => ?_)
      · skip
        refine T_ld 47 (.int (i32 (-1))) rfl (fun _ => rfl) ?_
        refine T_ret rfl (fun _ => rfl) ?_
        exact ⟨(-1), ⟨by omega, by omega⟩, (show (-1 : Int) < (m.1 203) by omega), rfl⟩
      · skip
        refine T_ld 11 (.ref 6) rfl (fun _ => rfl) ?_
        refine K_gf 14 (.ref 8) rfl rfl kd_6 rfl rfl rfl ?_
        refine T_ld 15 (.int (i32 v1)) rfl (fun _ => rfl) ?_
        refine K_lald 16 6 (m.2 6) rfl rfl rfl (by omega) (show v1 < (90 : Int) by omega) rfl ?_
        have e10 : (-9223372036854775808) ≤ m.2 6 v1 ∧ m.2 6 v1 ≤ 9223372036854775807 := hT.2.1 6 v1
        refine T_ld 17 (.ref 6) rfl (fun _ => rfl) ?_
        refine K_gf 20 (.long (i64 (m.1 209))) rfl rfl kd_6 rfl rfl rfl ?_
        refine T_lcmp 21 rfl rfl (r64 (by omega) (by omega)) (r64 (by omega) (by omega)) (fun z11 h12 => ?_)
        obtain ⟨h12a, h12b, h12c, h12d, h12e⟩ := h12
        refine T_if 40 24 rfl rfl rfl (r32 (by omega) (by omega)) (fun (h13 : z11 ≠ 0) => ?_) (fun (h13 : ¬ (z11 ≠ 0)) => ?_)
        · skip
          have hl14 : (m.2 6) v1 ≠ (m.1 209) := by omega
          refine T_iinc 43 [(1, .int (i32 (v1 + 1))), (0, .ref 6)] rfl rfl (by decide) rfl rfl ?_
          refine T_goto 2 rfl (fun _ => rfl) ?_
          refine Tm_lv (a := [(0, .ref 6), (1, .int (i32 (v1 + 1)))]) rfl rfl ⟨rfl, rfl, trivial⟩ ?_
          exact ih8 (v1 + 1) (r32 (by omega) (by omega)) (show 0 ≤ (v1 + 1) by omega) (show (v1 + 1) ≤ (m.1 203) by omega) (show (m.1 203) - (v1 + 1) < (n7 : Int) by omega)
        · skip
          have hl15 : (m.2 6) v1 = (m.1 209) := by omega
          refine T_ld 25 (.ref 6) rfl (fun _ => rfl) ?_
          refine K_gf 28 (.ref 9) rfl rfl kd_6 rfl rfl rfl ?_
          refine T_ld 29 (.int (i32 v1)) rfl (fun _ => rfl) ?_
          refine K_lald 30 7 (m.2 7) rfl rfl rfl (by omega) (show v1 < (90 : Int) by omega) rfl ?_
          have e16 : (-9223372036854775808) ≤ m.2 7 v1 ∧ m.2 7 v1 ≤ 9223372036854775807 := hT.2.1 7 v1
          refine T_ld 31 (.ref 6) rfl (fun _ => rfl) ?_
          refine K_gf 34 (.long (i64 (m.1 210))) rfl rfl kd_6 rfl rfl rfl ?_
          refine T_lcmp 35 rfl rfl (r64 (by omega) (by omega)) (r64 (by omega) (by omega)) (fun z17 h18 => ?_)
          obtain ⟨h18a, h18b, h18c, h18d, h18e⟩ := h18
          refine T_if 40 38 rfl rfl rfl (r32 (by omega) (by omega)) (fun (h19 : z17 ≠ 0) => ?_) (fun (h19 : ¬ (z17 ≠ 0)) => ?_)
          · skip
            have hl20 : (m.2 7) v1 ≠ (m.1 210) := by omega
            refine T_iinc 43 [(1, .int (i32 (v1 + 1))), (0, .ref 6)] rfl rfl (by decide) rfl rfl ?_
            refine T_goto 2 rfl (fun _ => rfl) ?_
            refine Tm_lv (a := [(0, .ref 6), (1, .int (i32 (v1 + 1)))]) rfl rfl ⟨rfl, rfl, trivial⟩ ?_
            exact ih8 (v1 + 1) (r32 (by omega) (by omega)) (show 0 ≤ (v1 + 1) by omega) (show (v1 + 1) ≤ (m.1 203) by omega) (show (m.1 203) - (v1 + 1) < (n7 : Int) by omega)
          · skip
            have hl21 : (m.2 7) v1 = (m.1 210) := by omega
            refine T_ld 39 (.int (i32 v1)) rfl (fun _ => rfl) ?_
            refine T_ret rfl (fun _ => rfl) ?_
            exact ⟨v1, ⟨by omega, by omega⟩, (show v1 < (m.1 203) by omega), rfl⟩
  refine Tm_lv (a := [(0, .ref 6), (1, .int (i32 0))]) rfl rfl ⟨rfl, rfl, trivial⟩ ?_
  exact L2_2 (((m.1 203) - (0 : Int) : Int) + 1).toNat 0 ⟨by decide, by decide⟩ (show 0 ≤ (0 : Int) by omega) (show (0 : Int) ≤ (m.1 203) by omega) (show (m.1 203) - (0 : Int) < (((((m.1 203) - (0 : Int) : Int) + 1).toNat : Nat) : Int) by omega)
def Q_tx_indexOf (m : mR) (c : Nat → Option am_C) (N : Nat) (s : Int) : ag_Re af_T → Prop := fun R => (∃ (r : Int), ((-1) ≤ r ∧ r ≤ 17) ∧ (r = -1 ∨ KNo (m.1 203) (m.2 8) (m.2 9) s r) ∧ R = (.inl (some (.int (i32 r))), (khp m c, N), 0, 0))
set_option maxHeartbeats 3000000 in
theorem c_tx_indexOf (w : wX) (m : mR) (c : Nat → Option am_C) (N D : Nat) (hD : 2 ≤ D) (hT : KTy m) (s : Int) (qs : R32 s) : TC w D 84 [.ref 6, .int (i32 s)] (khp m c, N) (Q_tx_indexOf m c N s) := by
  obtain ⟨D, rfl⟩ : ∃ k, D = k + 1 := ⟨D - 1, by omega⟩
  obtain ⟨qsa, qsb⟩ := id qs
  have f203 : 0 ≤ m.1 203 ∧ m.1 203 ≤ 90 := hT.1 203
  refine Tc_of rfl ?_
  rw [show (khp m c, N) = (khp (mO m [] []) c, N) from by rw [mO_nil m]]
  show TT w D pm_84 (0, [(0, .ref 6), (1, .int (i32 s))], [], (khp (mO m [] []) c, N), 0, 0) (Q_tx_indexOf m c N s)
  refine T_ld 1 (.ref 6) rfl (fun _ => rfl) ?_
  refine T_callx 4 77 [.ref 6] [] rfl (fun _ => rfl) rfl rfl (c_tx_find w (mO m [] []) c N D (by omega) hT ) (fun rr1 k2 => ?_)
  obtain ⟨fi, g3, h4, rfl⟩ := k2
  refine Or.inl ⟨_, _, _, _, rfl, ?_⟩
  refine T_ns (st' := [.int (i32 fi)]) rfl ?_
  obtain ⟨g3a, g3b⟩ := g3
  replace h4 : fi < (m.1 203) := h4
  refine T_sto 5 [(2, .int (i32 fi)), (0, .ref 6), (1, .int (i32 s))] rfl (fun _ => rfl) ?_
  refine T_ld 6 (.int (i32 fi)) rfl (fun _ => rfl) ?_
  refine T_ld 7 (.int (i32 (-1))) rfl (fun _ => rfl) ?_
  refine T_icmp 29 10 rfl rfl rfl (r32 (by omega) (by omega)) ⟨by decide, by decide⟩ (fun (h5 : fi = (-1)) => ?_) (fun (h5 : ¬ (fi = (-1))) => ?_)
  · skip
    refine T_ld 30 (.int (i32 (-1))) rfl (fun _ => rfl) ?_
    refine T_ret rfl (fun _ => rfl) ?_
    exact ⟨(-1), ⟨by omega, by omega⟩, (show (-1 : Int) = -1 ∨ KNo (m.1 203) (m.2 8) (m.2 9) s (-1 : Int) by first | (first | exact Or.inl rfl | exact Or.inr ⟨fi, by omega, by omega, by omega, rfl⟩) | (exfalso; omega)), rfl⟩
  · skip
    refine T_ld 11 (.ref 6) rfl (fun _ => rfl) ?_
    refine K_gf 14 (.ref 10) rfl rfl kd_6 rfl rfl rfl ?_
    refine T_ld 15 (.int (i32 fi)) rfl (fun _ => rfl) ?_
    refine K_iald 16 8 (m.2 8) rfl rfl rfl (by omega) (show fi < (90 : Int) by omega) rfl ?_
    have e6 : 0 ≤ m.2 8 fi ∧ m.2 8 fi ≤ 310 := hT.2.1 8 fi
    refine T_ld 17 (.int (i32 s)) rfl (fun _ => rfl) ?_
    refine T_icmp 29 20 rfl rfl rfl (r32 (by omega) (by omega)) (r32 (by omega) (by omega)) (fun (h7 : (m.2 8) fi ≠ s) => ?_) (fun (h7 : ¬ ((m.2 8) fi ≠ s)) => ?_)
    · skip
      refine T_ld 30 (.int (i32 (-1))) rfl (fun _ => rfl) ?_
      refine T_ret rfl (fun _ => rfl) ?_
      exact ⟨(-1), ⟨by omega, by omega⟩, (show (-1 : Int) = -1 ∨ KNo (m.1 203) (m.2 8) (m.2 9) s (-1 : Int) by first | (first | exact Or.inl rfl | exact Or.inr ⟨fi, by omega, by omega, by omega, rfl⟩) | (exfalso; omega)), rfl⟩
    · skip
      refine T_ld 21 (.ref 6) rfl (fun _ => rfl) ?_
      refine K_gf 24 (.ref 11) rfl rfl kd_6 rfl rfl rfl ?_
      refine T_ld 25 (.int (i32 fi)) rfl (fun _ => rfl) ?_
      refine K_iald 26 9 (m.2 9) rfl rfl rfl (by omega) (show fi < (90 : Int) by omega) rfl ?_
      have e8 : 0 ≤ m.2 9 fi ∧ m.2 9 fi ≤ 17 := hT.2.1 9 fi
      refine T_goto 30 rfl (fun _ => rfl) ?_
      refine T_ret rfl (fun _ => rfl) ?_
      exact ⟨(m.2 9) fi, ⟨by omega, by omega⟩, (show ((m.2 9) fi) = -1 ∨ KNo (m.1 203) (m.2 8) (m.2 9) s ((m.2 9) fi) by first | (first | exact Or.inl rfl | exact Or.inr ⟨fi, by omega, by omega, by omega, rfl⟩) | (exfalso; omega)), rfl⟩
def fF_tx_makeName : List Nat := [203]
def fA_tx_makeName : List Nat := [6, 7, 8, 9]
def Q_tx_makeName (m : mR) (c : Nat → Option am_C) (N : Nat) (s : Int) (i : Int) : ag_Re af_T → Prop := fun R => (∃ (M : mR), KTy M ∧ fr fF_tx_makeName fA_tx_makeName m M ∧ (KMk (m.1 203) (M.1 203) (m.2 8) (M.2 8) (m.2 9) (M.2 9) s i) ∧ R = (.inl (none), (khp M c, N), 0, 0))
set_option maxHeartbeats 3000000 in
theorem c_tx_makeName (w : wX) (m : mR) (c : Nat → Option am_C) (N D : Nat) (hD : 1 ≤ D) (hT : KTy m) (s : Int) (i : Int) (qs : R32 s) (qi : R32 i) (p0 : 0 ≤ s ∧ s ≤ 310) (p1 : 0 ≤ i ∧ i ≤ 17) : TC w D 49 [.ref 6, .int (i32 s), .int (i32 i)] (khp m c, N) (Q_tx_makeName m c N s i) := by
  obtain ⟨D, rfl⟩ : ∃ k, D = k + 1 := ⟨D - 1, by omega⟩
  obtain ⟨qsa, qsb⟩ := id qs
  obtain ⟨qia, qib⟩ := id qi
  have f203 : 0 ≤ m.1 203 ∧ m.1 203 ≤ 90 := hT.1 203
  have f209 : (-9223372036854775808) ≤ m.1 209 ∧ m.1 209 ≤ 9223372036854775807 := hT.1 209
  have f210 : (-9223372036854775808) ≤ m.1 210 ∧ m.1 210 ≤ 9223372036854775807 := hT.1 210
  refine Tc_of rfl ?_
  rw [show (khp m c, N) = (khp (mO m [] []) c, N) from by rw [mO_nil m]]
  show TT w D pm_49 (0, [(0, .ref 6), (1, .int (i32 s)), (2, .int (i32 i))], [], (khp (mO m [] []) c, N), 0, 0) (Q_tx_makeName m c N s i)
  refine T_ld 1 (.ref 6) rfl (fun _ => rfl) ?_
  refine K_gf 4 (.int (i32 (m.1 203))) rfl rfl kd_6 rfl rfl rfl ?_
  refine T_ld 6 (.int (i32 90)) rfl (fun _ => rfl) ?_
  refine T_icmp 65 9 rfl rfl rfl (r32 (by omega) (by omega)) ⟨by decide, by decide⟩ (fun (h1 : (90 : Int) ≤ (m.1 203)) => ?_) (fun (h1 : ¬ ((90 : Int) ≤ (m.1 203))) => ?_)
  · skip
    refine T_ret rfl (fun _ => rfl) ?_
    exact ⟨(mO m [] []), hT, (fr_m fr_0 rfl rfl), (show KMk (m.1 203) (m.1 203) (m.2 8) (m.2 8) (m.2 9) (m.2 9) s i by first | (first | exact Or.inl ⟨rfl, rfl, rfl⟩ | exact Or.inr ⟨rfl, rfl, rfl⟩) | (exfalso; omega)), rfl⟩
  · skip
    refine T_ld 10 (.ref 6) rfl (fun _ => rfl) ?_
    refine K_gf 13 (.ref 8) rfl rfl kd_6 rfl rfl rfl ?_
    refine T_ld 14 (.ref 6) rfl (fun _ => rfl) ?_
    refine K_gf 17 (.int (i32 (m.1 203))) rfl rfl kd_6 rfl rfl rfl ?_
    refine T_ld 18 (.ref 6) rfl (fun _ => rfl) ?_
    refine K_gf 21 (.long (i64 (m.1 209))) rfl rfl kd_6 rfl rfl rfl ?_
    have G2 : ∀ j, (-9223372036854775808) ≤ (upI (m.2 6) (m.1 203) (m.1 209)) j ∧ (upI (m.2 6) (m.1 203) (m.1 209)) j ≤ 9223372036854775807 := upI_rg (hT.2.1 6) ⟨by omega, by omega⟩
    refine K_last (a' := [(6, upI (m.2 6) (m.1 203) (m.1 209))]) 22 6 (m.2 6) rfl rfl rfl (by omega) (show (m.1 203) < (90 : Int) by omega) rfl rfl ?_
    refine T_ld 23 (.ref 6) rfl (fun _ => rfl) ?_
    refine K_gf 26 (.ref 9) rfl rfl kd_6 rfl rfl rfl ?_
    refine T_ld 27 (.ref 6) rfl (fun _ => rfl) ?_
    refine K_gf 30 (.int (i32 (m.1 203))) rfl rfl kd_6 rfl rfl rfl ?_
    refine T_ld 31 (.ref 6) rfl (fun _ => rfl) ?_
    refine K_gf 34 (.long (i64 (m.1 210))) rfl rfl kd_6 rfl rfl rfl ?_
    have G3 : ∀ j, (-9223372036854775808) ≤ (upI (m.2 7) (m.1 203) (m.1 210)) j ∧ (upI (m.2 7) (m.1 203) (m.1 210)) j ≤ 9223372036854775807 := upI_rg (hT.2.1 7) ⟨by omega, by omega⟩
    refine K_last (a' := [(6, upI (m.2 6) (m.1 203) (m.1 209)), (7, upI (m.2 7) (m.1 203) (m.1 210))]) 35 7 (m.2 7) rfl rfl rfl (by omega) (show (m.1 203) < (90 : Int) by omega) rfl rfl ?_
    refine T_ld 36 (.ref 6) rfl (fun _ => rfl) ?_
    refine K_gf 39 (.ref 10) rfl rfl kd_6 rfl rfl rfl ?_
    refine T_ld 40 (.ref 6) rfl (fun _ => rfl) ?_
    refine K_gf 43 (.int (i32 (m.1 203))) rfl rfl kd_6 rfl rfl rfl ?_
    refine T_ld 44 (.int (i32 s)) rfl (fun _ => rfl) ?_
    have G4 : ∀ j, 0 ≤ (upI (m.2 8) (m.1 203) s) j ∧ (upI (m.2 8) (m.1 203) s) j ≤ 310 := upI_rg (hT.2.1 8) ⟨by omega, by omega⟩
    refine K_iast (a' := [(6, upI (m.2 6) (m.1 203) (m.1 209)), (7, upI (m.2 7) (m.1 203) (m.1 210)), (8, upI (m.2 8) (m.1 203) s)]) 45 8 (m.2 8) rfl rfl rfl (by omega) (show (m.1 203) < (90 : Int) by omega) rfl rfl ?_
    refine T_ld 46 (.ref 6) rfl (fun _ => rfl) ?_
    refine K_gf 49 (.ref 11) rfl rfl kd_6 rfl rfl rfl ?_
    refine T_ld 50 (.ref 6) rfl (fun _ => rfl) ?_
    refine K_gf 53 (.int (i32 (m.1 203))) rfl rfl kd_6 rfl rfl rfl ?_
    refine T_ld 54 (.int (i32 i)) rfl (fun _ => rfl) ?_
    have G5 : ∀ j, 0 ≤ (upI (m.2 9) (m.1 203) i) j ∧ (upI (m.2 9) (m.1 203) i) j ≤ 17 := upI_rg (hT.2.1 9) ⟨by omega, by omega⟩
    refine K_iast (a' := [(6, upI (m.2 6) (m.1 203) (m.1 209)), (7, upI (m.2 7) (m.1 203) (m.1 210)), (8, upI (m.2 8) (m.1 203) s), (9, upI (m.2 9) (m.1 203) i)]) 55 9 (m.2 9) rfl rfl rfl (by omega) (show (m.1 203) < (90 : Int) by omega) rfl rfl ?_
    refine T_ld 56 (.ref 6) rfl (fun _ => rfl) ?_
    refine T_ld 57 (.ref 6) rfl (fun _ => rfl) ?_
    refine K_gf 60 (.int (i32 (m.1 203))) rfl rfl kd_6 rfl rfl rfl ?_
    refine T_ld 61 (.int (i32 1)) rfl (fun _ => rfl) ?_
    refine T_iadd 62 rfl rfl ?_
    refine K_pf (l' := [(203, (m.1 203) + 1)]) 65 ((m.1 203) + 1) rfl rfl kd_6 rfl rfl rfl rfl rfl rfl rfl ?_
    have g6 : 0 ≤ (m.1 203) + 1 ∧ (m.1 203) + 1 ≤ 90 := ⟨by omega, by omega⟩
    refine T_ret rfl (fun _ => rfl) ?_
    exact ⟨(mO m [(203, (m.1 203) + 1)] [(6, upI (m.2 6) (m.1 203) (m.1 209)), (7, upI (m.2 7) (m.1 203) (m.1 210)), (8, upI (m.2 8) (m.1 203) s), (9, upI (m.2 9) (m.1 203) i)]), (KTy_mO hT rfl rfl ⟨g6, trivial⟩ ⟨G2, G3, G4, G5, trivial⟩), (fr_m fr_0 rfl rfl), (show KMk (m.1 203) ((m.1 203) + 1) (m.2 8) (upI (m.2 8) (m.1 203) s) (m.2 9) (upI (m.2 9) (m.1 203) i) s i by first | (first | exact Or.inl ⟨rfl, rfl, rfl⟩ | exact Or.inr ⟨rfl, rfl, rfl⟩) | (exfalso; omega)), rfl⟩
def Q_pr_headerBits (m : mR) (c : Nat → Option am_C) (N : Nat) (h : Int) : ag_Re af_T → Prop := fun R => (∃ (r : Int), (0 ≤ r ∧ r ≤ 1024) ∧ (r = hb (m.2 10) h 16) ∧ R = (.inl (some (.int (i32 r))), (khp m c, N), 0, 0))
set_option maxHeartbeats 3000000 in
theorem c_pr_headerBits (w : wX) (m : mR) (c : Nat → Option am_C) (N D : Nat) (hD : 1 ≤ D) (hT : KTy m) (h : Int) (qh : R32 h) (p0 : 0 ≤ h ∧ h ≤ 11) : TC w D 29 [.ref 12, .int (i32 h)] (khp m c, N) (Q_pr_headerBits m c N h) := by
  obtain ⟨D, rfl⟩ : ∃ k, D = k + 1 := ⟨D - 1, by omega⟩
  obtain ⟨qha, qhb⟩ := id qh
  refine Tc_of rfl ?_
  rw [show (khp m c, N) = (khp (mO m [] []) c, N) from by rw [mO_nil m]]
  show TT w D pm_29 (0, [(0, .ref 12), (1, .int (i32 h))], [], (khp (mO m [] []) c, N), 0, 0) (Q_pr_headerBits m c N h)
  refine T_ld 1 (.int (i32 0)) rfl (fun _ => rfl) ?_
  refine T_sto 2 [(2, .int (i32 0)), (0, .ref 12), (1, .int (i32 h))] rfl (fun _ => rfl) ?_
  refine T_ld 3 (.int (i32 0)) rfl (fun _ => rfl) ?_
  refine T_sto 4 [(3, .int (i32 0)), (2, .int (i32 0)), (0, .ref 12), (1, .int (i32 h))] rfl (fun _ => rfl) ?_
  have L4_3 : ∀ (n12 : Nat) (v1 : Int) (v2 : Int), (R32 v1) → (R32 v2) → (0 ≤ v1) → (0 ≤ v2) → (v2 ≤ 16) → (0 ≤ v1 ∧ v1 ≤ 64 * v2) → (v1 = hb (m.2 10) h v2) → 16 - v2 < (n12 : Int) → TT w D pm_29 (4, [(0, .ref 12), (1, .int (i32 h)), (2, .int (i32 v1)), (3, .int (i32 v2))], [], (khp (mO m [] []) c, N), 0, 0) (Q_pr_headerBits m c N h) := by
    intro n12
    induction n12 with
    | zero =>
      intro v1 v2 q9 q10 ic4 ic5 ic6 ic7 ic8 hmu
      obtain ⟨q9a, q9b⟩ := id q9
      obtain ⟨q10a, q10b⟩ := id q10
      have hHl := ic8
      exfalso
      omega
    | succ n12 ih =>
      intro v1 v2 q9 q10 ic4 ic5 ic6 ic7 ic8 hmu
      obtain ⟨q9a, q9b⟩ := id q9
      obtain ⟨q10a, q10b⟩ := id q10
      have hHl := ic8
      have ih13 := ih
      refine T_ld 5 (.int (i32 v2)) rfl (fun _ => rfl) ?_
      refine T_ld 7 (.int (i32 16)) rfl (fun _ => rfl) ?_
      refine T_icmp 30 10 rfl rfl rfl (r32 (by omega) (by omega)) ⟨by decide, by decide⟩ (fun (h14 : (16 : Int) ≤ v2) => ?_) (fun (h14 : ¬ ((16 : Int) ≤ v2)) => ?_)
      · skip
        refine T_ld 31 (.int (i32 v1)) rfl (fun _ => rfl) ?_
        refine T_ret rfl (fun _ => rfl) ?_
        exact ⟨v1, ⟨by omega, by omega⟩, (show v1 = hb (m.2 10) h 16 by first | (first | (rw [hHl]; congr 1; omega) | (exact hHl.trans (congrArg (hb _ _) (by omega)))) | (exfalso; omega)), rfl⟩
      · skip
        refine T_ld 11 (.int (i32 v1)) rfl (fun _ => rfl) ?_
        refine T_ld 12 (.ref 12) rfl (fun _ => rfl) ?_
        refine K_gf 15 (.ref 13) rfl rfl kd_12 rfl rfl rfl ?_
        refine T_ld 16 (.int (i32 h)) rfl (fun _ => rfl) ?_
        refine T_ld 18 (.int (i32 16)) rfl (fun _ => rfl) ?_
        refine T_imul 19 rfl rfl ?_
        refine T_ld 20 (.int (i32 v2)) rfl (fun _ => rfl) ?_
        refine T_iadd 21 rfl rfl ?_
        refine K_iald 22 10 (m.2 10) rfl rfl rfl (by omega) (show ((h * 16) + v2) < (192 : Int) by omega) rfl ?_
        have e15 : 0 ≤ m.2 10 ((h * 16) + v2) ∧ m.2 10 ((h * 16) + v2) ≤ 64 := hT.2.1 10 ((h * 16) + v2)
        refine T_iadd 23 rfl rfl ?_
        refine T_sto 24 [(2, .int (i32 (v1 + ((m.2 10) ((h * 16) + v2))))), (0, .ref 12), (1, .int (i32 h)), (3, .int (i32 v2))] rfl (fun _ => rfl) ?_
        refine T_iinc 27 [(3, .int (i32 (v2 + 1))), (2, .int (i32 (v1 + ((m.2 10) ((h * 16) + v2))))), (0, .ref 12), (1, .int (i32 h))] rfl rfl (by decide) rfl rfl ?_
        refine T_goto 4 rfl (fun _ => rfl) ?_
        refine Tm_lv (a := [(0, .ref 12), (1, .int (i32 h)), (2, .int (i32 (v1 + ((m.2 10) ((h * 16) + v2))))), (3, .int (i32 (v2 + 1)))]) rfl rfl ⟨rfl, rfl, rfl, rfl, trivial⟩ ?_
        exact ih13 (v1 + ((m.2 10) ((h * 16) + v2))) (v2 + 1) (r32 (by omega) (by omega)) (r32 (by omega) (by omega)) (show 0 ≤ (v1 + ((m.2 10) ((h * 16) + v2))) by omega) (show 0 ≤ (v2 + 1) by omega) (show (v2 + 1) ≤ 16 by omega) (show 0 ≤ (v1 + ((m.2 10) ((h * 16) + v2))) ∧ (v1 + ((m.2 10) ((h * 16) + v2))) ≤ 64 * (v2 + 1) by omega) (show (v1 + ((m.2 10) ((h * 16) + v2))) = hb (m.2 10) h (v2 + 1) by first | exact (hb_0 _ _).symm | (rw [hb_s _ _ (by omega)]; omega)) (show 16 - (v2 + 1) < (n12 : Int) by omega)
  refine Tm_lv (a := [(0, .ref 12), (1, .int (i32 h)), (2, .int (i32 0)), (3, .int (i32 0))]) rfl rfl ⟨rfl, rfl, rfl, rfl, trivial⟩ ?_
  exact L4_3 ((16 - (0 : Int) : Int) + 1).toNat 0 0 ⟨by decide, by decide⟩ ⟨by decide, by decide⟩ (show 0 ≤ (0 : Int) by omega) (show 0 ≤ (0 : Int) by omega) (show (0 : Int) ≤ 16 by omega) (show 0 ≤ (0 : Int) ∧ (0 : Int) ≤ 64 * (0 : Int) by omega) (show (0 : Int) = hb (m.2 10) h (0 : Int) by first | exact (hb_0 _ _).symm | (rw [hb_s _ _ (by omega)]; omega)) (show 16 - (0 : Int) < ((((16 - (0 : Int) : Int) + 1).toNat : Nat) : Int) by omega)
def Q_pr_instanceBits (m : mR) (c : Nat → Option am_C) (N : Nat) : ag_Re af_T → Prop := fun R => (∃ (r : Int), (0 ≤ r ∧ r ≤ 12288) ∧ R = (.inl (some (.int (i32 r))), (khp m c, N), 0, 0))
set_option maxHeartbeats 3000000 in
theorem c_pr_instanceBits (w : wX) (m : mR) (c : Nat → Option am_C) (N D : Nat) (hD : 2 ≤ D) (hT : KTy m) : TC w D 28 [.ref 12] (khp m c, N) (Q_pr_instanceBits m c N) := by
  obtain ⟨D, rfl⟩ : ∃ k, D = k + 1 := ⟨D - 1, by omega⟩
  have f215 : 0 ≤ m.1 215 ∧ m.1 215 ≤ 12 := hT.1 215
  refine Tc_of rfl ?_
  rw [show (khp m c, N) = (khp (mO m [] []) c, N) from by rw [mO_nil m]]
  show TT w D pm_28 (0, [(0, .ref 12)], [], (khp (mO m [] []) c, N), 0, 0) (Q_pr_instanceBits m c N)
  refine T_ld 1 (.int (i32 0)) rfl (fun _ => rfl) ?_
  refine T_sto 2 [(1, .int (i32 0)), (0, .ref 12)] rfl (fun _ => rfl) ?_
  refine T_ld 3 (.int (i32 0)) rfl (fun _ => rfl) ?_
  refine T_sto 4 [(2, .int (i32 0)), (1, .int (i32 0)), (0, .ref 12)] rfl (fun _ => rfl) ?_
  have L4_3 : ∀ (n11 : Nat) (v1 : Int) (v2 : Int), (R32 v1) → (R32 v2) → (0 ≤ v1) → (0 ≤ v2) → (v2 ≤ (m.1 215)) → (0 ≤ v1 ∧ v1 ≤ 1024 * v2) → (m.1 215) - v2 < (n11 : Int) → TT w D pm_28 (4, [(0, .ref 12), (1, .int (i32 v1)), (2, .int (i32 v2))], [], (khp (mO m [] []) c, N), 0, 0) (Q_pr_instanceBits m c N) := by
    intro n11
    induction n11 with
    | zero =>
      intro v1 v2 q8 q9 ic4 ic5 ic6 ic7 hmu
      obtain ⟨q8a, q8b⟩ := id q8
      obtain ⟨q9a, q9b⟩ := id q9
      exfalso
      omega
    | succ n11 ih =>
      intro v1 v2 q8 q9 ic4 ic5 ic6 ic7 hmu
      obtain ⟨q8a, q8b⟩ := id q8
      obtain ⟨q9a, q9b⟩ := id q9
      have ih12 := ih
      refine T_ld 5 (.int (i32 v2)) rfl (fun _ => rfl) ?_
      refine T_ld 6 (.ref 12) rfl (fun _ => rfl) ?_
      refine K_gf 9 (.int (i32 (m.1 215))) rfl rfl kd_12 rfl rfl rfl ?_
      refine T_icmp 31 12 rfl rfl rfl (r32 (by omega) (by omega)) (r32 (by omega) (by omega)) (fun (h13 : (m.1 215) ≤ v2) => ?_) (fun (h13 : ¬ ((m.1 215) ≤ v2)) => ?_)
      · skip
        refine T_ld 32 (.int (i32 v1)) rfl (fun _ => rfl) ?_
        refine T_ret rfl (fun _ => rfl) ?_
        exact ⟨v1, ⟨by omega, by omega⟩, rfl⟩
      · skip
        refine T_ld 13 (.int (i32 v1)) rfl (fun _ => rfl) ?_
        refine T_ld 14 (.ref 12) rfl (fun _ => rfl) ?_
        refine T_ld 15 (.ref 12) rfl (fun _ => rfl) ?_
        refine K_gf 18 (.ref 16) rfl rfl kd_12 rfl rfl rfl ?_
        refine T_ld 19 (.int (i32 v2)) rfl (fun _ => rfl) ?_
        refine K_iald 20 13 (m.2 13) rfl rfl rfl (by omega) (show v2 < (12 : Int) by omega) rfl ?_
        have e14 : 0 ≤ m.2 13 v2 ∧ m.2 13 v2 ≤ 11 := hT.2.1 13 v2
        refine T_callx 23 29 [.ref 12, .int (i32 ((m.2 13) v2))] [.int (i32 v1)] rfl (fun _ => rfl) rfl rfl (c_pr_headerBits w (mO m [] []) c N D (by omega) hT ((m.2 13) v2) (r32 (by omega) (by omega)) (show 0 ≤ ((m.2 13) v2) ∧ ((m.2 13) v2) ≤ 11 by omega)) (fun rr15 k16 => ?_)
        obtain ⟨hbr, g17, h18, rfl⟩ := k16
        refine Or.inl ⟨_, _, _, _, rfl, ?_⟩
        refine T_ns (st' := [.int (i32 hbr), .int (i32 v1)]) rfl ?_
        obtain ⟨g17a, g17b⟩ := g17
        replace h18 : hbr = hb (m.2 10) ((m.2 13) v2) 16 := h18
        have hHr := h18
        refine T_iadd 24 rfl rfl ?_
        refine T_sto 25 [(1, .int (i32 (v1 + hbr))), (0, .ref 12), (2, .int (i32 v2))] rfl (fun _ => rfl) ?_
        refine T_iinc 28 [(2, .int (i32 (v2 + 1))), (1, .int (i32 (v1 + hbr))), (0, .ref 12)] rfl rfl (by decide) rfl rfl ?_
        refine T_goto 4 rfl (fun _ => rfl) ?_
        refine Tm_lv (a := [(0, .ref 12), (1, .int (i32 (v1 + hbr))), (2, .int (i32 (v2 + 1)))]) rfl rfl ⟨rfl, rfl, rfl, trivial⟩ ?_
        exact ih12 (v1 + hbr) (v2 + 1) (r32 (by omega) (by omega)) (r32 (by omega) (by omega)) (show 0 ≤ (v1 + hbr) by omega) (show 0 ≤ (v2 + 1) by omega) (show (v2 + 1) ≤ (m.1 215) by omega) (show 0 ≤ (v1 + hbr) ∧ (v1 + hbr) ≤ 1024 * (v2 + 1) by omega) (show (m.1 215) - (v2 + 1) < (n11 : Int) by omega)
  refine Tm_lv (a := [(0, .ref 12), (1, .int (i32 0)), (2, .int (i32 0))]) rfl rfl ⟨rfl, rfl, rfl, trivial⟩ ?_
  exact L4_3 (((m.1 215) - (0 : Int) : Int) + 1).toNat 0 0 ⟨by decide, by decide⟩ ⟨by decide, by decide⟩ (show 0 ≤ (0 : Int) by omega) (show 0 ≤ (0 : Int) by omega) (show (0 : Int) ≤ (m.1 215) by omega) (show 0 ≤ (0 : Int) ∧ (0 : Int) ≤ 1024 * (0 : Int) by omega) (show (m.1 215) - (0 : Int) < (((((m.1 215) - (0 : Int) : Int) + 1).toNat : Nat) : Int) by omega)
def Q_pr_fieldOf (m : mR) (c : Nat → Option am_C) (N : Nat) (h : Int) (x : Int) (y : Int) : ag_Re af_T → Prop := fun R => (∃ (r : Int), ((-1) ≤ r ∧ r ≤ 15) ∧ R = (.inl (some (.int (i32 r))), (khp m c, N), 0, 0))
set_option maxHeartbeats 3000000 in
theorem c_pr_fieldOf (w : wX) (m : mR) (c : Nat → Option am_C) (N D : Nat) (hD : 1 ≤ D) (hT : KTy m) (h : Int) (x : Int) (y : Int) (qh : R32 h) (qx : R64 x) (qy : R64 y) (p0 : 0 ≤ h ∧ h ≤ 11) : TC w D 80 [.ref 12, .int (i32 h), .long (i64 x), .long (i64 y)] (khp m c, N) (Q_pr_fieldOf m c N h x y) := by
  obtain ⟨D, rfl⟩ : ∃ k, D = k + 1 := ⟨D - 1, by omega⟩
  obtain ⟨qha, qhb⟩ := id qh
  obtain ⟨qxa, qxb⟩ := id qx
  obtain ⟨qya, qyb⟩ := id qy
  refine Tc_of rfl ?_
  rw [show (khp m c, N) = (khp (mO m [] []) c, N) from by rw [mO_nil m]]
  show TT w D pm_80 (0, [(0, .ref 12), (1, .int (i32 h)), (2, .long (i64 x)), (4, .long (i64 y))], [], (khp (mO m [] []) c, N), 0, 0) (Q_pr_fieldOf m c N h x y)
  refine T_ld 1 (.int (i32 0)) rfl (fun _ => rfl) ?_
  refine T_sto 3 [(6, .int (i32 0)), (0, .ref 12), (1, .int (i32 h)), (2, .long (i64 x)), (4, .long (i64 y))] rfl (fun _ => rfl) ?_
  have L3_2 : ∀ (n7 : Nat) (v1 : Int), (R32 v1) → (0 ≤ v1) → (v1 ≤ 16) → 16 - v1 < (n7 : Int) → TT w D pm_80 (3, [(0, .ref 12), (1, .int (i32 h)), (2, .long (i64 x)), (4, .long (i64 y)), (6, .int (i32 v1))], [], (khp (mO m [] []) c, N), 0, 0) (Q_pr_fieldOf m c N h x y) := by
    intro n7
    induction n7 with
    | zero =>
      intro v1 q5 ic3 ic4 hmu
      obtain ⟨q5a, q5b⟩ := id q5
      exfalso
      omega
    | succ n7 ih =>
      intro v1 q5 ic3 ic4 hmu
      obtain ⟨q5a, q5b⟩ := id q5
      have ih8 := ih
      refine T_ld 5 (.int (i32 v1)) rfl (fun _ => rfl) ?_
      refine T_ld 7 (.int (i32 16)) rfl (fun _ => rfl) ?_
      refine T_icmp 63 10 rfl rfl rfl (r32 (by omega) (by omega)) ⟨by decide, by decide⟩ (fun (h9 : (16 : Int) ≤ v1) => ?_) (fun (h9 : ¬ ((16 : Int) ≤ v1)) => ?_)
      · skip
        refine T_ld 64 (.int (i32 (-1))) rfl (fun _ => rfl) ?_
        refine T_ret rfl (fun _ => rfl) ?_
        exact ⟨(-1), ⟨by omega, by omega⟩, rfl⟩
      · skip
        refine T_ld 11 (.int (i32 h)) rfl (fun _ => rfl) ?_
        refine T_ld 13 (.int (i32 16)) rfl (fun _ => rfl) ?_
        refine T_imul 14 rfl rfl ?_
        refine T_ld 16 (.int (i32 v1)) rfl (fun _ => rfl) ?_
        refine T_iadd 17 rfl rfl ?_
        refine T_sto 19 [(7, .int (i32 ((h * 16) + v1))), (0, .ref 12), (1, .int (i32 h)), (2, .long (i64 x)), (4, .long (i64 y)), (6, .int (i32 v1))] rfl (fun _ => rfl) ?_
        refine T_ld 20 (.ref 12) rfl (fun _ => rfl) ?_
        refine K_gf 23 (.ref 13) rfl rfl kd_12 rfl rfl rfl ?_
        refine T_ld 25 (.int (i32 ((h * 16) + v1))) rfl (fun _ => rfl) ?_
        refine K_iald 26 10 (m.2 10) rfl rfl rfl (by omega) (show ((h * 16) + v1) < (192 : Int) by omega) rfl ?_
        have e10 : 0 ≤ m.2 10 ((h * 16) + v1) ∧ m.2 10 ((h * 16) + v1) ≤ 64 := hT.2.1 10 ((h * 16) + v1)
        refine T_if 57 29 rfl rfl rfl (r32 (by omega) (by omega)) (fun (h11 : (m.2 10) ((h * 16) + v1) ≤ 0) => ?_) (fun (h11 : ¬ ((m.2 10) ((h * 16) + v1) ≤ 0)) => ?_)
        · skip
          refine T_iinc 60 [(6, .int (i32 (v1 + 1))), (7, .int (i32 ((h * 16) + v1))), (0, .ref 12), (1, .int (i32 h)), (2, .long (i64 x)), (4, .long (i64 y))] rfl rfl (by decide) rfl rfl ?_
          refine T_goto 3 rfl (fun _ => rfl) ?_
          refine Tm_lv (a := [(0, .ref 12), (1, .int (i32 h)), (2, .long (i64 x)), (4, .long (i64 y)), (6, .int (i32 (v1 + 1)))]) rfl rfl ⟨rfl, rfl, rfl, rfl, rfl, trivial⟩ ?_
          exact ih8 (v1 + 1) (r32 (by omega) (by omega)) (show 0 ≤ (v1 + 1) by omega) (show (v1 + 1) ≤ 16 by omega) (show 16 - (v1 + 1) < (n7 : Int) by omega)
        · skip
          refine T_ld 30 (.ref 12) rfl (fun _ => rfl) ?_
          refine K_gf 33 (.ref 14) rfl rfl kd_12 rfl rfl rfl ?_
          refine T_ld 35 (.int (i32 ((h * 16) + v1))) rfl (fun _ => rfl) ?_
          refine K_lald 36 11 (m.2 11) rfl rfl rfl (by omega) (show ((h * 16) + v1) < (192 : Int) by omega) rfl ?_
          have e12 : (-9223372036854775808) ≤ m.2 11 ((h * 16) + v1) ∧ m.2 11 ((h * 16) + v1) ≤ 9223372036854775807 := hT.2.1 11 ((h * 16) + v1)
          refine T_ld 37 (.long (i64 x)) rfl (fun _ => rfl) ?_
          refine T_lcmp 38 rfl rfl (r64 (by omega) (by omega)) (r64 (by omega) (by omega)) (fun z13 h14 => ?_)
          obtain ⟨h14a, h14b, h14c, h14d, h14e⟩ := h14
          refine T_if 57 41 rfl rfl rfl (r32 (by omega) (by omega)) (fun (h15 : z13 ≠ 0) => ?_) (fun (h15 : ¬ (z13 ≠ 0)) => ?_)
          · skip
            have hl16 : (m.2 11) ((h * 16) + v1) ≠ x := by omega
            refine T_iinc 60 [(6, .int (i32 (v1 + 1))), (7, .int (i32 ((h * 16) + v1))), (0, .ref 12), (1, .int (i32 h)), (2, .long (i64 x)), (4, .long (i64 y))] rfl rfl (by decide) rfl rfl ?_
            refine T_goto 3 rfl (fun _ => rfl) ?_
            refine Tm_lv (a := [(0, .ref 12), (1, .int (i32 h)), (2, .long (i64 x)), (4, .long (i64 y)), (6, .int (i32 (v1 + 1)))]) rfl rfl ⟨rfl, rfl, rfl, rfl, rfl, trivial⟩ ?_
            exact ih8 (v1 + 1) (r32 (by omega) (by omega)) (show 0 ≤ (v1 + 1) by omega) (show (v1 + 1) ≤ 16 by omega) (show 16 - (v1 + 1) < (n7 : Int) by omega)
          · skip
            have hl17 : (m.2 11) ((h * 16) + v1) = x := by omega
            refine T_ld 42 (.ref 12) rfl (fun _ => rfl) ?_
            refine K_gf 45 (.ref 15) rfl rfl kd_12 rfl rfl rfl ?_
            refine T_ld 47 (.int (i32 ((h * 16) + v1))) rfl (fun _ => rfl) ?_
            refine K_lald 48 12 (m.2 12) rfl rfl rfl (by omega) (show ((h * 16) + v1) < (192 : Int) by omega) rfl ?_
            have e18 : (-9223372036854775808) ≤ m.2 12 ((h * 16) + v1) ∧ m.2 12 ((h * 16) + v1) ≤ 9223372036854775807 := hT.2.1 12 ((h * 16) + v1)
            refine T_ld 50 (.long (i64 y)) rfl (fun _ => rfl) ?_
            refine T_lcmp 51 rfl rfl (r64 (by omega) (by omega)) (r64 (by omega) (by omega)) (fun z19 h20 => ?_)
            obtain ⟨h20a, h20b, h20c, h20d, h20e⟩ := h20
            refine T_if 57 54 rfl rfl rfl (r32 (by omega) (by omega)) (fun (h21 : z19 ≠ 0) => ?_) (fun (h21 : ¬ (z19 ≠ 0)) => ?_)
            · skip
              have hl22 : (m.2 12) ((h * 16) + v1) ≠ y := by omega
              refine T_iinc 60 [(6, .int (i32 (v1 + 1))), (7, .int (i32 ((h * 16) + v1))), (0, .ref 12), (1, .int (i32 h)), (2, .long (i64 x)), (4, .long (i64 y))] rfl rfl (by decide) rfl rfl ?_
              refine T_goto 3 rfl (fun _ => rfl) ?_
              refine Tm_lv (a := [(0, .ref 12), (1, .int (i32 h)), (2, .long (i64 x)), (4, .long (i64 y)), (6, .int (i32 (v1 + 1)))]) rfl rfl ⟨rfl, rfl, rfl, rfl, rfl, trivial⟩ ?_
              exact ih8 (v1 + 1) (r32 (by omega) (by omega)) (show 0 ≤ (v1 + 1) by omega) (show (v1 + 1) ≤ 16 by omega) (show 16 - (v1 + 1) < (n7 : Int) by omega)
            · skip
              have hl23 : (m.2 12) ((h * 16) + v1) = y := by omega
              refine T_ld 56 (.int (i32 v1)) rfl (fun _ => rfl) ?_
              refine T_ret rfl (fun _ => rfl) ?_
              exact ⟨v1, ⟨by omega, by omega⟩, rfl⟩
  refine Tm_lv (a := [(0, .ref 12), (1, .int (i32 h)), (2, .long (i64 x)), (4, .long (i64 y)), (6, .int (i32 0))]) rfl rfl ⟨rfl, rfl, rfl, rfl, rfl, trivial⟩ ?_
  exact L3_2 ((16 - (0 : Int) : Int) + 1).toNat 0 ⟨by decide, by decide⟩ (show 0 ≤ (0 : Int) by omega) (show (0 : Int) ≤ 16 by omega) (show 16 - (0 : Int) < ((((16 - (0 : Int) : Int) + 1).toNat : Nat) : Int) by omega)
def Q_pr_widthOfField (m : mR) (c : Nat → Option am_C) (N : Nat) (i : Int) (f : Int) : ag_Re af_T → Prop := fun R => (∃ (r : Int), (0 ≤ r ∧ r ≤ 64) ∧ (f ≤ 15 → r = (m.2 10) ((m.2 13) i * 16 + f)) ∧ R = (.inl (some (.int (i32 r))), (khp m c, N), 0, 0))
set_option maxHeartbeats 3000000 in
theorem c_pr_widthOfField (w : wX) (m : mR) (c : Nat → Option am_C) (N D : Nat) (hD : 1 ≤ D) (hT : KTy m) (i : Int) (f : Int) (qi : R32 i) (qf : R32 f) (p0 : 0 ≤ i ∧ i ≤ 11) (p1 : 0 ≤ f) : TC w D 101 [.ref 12, .int (i32 i), .int (i32 f)] (khp m c, N) (Q_pr_widthOfField m c N i f) := by
  obtain ⟨D, rfl⟩ : ∃ k, D = k + 1 := ⟨D - 1, by omega⟩
  obtain ⟨qia, qib⟩ := id qi
  obtain ⟨qfa, qfb⟩ := id qf
  refine Tc_of rfl ?_
  rw [show (khp m c, N) = (khp (mO m [] []) c, N) from by rw [mO_nil m]]
  show TT w D pm_101 (0, [(0, .ref 12), (1, .int (i32 i)), (2, .int (i32 f))], [], (khp (mO m [] []) c, N), 0, 0) (Q_pr_widthOfField m c N i f)
  refine T_ld 1 (.int (i32 f)) rfl (fun _ => rfl) ?_
  refine T_ld 3 (.int (i32 16)) rfl (fun _ => rfl) ?_
  refine T_icmp 25 6 rfl rfl rfl (r32 (by omega) (by omega)) ⟨by decide, by decide⟩ (fun (h1 : (16 : Int) ≤ f) => ?_) (fun (h1 : ¬ ((16 : Int) ≤ f)) => ?_)
  · skip
    refine T_ld 26 (.int (i32 0)) rfl (fun _ => rfl) ?_
    refine T_ret rfl (fun _ => rfl) ?_
    exact ⟨0, ⟨by omega, by omega⟩, (show f ≤ 15 → (0 : Int) = (m.2 10) ((m.2 13) i * 16 + f) by first | (first | (intro _; rfl) | (intro h9; omega)) | (exfalso; omega)), rfl⟩
  · skip
    refine T_ld 7 (.ref 12) rfl (fun _ => rfl) ?_
    refine K_gf 10 (.ref 13) rfl rfl kd_12 rfl rfl rfl ?_
    refine T_ld 11 (.ref 12) rfl (fun _ => rfl) ?_
    refine K_gf 14 (.ref 16) rfl rfl kd_12 rfl rfl rfl ?_
    refine T_ld 15 (.int (i32 i)) rfl (fun _ => rfl) ?_
    refine K_iald 16 13 (m.2 13) rfl rfl rfl (by omega) (show i < (12 : Int) by omega) rfl ?_
    have e2 : 0 ≤ m.2 13 i ∧ m.2 13 i ≤ 11 := hT.2.1 13 i
    refine T_ld 18 (.int (i32 16)) rfl (fun _ => rfl) ?_
    refine T_imul 19 rfl rfl ?_
    refine T_ld 20 (.int (i32 f)) rfl (fun _ => rfl) ?_
    refine T_iadd 21 rfl rfl ?_
    refine K_iald 22 10 (m.2 10) rfl rfl rfl (by omega) (show ((((m.2 13) i) * 16) + f) < (192 : Int) by omega) rfl ?_
    have e3 : 0 ≤ m.2 10 ((((m.2 13) i) * 16) + f) ∧ m.2 10 ((((m.2 13) i) * 16) + f) ≤ 64 := hT.2.1 10 ((((m.2 13) i) * 16) + f)
    refine T_goto 26 rfl (fun _ => rfl) ?_
    refine T_ret rfl (fun _ => rfl) ?_
    exact ⟨(m.2 10) ((((m.2 13) i) * 16) + f), ⟨by omega, by omega⟩, (show f ≤ 15 → ((m.2 10) ((((m.2 13) i) * 16) + f)) = (m.2 10) ((m.2 13) i * 16 + f) by first | (first | (intro _; rfl) | (intro h9; omega)) | (exfalso; omega)), rfl⟩
def fF_nd_fits : List Nat := []
def fA_nd_fits : List Nat := [22]
def Q_nd_fits (m : mR) (c : Nat → Option am_C) (N : Nat) (n : Int) (u : Int) : ag_Re af_T → Prop := fun R => (∃ (M : mR) (r : Int), KTy M ∧ fr fF_nd_fits fA_nd_fits m M ∧ (0 ≤ r ∧ r ≤ 1) ∧ R = (.inl (some (.int (i32 r))), (khp M c, N), 0, 0))
set_option maxHeartbeats 3000000 in
theorem c_nd_fits (w : wX) (m : mR) (c : Nat → Option am_C) (N D : Nat) (hD : 1 ≤ D) (hT : KTy m) (n : Int) (u : Int) (qn : R32 n) (qu : R32 u) (p0 : 0 ≤ n ∧ n ≤ 1089) (p1 : 0 ≤ u ∧ u ≤ 64) : TC w D 107 [.ref 22, .int (i32 n), .int (i32 u)] (khp m c, N) (Q_nd_fits m c N n u) := by
  obtain ⟨D, rfl⟩ : ∃ k, D = k + 1 := ⟨D - 1, by omega⟩
  obtain ⟨qna, qnb⟩ := id qn
  obtain ⟨qua, qub⟩ := id qu
  refine Tc_of rfl ?_
  rw [show (khp m c, N) = (khp (mO m [] []) c, N) from by rw [mO_nil m]]
  show TT w D pm_107 (0, [(0, .ref 22), (1, .int (i32 n)), (2, .int (i32 u))], [], (khp (mO m [] []) c, N), 0, 0) (Q_nd_fits m c N n u)
  refine T_ld 1 (.ref 22) rfl (fun _ => rfl) ?_
  refine K_gf 4 (.ref 23) rfl rfl kd_22 rfl rfl rfl ?_
  refine T_ld 5 (.int (i32 n)) rfl (fun _ => rfl) ?_
  refine K_iald 6 18 (m.2 18) rfl rfl rfl (by omega) (show n < (1090 : Int) by omega) rfl ?_
  have e1 : 0 ≤ m.2 18 n ∧ m.2 18 n ≤ 65535 := hT.2.1 18 n
  refine T_ld 9 (.int (i32 257)) rfl (fun _ => rfl) ?_
  refine T_icmp 28 12 rfl rfl rfl (r32 (by omega) (by omega)) ⟨by decide, by decide⟩ (fun (h2 : (m.2 18) n = 257) => ?_) (fun (h2 : ¬ ((m.2 18) n = 257)) => ?_)
  · skip
    refine T_ld 29 (.ref 22) rfl (fun _ => rfl) ?_
    refine K_gf 32 (.ref 27) rfl rfl kd_22 rfl rfl rfl ?_
    refine T_ld 33 (.int (i32 n)) rfl (fun _ => rfl) ?_
    refine T_ld 34 (.int (i32 u)) rfl (fun _ => rfl) ?_
    have G3 : ∀ j, 0 ≤ (upI (m.2 22) n u) j ∧ (upI (m.2 22) n u) j ≤ 64 := upI_rg (hT.2.1 22) ⟨by omega, by omega⟩
    refine K_iast (a' := [(22, upI (m.2 22) n u)]) 35 22 (m.2 22) rfl rfl rfl (by omega) (show n < (1090 : Int) by omega) rfl rfl ?_
    refine T_ld 36 (.int (i32 u)) rfl (fun _ => rfl) ?_
    refine T_ld 38 (.int (i32 64)) rfl (fun _ => rfl) ?_
    refine T_icmp 54 41 rfl rfl rfl (r32 (by omega) (by omega)) ⟨by decide, by decide⟩ (fun (h4 : (64 : Int) ≤ u) => ?_) (fun (h4 : ¬ ((64 : Int) ≤ u)) => ?_)
    · skip
      refine T_ld 55 (.int (i32 1)) rfl (fun _ => rfl) ?_
      refine T_goto 59 rfl (fun _ => rfl) ?_
      refine T_ret rfl (fun _ => rfl) ?_
      exact ⟨(mO m [] [(22, upI (m.2 22) n u)]), 1, (KTy_mO hT rfl rfl trivial ⟨G3, trivial⟩), (fr_m fr_0 rfl rfl), ⟨by omega, by omega⟩, rfl⟩
    · skip
      refine T_ld 42 (.ref 22) rfl (fun _ => rfl) ?_
      refine K_gf 45 (.ref 29) rfl rfl kd_22 rfl rfl rfl ?_
      refine T_ld 46 (.int (i32 n)) rfl (fun _ => rfl) ?_
      refine K_lald 47 24 (m.2 24) rfl rfl rfl (by omega) (show n < (1090 : Int) by omega) rfl ?_
      have e5 : (-9223372036854775808) ≤ m.2 24 n ∧ m.2 24 n ≤ 9223372036854775807 := hT.2.1 24 n
      refine T_ld 48 (.int (i32 u)) rfl (fun _ => rfl) ?_
      refine T_lhv 49 _ rfl (fun _ => rfl) (fun z6 h7 => ?_)
      obtain ⟨h7a, h7b⟩ := h7
      refine T_ld 50 (.long (i64 0)) rfl (fun _ => rfl) ?_
      refine T_lcmp 51 rfl rfl (r64 (by omega) (by omega)) ⟨by decide, by decide⟩ (fun z8 h9 => ?_)
      obtain ⟨h9a, h9b, h9c, h9d, h9e⟩ := h9
      refine T_if 58 54 rfl rfl rfl (r32 (by omega) (by omega)) (fun (h10 : z8 ≠ 0) => ?_) (fun (h10 : ¬ (z8 ≠ 0)) => ?_)
      · skip
        have hl11 : z6 ≠ 0 := by omega
        refine T_ld 59 (.int (i32 0)) rfl (fun _ => rfl) ?_
        refine T_ret rfl (fun _ => rfl) ?_
        exact ⟨(mO m [] [(22, upI (m.2 22) n u)]), 0, (KTy_mO hT rfl rfl trivial ⟨G3, trivial⟩), (fr_m fr_0 rfl rfl), ⟨by omega, by omega⟩, rfl⟩
      · skip
        have hl12 : z6 = 0 := by omega
        refine T_ld 55 (.int (i32 1)) rfl (fun _ => rfl) ?_
        refine T_goto 59 rfl (fun _ => rfl) ?_
        refine T_ret rfl (fun _ => rfl) ?_
        exact ⟨(mO m [] [(22, upI (m.2 22) n u)]), 1, (KTy_mO hT rfl rfl trivial ⟨G3, trivial⟩), (fr_m fr_0 rfl rfl), ⟨by omega, by omega⟩, rfl⟩
  · skip
    refine T_ld 13 (.ref 22) rfl (fun _ => rfl) ?_
    refine K_gf 16 (.ref 27) rfl rfl kd_22 rfl rfl rfl ?_
    refine T_ld 17 (.int (i32 n)) rfl (fun _ => rfl) ?_
    refine K_iald 18 22 (m.2 22) rfl rfl rfl (by omega) (show n < (1090 : Int) by omega) rfl ?_
    have e13 : 0 ≤ (m.2 22) n ∧ (m.2 22) n ≤ 64 := (hT.2.1 22) n
    refine T_ld 19 (.int (i32 u)) rfl (fun _ => rfl) ?_
    refine T_icmp 26 22 rfl rfl rfl (r32 (by omega) (by omega)) (r32 (by omega) (by omega)) (fun (h14 : (m.2 22) n ≠ u) => ?_) (fun (h14 : ¬ ((m.2 22) n ≠ u)) => ?_)
    · skip
      refine T_ld 27 (.int (i32 0)) rfl (fun _ => rfl) ?_
      refine T_ret rfl (fun _ => rfl) ?_
      exact ⟨(mO m [] []), 0, hT, (fr_m fr_0 rfl rfl), ⟨by omega, by omega⟩, rfl⟩
    · skip
      refine T_ld 23 (.int (i32 1)) rfl (fun _ => rfl) ?_
      refine T_goto 27 rfl (fun _ => rfl) ?_
      refine T_ret rfl (fun _ => rfl) ?_
      exact ⟨(mO m [] []), 1, hT, (fr_m fr_0 rfl rfl), ⟨by omega, by omega⟩, rfl⟩
def fF_ss_add : List Nat := [221]
def fA_ss_add : List Nat := [26, 29, 30, 35, 36]
def Q_ss_add (m : mR) (c : Nat → Option am_C) (N : Nat) (p : Int) : ag_Re af_T → Prop := fun R => (∃ (M : mR) (r : Int), KTy M ∧ fr fF_ss_add fA_ss_add m M ∧ (0 ≤ r ∧ r ≤ 15) ∧ (r = (m.1 221)) ∧ ((M.1 221) = (m.1 221) + 1) ∧ ((M.2 36) = upI (m.2 36) (m.1 221) (-1)) ∧ R = (.inl (some (.int (i32 r))), (khp M c, N), 0, 0))
set_option maxHeartbeats 3000000 in
theorem c_ss_add (w : wX) (m : mR) (c : Nat → Option am_C) (N D : Nat) (hD : 1 ≤ D) (hT : KTy m) (p : Int) (qp : R32 p) (p0 : (m.1 221) ≤ 15) (p1 : 0 ≤ p ∧ p ≤ 4001) : TC w D 88 [.ref 31, .int (i32 p)] (khp m c, N) (Q_ss_add m c N p) := by
  obtain ⟨D, rfl⟩ : ∃ k, D = k + 1 := ⟨D - 1, by omega⟩
  obtain ⟨qpa, qpb⟩ := id qp
  have f221 : 0 ≤ m.1 221 ∧ m.1 221 ≤ 16 := hT.1 221
  refine Tc_of rfl ?_
  rw [show (khp m c, N) = (khp (mO m [] []) c, N) from by rw [mO_nil m]]
  show TT w D pm_88 (0, [(0, .ref 31), (1, .int (i32 p))], [], (khp (mO m [] []) c, N), 0, 0) (Q_ss_add m c N p)
  refine T_ld 1 (.ref 31) rfl (fun _ => rfl) ?_
  refine K_gf 4 (.int (i32 (m.1 221))) rfl rfl kd_31 rfl rfl rfl ?_
  refine T_sto 5 [(2, .int (i32 (m.1 221))), (0, .ref 31), (1, .int (i32 p))] rfl (fun _ => rfl) ?_
  refine T_ld 6 (.ref 31) rfl (fun _ => rfl) ?_
  refine K_gf 9 (.ref 32) rfl rfl kd_31 rfl rfl rfl ?_
  refine T_ld 10 (.int (i32 (m.1 221))) rfl (fun _ => rfl) ?_
  refine T_ld 11 (.int (i32 0)) rfl (fun _ => rfl) ?_
  have G1 : ∀ j, 0 ≤ (upI (m.2 26) (m.1 221) 0) j ∧ (upI (m.2 26) (m.1 221) 0) j ≤ 6 := upI_rg (hT.2.1 26) ⟨by omega, by omega⟩
  refine K_iast (a' := [(26, upI (m.2 26) (m.1 221) 0)]) 12 26 (m.2 26) rfl rfl rfl (by omega) (show (m.1 221) < (16 : Int) by omega) rfl rfl ?_
  refine T_ld 13 (.ref 31) rfl (fun _ => rfl) ?_
  refine K_gf 16 (.ref 36) rfl rfl kd_31 rfl rfl rfl ?_
  refine T_ld 17 (.int (i32 (m.1 221))) rfl (fun _ => rfl) ?_
  refine T_ld 18 (.int (i32 0)) rfl (fun _ => rfl) ?_
  have G2 : ∀ j, 0 ≤ (upI (m.2 30) (m.1 221) 0) j ∧ (upI (m.2 30) (m.1 221) 0) j ≤ 8 := upI_rg (hT.2.1 30) ⟨by omega, by omega⟩
  refine K_iast (a' := [(26, upI (m.2 26) (m.1 221) 0), (30, upI (m.2 30) (m.1 221) 0)]) 19 30 (m.2 30) rfl rfl rfl (by omega) (show (m.1 221) < (16 : Int) by omega) rfl rfl ?_
  refine T_ld 20 (.ref 31) rfl (fun _ => rfl) ?_
  refine K_gf 23 (.ref 35) rfl rfl kd_31 rfl rfl rfl ?_
  refine T_ld 24 (.int (i32 (m.1 221))) rfl (fun _ => rfl) ?_
  refine T_ld 25 (.int (i32 (-1))) rfl (fun _ => rfl) ?_
  have G3 : ∀ j, (-1) ≤ (upI (m.2 29) (m.1 221) (-1)) j ∧ (upI (m.2 29) (m.1 221) (-1)) j ≤ 1089 := upI_rg (hT.2.1 29) ⟨by omega, by omega⟩
  refine K_iast (a' := [(26, upI (m.2 26) (m.1 221) 0), (29, upI (m.2 29) (m.1 221) (-1)), (30, upI (m.2 30) (m.1 221) 0)]) 26 29 (m.2 29) rfl rfl rfl (by omega) (show (m.1 221) < (16 : Int) by omega) rfl rfl ?_
  refine T_ld 27 (.ref 31) rfl (fun _ => rfl) ?_
  refine K_gf 30 (.ref 41) rfl rfl kd_31 rfl rfl rfl ?_
  refine T_ld 31 (.int (i32 (m.1 221))) rfl (fun _ => rfl) ?_
  refine T_ld 32 (.int (i32 p)) rfl (fun _ => rfl) ?_
  have G4 : ∀ j, 0 ≤ (upI (m.2 35) (m.1 221) p) j ∧ (upI (m.2 35) (m.1 221) p) j ≤ 4001 := upI_rg (hT.2.1 35) ⟨by omega, by omega⟩
  refine K_iast (a' := [(26, upI (m.2 26) (m.1 221) 0), (29, upI (m.2 29) (m.1 221) (-1)), (30, upI (m.2 30) (m.1 221) 0), (35, upI (m.2 35) (m.1 221) p)]) 33 35 (m.2 35) rfl rfl rfl (by omega) (show (m.1 221) < (16 : Int) by omega) rfl rfl ?_
  refine T_ld 34 (.ref 31) rfl (fun _ => rfl) ?_
  refine K_gf 37 (.ref 42) rfl rfl kd_31 rfl rfl rfl ?_
  refine T_ld 38 (.int (i32 (m.1 221))) rfl (fun _ => rfl) ?_
  refine T_ld 39 (.int (i32 (-1))) rfl (fun _ => rfl) ?_
  have G5 : ∀ j, (-1) ≤ (upI (m.2 36) (m.1 221) (-1)) j ∧ (upI (m.2 36) (m.1 221) (-1)) j ≤ 4001 := upI_rg (hT.2.1 36) ⟨by omega, by omega⟩
  refine K_iast (a' := [(26, upI (m.2 26) (m.1 221) 0), (29, upI (m.2 29) (m.1 221) (-1)), (30, upI (m.2 30) (m.1 221) 0), (35, upI (m.2 35) (m.1 221) p), (36, upI (m.2 36) (m.1 221) (-1))]) 40 36 (m.2 36) rfl rfl rfl (by omega) (show (m.1 221) < (16 : Int) by omega) rfl rfl ?_
  refine T_ld 41 (.ref 31) rfl (fun _ => rfl) ?_
  refine T_ld 42 (.ref 31) rfl (fun _ => rfl) ?_
  refine K_gf 45 (.int (i32 (m.1 221))) rfl rfl kd_31 rfl rfl rfl ?_
  refine T_ld 46 (.int (i32 1)) rfl (fun _ => rfl) ?_
  refine T_iadd 47 rfl rfl ?_
  refine K_pf (l' := [(221, (m.1 221) + 1)]) 50 ((m.1 221) + 1) rfl rfl kd_31 rfl rfl rfl rfl rfl rfl rfl ?_
  have g6 : 0 ≤ (m.1 221) + 1 ∧ (m.1 221) + 1 ≤ 16 := ⟨by omega, by omega⟩
  refine T_ld 51 (.int (i32 (m.1 221))) rfl (fun _ => rfl) ?_
  refine T_ret rfl (fun _ => rfl) ?_
  exact ⟨(mO m [(221, (m.1 221) + 1)] [(26, upI (m.2 26) (m.1 221) 0), (29, upI (m.2 29) (m.1 221) (-1)), (30, upI (m.2 30) (m.1 221) 0), (35, upI (m.2 35) (m.1 221) p), (36, upI (m.2 36) (m.1 221) (-1))]), (m.1 221), (KTy_mO hT rfl rfl ⟨g6, trivial⟩ ⟨G1, G3, G2, G4, G5, trivial⟩), (fr_m fr_0 rfl rfl), ⟨by omega, by omega⟩, (show (m.1 221) = (m.1 221) by omega), (show ((m.1 221) + 1) = (m.1 221) + 1 by omega), (show (upI (m.2 36) (m.1 221) (-1)) = upI (m.2 36) (m.1 221) (-1) by rfl), rfl⟩
def fF_ss_stand : List Nat := [222]
def fA_ss_stand : List Nat := [36, 37]
def Q_ss_stand (m : mR) (c : Nat → Option am_C) (N : Nat) (s : Int) (p : Int) : ag_Re af_T → Prop := fun R => (∃ (M : mR), KTy M ∧ fr fF_ss_stand fA_ss_stand m M ∧ ((M.1 222) = (m.1 222) + 1) ∧ ((M.2 36) = upI (m.2 36) s p) ∧ R = (.inl (none), (khp M c, N), 0, 0))
set_option maxHeartbeats 3000000 in
theorem c_ss_stand (w : wX) (m : mR) (c : Nat → Option am_C) (N D : Nat) (hD : 1 ≤ D) (hT : KTy m) (s : Int) (p : Int) (qs : R32 s) (qp : R32 p) (p0 : (m.1 222) ≤ 15) (p1 : 0 ≤ s ∧ s ≤ 15) (p2 : 0 ≤ p ∧ p ≤ 4001) : TC w D 89 [.ref 31, .int (i32 s), .int (i32 p)] (khp m c, N) (Q_ss_stand m c N s p) := by
  obtain ⟨D, rfl⟩ : ∃ k, D = k + 1 := ⟨D - 1, by omega⟩
  obtain ⟨qsa, qsb⟩ := id qs
  obtain ⟨qpa, qpb⟩ := id qp
  have f222 : 0 ≤ m.1 222 ∧ m.1 222 ≤ 16 := hT.1 222
  refine Tc_of rfl ?_
  rw [show (khp m c, N) = (khp (mO m [] []) c, N) from by rw [mO_nil m]]
  show TT w D pm_89 (0, [(0, .ref 31), (1, .int (i32 s)), (2, .int (i32 p))], [], (khp (mO m [] []) c, N), 0, 0) (Q_ss_stand m c N s p)
  refine T_ld 1 (.ref 31) rfl (fun _ => rfl) ?_
  refine K_gf 4 (.ref 42) rfl rfl kd_31 rfl rfl rfl ?_
  refine T_ld 5 (.int (i32 s)) rfl (fun _ => rfl) ?_
  refine T_ld 6 (.int (i32 p)) rfl (fun _ => rfl) ?_
  have G1 : ∀ j, (-1) ≤ (upI (m.2 36) s p) j ∧ (upI (m.2 36) s p) j ≤ 4001 := upI_rg (hT.2.1 36) ⟨by omega, by omega⟩
  refine K_iast (a' := [(36, upI (m.2 36) s p)]) 7 36 (m.2 36) rfl rfl rfl (by omega) (show s < (16 : Int) by omega) rfl rfl ?_
  refine T_ld 8 (.ref 31) rfl (fun _ => rfl) ?_
  refine K_gf 11 (.ref 43) rfl rfl kd_31 rfl rfl rfl ?_
  refine T_ld 12 (.ref 31) rfl (fun _ => rfl) ?_
  refine K_gf 15 (.int (i32 (m.1 222))) rfl rfl kd_31 rfl rfl rfl ?_
  refine T_ld 16 (.int (i32 s)) rfl (fun _ => rfl) ?_
  have G2 : ∀ j, 0 ≤ (upI (m.2 37) (m.1 222) s) j ∧ (upI (m.2 37) (m.1 222) s) j ≤ 15 := upI_rg (hT.2.1 37) ⟨by omega, by omega⟩
  refine K_iast (a' := [(36, upI (m.2 36) s p), (37, upI (m.2 37) (m.1 222) s)]) 17 37 (m.2 37) rfl rfl rfl (by omega) (show (m.1 222) < (16 : Int) by omega) rfl rfl ?_
  refine T_ld 18 (.ref 31) rfl (fun _ => rfl) ?_
  refine T_ld 19 (.ref 31) rfl (fun _ => rfl) ?_
  refine K_gf 22 (.int (i32 (m.1 222))) rfl rfl kd_31 rfl rfl rfl ?_
  refine T_ld 23 (.int (i32 1)) rfl (fun _ => rfl) ?_
  refine T_iadd 24 rfl rfl ?_
  refine K_pf (l' := [(222, (m.1 222) + 1)]) 27 ((m.1 222) + 1) rfl rfl kd_31 rfl rfl rfl rfl rfl rfl rfl ?_
  have g3 : 0 ≤ (m.1 222) + 1 ∧ (m.1 222) + 1 ≤ 16 := ⟨by omega, by omega⟩
  refine T_ret rfl (fun _ => rfl) ?_
  exact ⟨(mO m [(222, (m.1 222) + 1)] [(36, upI (m.2 36) s p), (37, upI (m.2 37) (m.1 222) s)]), (KTy_mO hT rfl rfl ⟨g3, trivial⟩ ⟨G1, G2, trivial⟩), (fr_m fr_0 rfl rfl), (show ((m.1 222) + 1) = (m.1 222) + 1 by omega), (show (upI (m.2 36) s p) = upI (m.2 36) s p by rfl), rfl⟩
def Q_ss_goalOf (m : mR) (c : Nat → Option am_C) (N : Nat) (s : Int) (v : Int) : ag_Re af_T → Prop := fun R => (∃ (r : Int), (0 ≤ r ∧ r ≤ 17) ∧ R = (.inl (some (.int (i32 r))), (khp m c, N), 0, 0))
set_option maxHeartbeats 3000000 in
theorem c_ss_goalOf (w : wX) (m : mR) (c : Nat → Option am_C) (N D : Nat) (hD : 1 ≤ D) (hT : KTy m) (s : Int) (v : Int) (qs : R32 s) (qv : R64 v) (p0 : 0 ≤ s ∧ s ≤ 15) : TC w D 185 [.ref 31, .int (i32 s), .long (i64 v)] (khp m c, N) (Q_ss_goalOf m c N s v) := by
  obtain ⟨D, rfl⟩ : ∃ k, D = k + 1 := ⟨D - 1, by omega⟩
  obtain ⟨qsa, qsb⟩ := id qs
  obtain ⟨qva, qvb⟩ := id qv
  refine Tc_of rfl ?_
  rw [show (khp m c, N) = (khp (mO m [] []) c, N) from by rw [mO_nil m]]
  show TT w D pm_185 (0, [(0, .ref 31), (1, .int (i32 s)), (2, .long (i64 v))], [], (khp (mO m [] []) c, N), 0, 0) (Q_ss_goalOf m c N s v)
  refine T_ld 1 (.int (i32 0)) rfl (fun _ => rfl) ?_
  refine T_sto 3 [(4, .int (i32 0)), (0, .ref 31), (1, .int (i32 s)), (2, .long (i64 v))] rfl (fun _ => rfl) ?_
  have e8 : 0 ≤ m.2 30 s ∧ m.2 30 s ≤ 8 := hT.2.1 30 s
  have L3_2 : ∀ (n7 : Nat) (v1 : Int), (R32 v1) → (0 ≤ v1) → (v1 ≤ (m.2 30) s) → ((m.2 30) s) - v1 < (n7 : Int) → TT w D pm_185 (3, [(0, .ref 31), (1, .int (i32 s)), (2, .long (i64 v)), (4, .int (i32 v1))], [], (khp (mO m [] []) c, N), 0, 0) (Q_ss_goalOf m c N s v) := by
    intro n7
    induction n7 with
    | zero =>
      intro v1 q5 ic3 ic4 hmu
      obtain ⟨q5a, q5b⟩ := id q5
      exfalso
      omega
    | succ n7 ih =>
      intro v1 q5 ic3 ic4 hmu
      obtain ⟨q5a, q5b⟩ := id q5
      have ih9 := ih
      refine T_ld 5 (.int (i32 v1)) rfl (fun _ => rfl) ?_
      refine T_ld 6 (.ref 31) rfl (fun _ => rfl) ?_
      refine K_gf 9 (.ref 36) rfl rfl kd_31 rfl rfl rfl ?_
      refine T_ld 10 (.int (i32 s)) rfl (fun _ => rfl) ?_
      refine K_iald 11 30 (m.2 30) rfl rfl rfl (by omega) (show s < (16 : Int) by omega) rfl ?_
      have e10 : 0 ≤ m.2 30 s ∧ m.2 30 s ≤ 8 := hT.2.1 30 s
      refine T_icmp 59 14 rfl rfl rfl (r32 (by omega) (by omega)) (r32 (by omega) (by omega)) (fun (h11 : (m.2 30) s ≤ v1) => ?_) (fun (h11 : ¬ ((m.2 30) s ≤ v1)) => ?_)
      · skip
        refine T_ld 60 (.ref 31) rfl (fun _ => rfl) ?_
        refine K_gf 63 (.ref 40) rfl rfl kd_31 rfl rfl rfl ?_
        refine T_ld 64 (.int (i32 s)) rfl (fun _ => rfl) ?_
        refine K_iald 65 34 (m.2 34) rfl rfl rfl (by omega) (show s < (16 : Int) by omega) rfl ?_
        have e12 : 0 ≤ m.2 34 s ∧ m.2 34 s ≤ 17 := hT.2.1 34 s
        refine T_ret rfl (fun _ => rfl) ?_
        exact ⟨(m.2 34) s, ⟨by omega, by omega⟩, rfl⟩
      · skip
        refine T_ld 15 (.int (i32 s)) rfl (fun _ => rfl) ?_
        refine T_ld 17 (.int (i32 8)) rfl (fun _ => rfl) ?_
        refine T_imul 18 rfl rfl ?_
        refine T_ld 20 (.int (i32 v1)) rfl (fun _ => rfl) ?_
        refine T_iadd 21 rfl rfl ?_
        refine T_sto 23 [(5, .int (i32 ((s * 8) + v1))), (0, .ref 31), (1, .int (i32 s)), (2, .long (i64 v)), (4, .int (i32 v1))] rfl (fun _ => rfl) ?_
        refine T_ld 24 (.long (i64 v)) rfl (fun _ => rfl) ?_
        refine T_ld 25 (.ref 31) rfl (fun _ => rfl) ?_
        refine K_gf 28 (.ref 37) rfl rfl kd_31 rfl rfl rfl ?_
        refine T_ld 30 (.int (i32 ((s * 8) + v1))) rfl (fun _ => rfl) ?_
        refine K_lald 31 31 (m.2 31) rfl rfl rfl (by omega) (show ((s * 8) + v1) < (128 : Int) by omega) rfl ?_
        have e13 : (-9223372036854775808) ≤ m.2 31 ((s * 8) + v1) ∧ m.2 31 ((s * 8) + v1) ≤ 9223372036854775807 := hT.2.1 31 ((s * 8) + v1)
        refine T_lhv 32 _ rfl (fun _ => rfl) (fun z14 h15 => ?_)
        obtain ⟨h15a, h15b⟩ := h15
        refine T_ld 33 (.ref 31) rfl (fun _ => rfl) ?_
        refine K_gf 36 (.ref 38) rfl rfl kd_31 rfl rfl rfl ?_
        refine T_ld 38 (.int (i32 ((s * 8) + v1))) rfl (fun _ => rfl) ?_
        refine K_lald 39 32 (m.2 32) rfl rfl rfl (by omega) (show ((s * 8) + v1) < (128 : Int) by omega) rfl ?_
        have e16 : (-9223372036854775808) ≤ m.2 32 ((s * 8) + v1) ∧ m.2 32 ((s * 8) + v1) ≤ 9223372036854775807 := hT.2.1 32 ((s * 8) + v1)
        refine T_lhv 40 _ rfl (fun _ => rfl) (fun z17 h18 => ?_)
        obtain ⟨h18a, h18b⟩ := h18
        refine T_ld 41 (.long (i64 0)) rfl (fun _ => rfl) ?_
        refine T_lcmp 42 rfl rfl (r64 (by omega) (by omega)) ⟨by decide, by decide⟩ (fun z19 h20 => ?_)
        obtain ⟨h20a, h20b, h20c, h20d, h20e⟩ := h20
        refine T_if 53 45 rfl rfl rfl (r32 (by omega) (by omega)) (fun (h21 : z19 ≠ 0) => ?_) (fun (h21 : ¬ (z19 ≠ 0)) => ?_)
        · skip
          have hl22 : z17 ≠ 0 := by omega
          refine T_iinc 56 [(4, .int (i32 (v1 + 1))), (5, .int (i32 ((s * 8) + v1))), (0, .ref 31), (1, .int (i32 s)), (2, .long (i64 v))] rfl rfl (by decide) rfl rfl ?_
          refine T_goto 3 rfl (fun _ => rfl) ?_
          refine Tm_lv (a := [(0, .ref 31), (1, .int (i32 s)), (2, .long (i64 v)), (4, .int (i32 (v1 + 1)))]) rfl rfl ⟨rfl, rfl, rfl, rfl, trivial⟩ ?_
          exact ih9 (v1 + 1) (r32 (by omega) (by omega)) (show 0 ≤ (v1 + 1) by omega) (show (v1 + 1) ≤ (m.2 30) s by omega) (show ((m.2 30) s) - (v1 + 1) < (n7 : Int) by omega)
        · skip
          have hl23 : z17 = 0 := by omega
          refine T_ld 46 (.ref 31) rfl (fun _ => rfl) ?_
          refine K_gf 49 (.ref 39) rfl rfl kd_31 rfl rfl rfl ?_
          refine T_ld 51 (.int (i32 ((s * 8) + v1))) rfl (fun _ => rfl) ?_
          refine K_iald 52 33 (m.2 33) rfl rfl rfl (by omega) (show ((s * 8) + v1) < (128 : Int) by omega) rfl ?_
          have e24 : 0 ≤ m.2 33 ((s * 8) + v1) ∧ m.2 33 ((s * 8) + v1) ≤ 17 := hT.2.1 33 ((s * 8) + v1)
          refine T_ret rfl (fun _ => rfl) ?_
          exact ⟨(m.2 33) ((s * 8) + v1), ⟨by omega, by omega⟩, rfl⟩
  refine Tm_lv (a := [(0, .ref 31), (1, .int (i32 s)), (2, .long (i64 v)), (4, .int (i32 0))]) rfl rfl ⟨rfl, rfl, rfl, rfl, trivial⟩ ?_
  exact L3_2 ((((m.2 30) s) - (0 : Int) : Int) + 1).toNat 0 ⟨by decide, by decide⟩ (show 0 ≤ (0 : Int) by omega) (show (0 : Int) ≤ (m.2 30) s by omega) (show ((m.2 30) s) - (0 : Int) < ((((((m.2 30) s) - (0 : Int) : Int) + 1).toNat : Nat) : Int) by omega)
def Q_ss_missing (m : mR) (c : Nat → Option am_C) (N : Nat) : ag_Re af_T → Prop := fun R => (∃ (r : Int), ((-1) ≤ r ∧ r ≤ 4001) ∧ R = (.inl (some (.int (i32 r))), (khp m c, N), 0, 0))
set_option maxHeartbeats 3000000 in
theorem c_ss_missing (w : wX) (m : mR) (c : Nat → Option am_C) (N D : Nat) (hD : 1 ≤ D) (hT : KTy m) : TC w D 145 [.ref 31] (khp m c, N) (Q_ss_missing m c N) := by
  obtain ⟨D, rfl⟩ : ∃ k, D = k + 1 := ⟨D - 1, by omega⟩
  have f221 : 0 ≤ m.1 221 ∧ m.1 221 ≤ 16 := hT.1 221
  refine Tc_of rfl ?_
  rw [show (khp m c, N) = (khp (mO m [] []) c, N) from by rw [mO_nil m]]
  show TT w D pm_145 (0, [(0, .ref 31)], [], (khp (mO m [] []) c, N), 0, 0) (Q_ss_missing m c N)
  refine T_ld 1 (.int (i32 0)) rfl (fun _ => rfl) ?_
  refine T_sto 2 [(1, .int (i32 0)), (0, .ref 31)] rfl (fun _ => rfl) ?_
  have L2_2 : ∀ (n7 : Nat) (v1 : Int), (R32 v1) → (0 ≤ v1) → (v1 ≤ (m.1 221)) → (m.1 221) - v1 < (n7 : Int) → TT w D pm_145 (2, [(0, .ref 31), (1, .int (i32 v1))], [], (khp (mO m [] []) c, N), 0, 0) (Q_ss_missing m c N) := by
    intro n7
    induction n7 with
    | zero =>
      intro v1 q5 ic3 ic4 hmu
      obtain ⟨q5a, q5b⟩ := id q5
      exfalso
      omega
    | succ n7 ih =>
      intro v1 q5 ic3 ic4 hmu
      obtain ⟨q5a, q5b⟩ := id q5
      have ih8 := ih
      refine T_ld 3 (.int (i32 v1)) rfl (fun _ => rfl) ?_
      refine T_ld 4 (.ref 31) rfl (fun _ => rfl) ?_
      refine K_gf 7 (.int (i32 (m.1 221))) rfl rfl kd_31 rfl rfl rfl ?_
      refine T_icmp 33 10 rfl rfl rfl (r32 (by omega) (by omega)) (r32 (by omega) (by omega)) (fun (h9 : (m.1 221) ≤ v1) => ?_) (fun (h9 : ¬ ((m.1 221) ≤ v1)) => ?_)
      · skip
        refine T_ld 34 (.int (i32 (-1))) rfl (fun _ => rfl) ?_
        refine T_ret rfl (fun _ => rfl) ?_
        exact ⟨(-1), ⟨by omega, by omega⟩, rfl⟩
      · skip
        refine T_ld 11 (.ref 31) rfl (fun _ => rfl) ?_
        refine K_gf 14 (.ref 42) rfl rfl kd_31 rfl rfl rfl ?_
        refine T_ld 15 (.int (i32 v1)) rfl (fun _ => rfl) ?_
        refine K_iald 16 36 (m.2 36) rfl rfl rfl (by omega) (show v1 < (16 : Int) by omega) rfl ?_
        have e10 : (-1) ≤ m.2 36 v1 ∧ m.2 36 v1 ≤ 4001 := hT.2.1 36 v1
        refine T_ld 17 (.int (i32 (-1))) rfl (fun _ => rfl) ?_
        refine T_icmp 27 20 rfl rfl rfl (r32 (by omega) (by omega)) ⟨by decide, by decide⟩ (fun (h11 : (m.2 36) v1 ≠ (-1)) => ?_) (fun (h11 : ¬ ((m.2 36) v1 ≠ (-1))) => ?_)
        · skip
          refine T_iinc 30 [(1, .int (i32 (v1 + 1))), (0, .ref 31)] rfl rfl (by decide) rfl rfl ?_
          refine T_goto 2 rfl (fun _ => rfl) ?_
          refine Tm_lv (a := [(0, .ref 31), (1, .int (i32 (v1 + 1)))]) rfl rfl ⟨rfl, rfl, trivial⟩ ?_
          exact ih8 (v1 + 1) (r32 (by omega) (by omega)) (show 0 ≤ (v1 + 1) by omega) (show (v1 + 1) ≤ (m.1 221) by omega) (show (m.1 221) - (v1 + 1) < (n7 : Int) by omega)
        · skip
          refine T_ld 21 (.ref 31) rfl (fun _ => rfl) ?_
          refine K_gf 24 (.ref 41) rfl rfl kd_31 rfl rfl rfl ?_
          refine T_ld 25 (.int (i32 v1)) rfl (fun _ => rfl) ?_
          refine K_iald 26 35 (m.2 35) rfl rfl rfl (by omega) (show v1 < (16 : Int) by omega) rfl ?_
          have e12 : 0 ≤ m.2 35 v1 ∧ m.2 35 v1 ≤ 4001 := hT.2.1 35 v1
          refine T_ret rfl (fun _ => rfl) ?_
          exact ⟨(m.2 35) v1, ⟨by omega, by omega⟩, rfl⟩
  refine Tm_lv (a := [(0, .ref 31), (1, .int (i32 0))]) rfl rfl ⟨rfl, rfl, trivial⟩ ?_
  exact L2_2 (((m.1 221) - (0 : Int) : Int) + 1).toNat 0 ⟨by decide, by decide⟩ (show 0 ≤ (0 : Int) by omega) (show (0 : Int) ≤ (m.1 221) by omega) (show (m.1 221) - (0 : Int) < (((((m.1 221) - (0 : Int) : Int) + 1).toNat : Nat) : Int) by omega)
def Q_tb_isHashed (m : mR) (c : Nat → Option am_C) (N : Nat) (t : Int) : ag_Re af_T → Prop := fun R => (∃ (r : Int), (0 ≤ r ∧ r ≤ 1) ∧ R = (.inl (some (.int (i32 r))), (khp m c, N), 0, 0))
set_option maxHeartbeats 3000000 in
theorem c_tb_isHashed (w : wX) (m : mR) (c : Nat → Option am_C) (N D : Nat) (hD : 1 ≤ D) (hT : KTy m) (t : Int) (qt : R32 t) (p0 : 0 ≤ t ∧ t ≤ 7) : TC w D 135 [.ref (tbr t)] (khp m c, N) (Q_tb_isHashed m c N t) := by
  obtain ⟨D, rfl⟩ : ∃ k, D = k + 1 := ⟨D - 1, by omega⟩
  obtain ⟨qta, qtb⟩ := id qt
  refine Tc_of rfl ?_
  rw [show (khp m c, N) = (khp (mO m [] []) c, N) from by rw [mO_nil m]]
  show TT w D pm_135 (0, [(0, .ref (tbr t))], [], (khp (mO m [] []) c, N), 0, 0) (Q_tb_isHashed m c N t)
  refine T_ld 1 (.int (i32 0)) rfl (fun _ => rfl) ?_
  refine T_sto 2 [(1, .int (i32 0)), (0, .ref (tbr t))] rfl (fun _ => rfl) ?_
  have e8 : 0 ≤ m.2 72 t ∧ m.2 72 t ≤ 4 := hT.2.1 72 t
  have L2_2 : ∀ (n7 : Nat) (v1 : Int), (R32 v1) → (0 ≤ v1) → (v1 ≤ (m.2 72) t) → ((m.2 72) t) - v1 < (n7 : Int) → TT w D pm_135 (2, [(0, .ref (tbr t)), (1, .int (i32 v1))], [], (khp (mO m [] []) c, N), 0, 0) (Q_tb_isHashed m c N t) := by
    intro n7
    induction n7 with
    | zero =>
      intro v1 q5 ic3 ic4 hmu
      obtain ⟨q5a, q5b⟩ := id q5
      exfalso
      omega
    | succ n7 ih =>
      intro v1 q5 ic3 ic4 hmu
      obtain ⟨q5a, q5b⟩ := id q5
      have ih9 := ih
      refine T_ld 3 (.int (i32 v1)) rfl (fun _ => rfl) ?_
      refine T_ld 4 (.ref (tbr t)) rfl (fun _ => rfl) ?_
      refine K_gfi 7 72 (m.2 72) rfl rfl (by omega) (by omega) rfl rfl ?_
      have e10 : 0 ≤ m.2 72 t ∧ m.2 72 t ≤ 4 := hT.2.1 72 t
      refine T_icmp 30 10 rfl rfl rfl (r32 (by omega) (by omega)) (r32 (by omega) (by omega)) (fun (h11 : (m.2 72) t ≤ v1) => ?_) (fun (h11 : ¬ ((m.2 72) t ≤ v1)) => ?_)
      · skip
        refine T_ld 31 (.int (i32 1)) rfl (fun _ => rfl) ?_
        refine T_ret rfl (fun _ => rfl) ?_
        exact ⟨1, ⟨by omega, by omega⟩, rfl⟩
      · skip
        refine T_ld 11 (.ref (tbr t)) rfl (fun _ => rfl) ?_
        refine K_gfr 14 rfl rfl (by omega) (by omega) rfl ?_
        refine T_ld 15 (.int (i32 v1)) rfl (fun _ => rfl) ?_
        refine K_ialt 16 2 (m.2 81) rfl rfl rfl (by omega) (by omega) (by omega) (show v1 < (4 : Int) by omega) rfl ?_
        have e12 : 0 ≤ m.2 81 (65536 * t + v1) ∧ m.2 81 (65536 * t + v1) ≤ 330 := hT.2.1 81 (65536 * t + v1)
        refine T_ld 19 (.int (i32 312)) rfl (fun _ => rfl) ?_
        refine T_icmp 24 22 rfl rfl rfl (r32 (by omega) (by omega)) ⟨by decide, by decide⟩ (fun (h13 : (m.2 81) (65536 * t + v1) = 312) => ?_) (fun (h13 : ¬ ((m.2 81) (65536 * t + v1) = 312)) => ?_)
        · skip
          refine T_iinc 27 [(1, .int (i32 (v1 + 1))), (0, .ref (tbr t))] rfl rfl (by decide) rfl rfl ?_
          refine T_goto 2 rfl (fun _ => rfl) ?_
          refine Tm_lv (a := [(0, .ref (tbr t)), (1, .int (i32 (v1 + 1)))]) rfl rfl ⟨rfl, rfl, trivial⟩ ?_
          exact ih9 (v1 + 1) (r32 (by omega) (by omega)) (show 0 ≤ (v1 + 1) by omega) (show (v1 + 1) ≤ (m.2 72) t by omega) (show ((m.2 72) t) - (v1 + 1) < (n7 : Int) by omega)
        · skip
          refine T_ld 23 (.int (i32 0)) rfl (fun _ => rfl) ?_
          refine T_ret rfl (fun _ => rfl) ?_
          exact ⟨0, ⟨by omega, by omega⟩, rfl⟩
  refine Tm_lv (a := [(0, .ref (tbr t)), (1, .int (i32 0))]) rfl rfl ⟨rfl, rfl, trivial⟩ ?_
  exact L2_2 ((((m.2 72) t) - (0 : Int) : Int) + 1).toNat 0 ⟨by decide, by decide⟩ (show 0 ≤ (0 : Int) by omega) (show (0 : Int) ≤ (m.2 72) t by omega) (show ((m.2 72) t) - (0 : Int) < ((((((m.2 72) t) - (0 : Int) : Int) + 1).toNat : Nat) : Int) by omega)
def Q_tb_lists (m : mR) (c : Nat → Option am_C) (N : Nat) (t : Int) (a : Int) : ag_Re af_T → Prop := fun R => (∃ (r : Int), (0 ≤ r ∧ r ≤ 1) ∧ (r = 1 → LSp t ((m.2 73) t) a (m.2 83)) ∧ R = (.inl (some (.int (i32 r))), (khp m c, N), 0, 0))
set_option maxHeartbeats 3000000 in
theorem c_tb_lists (w : wX) (m : mR) (c : Nat → Option am_C) (N D : Nat) (hD : 1 ≤ D) (hT : KTy m) (t : Int) (a : Int) (qt : R32 t) (qa : R32 a) (p0 : 0 ≤ t ∧ t ≤ 7) : TC w D 132 [.ref (tbr t), .int (i32 a)] (khp m c, N) (Q_tb_lists m c N t a) := by
  obtain ⟨D, rfl⟩ : ∃ k, D = k + 1 := ⟨D - 1, by omega⟩
  obtain ⟨qta, qtb⟩ := id qt
  obtain ⟨qaa, qab⟩ := id qa
  refine Tc_of rfl ?_
  rw [show (khp m c, N) = (khp (mO m [] []) c, N) from by rw [mO_nil m]]
  show TT w D pm_132 (0, [(0, .ref (tbr t)), (1, .int (i32 a))], [], (khp (mO m [] []) c, N), 0, 0) (Q_tb_lists m c N t a)
  refine T_ld 1 (.int (i32 0)) rfl (fun _ => rfl) ?_
  refine T_sto 2 [(2, .int (i32 0)), (0, .ref (tbr t)), (1, .int (i32 a))] rfl (fun _ => rfl) ?_
  have e8 : 0 ≤ m.2 73 t ∧ m.2 73 t ≤ 8 := hT.2.1 73 t
  have L2_2 : ∀ (n7 : Nat) (v1 : Int), (R32 v1) → (0 ≤ v1) → (v1 ≤ (m.2 73) t) → ((m.2 73) t) - v1 < (n7 : Int) → TT w D pm_132 (2, [(0, .ref (tbr t)), (1, .int (i32 a)), (2, .int (i32 v1))], [], (khp (mO m [] []) c, N), 0, 0) (Q_tb_lists m c N t a) := by
    intro n7
    induction n7 with
    | zero =>
      intro v1 q5 ic3 ic4 hmu
      obtain ⟨q5a, q5b⟩ := id q5
      exfalso
      omega
    | succ n7 ih =>
      intro v1 q5 ic3 ic4 hmu
      obtain ⟨q5a, q5b⟩ := id q5
      have ih9 := ih
      refine T_ld 3 (.int (i32 v1)) rfl (fun _ => rfl) ?_
      refine T_ld 4 (.ref (tbr t)) rfl (fun _ => rfl) ?_
      refine K_gfi 7 73 (m.2 73) rfl rfl (by omega) (by omega) rfl rfl ?_
      have e10 : 0 ≤ m.2 73 t ∧ m.2 73 t ≤ 8 := hT.2.1 73 t
      refine T_icmp 28 10 rfl rfl rfl (r32 (by omega) (by omega)) (r32 (by omega) (by omega)) (fun (h11 : (m.2 73) t ≤ v1) => ?_) (fun (h11 : ¬ ((m.2 73) t ≤ v1)) => ?_)
      · skip
        refine T_ld 29 (.int (i32 0)) rfl (fun _ => rfl) ?_
        refine T_ret rfl (fun _ => rfl) ?_
        exact ⟨0, ⟨by omega, by omega⟩, (show (0 : Int) = 1 → LSp t ((m.2 73) t) a (m.2 83) by first | (first | (intro h9; exact absurd h9 (by omega)) | (intro _; exact LS_i (i := v1) (by omega) (by omega) (by omega))) | (exfalso; omega)), rfl⟩
      · skip
        refine T_ld 11 (.ref (tbr t)) rfl (fun _ => rfl) ?_
        refine K_gfr 14 rfl rfl (by omega) (by omega) rfl ?_
        refine T_ld 15 (.int (i32 v1)) rfl (fun _ => rfl) ?_
        refine K_ialt 16 4 (m.2 83) rfl rfl rfl (by omega) (by omega) (by omega) (show v1 < (8 : Int) by omega) rfl ?_
        have e12 : 0 ≤ m.2 83 (65536 * t + v1) ∧ m.2 83 (65536 * t + v1) ≤ 15 := hT.2.1 83 (65536 * t + v1)
        refine T_ld 17 (.int (i32 a)) rfl (fun _ => rfl) ?_
        refine T_icmp 22 20 rfl rfl rfl (r32 (by omega) (by omega)) (r32 (by omega) (by omega)) (fun (h13 : (m.2 83) (65536 * t + v1) ≠ a) => ?_) (fun (h13 : ¬ ((m.2 83) (65536 * t + v1) ≠ a)) => ?_)
        · skip
          refine T_iinc 25 [(2, .int (i32 (v1 + 1))), (0, .ref (tbr t)), (1, .int (i32 a))] rfl rfl (by decide) rfl rfl ?_
          refine T_goto 2 rfl (fun _ => rfl) ?_
          refine Tm_lv (a := [(0, .ref (tbr t)), (1, .int (i32 a)), (2, .int (i32 (v1 + 1)))]) rfl rfl ⟨rfl, rfl, rfl, trivial⟩ ?_
          exact ih9 (v1 + 1) (r32 (by omega) (by omega)) (show 0 ≤ (v1 + 1) by omega) (show (v1 + 1) ≤ (m.2 73) t by omega) (show ((m.2 73) t) - (v1 + 1) < (n7 : Int) by omega)
        · skip
          refine T_ld 21 (.int (i32 1)) rfl (fun _ => rfl) ?_
          refine T_ret rfl (fun _ => rfl) ?_
          exact ⟨1, ⟨by omega, by omega⟩, (show (1 : Int) = 1 → LSp t ((m.2 73) t) a (m.2 83) by first | (first | (intro h9; exact absurd h9 (by omega)) | (intro _; exact LS_i (i := v1) (by omega) (by omega) (by omega))) | (exfalso; omega)), rfl⟩
  refine Tm_lv (a := [(0, .ref (tbr t)), (1, .int (i32 a)), (2, .int (i32 0))]) rfl rfl ⟨rfl, rfl, rfl, trivial⟩ ?_
  exact L2_2 ((((m.2 73) t) - (0 : Int) : Int) + 1).toNat 0 ⟨by decide, by decide⟩ (show 0 ≤ (0 : Int) by omega) (show (0 : Int) ≤ (m.2 73) t by omega) (show ((m.2 73) t) - (0 : Int) < ((((((m.2 73) t) - (0 : Int) : Int) + 1).toNat : Nat) : Int) by omega)
def Q_tb_hasKey (m : mR) (c : Nat → Option am_C) (N : Nat) (t : Int) (k : Int) : ag_Re af_T → Prop := fun R => (∃ (r : Int), (0 ≤ r ∧ r ≤ 1) ∧ R = (.inl (some (.int (i32 r))), (khp m c, N), 0, 0))
set_option maxHeartbeats 3000000 in
theorem c_tb_hasKey (w : wX) (m : mR) (c : Nat → Option am_C) (N D : Nat) (hD : 1 ≤ D) (hT : KTy m) (t : Int) (k : Int) (qt : R32 t) (qk : R32 k) (p0 : 0 ≤ t ∧ t ≤ 7) : TC w D 130 [.ref (tbr t), .int (i32 k)] (khp m c, N) (Q_tb_hasKey m c N t k) := by
  obtain ⟨D, rfl⟩ : ∃ k, D = k + 1 := ⟨D - 1, by omega⟩
  obtain ⟨qta, qtb⟩ := id qt
  obtain ⟨qka, qkb⟩ := id qk
  refine Tc_of rfl ?_
  rw [show (khp m c, N) = (khp (mO m [] []) c, N) from by rw [mO_nil m]]
  show TT w D pm_130 (0, [(0, .ref (tbr t)), (1, .int (i32 k))], [], (khp (mO m [] []) c, N), 0, 0) (Q_tb_hasKey m c N t k)
  refine T_ld 1 (.int (i32 0)) rfl (fun _ => rfl) ?_
  refine T_sto 2 [(2, .int (i32 0)), (0, .ref (tbr t)), (1, .int (i32 k))] rfl (fun _ => rfl) ?_
  have e8 : 0 ≤ m.2 72 t ∧ m.2 72 t ≤ 4 := hT.2.1 72 t
  have L2_2 : ∀ (n7 : Nat) (v1 : Int), (R32 v1) → (0 ≤ v1) → (v1 ≤ (m.2 72) t) → ((m.2 72) t) - v1 < (n7 : Int) → TT w D pm_130 (2, [(0, .ref (tbr t)), (1, .int (i32 k)), (2, .int (i32 v1))], [], (khp (mO m [] []) c, N), 0, 0) (Q_tb_hasKey m c N t k) := by
    intro n7
    induction n7 with
    | zero =>
      intro v1 q5 ic3 ic4 hmu
      obtain ⟨q5a, q5b⟩ := id q5
      exfalso
      omega
    | succ n7 ih =>
      intro v1 q5 ic3 ic4 hmu
      obtain ⟨q5a, q5b⟩ := id q5
      have ih9 := ih
      refine T_ld 3 (.int (i32 v1)) rfl (fun _ => rfl) ?_
      refine T_ld 4 (.ref (tbr t)) rfl (fun _ => rfl) ?_
      refine K_gfi 7 72 (m.2 72) rfl rfl (by omega) (by omega) rfl rfl ?_
      have e10 : 0 ≤ m.2 72 t ∧ m.2 72 t ≤ 4 := hT.2.1 72 t
      refine T_icmp 28 10 rfl rfl rfl (r32 (by omega) (by omega)) (r32 (by omega) (by omega)) (fun (h11 : (m.2 72) t ≤ v1) => ?_) (fun (h11 : ¬ ((m.2 72) t ≤ v1)) => ?_)
      · skip
        refine T_ld 29 (.int (i32 0)) rfl (fun _ => rfl) ?_
        refine T_ret rfl (fun _ => rfl) ?_
        exact ⟨0, ⟨by omega, by omega⟩, rfl⟩
      · skip
        refine T_ld 11 (.ref (tbr t)) rfl (fun _ => rfl) ?_
        refine K_gfr 14 rfl rfl (by omega) (by omega) rfl ?_
        refine T_ld 15 (.int (i32 v1)) rfl (fun _ => rfl) ?_
        refine K_ialt 16 2 (m.2 81) rfl rfl rfl (by omega) (by omega) (by omega) (show v1 < (4 : Int) by omega) rfl ?_
        have e12 : 0 ≤ m.2 81 (65536 * t + v1) ∧ m.2 81 (65536 * t + v1) ≤ 330 := hT.2.1 81 (65536 * t + v1)
        refine T_ld 17 (.int (i32 k)) rfl (fun _ => rfl) ?_
        refine T_icmp 22 20 rfl rfl rfl (r32 (by omega) (by omega)) (r32 (by omega) (by omega)) (fun (h13 : (m.2 81) (65536 * t + v1) ≠ k) => ?_) (fun (h13 : ¬ ((m.2 81) (65536 * t + v1) ≠ k)) => ?_)
        · skip
          refine T_iinc 25 [(2, .int (i32 (v1 + 1))), (0, .ref (tbr t)), (1, .int (i32 k))] rfl rfl (by decide) rfl rfl ?_
          refine T_goto 2 rfl (fun _ => rfl) ?_
          refine Tm_lv (a := [(0, .ref (tbr t)), (1, .int (i32 k)), (2, .int (i32 (v1 + 1)))]) rfl rfl ⟨rfl, rfl, rfl, trivial⟩ ?_
          exact ih9 (v1 + 1) (r32 (by omega) (by omega)) (show 0 ≤ (v1 + 1) by omega) (show (v1 + 1) ≤ (m.2 72) t by omega) (show ((m.2 72) t) - (v1 + 1) < (n7 : Int) by omega)
        · skip
          refine T_ld 21 (.int (i32 1)) rfl (fun _ => rfl) ?_
          refine T_ret rfl (fun _ => rfl) ?_
          exact ⟨1, ⟨by omega, by omega⟩, rfl⟩
  refine Tm_lv (a := [(0, .ref (tbr t)), (1, .int (i32 k)), (2, .int (i32 0))]) rfl rfl ⟨rfl, rfl, rfl, trivial⟩ ?_
  exact L2_2 ((((m.2 72) t) - (0 : Int) : Int) + 1).toNat 0 ⟨by decide, by decide⟩ (show 0 ≤ (0 : Int) by omega) (show (0 : Int) ≤ (m.2 72) t by omega) (show ((m.2 72) t) - (0 : Int) < ((((((m.2 72) t) - (0 : Int) : Int) + 1).toNat : Nat) : Int) by omega)
def Q_tb_wires (m : mR) (c : Nat → Option am_C) (N : Nat) (t : Int) : ag_Re af_T → Prop := fun R => (∃ (r : Int), (0 ≤ r ∧ r ≤ 256) ∧ R = (.inl (some (.int (i32 r))), (khp m c, N), 0, 0))
set_option maxHeartbeats 3000000 in
theorem c_tb_wires (w : wX) (m : mR) (c : Nat → Option am_C) (N D : Nat) (hD : 1 ≤ D) (hT : KTy m) (t : Int) (qt : R32 t) (p0 : 0 ≤ t ∧ t ≤ 7) : TC w D 158 [.ref (tbr t)] (khp m c, N) (Q_tb_wires m c N t) := by
  obtain ⟨D, rfl⟩ : ∃ k, D = k + 1 := ⟨D - 1, by omega⟩
  obtain ⟨qta, qtb⟩ := id qt
  refine Tc_of rfl ?_
  rw [show (khp m c, N) = (khp (mO m [] []) c, N) from by rw [mO_nil m]]
  show TT w D pm_158 (0, [(0, .ref (tbr t))], [], (khp (mO m [] []) c, N), 0, 0) (Q_tb_wires m c N t)
  refine T_ld 1 (.int (i32 0)) rfl (fun _ => rfl) ?_
  refine T_sto 2 [(1, .int (i32 0)), (0, .ref (tbr t))] rfl (fun _ => rfl) ?_
  refine T_ld 3 (.int (i32 0)) rfl (fun _ => rfl) ?_
  refine T_sto 4 [(2, .int (i32 0)), (1, .int (i32 0)), (0, .ref (tbr t))] rfl (fun _ => rfl) ?_
  have e12 : 0 ≤ m.2 72 t ∧ m.2 72 t ≤ 4 := hT.2.1 72 t
  have L4_3 : ∀ (n11 : Nat) (v1 : Int) (v2 : Int), (R32 v1) → (R32 v2) → (0 ≤ v1) → (0 ≤ v2) → (v2 ≤ (m.2 72) t) → (0 ≤ v1 ∧ v1 ≤ 64 * v2) → ((m.2 72) t) - v2 < (n11 : Int) → TT w D pm_158 (4, [(0, .ref (tbr t)), (1, .int (i32 v1)), (2, .int (i32 v2))], [], (khp (mO m [] []) c, N), 0, 0) (Q_tb_wires m c N t) := by
    intro n11
    induction n11 with
    | zero =>
      intro v1 v2 q8 q9 ic4 ic5 ic6 ic7 hmu
      obtain ⟨q8a, q8b⟩ := id q8
      obtain ⟨q9a, q9b⟩ := id q9
      exfalso
      omega
    | succ n11 ih =>
      intro v1 v2 q8 q9 ic4 ic5 ic6 ic7 hmu
      obtain ⟨q8a, q8b⟩ := id q8
      obtain ⟨q9a, q9b⟩ := id q9
      have ih13 := ih
      refine T_ld 5 (.int (i32 v2)) rfl (fun _ => rfl) ?_
      refine T_ld 6 (.ref (tbr t)) rfl (fun _ => rfl) ?_
      refine K_gfi 9 72 (m.2 72) rfl rfl (by omega) (by omega) rfl rfl ?_
      have e14 : 0 ≤ m.2 72 t ∧ m.2 72 t ≤ 4 := hT.2.1 72 t
      refine T_icmp 27 12 rfl rfl rfl (r32 (by omega) (by omega)) (r32 (by omega) (by omega)) (fun (h15 : (m.2 72) t ≤ v2) => ?_) (fun (h15 : ¬ ((m.2 72) t ≤ v2)) => ?_)
      · skip
        refine T_ld 28 (.int (i32 v1)) rfl (fun _ => rfl) ?_
        refine T_ret rfl (fun _ => rfl) ?_
        exact ⟨v1, ⟨by omega, by omega⟩, rfl⟩
      · skip
        refine T_ld 13 (.int (i32 v1)) rfl (fun _ => rfl) ?_
        refine T_ld 14 (.ref (tbr t)) rfl (fun _ => rfl) ?_
        refine K_gfr 17 rfl rfl (by omega) (by omega) rfl ?_
        refine T_ld 18 (.int (i32 v2)) rfl (fun _ => rfl) ?_
        refine K_ialt 19 3 (m.2 82) rfl rfl rfl (by omega) (by omega) (by omega) (show v2 < (4 : Int) by omega) rfl ?_
        have e16 : 0 ≤ m.2 82 (65536 * t + v2) ∧ m.2 82 (65536 * t + v2) ≤ 64 := hT.2.1 82 (65536 * t + v2)
        refine T_iadd 20 rfl rfl ?_
        refine T_sto 21 [(1, .int (i32 (v1 + ((m.2 82) (65536 * t + v2))))), (0, .ref (tbr t)), (2, .int (i32 v2))] rfl (fun _ => rfl) ?_
        refine T_iinc 24 [(2, .int (i32 (v2 + 1))), (1, .int (i32 (v1 + ((m.2 82) (65536 * t + v2))))), (0, .ref (tbr t))] rfl rfl (by decide) rfl rfl ?_
        refine T_goto 4 rfl (fun _ => rfl) ?_
        refine Tm_lv (a := [(0, .ref (tbr t)), (1, .int (i32 (v1 + ((m.2 82) (65536 * t + v2))))), (2, .int (i32 (v2 + 1)))]) rfl rfl ⟨rfl, rfl, rfl, trivial⟩ ?_
        exact ih13 (v1 + ((m.2 82) (65536 * t + v2))) (v2 + 1) (r32 (by omega) (by omega)) (r32 (by omega) (by omega)) (show 0 ≤ (v1 + ((m.2 82) (65536 * t + v2))) by omega) (show 0 ≤ (v2 + 1) by omega) (show (v2 + 1) ≤ (m.2 72) t by omega) (show 0 ≤ (v1 + ((m.2 82) (65536 * t + v2))) ∧ (v1 + ((m.2 82) (65536 * t + v2))) ≤ 64 * (v2 + 1) by omega) (show ((m.2 72) t) - (v2 + 1) < (n11 : Int) by omega)
  refine Tm_lv (a := [(0, .ref (tbr t)), (1, .int (i32 0)), (2, .int (i32 0))]) rfl rfl ⟨rfl, rfl, rfl, trivial⟩ ?_
  exact L4_3 ((((m.2 72) t) - (0 : Int) : Int) + 1).toNat 0 0 ⟨by decide, by decide⟩ ⟨by decide, by decide⟩ (show 0 ≤ (0 : Int) by omega) (show 0 ≤ (0 : Int) by omega) (show (0 : Int) ≤ (m.2 72) t by omega) (show 0 ≤ (0 : Int) ∧ (0 : Int) ≤ 64 * (0 : Int) by omega) (show ((m.2 72) t) - (0 : Int) < ((((((m.2 72) t) - (0 : Int) : Int) + 1).toNat : Nat) : Int) by omega)
