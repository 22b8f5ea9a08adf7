def fF_readsCode : List Nat := []
def fA_readsCode : List Nat := [135]
def Q_readsCode (m : mR) (c : Nat → Option am_C) (N : Nat) (p : Int) (f : Int) (t : Int) : ag_Re af_T → Prop := fun R => ∃ (M : mR), Ty M ∧ fr fF_readsCode fA_readsCode m M ∧ R = (.inl (none), (mhp M c, N), 0, 0)
set_option maxHeartbeats 3000000 in
theorem c_readsCode (w : wX) (m : mR) (c : Nat → Option am_C) (N D : Nat) (hD : 1 ≤ D) (hT : Ty m) (p : Int) (f : Int) (t : Int) (qp : R32 p) (qf : R32 f) (qt : R32 t) (p0 : 0 ≤ p ∧ p ≤ 47) (p1 : 0 ≤ f ∧ f ≤ 800) (p2 : 0 ≤ t ∧ t ≤ 800) (p3 : t ≤ (m.1 28)) (hCN : CN (m.2 65) (m.2 67) (m.1 28)) : TC w D 292 [.ref 189, .int (i32 p), .int (i32 f), .int (i32 t)] (mhp m c, N) (Q_readsCode m c N p f t) := by
  obtain ⟨D, rfl⟩ : ∃ k, D = k + 1 := ⟨D - 1, by omega⟩
  obtain ⟨qpa, qpb⟩ := id qp
  obtain ⟨qfa, qfb⟩ := id qf
  obtain ⟨qta, qtb⟩ := id qt
  have f28 : 0 ≤ m.1 28 ∧ m.1 28 ≤ 800 := hT.1 28
  refine Tc_of rfl ?_
  show TT w D pm_292 (0, [(0, .ref 189), (1, .int (i32 p)), (2, .int (i32 f)), (3, .int (i32 t))], [], (mhp (mO m [] []) c, N), 0, 0) (Q_readsCode m c N p f t)
  refine T_ld 1 (.int (i32 f)) rfl (fun _ => rfl) ?_
  refine T_sto 3 [(4, .int (i32 f)), (0, .ref 189), (1, .int (i32 p)), (2, .int (i32 f)), (3, .int (i32 t))] rfl (fun _ => rfl) ?_
  have L3_3 : ∀ (n10 : Nat) (v1 : Int) (m2 : mR), (R32 v1) → Ty m2 → fr [] [135] (mO m [] []) m2 → (0 ≤ v1) → (v1 ≤ 800) → (f ≤ v1 ∧ v1 ≤ 800) → t - v1 + 800 < (n10 : Int) → TT w D pm_292 (3, [(0, .ref 189), (1, .int (i32 p)), (2, .int (i32 f)), (3, .int (i32 t)), (4, .int (i32 v1))], [], (mhp (mO m2 [] []) c, N), 0, 0) (Q_readsCode m c N p f t) := by
    intro n10
    induction n10 with
    | zero =>
      intro v1 m2 q7 Tm2 Fm2 ic4 ic5 ic6 hmu
      obtain ⟨q7a, q7b⟩ := id q7
      exfalso
      omega
    | succ n10 ih =>
      intro v1 m2 q7 Tm2 Fm2 ic4 ic5 ic6 hmu
      obtain ⟨q7a, q7b⟩ := id q7
      have ih11 := ih
      refine T_ld 5 (.int (i32 v1)) rfl (fun _ => rfl) ?_
      refine T_ld 6 (.int (i32 t)) rfl (fun _ => rfl) ?_
      refine T_icmp 135 9 rfl rfl rfl (r32 (by omega) (by omega)) (r32 (by omega) (by omega)) (fun (h12 : t ≤ v1) => ?_) (fun (h12 : ¬ (t ≤ v1)) => ?_)
      · skip
        refine T_ret rfl (fun _ => rfl) ?_
        exact ⟨(mO m2 [] []), Tm2, (fr_m (fr_s Fm2 (fr_m fr_0 rfl rfl) rfl rfl) rfl rfl), rfl⟩
      · skip
        obtain ⟨hk2, hk3, hk4, hk5⟩ := hCN v1 (by omega) (by omega)
        refine T_gf 13 (.ref 236) rfl rfl rfl rfl rfl rfl ?_
        refine T_ld 15 (.int (i32 v1)) rfl (fun _ => rfl) ?_
        refine T_iald 16 67 (m.2 67) rfl rfl rfl (by omega) (show v1 < (800 : Int) by omega) (show (m2.2 67) = (m.2 67) from (fr2 Fm2 67 rfl)) ?_
        have e13 : 0 ≤ m.2 67 v1 ∧ m.2 67 v1 ≤ 191 := hT.2.1 67 v1
        refine T_sto 18 [(5, .int (i32 ((m.2 67) v1))), (0, .ref 189), (1, .int (i32 p)), (2, .int (i32 f)), (3, .int (i32 t)), (4, .int (i32 v1))] rfl (fun _ => rfl) ?_
        refine T_ld 21 (.int (i32 221)) rfl (fun _ => rfl) ?_
        refine T_ld 22 (.int (i32 p)) rfl (fun _ => rfl) ?_
        refine T_imul 23 rfl rfl ?_
        refine T_sto 25 [(6, .int (i32 (221 * p))), (5, .int (i32 ((m.2 67) v1))), (0, .ref 189), (1, .int (i32 p)), (2, .int (i32 f)), (3, .int (i32 t)), (4, .int (i32 v1))] rfl (fun _ => rfl) ?_
        refine T_gf 29 (.ref 234) rfl rfl rfl rfl rfl rfl ?_
        refine T_ld 31 (.int (i32 v1)) rfl (fun _ => rfl) ?_
        refine T_iald 32 65 (m.2 65) rfl rfl rfl (by omega) (show v1 < (800 : Int) by omega) (show (m2.2 65) = (m.2 65) from (fr2 Fm2 65 rfl)) ?_
        have e14 : 0 ≤ m.2 65 v1 ∧ m.2 65 v1 ≤ 408 := hT.2.1 65 v1
        refine T_ld 35 (.int (i32 401)) rfl (fun _ => rfl) ?_
        refine T_icmp 70 38 rfl rfl rfl (r32 (by omega) (by omega)) ⟨by decide, by decide⟩ (fun (h15 : (m.2 65) v1 ≠ 401) => ?_) (fun (h15 : ¬ ((m.2 65) v1 ≠ 401)) => ?_)
        · skip
          refine T_gf 74 (.ref 234) rfl rfl rfl rfl rfl rfl ?_
          refine T_ld 76 (.int (i32 v1)) rfl (fun _ => rfl) ?_
          refine T_iald 77 65 (m.2 65) rfl rfl rfl (by omega) (show v1 < (800 : Int) by omega) (show (m2.2 65) = (m.2 65) from (fr2 Fm2 65 rfl)) ?_
          have e16 : 0 ≤ m.2 65 v1 ∧ m.2 65 v1 ≤ 408 := hT.2.1 65 v1
          refine T_ld 80 (.int (i32 404)) rfl (fun _ => rfl) ?_
          refine T_icmp 101 83 rfl rfl rfl (r32 (by omega) (by omega)) ⟨by decide, by decide⟩ (fun (h17 : (m.2 65) v1 ≠ 404) => ?_) (fun (h17 : ¬ ((m.2 65) v1 ≠ 404)) => ?_)
          · skip
            refine T_gf 105 (.ref 234) rfl rfl rfl rfl rfl rfl ?_
            refine T_ld 107 (.int (i32 v1)) rfl (fun _ => rfl) ?_
            refine T_iald 108 65 (m.2 65) rfl rfl rfl (by omega) (show v1 < (800 : Int) by omega) (show (m2.2 65) = (m.2 65) from (fr2 Fm2 65 rfl)) ?_
            have e18 : 0 ≤ m.2 65 v1 ∧ m.2 65 v1 ≤ 408 := hT.2.1 65 v1
            refine T_ld 111 (.int (i32 402)) rfl (fun _ => rfl) ?_
            refine T_icmp 129 114 rfl rfl rfl (r32 (by omega) (by omega)) ⟨by decide, by decide⟩ (fun (h19 : (m.2 65) v1 ≠ 402) => ?_) (fun (h19 : ¬ ((m.2 65) v1 ≠ 402)) => ?_)
            · skip
              refine T_iinc 132 [(4, .int (i32 (v1 + 1))), (6, .int (i32 (221 * p))), (5, .int (i32 ((m.2 67) v1))), (0, .ref 189), (1, .int (i32 p)), (2, .int (i32 f)), (3, .int (i32 t))] rfl rfl (by decide) rfl rfl ?_
              refine T_goto 3 rfl (fun _ => rfl) ?_
              refine Tm_lv (a := [(0, .ref 189), (1, .int (i32 p)), (2, .int (i32 f)), (3, .int (i32 t)), (4, .int (i32 (v1 + 1)))]) rfl rfl ⟨rfl, rfl, rfl, rfl, rfl, trivial⟩ ?_
              exact ih11 (v1 + 1) (mO m2 [] []) (r32 (by omega) (by omega)) Tm2 (fr_m (fr_s Fm2 (fr_m fr_0 rfl rfl) rfl rfl) rfl rfl) (show 0 ≤ (v1 + 1) by omega) (show (v1 + 1) ≤ 800 by omega) (show f ≤ (v1 + 1) ∧ (v1 + 1) ≤ 800 by omega) (show t - (v1 + 1) + 800 < (n10 : Int) by omega)
            · skip
              refine T_gf 118 (.ref 289) rfl rfl rfl rfl rfl rfl ?_
              refine T_ld 120 (.int (i32 (221 * p))) rfl (fun _ => rfl) ?_
              refine T_ld 123 (.int (i32 204)) rfl (fun _ => rfl) ?_
              refine T_iadd 124 rfl rfl ?_
              refine T_ld 126 (.int (i32 ((m.2 67) v1))) rfl (fun _ => rfl) ?_
              refine T_iadd 127 rfl rfl ?_
              refine T_ld 128 (.int (i32 1)) rfl (fun _ => rfl) ?_
              have G20 : ∀ j, 0 ≤ (upI (m2.2 135) (((221 * p) + 204) + ((m.2 67) v1)) 1) j ∧ (upI (m2.2 135) (((221 * p) + 204) + ((m.2 67) v1)) 1) j ≤ 1 := upI_rg (Tm2.2.1 135) ⟨by omega, by omega⟩
              refine T_bast (a' := [(135, upI (m2.2 135) (((221 * p) + 204) + ((m.2 67) v1)) 1)]) 129 135 (m2.2 135) rfl rfl rfl (by omega) (show (((221 * p) + 204) + ((m.2 67) v1)) < (10608 : Int) by omega) (by omega) rfl rfl ?_
              refine T_iinc 132 [(4, .int (i32 (v1 + 1))), (6, .int (i32 (221 * p))), (5, .int (i32 ((m.2 67) v1))), (0, .ref 189), (1, .int (i32 p)), (2, .int (i32 f)), (3, .int (i32 t))] rfl rfl (by decide) rfl rfl ?_
              refine T_goto 3 rfl (fun _ => rfl) ?_
              refine Tm_lv (a := [(0, .ref 189), (1, .int (i32 p)), (2, .int (i32 f)), (3, .int (i32 t)), (4, .int (i32 (v1 + 1)))]) rfl rfl ⟨rfl, rfl, rfl, rfl, rfl, trivial⟩ ?_
              exact ih11 (v1 + 1) (mO m2 [] [(135, upI (m2.2 135) (((221 * p) + 204) + ((m.2 67) v1)) 1)]) (r32 (by omega) (by omega)) (Ty_mO Tm2 rfl rfl trivial ⟨G20, trivial⟩) (fr_m (fr_s Fm2 (fr_m fr_0 rfl rfl) rfl rfl) rfl rfl) (show 0 ≤ (v1 + 1) by omega) (show (v1 + 1) ≤ 800 by omega) (show f ≤ (v1 + 1) ∧ (v1 + 1) ≤ 800 by omega) (show t - (v1 + 1) + 800 < (n10 : Int) by omega)
          · skip
            refine T_gf 87 (.ref 289) rfl rfl rfl rfl rfl rfl ?_
            refine T_ld 89 (.int (i32 (221 * p))) rfl (fun _ => rfl) ?_
            refine T_ld 92 (.int (i32 192)) rfl (fun _ => rfl) ?_
            refine T_iadd 93 rfl rfl ?_
            refine T_ld 95 (.int (i32 ((m.2 67) v1))) rfl (fun _ => rfl) ?_
            refine T_iadd 96 rfl rfl ?_
            refine T_ld 97 (.int (i32 1)) rfl (fun _ => rfl) ?_
            have G21 : ∀ j, 0 ≤ (upI (m2.2 135) (((221 * p) + 192) + ((m.2 67) v1)) 1) j ∧ (upI (m2.2 135) (((221 * p) + 192) + ((m.2 67) v1)) 1) j ≤ 1 := upI_rg (Tm2.2.1 135) ⟨by omega, by omega⟩
            refine T_bast (a' := [(135, upI (m2.2 135) (((221 * p) + 192) + ((m.2 67) v1)) 1)]) 98 135 (m2.2 135) rfl rfl rfl (by omega) (show (((221 * p) + 192) + ((m.2 67) v1)) < (10608 : Int) by omega) (by omega) rfl rfl ?_
            refine T_goto 129 rfl (fun _ => rfl) ?_
            refine T_iinc 132 [(4, .int (i32 (v1 + 1))), (6, .int (i32 (221 * p))), (5, .int (i32 ((m.2 67) v1))), (0, .ref 189), (1, .int (i32 p)), (2, .int (i32 f)), (3, .int (i32 t))] rfl rfl (by decide) rfl rfl ?_
            refine T_goto 3 rfl (fun _ => rfl) ?_
            refine Tm_lv (a := [(0, .ref 189), (1, .int (i32 p)), (2, .int (i32 f)), (3, .int (i32 t)), (4, .int (i32 (v1 + 1)))]) rfl rfl ⟨rfl, rfl, rfl, rfl, rfl, trivial⟩ ?_
            exact ih11 (v1 + 1) (mO m2 [] [(135, upI (m2.2 135) (((221 * p) + 192) + ((m.2 67) v1)) 1)]) (r32 (by omega) (by omega)) (Ty_mO Tm2 rfl rfl trivial ⟨G21, trivial⟩) (fr_m (fr_s Fm2 (fr_m fr_0 rfl rfl) rfl rfl) rfl rfl) (show 0 ≤ (v1 + 1) by omega) (show (v1 + 1) ≤ 800 by omega) (show f ≤ (v1 + 1) ∧ (v1 + 1) ≤ 800 by omega) (show t - (v1 + 1) + 800 < (n10 : Int) by omega)
        · skip
          refine T_gf 42 (.ref 289) rfl rfl rfl rfl rfl rfl ?_
          refine T_ld 44 (.int (i32 (221 * p))) rfl (fun _ => rfl) ?_
          refine T_ld 46 (.int (i32 ((m.2 67) v1))) rfl (fun _ => rfl) ?_
          refine T_iadd 47 rfl rfl ?_
          refine T_ld 48 (.int (i32 1)) rfl (fun _ => rfl) ?_
          have G22 : ∀ j, 0 ≤ (upI (m2.2 135) ((221 * p) + ((m.2 67) v1)) 1) j ∧ (upI (m2.2 135) ((221 * p) + ((m.2 67) v1)) 1) j ≤ 1 := upI_rg (Tm2.2.1 135) ⟨by omega, by omega⟩
          refine T_bast (a' := [(135, upI (m2.2 135) ((221 * p) + ((m.2 67) v1)) 1)]) 49 135 (m2.2 135) rfl rfl rfl (by omega) (show ((221 * p) + ((m.2 67) v1)) < (10608 : Int) by omega) (by omega) rfl rfl ?_
          refine T_gf 53 (.ref 289) rfl rfl rfl rfl rfl rfl ?_
          refine T_ld 55 (.int (i32 (221 * p))) rfl (fun _ => rfl) ?_
          refine T_ld 58 (.int (i32 192)) rfl (fun _ => rfl) ?_
          refine T_iadd 59 rfl rfl ?_
          refine T_ld 61 (.int (i32 ((m.2 67) v1))) rfl (fun _ => rfl) ?_
          refine T_ld 63 (.int (i32 16)) rfl (fun _ => rfl) ?_
          refine T_idiv 64 rfl rfl (by omega) (by omega) (by omega) (by omega) ?_
          refine T_iadd 65 rfl rfl ?_
          refine T_ld 66 (.int (i32 1)) rfl (fun _ => rfl) ?_
          have G23 : ∀ j, 0 ≤ (upI (upI (m2.2 135) ((221 * p) + ((m.2 67) v1)) 1) (((221 * p) + 192) + (((m.2 67) v1) / 16)) 1) j ∧ (upI (upI (m2.2 135) ((221 * p) + ((m.2 67) v1)) 1) (((221 * p) + 192) + (((m.2 67) v1) / 16)) 1) j ≤ 1 := upI_rg G22 ⟨by omega, by omega⟩
          refine T_bast (a' := [(135, upI (upI (m2.2 135) ((221 * p) + ((m.2 67) v1)) 1) (((221 * p) + 192) + (((m.2 67) v1) / 16)) 1)]) 67 135 (upI (m2.2 135) ((221 * p) + ((m.2 67) v1)) 1) rfl rfl rfl (by omega) (show (((221 * p) + 192) + (((m.2 67) v1) / 16)) < (10608 : Int) by omega) (by omega) rfl rfl ?_
          refine T_goto 129 rfl (fun _ => rfl) ?_
          refine T_iinc 132 [(4, .int (i32 (v1 + 1))), (6, .int (i32 (221 * p))), (5, .int (i32 ((m.2 67) v1))), (0, .ref 189), (1, .int (i32 p)), (2, .int (i32 f)), (3, .int (i32 t))] rfl rfl (by decide) rfl rfl ?_
          refine T_goto 3 rfl (fun _ => rfl) ?_
          refine Tm_lv (a := [(0, .ref 189), (1, .int (i32 p)), (2, .int (i32 f)), (3, .int (i32 t)), (4, .int (i32 (v1 + 1)))]) rfl rfl ⟨rfl, rfl, rfl, rfl, rfl, trivial⟩ ?_
          exact ih11 (v1 + 1) (mO m2 [] [(135, upI (upI (m2.2 135) ((221 * p) + ((m.2 67) v1)) 1) (((221 * p) + 192) + (((m.2 67) v1) / 16)) 1)]) (r32 (by omega) (by omega)) (Ty_mO Tm2 rfl rfl trivial ⟨G23, trivial⟩) (fr_m (fr_s Fm2 (fr_m fr_0 rfl rfl) rfl rfl) rfl rfl) (show 0 ≤ (v1 + 1) by omega) (show (v1 + 1) ≤ 800 by omega) (show f ≤ (v1 + 1) ∧ (v1 + 1) ≤ 800 by omega) (show t - (v1 + 1) + 800 < (n10 : Int) by omega)
  refine Tm_lv (a := [(0, .ref 189), (1, .int (i32 p)), (2, .int (i32 f)), (3, .int (i32 t)), (4, .int (i32 f))]) rfl rfl ⟨rfl, rfl, rfl, rfl, rfl, trivial⟩ ?_
  exact L3_3 ((t - f + 800 : Int) + 1).toNat f (mO m [] []) (r32 (by omega) (by omega)) hT (fr_m fr_0 rfl rfl) (show 0 ≤ f by omega) (show f ≤ 800 by omega) (show f ≤ f ∧ f ≤ 800 by omega) (show t - f + 800 < ((((t - f + 800 : Int) + 1).toNat : Nat) : Int) by omega)
def fF_writesPlace : List Nat := []
def fA_writesPlace : List Nat := [135, 136]
def Q_writesPlace (m : mR) (c : Nat → Option am_C) (N : Nat) (p : Int) (q : Int) : ag_Re af_T → Prop := fun R => ∃ (M : mR), Ty M ∧ fr fF_writesPlace fA_writesPlace m M ∧ R = (.inl (none), (mhp M c, N), 0, 0)
set_option maxHeartbeats 3000000 in
theorem c_writesPlace (w : wX) (m : mR) (c : Nat → Option am_C) (N D : Nat) (hD : 1 ≤ D) (hT : Ty m) (p : Int) (q : Int) (qp : R32 p) (qq : R32 q) (p0 : 0 ≤ p ∧ p ≤ 47) (p1 : 0 ≤ q ∧ q ≤ 207) : TC w D 293 [.ref 189, .int (i32 p), .int (i32 q)] (mhp m c, N) (Q_writesPlace m c N p q) := by
  obtain ⟨D, rfl⟩ : ∃ k, D = k + 1 := ⟨D - 1, by omega⟩
  obtain ⟨qpa, qpb⟩ := id qp
  obtain ⟨qqa, qqb⟩ := id qq
  refine Tc_of rfl ?_
  show TT w D pm_293 (0, [(0, .ref 189), (1, .int (i32 p)), (2, .int (i32 q))], [], (mhp (mO m [] []) c, N), 0, 0) (Q_writesPlace m c N p q)
  refine T_ld 3 (.int (i32 221)) rfl (fun _ => rfl) ?_
  refine T_ld 4 (.int (i32 p)) rfl (fun _ => rfl) ?_
  refine T_imul 5 rfl rfl ?_
  refine T_sto 6 [(3, .int (i32 (221 * p))), (0, .ref 189), (1, .int (i32 p)), (2, .int (i32 q))] rfl (fun _ => rfl) ?_
  refine T_ld 7 (.int (i32 q)) rfl (fun _ => rfl) ?_
  refine T_ld 9 (.int (i32 16)) rfl (fun _ => rfl) ?_
  refine T_icmp 26 12 rfl rfl rfl (r32 (by omega) (by omega)) ⟨by decide, by decide⟩ (fun (h1 : (16 : Int) ≤ q) => ?_) (fun (h1 : ¬ ((16 : Int) ≤ q)) => ?_)
  · skip
    refine T_gf 30 (.ref 290) rfl rfl rfl rfl rfl rfl ?_
    refine T_ld 31 (.int (i32 (221 * p))) rfl (fun _ => rfl) ?_
    refine T_ld 32 (.int (i32 q)) rfl (fun _ => rfl) ?_
    refine T_iadd 33 rfl rfl ?_
    refine T_ld 35 (.int (i32 16)) rfl (fun _ => rfl) ?_
    refine T_isub 36 rfl rfl ?_
    refine T_ld 37 (.int (i32 1)) rfl (fun _ => rfl) ?_
    have G2 : ∀ j, 0 ≤ (upI (m.2 136) (((221 * p) + q) - 16) 1) j ∧ (upI (m.2 136) (((221 * p) + q) - 16) 1) j ≤ 1 := upI_rg (hT.2.1 136) ⟨by omega, by omega⟩
    refine T_bast (a' := [(136, upI (m.2 136) (((221 * p) + q) - 16) 1)]) 38 136 (m.2 136) rfl rfl rfl (by omega) (show (((221 * p) + q) - 16) < (10608 : Int) by omega) (by omega) rfl rfl ?_
    refine T_gf 42 (.ref 289) rfl rfl rfl rfl rfl rfl ?_
    refine T_ld 43 (.int (i32 (221 * p))) rfl (fun _ => rfl) ?_
    refine T_ld 46 (.int (i32 192)) rfl (fun _ => rfl) ?_
    refine T_iadd 47 rfl rfl ?_
    refine T_ld 48 (.int (i32 q)) rfl (fun _ => rfl) ?_
    refine T_ld 50 (.int (i32 16)) rfl (fun _ => rfl) ?_
    refine T_isub 51 rfl rfl ?_
    refine T_ld 53 (.int (i32 16)) rfl (fun _ => rfl) ?_
    refine T_idiv 54 rfl rfl (by omega) (by omega) (by omega) (by omega) ?_
    refine T_iadd 55 rfl rfl ?_
    refine T_ld 56 (.int (i32 1)) rfl (fun _ => rfl) ?_
    have G3 : ∀ j, 0 ≤ (upI (m.2 135) (((221 * p) + 192) + ((q - 16) / 16)) 1) j ∧ (upI (m.2 135) (((221 * p) + 192) + ((q - 16) / 16)) 1) j ≤ 1 := upI_rg (hT.2.1 135) ⟨by omega, by omega⟩
    refine T_bast (a' := [(135, upI (m.2 135) (((221 * p) + 192) + ((q - 16) / 16)) 1), (136, upI (m.2 136) (((221 * p) + q) - 16) 1)]) 57 135 (m.2 135) rfl rfl rfl (by omega) (show (((221 * p) + 192) + ((q - 16) / 16)) < (10608 : Int) by omega) (by omega) rfl rfl ?_
    refine T_ret rfl (fun _ => rfl) ?_
    exact ⟨(mO m [] [(135, upI (m.2 135) (((221 * p) + 192) + ((q - 16) / 16)) 1), (136, upI (m.2 136) (((221 * p) + q) - 16) 1)]), (Ty_mO hT rfl rfl trivial ⟨G3, G2, trivial⟩), (fr_m fr_0 rfl rfl), rfl⟩
  · skip
    refine T_gf 16 (.ref 290) rfl rfl rfl rfl rfl rfl ?_
    refine T_ld 17 (.int (i32 (221 * p))) rfl (fun _ => rfl) ?_
    refine T_ld 20 (.int (i32 204)) rfl (fun _ => rfl) ?_
    refine T_iadd 21 rfl rfl ?_
    refine T_ld 22 (.int (i32 q)) rfl (fun _ => rfl) ?_
    refine T_iadd 23 rfl rfl ?_
    refine T_ld 24 (.int (i32 1)) rfl (fun _ => rfl) ?_
    have G4 : ∀ j, 0 ≤ (upI (m.2 136) (((221 * p) + 204) + q) 1) j ∧ (upI (m.2 136) (((221 * p) + 204) + q) 1) j ≤ 1 := upI_rg (hT.2.1 136) ⟨by omega, by omega⟩
    refine T_bast (a' := [(136, upI (m.2 136) (((221 * p) + 204) + q) 1)]) 25 136 (m.2 136) rfl rfl rfl (by omega) (show (((221 * p) + 204) + q) < (10608 : Int) by omega) (by omega) rfl rfl ?_
    refine T_ret rfl (fun _ => rfl) ?_
    exact ⟨(mO m [] [(136, upI (m.2 136) (((221 * p) + 204) + q) 1)]), (Ty_mO hT rfl rfl trivial ⟨G4, trivial⟩), (fr_m fr_0 rfl rfl), rfl⟩
def fF_touches : List Nat := []
def fA_touches : List Nat := [135, 136, 137]
def Q_touches (m : mR) (c : Nat → Option am_C) (N : Nat) (p : Int) (s : Int) : ag_Re af_T → Prop := fun R => ∃ (M : mR), Ty M ∧ fr fF_touches fA_touches m M ∧ R = (.inl (none), (mhp M c, N), 0, 0)
set_option maxHeartbeats 3000000 in
theorem c_touches (w : wX) (m : mR) (c : Nat → Option am_C) (N D : Nat) (hD : 2 ≤ D) (hT : Ty m) (p : Int) (s : Int) (qp : R32 p) (qs : R32 s) (p0 : 0 ≤ p ∧ p ≤ 47) (p1 : 0 ≤ s ∧ s ≤ 239) (p2 : s < (m.1 99)) (hCN : CN (m.2 65) (m.2 67) (m.1 28)) (pTd : TdP (m.2 65) (m.1 28) (m.1 22) (m.1 99) (m.2 101) (m.2 103) (m.2 105) (m.2 106) (m.2 107) (m.2 108)) : TC w D 291 [.ref 189, .int (i32 p), .int (i32 s)] (mhp m c, N) (Q_touches m c N p s) := by
  obtain ⟨D, rfl⟩ : ∃ k, D = k + 1 := ⟨D - 1, by omega⟩
  obtain ⟨qpa, qpb⟩ := id qp
  obtain ⟨qsa, qsb⟩ := id qs
  have f22 : 0 ≤ m.1 22 ∧ m.1 22 ≤ 8 := hT.1 22
  have f28 : 0 ≤ m.1 28 ∧ m.1 28 ≤ 800 := hT.1 28
  have f99 : 0 ≤ m.1 99 ∧ m.1 99 ≤ 240 := hT.1 99
  refine Tc_of rfl ?_
  show TT w D pm_291 (0, [(0, .ref 189), (1, .int (i32 p)), (2, .int (i32 s))], [], (mhp (mO m [] []) c, N), 0, 0) (Q_touches m c N p s)
  refine T_ld 3 (.int (i32 221)) rfl (fun _ => rfl) ?_
  refine T_ld 4 (.int (i32 p)) rfl (fun _ => rfl) ?_
  refine T_imul 5 rfl rfl ?_
  refine T_sto 6 [(3, .int (i32 (221 * p))), (0, .ref 189), (1, .int (i32 p)), (2, .int (i32 s))] rfl (fun _ => rfl) ?_
  refine T_gf 10 (.ref 261) rfl rfl rfl rfl rfl rfl ?_
  refine T_ld 11 (.int (i32 s)) rfl (fun _ => rfl) ?_
  refine T_iald 12 101 (m.2 101) rfl rfl rfl (by omega) (show s < (240 : Int) by omega) rfl ?_
  have e1 : 0 ≤ m.2 101 s ∧ m.2 101 s ≤ 330 := hT.2.1 101 s
  refine T_ld 15 (.int (i32 327)) rfl (fun _ => rfl) ?_
  have J64_3 : ∀ (m2 : mR), Ty m2 → fr [] [135, 137] (mO m [] []) m2 → TT w D pm_291 (64, [(0, .ref 189), (1, .int (i32 p)), (2, .int (i32 s)), (3, .int (i32 (221 * p)))], [], (mhp (mO m2 [] []) c, N), 0, 0) (Q_touches m c N p s) := by
    intro m2 Tm2 Fm2
    refine T_gf 68 (.ref 261) rfl rfl rfl rfl rfl rfl ?_
    refine T_ld 69 (.int (i32 s)) rfl (fun _ => rfl) ?_
    refine T_iald 70 101 (m.2 101) rfl rfl rfl (by omega) (show s < (240 : Int) by omega) (show (m2.2 101) = (m.2 101) from (fr2 Fm2 101 rfl)) ?_
    have e7 : 0 ≤ m.2 101 s ∧ m.2 101 s ≤ 330 := hT.2.1 101 s
    refine T_ld 71 (.int (i32 1)) rfl (fun _ => rfl) ?_
    have J103_9 : ∀ (m8 : mR), Ty m8 → fr [] [135] (mO m2 [] []) m8 → TT w D pm_291 (103, [(0, .ref 189), (1, .int (i32 p)), (2, .int (i32 s)), (3, .int (i32 (221 * p)))], [], (mhp (mO m8 [] []) c, N), 0, 0) (Q_touches m c N p s) := by
      intro m8 Tm8 Fm8
      refine T_gf 107 (.ref 261) rfl rfl rfl rfl rfl rfl ?_
      refine T_ld 108 (.int (i32 s)) rfl (fun _ => rfl) ?_
      refine T_iald 109 101 (m.2 101) rfl rfl rfl (by omega) (show s < (240 : Int) by omega) (show (m8.2 101) = (m.2 101) from ((fr2 Fm8 101 rfl).trans (fr2 Fm2 101 rfl))) ?_
      have e13 : 0 ≤ m.2 101 s ∧ m.2 101 s ≤ 330 := hT.2.1 101 s
      refine T_ld 110 (.int (i32 1)) rfl (fun _ => rfl) ?_
      have J136_15 : ∀ (m14 : mR), Ty m14 → fr [] [135, 136] (mO m8 [] []) m14 → TT w D pm_291 (136, [(0, .ref 189), (2, .int (i32 s)), (3, .int (i32 (221 * p)))], [], (mhp (mO m14 [] []) c, N), 0, 0) (Q_touches m c N p s) := by
        intro m14 Tm14 Fm14
        refine T_gf 140 (.ref 261) rfl rfl rfl rfl rfl rfl ?_
        refine T_ld 141 (.int (i32 s)) rfl (fun _ => rfl) ?_
        refine T_iald 142 101 (m.2 101) rfl rfl rfl (by omega) (show s < (240 : Int) by omega) (show (m14.2 101) = (m.2 101) from ((fr2 Fm14 101 rfl).trans ((fr2 Fm8 101 rfl).trans (fr2 Fm2 101 rfl)))) ?_
        have e19 : 0 ≤ m.2 101 s ∧ m.2 101 s ≤ 330 := hT.2.1 101 s
        refine T_ld 145 (.int (i32 326)) rfl (fun _ => rfl) ?_
        have J159_21 : ∀ (m20 : mR), Ty m20 → fr [] [136] (mO m14 [] []) m20 → TT w D pm_291 (159, [(0, .ref 189), (2, .int (i32 s)), (3, .int (i32 (221 * p)))], [], (mhp (mO m20 [] []) c, N), 0, 0) (Q_touches m c N p s) := by
          intro m20 Tm20 Fm20
          refine T_gf 163 (.ref 261) rfl rfl rfl rfl rfl rfl ?_
          refine T_ld 164 (.int (i32 s)) rfl (fun _ => rfl) ?_
          refine T_iald 165 101 (m.2 101) rfl rfl rfl (by omega) (show s < (240 : Int) by omega) (show (m20.2 101) = (m.2 101) from ((fr2 Fm20 101 rfl).trans ((fr2 Fm14 101 rfl).trans ((fr2 Fm8 101 rfl).trans (fr2 Fm2 101 rfl))))) ?_
          have e25 : 0 ≤ m.2 101 s ∧ m.2 101 s ≤ 330 := hT.2.1 101 s
          refine T_ld 168 (.int (i32 324)) rfl (fun _ => rfl) ?_
          refine T_icmp 184 171 rfl rfl rfl (r32 (by omega) (by omega)) ⟨by decide, by decide⟩ (fun (h26 : (m.2 101) s = 324) => ?_) (fun (h26 : ¬ ((m.2 101) s = 324)) => ?_)
          · skip
            refine T_gf 188 (.ref 264) rfl rfl rfl rfl rfl rfl ?_
            refine T_ld 189 (.int (i32 s)) rfl (fun _ => rfl) ?_
            refine T_iald 190 104 (m.2 104) rfl rfl rfl (by omega) (show s < (240 : Int) by omega) (show (m20.2 104) = (m.2 104) from ((fr2 Fm20 104 rfl).trans ((fr2 Fm14 104 rfl).trans ((fr2 Fm8 104 rfl).trans (fr2 Fm2 104 rfl))))) ?_
            have e27 : 0 ≤ m.2 104 s ∧ m.2 104 s ≤ 11 := hT.2.1 104 s
            refine T_sto 192 [(4, .int (i32 ((m.2 104) s))), (0, .ref 189), (2, .int (i32 s)), (3, .int (i32 (221 * p)))] rfl (fun _ => rfl) ?_
            refine T_gf 196 (.ref 290) rfl rfl rfl rfl rfl rfl ?_
            refine T_ld 197 (.int (i32 (221 * p))) rfl (fun _ => rfl) ?_
            refine T_ld 200 (.int (i32 192)) rfl (fun _ => rfl) ?_
            refine T_iadd 201 rfl rfl ?_
            refine T_ld 203 (.int (i32 ((m.2 104) s))) rfl (fun _ => rfl) ?_
            refine T_iadd 204 rfl rfl ?_
            refine T_ld 205 (.int (i32 1)) rfl (fun _ => rfl) ?_
            have G28 : ∀ j, 0 ≤ (upI (m20.2 136) (((221 * p) + 192) + ((m.2 104) s)) 1) j ∧ (upI (m20.2 136) (((221 * p) + 192) + ((m.2 104) s)) 1) j ≤ 1 := upI_rg (Tm20.2.1 136) ⟨by omega, by omega⟩
            refine T_bast (a' := [(136, upI (m20.2 136) (((221 * p) + 192) + ((m.2 104) s)) 1)]) 206 136 (m20.2 136) rfl rfl rfl (by omega) (show (((221 * p) + 192) + ((m.2 104) s)) < (10608 : Int) by omega) (by omega) rfl rfl ?_
            refine T_ld 207 (.int (i32 0)) rfl (fun _ => rfl) ?_
            refine T_sto 209 [(5, .int (i32 0)), (4, .int (i32 ((m.2 104) s))), (0, .ref 189), (2, .int (i32 s)), (3, .int (i32 (221 * p)))] rfl (fun _ => rfl) ?_
            refine T_fl (Ty_mO Tm20 rfl rfl trivial ⟨G28, trivial⟩) (fun m29 Tm29 Fm29 => ?_)
            have e39 : 0 ≤ m.2 34 ((m.2 104) s) ∧ m.2 34 ((m.2 104) s) ≤ 11 := hT.2.1 34 ((m.2 104) s)
            have e40 : 0 ≤ m.2 29 ((m.2 34) ((m.2 104) s)) ∧ m.2 29 ((m.2 34) ((m.2 104) s)) ≤ 16 := hT.2.1 29 ((m.2 34) ((m.2 104) s))
            have L209_32 : ∀ (n38 : Nat) (v30 : Int) (m31 : mR), (R32 v30) → Ty m31 → fr [] [136] (mO m29 [] []) m31 → (0 ≤ v30) → (v30 ≤ (m.2 29) ((m.2 34) ((m.2 104) s))) → ((m.2 29) ((m.2 34) ((m.2 104) s))) - v30 < (n38 : Int) → TT w D pm_291 (209, [(0, .ref 189), (2, .int (i32 s)), (3, .int (i32 (221 * p))), (4, .int (i32 ((m.2 104) s))), (5, .int (i32 v30))], [], (mhp (mO m31 [] []) c, N), 0, 0) (Q_touches m c N p s) := by
              intro n38
              induction n38 with
              | zero =>
                intro v30 m31 q35 Tm31 Fm31 ic33 ic34 hmu
                obtain ⟨q35a, q35b⟩ := id q35
                exfalso
                omega
              | succ n38 ih =>
                intro v30 m31 q35 Tm31 Fm31 ic33 ic34 hmu
                obtain ⟨q35a, q35b⟩ := id q35
                have ih41 := ih
                refine T_ld 211 (.int (i32 v30)) rfl (fun _ => rfl) ?_
                refine T_gf 215 (.ref 199) rfl rfl rfl rfl rfl rfl ?_
                refine T_gf 219 (.ref 204) rfl rfl rfl rfl rfl rfl ?_
                refine T_ld 221 (.int (i32 ((m.2 104) s))) rfl (fun _ => rfl) ?_
                refine T_iald 222 34 (m.2 34) rfl rfl rfl (by omega) (show ((m.2 104) s) < (12 : Int) by omega) (show (m31.2 34) = (m.2 34) from ((fr2 Fm31 34 rfl).trans ((fr2 Fm29 34 rfl).trans ((fr2 Fm20 34 rfl).trans ((fr2 Fm14 34 rfl).trans ((fr2 Fm8 34 rfl).trans (fr2 Fm2 34 rfl))))))) ?_
                have e42 : 0 ≤ m.2 34 ((m.2 104) s) ∧ m.2 34 ((m.2 104) s) ≤ 11 := hT.2.1 34 ((m.2 104) s)
                refine T_iald 223 29 (m.2 29) rfl rfl rfl (by omega) (show ((m.2 34) ((m.2 104) s)) < (12 : Int) by omega) (show (m31.2 29) = (m.2 29) from ((fr2 Fm31 29 rfl).trans ((fr2 Fm29 29 rfl).trans ((fr2 Fm20 29 rfl).trans ((fr2 Fm14 29 rfl).trans ((fr2 Fm8 29 rfl).trans (fr2 Fm2 29 rfl))))))) ?_
                have e43 : 0 ≤ m.2 29 ((m.2 34) ((m.2 104) s)) ∧ m.2 29 ((m.2 34) ((m.2 104) s)) ≤ 16 := hT.2.1 29 ((m.2 34) ((m.2 104) s))
                refine T_icmp 248 226 rfl rfl rfl (r32 (by omega) (by omega)) (r32 (by omega) (by omega)) (fun (h44 : (m.2 29) ((m.2 34) ((m.2 104) s)) ≤ v30) => ?_) (fun (h44 : ¬ ((m.2 29) ((m.2 34) ((m.2 104) s)) ≤ v30)) => ?_)
                · skip
                  refine T_ret rfl (fun _ => rfl) ?_
                  exact ⟨(mO m31 [] []), Tm31, (fr_m (fr_s Fm31 (fr_m (fr_s Fm29 (fr_m (fr_s Fm20 (fr_m (fr_s Fm14 (fr_m (fr_s Fm8 (fr_m (fr_s Fm2 (fr_m fr_0 rfl rfl) rfl rfl) rfl rfl) rfl rfl) rfl rfl) rfl rfl) rfl rfl) rfl rfl) rfl rfl) rfl rfl) rfl rfl) rfl rfl) rfl rfl), rfl⟩
                · skip
                  refine T_gf 230 (.ref 290) rfl rfl rfl rfl rfl rfl ?_
                  refine T_ld 231 (.int (i32 (221 * p))) rfl (fun _ => rfl) ?_
                  refine T_ld 233 (.int (i32 16)) rfl (fun _ => rfl) ?_
                  refine T_ld 235 (.int (i32 ((m.2 104) s))) rfl (fun _ => rfl) ?_
                  refine T_imul 236 rfl rfl ?_
                  refine T_iadd 237 rfl rfl ?_
                  refine T_ld 239 (.int (i32 v30)) rfl (fun _ => rfl) ?_
                  refine T_iadd 240 rfl rfl ?_
                  refine T_ld 241 (.int (i32 1)) rfl (fun _ => rfl) ?_
                  have G45 : ∀ j, 0 ≤ (upI (m31.2 136) (((221 * p) + (16 * ((m.2 104) s))) + v30) 1) j ∧ (upI (m31.2 136) (((221 * p) + (16 * ((m.2 104) s))) + v30) 1) j ≤ 1 := upI_rg (Tm31.2.1 136) ⟨by omega, by omega⟩
                  refine T_bast (a' := [(136, upI (m31.2 136) (((221 * p) + (16 * ((m.2 104) s))) + v30) 1)]) 242 136 (m31.2 136) rfl rfl rfl (by omega) (show (((221 * p) + (16 * ((m.2 104) s))) + v30) < (10608 : Int) by omega) (by omega) rfl rfl ?_
                  refine T_iinc 245 [(5, .int (i32 (v30 + 1))), (0, .ref 189), (2, .int (i32 s)), (3, .int (i32 (221 * p))), (4, .int (i32 ((m.2 104) s)))] rfl rfl (by decide) rfl rfl ?_
                  refine T_goto 209 rfl (fun _ => rfl) ?_
                  refine Tm_lv (a := [(0, .ref 189), (2, .int (i32 s)), (3, .int (i32 (221 * p))), (4, .int (i32 ((m.2 104) s))), (5, .int (i32 (v30 + 1)))]) rfl rfl ⟨rfl, rfl, rfl, rfl, rfl, trivial⟩ ?_
                  exact ih41 (v30 + 1) (mO m31 [] [(136, upI (m31.2 136) (((221 * p) + (16 * ((m.2 104) s))) + v30) 1)]) (r32 (by omega) (by omega)) (Ty_mO Tm31 rfl rfl trivial ⟨G45, trivial⟩) (fr_m (fr_s Fm31 (fr_m fr_0 rfl rfl) rfl rfl) rfl rfl) (show 0 ≤ (v30 + 1) by omega) (show (v30 + 1) ≤ (m.2 29) ((m.2 34) ((m.2 104) s)) by omega) (show ((m.2 29) ((m.2 34) ((m.2 104) s))) - (v30 + 1) < (n38 : Int) by omega)
            refine Tm_lv (a := [(0, .ref 189), (2, .int (i32 s)), (3, .int (i32 (221 * p))), (4, .int (i32 ((m.2 104) s))), (5, .int (i32 0))]) rfl rfl ⟨rfl, rfl, rfl, rfl, rfl, trivial⟩ ?_
            exact L209_32 ((((m.2 29) ((m.2 34) ((m.2 104) s))) - (0 : Int) : Int) + 1).toNat 0 (mO m29 [] []) ⟨by decide, by decide⟩ Tm29 (fr_m fr_0 rfl rfl) (show 0 ≤ (0 : Int) by omega) (show (0 : Int) ≤ (m.2 29) ((m.2 34) ((m.2 104) s)) by omega) (show ((m.2 29) ((m.2 34) ((m.2 104) s))) - (0 : Int) < ((((((m.2 29) ((m.2 34) ((m.2 104) s))) - (0 : Int) : Int) + 1).toNat : Nat) : Int) by omega)
          · skip
            refine T_gf 175 (.ref 261) rfl rfl rfl rfl rfl rfl ?_
            refine T_ld 176 (.int (i32 s)) rfl (fun _ => rfl) ?_
            refine T_iald 177 101 (m.2 101) rfl rfl rfl (by omega) (show s < (240 : Int) by omega) (show (m20.2 101) = (m.2 101) from ((fr2 Fm20 101 rfl).trans ((fr2 Fm14 101 rfl).trans ((fr2 Fm8 101 rfl).trans (fr2 Fm2 101 rfl))))) ?_
            have e46 : 0 ≤ m.2 101 s ∧ m.2 101 s ≤ 330 := hT.2.1 101 s
            refine T_ld 180 (.int (i32 325)) rfl (fun _ => rfl) ?_
            refine T_icmp 184 183 rfl rfl rfl (r32 (by omega) (by omega)) ⟨by decide, by decide⟩ (fun (h47 : (m.2 101) s = 325) => ?_) (fun (h47 : ¬ ((m.2 101) s = 325)) => ?_)
            · skip
              refine T_gf 188 (.ref 264) rfl rfl rfl rfl rfl rfl ?_
              refine T_ld 189 (.int (i32 s)) rfl (fun _ => rfl) ?_
              refine T_iald 190 104 (m.2 104) rfl rfl rfl (by omega) (show s < (240 : Int) by omega) (show (m20.2 104) = (m.2 104) from ((fr2 Fm20 104 rfl).trans ((fr2 Fm14 104 rfl).trans ((fr2 Fm8 104 rfl).trans (fr2 Fm2 104 rfl))))) ?_
              have e48 : 0 ≤ m.2 104 s ∧ m.2 104 s ≤ 11 := hT.2.1 104 s
              refine T_sto 192 [(4, .int (i32 ((m.2 104) s))), (0, .ref 189), (2, .int (i32 s)), (3, .int (i32 (221 * p)))] rfl (fun _ => rfl) ?_
              refine T_gf 196 (.ref 290) rfl rfl rfl rfl rfl rfl ?_
              refine T_ld 197 (.int (i32 (221 * p))) rfl (fun _ => rfl) ?_
              refine T_ld 200 (.int (i32 192)) rfl (fun _ => rfl) ?_
              refine T_iadd 201 rfl rfl ?_
              refine T_ld 203 (.int (i32 ((m.2 104) s))) rfl (fun _ => rfl) ?_
              refine T_iadd 204 rfl rfl ?_
              refine T_ld 205 (.int (i32 1)) rfl (fun _ => rfl) ?_
              have G49 : ∀ j, 0 ≤ (upI (m20.2 136) (((221 * p) + 192) + ((m.2 104) s)) 1) j ∧ (upI (m20.2 136) (((221 * p) + 192) + ((m.2 104) s)) 1) j ≤ 1 := upI_rg (Tm20.2.1 136) ⟨by omega, by omega⟩
              refine T_bast (a' := [(136, upI (m20.2 136) (((221 * p) + 192) + ((m.2 104) s)) 1)]) 206 136 (m20.2 136) rfl rfl rfl (by omega) (show (((221 * p) + 192) + ((m.2 104) s)) < (10608 : Int) by omega) (by omega) rfl rfl ?_
              refine T_ld 207 (.int (i32 0)) rfl (fun _ => rfl) ?_
              refine T_sto 209 [(5, .int (i32 0)), (4, .int (i32 ((m.2 104) s))), (0, .ref 189), (2, .int (i32 s)), (3, .int (i32 (221 * p)))] rfl (fun _ => rfl) ?_
              refine T_fl (Ty_mO Tm20 rfl rfl trivial ⟨G49, trivial⟩) (fun m50 Tm50 Fm50 => ?_)
              have e60 : 0 ≤ m.2 34 ((m.2 104) s) ∧ m.2 34 ((m.2 104) s) ≤ 11 := hT.2.1 34 ((m.2 104) s)
              have e61 : 0 ≤ m.2 29 ((m.2 34) ((m.2 104) s)) ∧ m.2 29 ((m.2 34) ((m.2 104) s)) ≤ 16 := hT.2.1 29 ((m.2 34) ((m.2 104) s))
              have L209_53 : ∀ (n59 : Nat) (v51 : Int) (m52 : mR), (R32 v51) → Ty m52 → fr [] [136] (mO m50 [] []) m52 → (0 ≤ v51) → (v51 ≤ (m.2 29) ((m.2 34) ((m.2 104) s))) → ((m.2 29) ((m.2 34) ((m.2 104) s))) - v51 < (n59 : Int) → TT w D pm_291 (209, [(0, .ref 189), (2, .int (i32 s)), (3, .int (i32 (221 * p))), (4, .int (i32 ((m.2 104) s))), (5, .int (i32 v51))], [], (mhp (mO m52 [] []) c, N), 0, 0) (Q_touches m c N p s) := by
                intro n59
                induction n59 with
                | zero =>
                  intro v51 m52 q56 Tm52 Fm52 ic54 ic55 hmu
                  obtain ⟨q56a, q56b⟩ := id q56
                  exfalso
                  omega
                | succ n59 ih =>
                  intro v51 m52 q56 Tm52 Fm52 ic54 ic55 hmu
                  obtain ⟨q56a, q56b⟩ := id q56
                  have ih62 := ih
                  refine T_ld 211 (.int (i32 v51)) rfl (fun _ => rfl) ?_
                  refine T_gf 215 (.ref 199) rfl rfl rfl rfl rfl rfl ?_
                  refine T_gf 219 (.ref 204) rfl rfl rfl rfl rfl rfl ?_
                  refine T_ld 221 (.int (i32 ((m.2 104) s))) rfl (fun _ => rfl) ?_
                  refine T_iald 222 34 (m.2 34) rfl rfl rfl (by omega) (show ((m.2 104) s) < (12 : Int) by omega) (show (m52.2 34) = (m.2 34) from ((fr2 Fm52 34 rfl).trans ((fr2 Fm50 34 rfl).trans ((fr2 Fm20 34 rfl).trans ((fr2 Fm14 34 rfl).trans ((fr2 Fm8 34 rfl).trans (fr2 Fm2 34 rfl))))))) ?_
                  have e63 : 0 ≤ m.2 34 ((m.2 104) s) ∧ m.2 34 ((m.2 104) s) ≤ 11 := hT.2.1 34 ((m.2 104) s)
                  refine T_iald 223 29 (m.2 29) rfl rfl rfl (by omega) (show ((m.2 34) ((m.2 104) s)) < (12 : Int) by omega) (show (m52.2 29) = (m.2 29) from ((fr2 Fm52 29 rfl).trans ((fr2 Fm50 29 rfl).trans ((fr2 Fm20 29 rfl).trans ((fr2 Fm14 29 rfl).trans ((fr2 Fm8 29 rfl).trans (fr2 Fm2 29 rfl))))))) ?_
                  have e64 : 0 ≤ m.2 29 ((m.2 34) ((m.2 104) s)) ∧ m.2 29 ((m.2 34) ((m.2 104) s)) ≤ 16 := hT.2.1 29 ((m.2 34) ((m.2 104) s))
                  refine T_icmp 248 226 rfl rfl rfl (r32 (by omega) (by omega)) (r32 (by omega) (by omega)) (fun (h65 : (m.2 29) ((m.2 34) ((m.2 104) s)) ≤ v51) => ?_) (fun (h65 : ¬ ((m.2 29) ((m.2 34) ((m.2 104) s)) ≤ v51)) => ?_)
                  · skip
                    refine T_ret rfl (fun _ => rfl) ?_
                    exact ⟨(mO m52 [] []), Tm52, (fr_m (fr_s Fm52 (fr_m (fr_s Fm50 (fr_m (fr_s Fm20 (fr_m (fr_s Fm14 (fr_m (fr_s Fm8 (fr_m (fr_s Fm2 (fr_m fr_0 rfl rfl) rfl rfl) rfl rfl) rfl rfl) rfl rfl) rfl rfl) rfl rfl) rfl rfl) rfl rfl) rfl rfl) rfl rfl) rfl rfl) rfl rfl), rfl⟩
                  · skip
                    refine T_gf 230 (.ref 290) rfl rfl rfl rfl rfl rfl ?_
                    refine T_ld 231 (.int (i32 (221 * p))) rfl (fun _ => rfl) ?_
                    refine T_ld 233 (.int (i32 16)) rfl (fun _ => rfl) ?_
                    refine T_ld 235 (.int (i32 ((m.2 104) s))) rfl (fun _ => rfl) ?_
                    refine T_imul 236 rfl rfl ?_
                    refine T_iadd 237 rfl rfl ?_
                    refine T_ld 239 (.int (i32 v51)) rfl (fun _ => rfl) ?_
                    refine T_iadd 240 rfl rfl ?_
                    refine T_ld 241 (.int (i32 1)) rfl (fun _ => rfl) ?_
                    have G66 : ∀ j, 0 ≤ (upI (m52.2 136) (((221 * p) + (16 * ((m.2 104) s))) + v51) 1) j ∧ (upI (m52.2 136) (((221 * p) + (16 * ((m.2 104) s))) + v51) 1) j ≤ 1 := upI_rg (Tm52.2.1 136) ⟨by omega, by omega⟩
                    refine T_bast (a' := [(136, upI (m52.2 136) (((221 * p) + (16 * ((m.2 104) s))) + v51) 1)]) 242 136 (m52.2 136) rfl rfl rfl (by omega) (show (((221 * p) + (16 * ((m.2 104) s))) + v51) < (10608 : Int) by omega) (by omega) rfl rfl ?_
                    refine T_iinc 245 [(5, .int (i32 (v51 + 1))), (0, .ref 189), (2, .int (i32 s)), (3, .int (i32 (221 * p))), (4, .int (i32 ((m.2 104) s)))] rfl rfl (by decide) rfl rfl ?_
                    refine T_goto 209 rfl (fun _ => rfl) ?_
                    refine Tm_lv (a := [(0, .ref 189), (2, .int (i32 s)), (3, .int (i32 (221 * p))), (4, .int (i32 ((m.2 104) s))), (5, .int (i32 (v51 + 1)))]) rfl rfl ⟨rfl, rfl, rfl, rfl, rfl, trivial⟩ ?_
                    exact ih62 (v51 + 1) (mO m52 [] [(136, upI (m52.2 136) (((221 * p) + (16 * ((m.2 104) s))) + v51) 1)]) (r32 (by omega) (by omega)) (Ty_mO Tm52 rfl rfl trivial ⟨G66, trivial⟩) (fr_m (fr_s Fm52 (fr_m fr_0 rfl rfl) rfl rfl) rfl rfl) (show 0 ≤ (v51 + 1) by omega) (show (v51 + 1) ≤ (m.2 29) ((m.2 34) ((m.2 104) s)) by omega) (show ((m.2 29) ((m.2 34) ((m.2 104) s))) - (v51 + 1) < (n59 : Int) by omega)
              refine Tm_lv (a := [(0, .ref 189), (2, .int (i32 s)), (3, .int (i32 (221 * p))), (4, .int (i32 ((m.2 104) s))), (5, .int (i32 0))]) rfl rfl ⟨rfl, rfl, rfl, rfl, rfl, trivial⟩ ?_
              exact L209_53 ((((m.2 29) ((m.2 34) ((m.2 104) s))) - (0 : Int) : Int) + 1).toNat 0 (mO m50 [] []) ⟨by decide, by decide⟩ Tm50 (fr_m fr_0 rfl rfl) (show 0 ≤ (0 : Int) by omega) (show (0 : Int) ≤ (m.2 29) ((m.2 34) ((m.2 104) s)) by omega) (show ((m.2 29) ((m.2 34) ((m.2 104) s))) - (0 : Int) < ((((((m.2 29) ((m.2 34) ((m.2 104) s))) - (0 : Int) : Int) + 1).toNat : Nat) : Int) by omega)
            · skip
              refine T_ret rfl (fun _ => rfl) ?_
              exact ⟨(mO m20 [] []), Tm20, (fr_m (fr_s Fm20 (fr_m (fr_s Fm14 (fr_m (fr_s Fm8 (fr_m (fr_s Fm2 (fr_m fr_0 rfl rfl) rfl rfl) rfl rfl) rfl rfl) rfl rfl) rfl rfl) rfl rfl) rfl rfl) rfl rfl), rfl⟩
        refine T_icmp 159 148 rfl rfl rfl (r32 (by omega) (by omega)) ⟨by decide, by decide⟩ (fun (h67 : (m.2 101) s ≠ 326) => ?_) (fun (h67 : ¬ ((m.2 101) s ≠ 326)) => ?_)
        · skip
          exact J159_21 (mO m14 [] []) Tm14 (fr_m fr_0 rfl rfl)
        · skip
          refine T_gf 152 (.ref 290) rfl rfl rfl rfl rfl rfl ?_
          refine T_ld 153 (.int (i32 (221 * p))) rfl (fun _ => rfl) ?_
          refine T_ld 156 (.int (i32 220)) rfl (fun _ => rfl) ?_
          refine T_iadd 157 rfl rfl ?_
          refine T_ld 158 (.int (i32 1)) rfl (fun _ => rfl) ?_
          have G68 : ∀ j, 0 ≤ (upI (m14.2 136) ((221 * p) + 220) 1) j ∧ (upI (m14.2 136) ((221 * p) + 220) 1) j ≤ 1 := upI_rg (Tm14.2.1 136) ⟨by omega, by omega⟩
          refine T_bast (a' := [(136, upI (m14.2 136) ((221 * p) + 220) 1)]) 159 136 (m14.2 136) rfl rfl rfl (by omega) (show ((221 * p) + 220) < (10608 : Int) by omega) (by omega) rfl rfl ?_
          exact J159_21 (mO m14 [] [(136, upI (m14.2 136) ((221 * p) + 220) 1)]) (Ty_mO Tm14 rfl rfl trivial ⟨G68, trivial⟩) (fr_m fr_0 rfl rfl)
      refine T_icmp 125 113 rfl rfl rfl (r32 (by omega) (by omega)) ⟨by decide, by decide⟩ (fun (h69 : (m.2 101) s = 1) => ?_) (fun (h69 : ¬ ((m.2 101) s = 1)) => ?_)
      · skip
        refine T_ld 126 (.ref 189) rfl (fun _ => rfl) ?_
        refine T_ld 127 (.int (i32 p)) rfl (fun _ => rfl) ?_
        refine T_gf 131 (.ref 262) rfl rfl rfl rfl rfl rfl ?_
        refine T_ld 132 (.int (i32 s)) rfl (fun _ => rfl) ?_
        refine T_iald 133 102 (m.2 102) rfl rfl rfl (by omega) (show s < (240 : Int) by omega) (show (m8.2 102) = (m.2 102) from ((fr2 Fm8 102 rfl).trans (fr2 Fm2 102 rfl))) ?_
        have e70 : 0 ≤ m.2 102 s ∧ m.2 102 s ≤ 207 := hT.2.1 102 s
        refine T_call 136 293 [.ref 189, .int (i32 p), .int (i32 ((m.2 102) s))] [] rfl (fun _ => rfl) rfl (c_writesPlace w (mO m8 [] []) c N D (by omega) Tm8 p ((m.2 102) s) (r32 (by omega) (by omega)) (r32 (by omega) (by omega)) (show 0 ≤ p ∧ p ≤ 47 by omega) (show 0 ≤ ((m.2 102) s) ∧ ((m.2 102) s) ≤ 207 by omega)) (fun rr71 k72 => ?_)
        obtain ⟨m73, Tm73, Fm73, rfl⟩ := k72
        refine ⟨_, _, rfl, ?_⟩
        refine T_nb (st' := []) rfl ?_
        refine Tm_lv (a := [(0, .ref 189), (2, .int (i32 s)), (3, .int (i32 (221 * p)))]) rfl rfl ⟨rfl, rfl, rfl, trivial⟩ ?_
        exact J136_15 (mO m73 [] []) Tm73 (fr_m (fr_s Fm73 (fr_m fr_0 rfl rfl) rfl rfl) rfl rfl)
      · skip
        refine T_gf 117 (.ref 261) rfl rfl rfl rfl rfl rfl ?_
        refine T_ld 118 (.int (i32 s)) rfl (fun _ => rfl) ?_
        refine T_iald 119 101 (m.2 101) rfl rfl rfl (by omega) (show s < (240 : Int) by omega) (show (m8.2 101) = (m.2 101) from ((fr2 Fm8 101 rfl).trans (fr2 Fm2 101 rfl))) ?_
        have e74 : 0 ≤ m.2 101 s ∧ m.2 101 s ≤ 330 := hT.2.1 101 s
        refine T_ld 122 (.int (i32 327)) rfl (fun _ => rfl) ?_
        refine T_icmp 136 125 rfl rfl rfl (r32 (by omega) (by omega)) ⟨by decide, by decide⟩ (fun (h75 : (m.2 101) s ≠ 327) => ?_) (fun (h75 : ¬ ((m.2 101) s ≠ 327)) => ?_)
        · skip
          refine Tm_lv (a := [(0, .ref 189), (2, .int (i32 s)), (3, .int (i32 (221 * p)))]) rfl rfl ⟨rfl, rfl, rfl, trivial⟩ ?_
          exact J136_15 (mO m8 [] []) Tm8 (fr_m fr_0 rfl rfl)
        · skip
          refine T_ld 126 (.ref 189) rfl (fun _ => rfl) ?_
          refine T_ld 127 (.int (i32 p)) rfl (fun _ => rfl) ?_
          refine T_gf 131 (.ref 262) rfl rfl rfl rfl rfl rfl ?_
          refine T_ld 132 (.int (i32 s)) rfl (fun _ => rfl) ?_
          refine T_iald 133 102 (m.2 102) rfl rfl rfl (by omega) (show s < (240 : Int) by omega) (show (m8.2 102) = (m.2 102) from ((fr2 Fm8 102 rfl).trans (fr2 Fm2 102 rfl))) ?_
          have e76 : 0 ≤ m.2 102 s ∧ m.2 102 s ≤ 207 := hT.2.1 102 s
          refine T_call 136 293 [.ref 189, .int (i32 p), .int (i32 ((m.2 102) s))] [] rfl (fun _ => rfl) rfl (c_writesPlace w (mO m8 [] []) c N D (by omega) Tm8 p ((m.2 102) s) (r32 (by omega) (by omega)) (r32 (by omega) (by omega)) (show 0 ≤ p ∧ p ≤ 47 by omega) (show 0 ≤ ((m.2 102) s) ∧ ((m.2 102) s) ≤ 207 by omega)) (fun rr77 k78 => ?_)
          obtain ⟨m79, Tm79, Fm79, rfl⟩ := k78
          refine ⟨_, _, rfl, ?_⟩
          refine T_nb (st' := []) rfl ?_
          refine Tm_lv (a := [(0, .ref 189), (2, .int (i32 s)), (3, .int (i32 (221 * p)))]) rfl rfl ⟨rfl, rfl, rfl, trivial⟩ ?_
          exact J136_15 (mO m79 [] []) Tm79 (fr_m (fr_s Fm79 (fr_m fr_0 rfl rfl) rfl rfl) rfl rfl)
    refine T_icmp 86 74 rfl rfl rfl (r32 (by omega) (by omega)) ⟨by decide, by decide⟩ (fun (h80 : (m.2 101) s = 1) => ?_) (fun (h80 : ¬ ((m.2 101) s = 1)) => ?_)
    · skip
      have hx := ((pTd s (by omega) (by omega)).1 (by omega)).2
      refine T_ld 87 (.ref 189) rfl (fun _ => rfl) ?_
      refine T_ld 88 (.int (i32 p)) rfl (fun _ => rfl) ?_
      refine T_gf 92 (.ref 267) rfl rfl rfl rfl rfl rfl ?_
      refine T_ld 93 (.int (i32 s)) rfl (fun _ => rfl) ?_
      refine T_iald 94 107 (m.2 107) rfl rfl rfl (by omega) (show s < (240 : Int) by omega) (show (m2.2 107) = (m.2 107) from (fr2 Fm2 107 rfl)) ?_
      have e81 : 0 ≤ m.2 107 s ∧ m.2 107 s ≤ 800 := hT.2.1 107 s
      refine T_gf 98 (.ref 268) rfl rfl rfl rfl rfl rfl ?_
      refine T_ld 99 (.int (i32 s)) rfl (fun _ => rfl) ?_
      refine T_iald 100 108 (m.2 108) rfl rfl rfl (by omega) (show s < (240 : Int) by omega) (show (m2.2 108) = (m.2 108) from (fr2 Fm2 108 rfl)) ?_
      have e82 : 0 ≤ m.2 108 s ∧ m.2 108 s ≤ 800 := hT.2.1 108 s
      refine T_call 103 292 [.ref 189, .int (i32 p), .int (i32 ((m.2 107) s)), .int (i32 ((m.2 108) s))] [] rfl (fun _ => rfl) rfl (c_readsCode w (mO m2 [] []) c N D (by omega) Tm2 p ((m.2 107) s) ((m.2 108) s) (r32 (by omega) (by omega)) (r32 (by omega) (by omega)) (r32 (by omega) (by omega)) (show 0 ≤ p ∧ p ≤ 47 by omega) (show 0 ≤ ((m.2 107) s) ∧ ((m.2 107) s) ≤ 800 by omega) (show 0 ≤ ((m.2 108) s) ∧ ((m.2 108) s) ≤ 800 by omega) (show ((m.2 108) s) ≤ (m2.1 28) by rewrite [(show (m2.1 28) = (m.1 28) from (fr1 Fm2 28 rfl))]; omega) (show CN (m2.2 65) (m2.2 67) (m2.1 28) by rewrite [(show (m2.2 65) = (m.2 65) from (fr2 Fm2 65 rfl)), (show (m2.2 67) = (m.2 67) from (fr2 Fm2 67 rfl)), (show (m2.1 28) = (m.1 28) from (fr1 Fm2 28 rfl))]; exact hCN)) (fun rr83 k84 => ?_)
      obtain ⟨m85, Tm85, Fm85, rfl⟩ := k84
      refine ⟨_, _, rfl, ?_⟩
      refine T_nb (st' := []) rfl ?_
      exact J103_9 (mO m85 [] []) Tm85 (fr_m (fr_s Fm85 (fr_m fr_0 rfl rfl) rfl rfl) rfl rfl)
    · skip
      refine T_gf 78 (.ref 261) rfl rfl rfl rfl rfl rfl ?_
      refine T_ld 79 (.int (i32 s)) rfl (fun _ => rfl) ?_
      refine T_iald 80 101 (m.2 101) rfl rfl rfl (by omega) (show s < (240 : Int) by omega) (show (m2.2 101) = (m.2 101) from (fr2 Fm2 101 rfl)) ?_
      have e86 : 0 ≤ m.2 101 s ∧ m.2 101 s ≤ 330 := hT.2.1 101 s
      refine T_ld 83 (.int (i32 328)) rfl (fun _ => rfl) ?_
      refine T_icmp 103 86 rfl rfl rfl (r32 (by omega) (by omega)) ⟨by decide, by decide⟩ (fun (h87 : (m.2 101) s ≠ 328) => ?_) (fun (h87 : ¬ ((m.2 101) s ≠ 328)) => ?_)
      · skip
        exact J103_9 (mO m2 [] []) Tm2 (fr_m fr_0 rfl rfl)
      · skip
        have hx := ((pTd s (by omega) (by omega)).1 (by omega)).2
        refine T_ld 87 (.ref 189) rfl (fun _ => rfl) ?_
        refine T_ld 88 (.int (i32 p)) rfl (fun _ => rfl) ?_
        refine T_gf 92 (.ref 267) rfl rfl rfl rfl rfl rfl ?_
        refine T_ld 93 (.int (i32 s)) rfl (fun _ => rfl) ?_
        refine T_iald 94 107 (m.2 107) rfl rfl rfl (by omega) (show s < (240 : Int) by omega) (show (m2.2 107) = (m.2 107) from (fr2 Fm2 107 rfl)) ?_
        have e88 : 0 ≤ m.2 107 s ∧ m.2 107 s ≤ 800 := hT.2.1 107 s
        refine T_gf 98 (.ref 268) rfl rfl rfl rfl rfl rfl ?_
        refine T_ld 99 (.int (i32 s)) rfl (fun _ => rfl) ?_
        refine T_iald 100 108 (m.2 108) rfl rfl rfl (by omega) (show s < (240 : Int) by omega) (show (m2.2 108) = (m.2 108) from (fr2 Fm2 108 rfl)) ?_
        have e89 : 0 ≤ m.2 108 s ∧ m.2 108 s ≤ 800 := hT.2.1 108 s
        refine T_call 103 292 [.ref 189, .int (i32 p), .int (i32 ((m.2 107) s)), .int (i32 ((m.2 108) s))] [] rfl (fun _ => rfl) rfl (c_readsCode w (mO m2 [] []) c N D (by omega) Tm2 p ((m.2 107) s) ((m.2 108) s) (r32 (by omega) (by omega)) (r32 (by omega) (by omega)) (r32 (by omega) (by omega)) (show 0 ≤ p ∧ p ≤ 47 by omega) (show 0 ≤ ((m.2 107) s) ∧ ((m.2 107) s) ≤ 800 by omega) (show 0 ≤ ((m.2 108) s) ∧ ((m.2 108) s) ≤ 800 by omega) (show ((m.2 108) s) ≤ (m2.1 28) by rewrite [(show (m2.1 28) = (m.1 28) from (fr1 Fm2 28 rfl))]; omega) (show CN (m2.2 65) (m2.2 67) (m2.1 28) by rewrite [(show (m2.2 65) = (m.2 65) from (fr2 Fm2 65 rfl)), (show (m2.2 67) = (m.2 67) from (fr2 Fm2 67 rfl)), (show (m2.1 28) = (m.1 28) from (fr1 Fm2 28 rfl))]; exact hCN)) (fun rr90 k91 => ?_)
        obtain ⟨m92, Tm92, Fm92, rfl⟩ := k91
        refine ⟨_, _, rfl, ?_⟩
        refine T_nb (st' := []) rfl ?_
        exact J103_9 (mO m92 [] []) Tm92 (fr_m (fr_s Fm92 (fr_m fr_0 rfl rfl) rfl rfl) rfl rfl)
  refine T_icmp 30 18 rfl rfl rfl (r32 (by omega) (by omega)) ⟨by decide, by decide⟩ (fun (h93 : (m.2 101) s = 327) => ?_) (fun (h93 : ¬ ((m.2 101) s = 327)) => ?_)
  · skip
    have hi := (pTd s (by omega) (by omega)).2 (by omega)
    have hi2 := hi.1.2
    refine T_ld 31 (.ref 189) rfl (fun _ => rfl) ?_
    refine T_ld 32 (.int (i32 p)) rfl (fun _ => rfl) ?_
    refine T_gf 36 (.ref 265) rfl rfl rfl rfl rfl rfl ?_
    refine T_ld 37 (.int (i32 s)) rfl (fun _ => rfl) ?_
    refine T_iald 38 105 (m.2 105) rfl rfl rfl (by omega) (show s < (240 : Int) by omega) rfl ?_
    have e94 : 0 ≤ m.2 105 s ∧ m.2 105 s ≤ 800 := hT.2.1 105 s
    refine T_gf 42 (.ref 266) rfl rfl rfl rfl rfl rfl ?_
    refine T_ld 43 (.int (i32 s)) rfl (fun _ => rfl) ?_
    refine T_iald 44 106 (m.2 106) rfl rfl rfl (by omega) (show s < (240 : Int) by omega) rfl ?_
    have e95 : 0 ≤ m.2 106 s ∧ m.2 106 s ≤ 800 := hT.2.1 106 s
    refine T_call 47 292 [.ref 189, .int (i32 p), .int (i32 ((m.2 105) s)), .int (i32 ((m.2 106) s))] [] rfl (fun _ => rfl) rfl (c_readsCode w (mO m [] []) c N D (by omega) hT p ((m.2 105) s) ((m.2 106) s) (r32 (by omega) (by omega)) (r32 (by omega) (by omega)) (r32 (by omega) (by omega)) (show 0 ≤ p ∧ p ≤ 47 by omega) (show 0 ≤ ((m.2 105) s) ∧ ((m.2 105) s) ≤ 800 by omega) (show 0 ≤ ((m.2 106) s) ∧ ((m.2 106) s) ≤ 800 by omega) (show ((m.2 106) s) ≤ (m.1 28) by omega) (show CN (m.2 65) (m.2 67) (m.1 28) by exact hCN)) (fun rr96 k97 => ?_)
    obtain ⟨m98, Tm98, Fm98, rfl⟩ := k97
    refine ⟨_, _, rfl, ?_⟩
    refine T_nb (st' := []) rfl ?_
    refine T_gf 51 (.ref 291) rfl rfl rfl rfl rfl rfl ?_
    refine T_ld 53 (.int (i32 8)) rfl (fun _ => rfl) ?_
    refine T_ld 54 (.int (i32 p)) rfl (fun _ => rfl) ?_
    refine T_imul 55 rfl rfl ?_
    refine T_gf 59 (.ref 263) rfl rfl rfl rfl rfl rfl ?_
    refine T_ld 60 (.int (i32 s)) rfl (fun _ => rfl) ?_
    refine T_iald 61 103 (m.2 103) rfl rfl rfl (by omega) (show s < (240 : Int) by omega) (show (m98.2 103) = (m.2 103) from (fr2 Fm98 103 rfl)) ?_
    have e99 : 0 ≤ m.2 103 s ∧ m.2 103 s ≤ 7 := hT.2.1 103 s
    refine T_iadd 62 rfl rfl ?_
    refine T_ld 63 (.int (i32 1)) rfl (fun _ => rfl) ?_
    have G100 : ∀ j, 0 ≤ (upI (m.2 137) ((8 * p) + ((m.2 103) s)) 1) j ∧ (upI (m.2 137) ((8 * p) + ((m.2 103) s)) 1) j ≤ 1 := upI_rg (hT.2.1 137) ⟨by omega, by omega⟩
    refine T_bast (a' := [(137, upI (m.2 137) ((8 * p) + ((m.2 103) s)) 1)]) 64 137 (m.2 137) rfl rfl rfl (by omega) (show ((8 * p) + ((m.2 103) s)) < (384 : Int) by omega) (by omega) (show (m98.2 137) = (m.2 137) from (fr2 Fm98 137 rfl)) rfl ?_
    refine Tm_lv (a := [(0, .ref 189), (1, .int (i32 p)), (2, .int (i32 s)), (3, .int (i32 (221 * p)))]) rfl rfl ⟨rfl, rfl, rfl, rfl, trivial⟩ ?_
    exact J64_3 (mO m98 [] [(137, upI (m.2 137) ((8 * p) + ((m.2 103) s)) 1)]) (Ty_mO Tm98 rfl rfl trivial ⟨G100, trivial⟩) (fr_m (fr_s Fm98 (fr_m fr_0 rfl rfl) rfl rfl) rfl rfl)
  · skip
    refine T_gf 22 (.ref 261) rfl rfl rfl rfl rfl rfl ?_
    refine T_ld 23 (.int (i32 s)) rfl (fun _ => rfl) ?_
    refine T_iald 24 101 (m.2 101) rfl rfl rfl (by omega) (show s < (240 : Int) by omega) rfl ?_
    have e101 : 0 ≤ m.2 101 s ∧ m.2 101 s ≤ 330 := hT.2.1 101 s
    refine T_ld 27 (.int (i32 328)) rfl (fun _ => rfl) ?_
    refine T_icmp 64 30 rfl rfl rfl (r32 (by omega) (by omega)) ⟨by decide, by decide⟩ (fun (h102 : (m.2 101) s ≠ 328) => ?_) (fun (h102 : ¬ ((m.2 101) s ≠ 328)) => ?_)
    · skip
      refine Tm_lv (a := [(0, .ref 189), (1, .int (i32 p)), (2, .int (i32 s)), (3, .int (i32 (221 * p)))]) rfl rfl ⟨rfl, rfl, rfl, rfl, trivial⟩ ?_
      exact J64_3 (mO m [] []) hT (fr_m fr_0 rfl rfl)
    · skip
      have hi := (pTd s (by omega) (by omega)).2 (by omega)
      have hi2 := hi.1.2
      refine T_ld 31 (.ref 189) rfl (fun _ => rfl) ?_
      refine T_ld 32 (.int (i32 p)) rfl (fun _ => rfl) ?_
      refine T_gf 36 (.ref 265) rfl rfl rfl rfl rfl rfl ?_
      refine T_ld 37 (.int (i32 s)) rfl (fun _ => rfl) ?_
      refine T_iald 38 105 (m.2 105) rfl rfl rfl (by omega) (show s < (240 : Int) by omega) rfl ?_
      have e103 : 0 ≤ m.2 105 s ∧ m.2 105 s ≤ 800 := hT.2.1 105 s
      refine T_gf 42 (.ref 266) rfl rfl rfl rfl rfl rfl ?_
      refine T_ld 43 (.int (i32 s)) rfl (fun _ => rfl) ?_
      refine T_iald 44 106 (m.2 106) rfl rfl rfl (by omega) (show s < (240 : Int) by omega) rfl ?_
      have e104 : 0 ≤ m.2 106 s ∧ m.2 106 s ≤ 800 := hT.2.1 106 s
      refine T_call 47 292 [.ref 189, .int (i32 p), .int (i32 ((m.2 105) s)), .int (i32 ((m.2 106) s))] [] rfl (fun _ => rfl) rfl (c_readsCode w (mO m [] []) c N D (by omega) hT p ((m.2 105) s) ((m.2 106) s) (r32 (by omega) (by omega)) (r32 (by omega) (by omega)) (r32 (by omega) (by omega)) (show 0 ≤ p ∧ p ≤ 47 by omega) (show 0 ≤ ((m.2 105) s) ∧ ((m.2 105) s) ≤ 800 by omega) (show 0 ≤ ((m.2 106) s) ∧ ((m.2 106) s) ≤ 800 by omega) (show ((m.2 106) s) ≤ (m.1 28) by omega) (show CN (m.2 65) (m.2 67) (m.1 28) by exact hCN)) (fun rr105 k106 => ?_)
      obtain ⟨m107, Tm107, Fm107, rfl⟩ := k106
      refine ⟨_, _, rfl, ?_⟩
      refine T_nb (st' := []) rfl ?_
      refine T_gf 51 (.ref 291) rfl rfl rfl rfl rfl rfl ?_
      refine T_ld 53 (.int (i32 8)) rfl (fun _ => rfl) ?_
      refine T_ld 54 (.int (i32 p)) rfl (fun _ => rfl) ?_
      refine T_imul 55 rfl rfl ?_
      refine T_gf 59 (.ref 263) rfl rfl rfl rfl rfl rfl ?_
      refine T_ld 60 (.int (i32 s)) rfl (fun _ => rfl) ?_
      refine T_iald 61 103 (m.2 103) rfl rfl rfl (by omega) (show s < (240 : Int) by omega) (show (m107.2 103) = (m.2 103) from (fr2 Fm107 103 rfl)) ?_
      have e108 : 0 ≤ m.2 103 s ∧ m.2 103 s ≤ 7 := hT.2.1 103 s
      refine T_iadd 62 rfl rfl ?_
      refine T_ld 63 (.int (i32 1)) rfl (fun _ => rfl) ?_
      have G109 : ∀ j, 0 ≤ (upI (m.2 137) ((8 * p) + ((m.2 103) s)) 1) j ∧ (upI (m.2 137) ((8 * p) + ((m.2 103) s)) 1) j ≤ 1 := upI_rg (hT.2.1 137) ⟨by omega, by omega⟩
      refine T_bast (a' := [(137, upI (m.2 137) ((8 * p) + ((m.2 103) s)) 1)]) 64 137 (m.2 137) rfl rfl rfl (by omega) (show ((8 * p) + ((m.2 103) s)) < (384 : Int) by omega) (by omega) (show (m107.2 137) = (m.2 137) from (fr2 Fm107 137 rfl)) rfl ?_
      refine Tm_lv (a := [(0, .ref 189), (1, .int (i32 p)), (2, .int (i32 s)), (3, .int (i32 (221 * p)))]) rfl rfl ⟨rfl, rfl, rfl, rfl, trivial⟩ ?_
      exact J64_3 (mO m107 [] [(137, upI (m.2 137) ((8 * p) + ((m.2 103) s)) 1)]) (Ty_mO Tm107 rfl rfl trivial ⟨G109, trivial⟩) (fr_m (fr_s Fm107 (fr_m fr_0 rfl rfl) rfl rfl) rfl rfl)
def fF_touchesAction : List Nat := []
def fA_touchesAction : List Nat := [135, 136, 137]
def Q_touchesAction (m : mR) (c : Nat → Option am_C) (N : Nat) (p : Int) (a : Int) : ag_Re af_T → Prop := fun R => ∃ (M : mR), Ty M ∧ fr fF_touchesAction fA_touchesAction m M ∧ R = (.inl (none), (mhp M c, N), 0, 0)
set_option maxHeartbeats 3000000 in
theorem c_touchesAction (w : wX) (m : mR) (c : Nat → Option am_C) (N D : Nat) (hD : 3 ≤ D) (hT : Ty m) (p : Int) (a : Int) (qp : R32 p) (qa : R32 a) (p0 : 0 ≤ p ∧ p ≤ 47) (p1 : 0 ≤ a ∧ a ≤ 15) (p2 : a < (m.1 25)) (hCN : CN (m.2 65) (m.2 67) (m.1 28)) (pTd : TdP (m.2 65) (m.1 28) (m.1 22) (m.1 99) (m.2 101) (m.2 103) (m.2 105) (m.2 106) (m.2 107) (m.2 108)) (pAc : AcP (m.1 25) (m.1 99) (m.2 109) (m.2 50)) : TC w D 294 [.ref 189, .int (i32 p), .int (i32 a)] (mhp m c, N) (Q_touchesAction m c N p a) := by
  obtain ⟨D, rfl⟩ : ∃ k, D = k + 1 := ⟨D - 1, by omega⟩
  obtain ⟨qpa, qpb⟩ := id qp
  obtain ⟨qaa, qab⟩ := id qa
  have f25 : 0 ≤ m.1 25 ∧ m.1 25 ≤ 16 := hT.1 25
  have f22 : 0 ≤ m.1 22 ∧ m.1 22 ≤ 8 := hT.1 22
  have f28 : 0 ≤ m.1 28 ∧ m.1 28 ≤ 800 := hT.1 28
  have f99 : 0 ≤ m.1 99 ∧ m.1 99 ≤ 240 := hT.1 99
  refine Tc_of rfl ?_
  show TT w D pm_294 (0, [(0, .ref 189), (1, .int (i32 p)), (2, .int (i32 a))], [], (mhp (mO m [] []) c, N), 0, 0) (Q_touchesAction m c N p a)
  have hac := pAc a (by omega) (by omega)
  have hac := pAc a (by omega) (by omega)
  refine T_gf 4 (.ref 269) rfl rfl rfl rfl rfl rfl ?_
  refine T_ld 5 (.int (i32 a)) rfl (fun _ => rfl) ?_
  refine T_iald 6 109 (m.2 109) rfl rfl rfl (by omega) (show a < (16 : Int) by omega) rfl ?_
  have e1 : 0 ≤ m.2 109 a ∧ m.2 109 a ≤ 192 := hT.2.1 109 a
  refine T_sto 7 [(3, .int (i32 ((m.2 109) a))), (0, .ref 189), (1, .int (i32 p)), (2, .int (i32 a))] rfl (fun _ => rfl) ?_
  have e12 : 0 ≤ m.2 109 a ∧ m.2 109 a ≤ 192 := hT.2.1 109 a
  have e13 : 0 ≤ m.2 50 a ∧ m.2 50 a ≤ 13 := hT.2.1 50 a
  have L7_4 : ∀ (n11 : Nat) (v2 : Int) (m3 : mR), (R32 v2) → Ty m3 → fr [] [135, 136, 137] (mO m [] []) m3 → (0 ≤ v2) → (v2 ≤ ((m.2 109) a) + ((m.2 50) a)) → (0 ≤ v2 ∧ v2 ≤ 240) → (((m.2 109) a) + ((m.2 50) a)) - v2 < (n11 : Int) → TT w D pm_294 (7, [(0, .ref 189), (1, .int (i32 p)), (2, .int (i32 a)), (3, .int (i32 v2))], [], (mhp (mO m3 [] []) c, N), 0, 0) (Q_touchesAction m c N p a) := by
    intro n11
    induction n11 with
    | zero =>
      intro v2 m3 q8 Tm3 Fm3 ic5 ic6 ic7 hmu
      obtain ⟨q8a, q8b⟩ := id q8
      exfalso
      omega
    | succ n11 ih =>
      intro v2 m3 q8 Tm3 Fm3 ic5 ic6 ic7 hmu
      obtain ⟨q8a, q8b⟩ := id q8
      have ih14 := ih
      refine T_ld 8 (.int (i32 v2)) rfl (fun _ => rfl) ?_
      refine T_gf 12 (.ref 269) rfl rfl rfl rfl rfl rfl ?_
      refine T_ld 13 (.int (i32 a)) rfl (fun _ => rfl) ?_
      refine T_iald 14 109 (m.2 109) rfl rfl rfl (by omega) (show a < (16 : Int) by omega) (show (m3.2 109) = (m.2 109) from (fr2 Fm3 109 rfl)) ?_
      have e15 : 0 ≤ m.2 109 a ∧ m.2 109 a ≤ 192 := hT.2.1 109 a
      refine T_gf 18 (.ref 220) rfl rfl rfl rfl rfl rfl ?_
      refine T_ld 19 (.int (i32 a)) rfl (fun _ => rfl) ?_
      refine T_iald 20 50 (m.2 50) rfl rfl rfl (by omega) (show a < (16 : Int) by omega) (show (m3.2 50) = (m.2 50) from (fr2 Fm3 50 rfl)) ?_
      have e16 : 0 ≤ m.2 50 a ∧ m.2 50 a ≤ 13 := hT.2.1 50 a
      refine T_iadd 21 rfl rfl ?_
      refine T_icmp 36 24 rfl rfl rfl (r32 (by omega) (by omega)) (r32 (by omega) (by omega)) (fun (h17 : ((m.2 109) a) + ((m.2 50) a) ≤ v2) => ?_) (fun (h17 : ¬ (((m.2 109) a) + ((m.2 50) a) ≤ v2)) => ?_)
      · skip
        refine T_ret rfl (fun _ => rfl) ?_
        exact ⟨(mO m3 [] []), Tm3, (fr_m (fr_s Fm3 (fr_m fr_0 rfl rfl) rfl rfl) rfl rfl), rfl⟩
      · skip
        refine T_ld 25 (.ref 189) rfl (fun _ => rfl) ?_
        refine T_ld 26 (.int (i32 p)) rfl (fun _ => rfl) ?_
        refine T_ld 27 (.int (i32 v2)) rfl (fun _ => rfl) ?_
        refine T_call 30 291 [.ref 189, .int (i32 p), .int (i32 v2)] [] rfl (fun _ => rfl) rfl (c_touches w (mO m3 [] []) c N D (by omega) Tm3 p v2 (r32 (by omega) (by omega)) (r32 (by omega) (by omega)) (show 0 ≤ p ∧ p ≤ 47 by omega) (show 0 ≤ v2 ∧ v2 ≤ 239 by omega) (show v2 < (m3.1 99) by rewrite [(show (m3.1 99) = (m.1 99) from (fr1 Fm3 99 rfl))]; omega) (show CN (m3.2 65) (m3.2 67) (m3.1 28) by rewrite [(show (m3.2 65) = (m.2 65) from (fr2 Fm3 65 rfl)), (show (m3.2 67) = (m.2 67) from (fr2 Fm3 67 rfl)), (show (m3.1 28) = (m.1 28) from (fr1 Fm3 28 rfl))]; exact hCN) (show TdP (m3.2 65) (m3.1 28) (m3.1 22) (m3.1 99) (m3.2 101) (m3.2 103) (m3.2 105) (m3.2 106) (m3.2 107) (m3.2 108) by rewrite [(show (m3.2 65) = (m.2 65) from (fr2 Fm3 65 rfl)), (show (m3.1 28) = (m.1 28) from (fr1 Fm3 28 rfl)), (show (m3.1 22) = (m.1 22) from (fr1 Fm3 22 rfl)), (show (m3.1 99) = (m.1 99) from (fr1 Fm3 99 rfl)), (show (m3.2 101) = (m.2 101) from (fr2 Fm3 101 rfl)), (show (m3.2 103) = (m.2 103) from (fr2 Fm3 103 rfl)), (show (m3.2 105) = (m.2 105) from (fr2 Fm3 105 rfl)), (show (m3.2 106) = (m.2 106) from (fr2 Fm3 106 rfl)), (show (m3.2 107) = (m.2 107) from (fr2 Fm3 107 rfl)), (show (m3.2 108) = (m.2 108) from (fr2 Fm3 108 rfl))]; exact pTd)) (fun rr18 k19 => ?_)
        obtain ⟨m20, Tm20, Fm20, rfl⟩ := k19
        refine ⟨_, _, rfl, ?_⟩
        refine T_nb (st' := []) rfl ?_
        refine T_iinc 33 [(3, .int (i32 (v2 + 1))), (0, .ref 189), (1, .int (i32 p)), (2, .int (i32 a))] rfl rfl (by decide) rfl rfl ?_
        refine T_goto 7 rfl (fun _ => rfl) ?_
        refine Tm_lv (a := [(0, .ref 189), (1, .int (i32 p)), (2, .int (i32 a)), (3, .int (i32 (v2 + 1)))]) rfl rfl ⟨rfl, rfl, rfl, rfl, trivial⟩ ?_
        exact ih14 (v2 + 1) (mO m20 [] []) (r32 (by omega) (by omega)) Tm20 (fr_m (fr_s Fm20 (fr_m (fr_s Fm3 (fr_m fr_0 rfl rfl) rfl rfl) rfl rfl) rfl rfl) rfl rfl) (show 0 ≤ (v2 + 1) by omega) (show (v2 + 1) ≤ ((m.2 109) a) + ((m.2 50) a) by omega) (show 0 ≤ (v2 + 1) ∧ (v2 + 1) ≤ 240 by omega) (show (((m.2 109) a) + ((m.2 50) a)) - (v2 + 1) < (n11 : Int) by omega)
  refine Tm_lv (a := [(0, .ref 189), (1, .int (i32 p)), (2, .int (i32 a)), (3, .int (i32 ((m.2 109) a)))]) rfl rfl ⟨rfl, rfl, rfl, rfl, trivial⟩ ?_
  exact L7_4 (((((m.2 109) a) + ((m.2 50) a)) - ((m.2 109) a) : Int) + 1).toNat ((m.2 109) a) (mO m [] []) (r32 (by omega) (by omega)) hT (fr_m fr_0 rfl rfl) (show 0 ≤ ((m.2 109) a) by omega) (show ((m.2 109) a) ≤ ((m.2 109) a) + ((m.2 50) a) by omega) (show 0 ≤ ((m.2 109) a) ∧ ((m.2 109) a) ≤ 240 by omega) (show (((m.2 109) a) + ((m.2 50) a)) - ((m.2 109) a) < (((((((m.2 109) a) + ((m.2 50) a)) - ((m.2 109) a) : Int) + 1).toNat : Nat) : Int) by omega)
def fF_touchesAll : List Nat := []
def fA_touchesAll : List Nat := [135, 136, 137]
def Q_touchesAll (m : mR) (c : Nat → Option am_C) (N : Nat) : ag_Re af_T → Prop := fun R => ∃ (M : mR), Ty M ∧ fr fF_touchesAll fA_touchesAll m M ∧ R = (.inl (none), (mhp M c, N), 0, 0)
set_option maxHeartbeats 3000000 in
theorem c_touchesAll (w : wX) (m : mR) (c : Nat → Option am_C) (N D : Nat) (hD : 4 ≤ D) (hT : Ty m) (hCN : CN (m.2 65) (m.2 67) (m.1 28)) (pTd : TdP (m.2 65) (m.1 28) (m.1 22) (m.1 99) (m.2 101) (m.2 103) (m.2 105) (m.2 106) (m.2 107) (m.2 108)) (pAc : AcP (m.1 25) (m.1 99) (m.2 109) (m.2 50)) (pTb : TbP (m.2 65) (m.1 28) (m.1 25) (m.1 26) (m.2 51) (m.2 110) (m.2 111) (m.2 57) (m.2 53) (m.2 114) (m.2 58) (m.2 54)) (pSp : SpP (m.2 65) (m.1 28) (m.1 99) (m.1 26) (m.1 27) (m.2 60) (m.2 61) (m.2 120) (m.2 121) (m.2 122) (m.2 63)) : TC w D 290 [.ref 189] (mhp m c, N) (Q_touchesAll m c N) := by
  obtain ⟨D, rfl⟩ : ∃ k, D = k + 1 := ⟨D - 1, by omega⟩
  have f25 : 0 ≤ m.1 25 ∧ m.1 25 ≤ 16 := hT.1 25
  have f22 : 0 ≤ m.1 22 ∧ m.1 22 ≤ 8 := hT.1 22
  have f28 : 0 ≤ m.1 28 ∧ m.1 28 ≤ 800 := hT.1 28
  have f27 : 0 ≤ m.1 27 ∧ m.1 27 ≤ 48 := hT.1 27
  have f26 : 0 ≤ m.1 26 ∧ m.1 26 ≤ 8 := hT.1 26
  have f99 : 0 ≤ m.1 99 ∧ m.1 99 ≤ 240 := hT.1 99
  refine Tc_of rfl ?_
  show TT w D pm_290 (0, [(0, .ref 189)], [], (mhp (mO m [] []) c, N), 0, 0) (Q_touchesAll m c N)
  refine T_ld 1 (.int (i32 0)) rfl (fun _ => rfl) ?_
  refine T_sto 2 [(1, .int (i32 0)), (0, .ref 189)] rfl (fun _ => rfl) ?_
  have L2_3 : ∀ (n9 : Nat) (v1 : Int) (m2 : mR), (R32 v1) → Ty m2 → fr [] [135, 136] (mO m [] []) m2 → (0 ≤ v1) → (v1 ≤ 10608) → 10608 - v1 < (n9 : Int) → TT w D pm_290 (2, [(0, .ref 189), (1, .int (i32 v1))], [], (mhp (mO m2 [] []) c, N), 0, 0) (Q_touchesAll m c N) := by
    intro n9
    induction n9 with
    | zero =>
      intro v1 m2 q6 Tm2 Fm2 ic4 ic5 hmu
      obtain ⟨q6a, q6b⟩ := id q6
      exfalso
      omega
    | succ n9 ih =>
      intro v1 m2 q6 Tm2 Fm2 ic4 ic5 hmu
      obtain ⟨q6a, q6b⟩ := id q6
      have ih10 := ih
      refine T_ld 3 (.int (i32 v1)) rfl (fun _ => rfl) ?_
      refine T_ld 6 (.int (i32 10608)) rfl (fun _ => rfl) ?_
      refine T_icmp 29 9 rfl rfl rfl (r32 (by omega) (by omega)) ⟨by decide, by decide⟩ (fun (h11 : (10608 : Int) ≤ v1) => ?_) (fun (h11 : ¬ ((10608 : Int) ≤ v1)) => ?_)
      · skip
        refine T_ld 30 (.int (i32 0)) rfl (fun _ => rfl) ?_
        refine T_sto 31 [(1, .int (i32 0)), (0, .ref 189)] rfl (fun _ => rfl) ?_
        have L31_14 : ∀ (n20 : Nat) (v12 : Int) (m13 : mR), (R32 v12) → Ty m13 → fr [] [137] (mO m2 [] []) m13 → (0 ≤ v12) → (v12 ≤ 384) → 384 - v12 < (n20 : Int) → TT w D pm_290 (31, [(0, .ref 189), (1, .int (i32 v12))], [], (mhp (mO m13 [] []) c, N), 0, 0) (Q_touchesAll m c N) := by
          intro n20
          induction n20 with
          | zero =>
            intro v12 m13 q17 Tm13 Fm13 ic15 ic16 hmu
            obtain ⟨q17a, q17b⟩ := id q17
            exfalso
            omega
          | succ n20 ih =>
            intro v12 m13 q17 Tm13 Fm13 ic15 ic16 hmu
            obtain ⟨q17a, q17b⟩ := id q17
            have ih21 := ih
            refine T_ld 32 (.int (i32 v12)) rfl (fun _ => rfl) ?_
            refine T_ld 35 (.int (i32 384)) rfl (fun _ => rfl) ?_
            refine T_icmp 51 38 rfl rfl rfl (r32 (by omega) (by omega)) ⟨by decide, by decide⟩ (fun (h22 : (384 : Int) ≤ v12) => ?_) (fun (h22 : ¬ ((384 : Int) ≤ v12)) => ?_)
            · skip
              refine T_ld 52 (.int (i32 0)) rfl (fun _ => rfl) ?_
              refine T_sto 53 [(1, .int (i32 0)), (0, .ref 189)] rfl (fun _ => rfl) ?_
              have L53_25 : ∀ (n31 : Nat) (v23 : Int) (m24 : mR), (R32 v23) → Ty m24 → fr [] [135, 136, 137] (mO m13 [] []) m24 → (0 ≤ v23) → (v23 ≤ (m.1 27)) → (m.1 27) - v23 < (n31 : Int) → TT w D pm_290 (53, [(0, .ref 189), (1, .int (i32 v23))], [], (mhp (mO m24 [] []) c, N), 0, 0) (Q_touchesAll m c N) := by
                intro n31
                induction n31 with
                | zero =>
                  intro v23 m24 q28 Tm24 Fm24 ic26 ic27 hmu
                  obtain ⟨q28a, q28b⟩ := id q28
                  exfalso
                  omega
                | succ n31 ih =>
                  intro v23 m24 q28 Tm24 Fm24 ic26 ic27 hmu
                  obtain ⟨q28a, q28b⟩ := id q28
                  have ih32 := ih
                  refine T_ld 54 (.int (i32 v23)) rfl (fun _ => rfl) ?_
                  refine T_gf 58 (.int (i32 (m.1 27))) rfl rfl rfl rfl (mfv_c (F := fun x => .int (i32 x)) rfl (show (m24.1 27) = (m.1 27) from ((fr1 Fm24 27 rfl).trans ((fr1 Fm13 27 rfl).trans (fr1 Fm2 27 rfl))))) rfl ?_
                  refine T_icmp 216 61 rfl rfl rfl (r32 (by omega) (by omega)) (r32 (by omega) (by omega)) (fun (h33 : (m.1 27) ≤ v23) => ?_) (fun (h33 : ¬ ((m.1 27) ≤ v23)) => ?_)
                  · skip
                    refine T_ret rfl (fun _ => rfl) ?_
                    exact ⟨(mO m24 [] []), Tm24, (fr_m (fr_s Fm24 (fr_m (fr_s Fm13 (fr_m (fr_s Fm2 (fr_m fr_0 rfl rfl) rfl rfl) rfl rfl) rfl rfl) rfl rfl) rfl rfl) rfl rfl), rfl⟩
                  · skip
                    obtain ⟨hs1, hs2, hs3, hs4⟩ := pSp v23 (by omega) (by omega)
                    refine T_gf 65 (.ref 230) rfl rfl rfl rfl rfl rfl ?_
                    refine T_ld 66 (.int (i32 v23)) rfl (fun _ => rfl) ?_
                    refine T_iald 67 60 (m.2 60) rfl rfl rfl (by omega) (show v23 < (48 : Int) by omega) (show (m24.2 60) = (m.2 60) from ((fr2 Fm24 60 rfl).trans ((fr2 Fm13 60 rfl).trans (fr2 Fm2 60 rfl)))) ?_
                    have e34 : 0 ≤ m.2 60 v23 ∧ m.2 60 v23 ≤ 2 := hT.2.1 60 v23
                    refine T_if 84 70 rfl rfl rfl (r32 (by omega) (by omega)) (fun (h35 : (m.2 60) v23 ≠ 0) => ?_) (fun (h35 : ¬ ((m.2 60) v23 ≠ 0)) => ?_)
                    · skip
                      refine T_gf 88 (.ref 230) rfl rfl rfl rfl rfl rfl ?_
                      refine T_ld 89 (.int (i32 v23)) rfl (fun _ => rfl) ?_
                      refine T_iald 90 60 (m.2 60) rfl rfl rfl (by omega) (show v23 < (48 : Int) by omega) (show (m24.2 60) = (m.2 60) from ((fr2 Fm24 60 rfl).trans ((fr2 Fm13 60 rfl).trans (fr2 Fm2 60 rfl)))) ?_
                      have e36 : 0 ≤ m.2 60 v23 ∧ m.2 60 v23 ≤ 2 := hT.2.1 60 v23
                      refine T_ld 91 (.int (i32 1)) rfl (fun _ => rfl) ?_
                      refine T_icmp 114 94 rfl rfl rfl (r32 (by omega) (by omega)) ⟨by decide, by decide⟩ (fun (h37 : (m.2 60) v23 ≠ 1) => ?_) (fun (h37 : ¬ ((m.2 60) v23 ≠ 1)) => ?_)
                      · skip
                        refine T_gf 118 (.ref 233) rfl rfl rfl rfl rfl rfl ?_
                        refine T_ld 119 (.int (i32 v23)) rfl (fun _ => rfl) ?_
                        refine T_iald 120 63 (m.2 63) rfl rfl rfl (by omega) (show v23 < (48 : Int) by omega) (show (m24.2 63) = (m.2 63) from ((fr2 Fm24 63 rfl).trans ((fr2 Fm13 63 rfl).trans (fr2 Fm2 63 rfl)))) ?_
                        have e38 : (-1) ≤ m.2 63 v23 ∧ m.2 63 v23 ≤ 7 := hT.2.1 63 v23
                        refine T_sto 121 [(2, .int (i32 ((m.2 63) v23))), (0, .ref 189), (1, .int (i32 v23))] rfl (fun _ => rfl) ?_
                        have hs6 := hs4 (by omega)
                        obtain ⟨ht1, ht2, ht3, ht4, ht5⟩ := pTb ((m.2 63) v23) (by omega) (by omega)
                        refine T_ld 122 (.int (i32 4)) rfl (fun _ => rfl) ?_
                        refine T_ld 123 (.int (i32 ((m.2 63) v23))) rfl (fun _ => rfl) ?_
                        refine T_imul 124 rfl rfl ?_
                        refine T_sto 125 [(3, .int (i32 (4 * ((m.2 63) v23)))), (2, .int (i32 ((m.2 63) v23))), (0, .ref 189), (1, .int (i32 v23))] rfl (fun _ => rfl) ?_
                        have e49 : 0 ≤ m.2 51 ((m.2 63) v23) ∧ m.2 51 ((m.2 63) v23) ≤ 4 := hT.2.1 51 ((m.2 63) v23)
                        have L125_41 : ∀ (n48 : Nat) (v39 : Int) (m40 : mR), (R32 v39) → Ty m40 → fr [] [135] (mO m24 [] []) m40 → ((-4) ≤ v39) → (v39 ≤ (4 * ((m.2 63) v23)) + ((m.2 51) ((m.2 63) v23))) → (4 * ((m.2 63) v23) ≤ v39) → ((4 * ((m.2 63) v23)) + ((m.2 51) ((m.2 63) v23))) - v39 < (n48 : Int) → TT w D pm_290 (125, [(0, .ref 189), (1, .int (i32 v23)), (2, .int (i32 ((m.2 63) v23))), (3, .int (i32 v39))], [], (mhp (mO m40 [] []) c, N), 0, 0) (Q_touchesAll m c N) := by
                          intro n48
                          induction n48 with
                          | zero =>
                            intro v39 m40 q45 Tm40 Fm40 ic42 ic43 ic44 hmu
                            obtain ⟨q45a, q45b⟩ := id q45
                            exfalso
                            omega
                          | succ n48 ih =>
                            intro v39 m40 q45 Tm40 Fm40 ic42 ic43 ic44 hmu
                            obtain ⟨q45a, q45b⟩ := id q45
                            have ih50 := ih
                            refine T_ld 126 (.int (i32 v39)) rfl (fun _ => rfl) ?_
                            refine T_ld 127 (.int (i32 4)) rfl (fun _ => rfl) ?_
                            refine T_ld 128 (.int (i32 ((m.2 63) v23))) rfl (fun _ => rfl) ?_
                            refine T_imul 129 rfl rfl ?_
                            refine T_gf 133 (.ref 221) rfl rfl rfl rfl rfl rfl ?_
                            refine T_ld 134 (.int (i32 ((m.2 63) v23))) rfl (fun _ => rfl) ?_
                            refine T_iald 135 51 (m.2 51) rfl rfl rfl (by omega) (show ((m.2 63) v23) < (8 : Int) by omega) (show (m40.2 51) = (m.2 51) from ((fr2 Fm40 51 rfl).trans ((fr2 Fm24 51 rfl).trans ((fr2 Fm13 51 rfl).trans (fr2 Fm2 51 rfl))))) ?_
                            have e51 : 0 ≤ m.2 51 ((m.2 63) v23) ∧ m.2 51 ((m.2 63) v23) ≤ 4 := hT.2.1 51 ((m.2 63) v23)
                            refine T_iadd 136 rfl rfl ?_
                            refine T_icmp 162 139 rfl rfl rfl (r32 (by omega) (by omega)) (r32 (by omega) (by omega)) (fun (h52 : (4 * ((m.2 63) v23)) + ((m.2 51) ((m.2 63) v23)) ≤ v39) => ?_) (fun (h52 : ¬ ((4 * ((m.2 63) v23)) + ((m.2 51) ((m.2 63) v23)) ≤ v39)) => ?_)
                            · skip
                              refine T_ld 164 (.int (i32 8)) rfl (fun _ => rfl) ?_
                              refine T_ld 165 (.int (i32 ((m.2 63) v23))) rfl (fun _ => rfl) ?_
                              refine T_imul 166 rfl rfl ?_
                              refine T_sto 167 [(3, .int (i32 (8 * ((m.2 63) v23)))), (0, .ref 189), (1, .int (i32 v23)), (2, .int (i32 ((m.2 63) v23)))] rfl (fun _ => rfl) ?_
                              have e63 : 0 ≤ m.2 53 ((m.2 63) v23) ∧ m.2 53 ((m.2 63) v23) ≤ 8 := hT.2.1 53 ((m.2 63) v23)
                              have L167_55 : ∀ (n62 : Nat) (v53 : Int) (m54 : mR), (R32 v53) → Ty m54 → fr [] [135, 136, 137] (mO m40 [] []) m54 → ((-8) ≤ v53) → (v53 ≤ (8 * ((m.2 63) v23)) + ((m.2 53) ((m.2 63) v23))) → (8 * ((m.2 63) v23) ≤ v53) → ((8 * ((m.2 63) v23)) + ((m.2 53) ((m.2 63) v23))) - v53 < (n62 : Int) → TT w D pm_290 (167, [(0, .ref 189), (1, .int (i32 v23)), (2, .int (i32 ((m.2 63) v23))), (3, .int (i32 v53))], [], (mhp (mO m54 [] []) c, N), 0, 0) (Q_touchesAll m c N) := by
                                intro n62
                                induction n62 with
                                | zero =>
                                  intro v53 m54 q59 Tm54 Fm54 ic56 ic57 ic58 hmu
                                  obtain ⟨q59a, q59b⟩ := id q59
                                  exfalso
                                  omega
                                | succ n62 ih =>
                                  intro v53 m54 q59 Tm54 Fm54 ic56 ic57 ic58 hmu
                                  obtain ⟨q59a, q59b⟩ := id q59
                                  have ih64 := ih
                                  refine T_ld 168 (.int (i32 v53)) rfl (fun _ => rfl) ?_
                                  refine T_ld 170 (.int (i32 8)) rfl (fun _ => rfl) ?_
                                  refine T_ld 171 (.int (i32 ((m.2 63) v23))) rfl (fun _ => rfl) ?_
                                  refine T_imul 172 rfl rfl ?_
                                  refine T_gf 176 (.ref 223) rfl rfl rfl rfl rfl rfl ?_
                                  refine T_ld 177 (.int (i32 ((m.2 63) v23))) rfl (fun _ => rfl) ?_
                                  refine T_iald 178 53 (m.2 53) rfl rfl rfl (by omega) (show ((m.2 63) v23) < (8 : Int) by omega) (show (m54.2 53) = (m.2 53) from ((fr2 Fm54 53 rfl).trans ((fr2 Fm40 53 rfl).trans ((fr2 Fm24 53 rfl).trans ((fr2 Fm13 53 rfl).trans (fr2 Fm2 53 rfl)))))) ?_
                                  have e65 : 0 ≤ m.2 53 ((m.2 63) v23) ∧ m.2 53 ((m.2 63) v23) ≤ 8 := hT.2.1 53 ((m.2 63) v23)
                                  refine T_iadd 179 rfl rfl ?_
                                  refine T_icmp 199 182 rfl rfl rfl (r32 (by omega) (by omega)) (r32 (by omega) (by omega)) (fun (h66 : (8 * ((m.2 63) v23)) + ((m.2 53) ((m.2 63) v23)) ≤ v53) => ?_) (fun (h66 : ¬ ((8 * ((m.2 63) v23)) + ((m.2 53) ((m.2 63) v23)) ≤ v53)) => ?_)
                                  · skip
                                    refine T_ld 200 (.ref 189) rfl (fun _ => rfl) ?_
                                    refine T_ld 201 (.int (i32 v23)) rfl (fun _ => rfl) ?_
                                    refine T_gf 205 (.ref 227) rfl rfl rfl rfl rfl rfl ?_
                                    refine T_ld 206 (.int (i32 ((m.2 63) v23))) rfl (fun _ => rfl) ?_
                                    refine T_iald 207 57 (m.2 57) rfl rfl rfl (by omega) (show ((m.2 63) v23) < (8 : Int) by omega) (show (m54.2 57) = (m.2 57) from ((fr2 Fm54 57 rfl).trans ((fr2 Fm40 57 rfl).trans ((fr2 Fm24 57 rfl).trans ((fr2 Fm13 57 rfl).trans (fr2 Fm2 57 rfl)))))) ?_
                                    have e67 : 0 ≤ m.2 57 ((m.2 63) v23) ∧ m.2 57 ((m.2 63) v23) ≤ 15 := hT.2.1 57 ((m.2 63) v23)
                                    refine T_call 210 294 [.ref 189, .int (i32 v23), .int (i32 ((m.2 57) ((m.2 63) v23)))] [] rfl (fun _ => rfl) rfl (c_touchesAction w (mO m54 [] []) c N D (by omega) Tm54 v23 ((m.2 57) ((m.2 63) v23)) (r32 (by omega) (by omega)) (r32 (by omega) (by omega)) (show 0 ≤ v23 ∧ v23 ≤ 47 by omega) (show 0 ≤ ((m.2 57) ((m.2 63) v23)) ∧ ((m.2 57) ((m.2 63) v23)) ≤ 15 by omega) (show ((m.2 57) ((m.2 63) v23)) < (m54.1 25) by rewrite [(show (m54.1 25) = (m.1 25) from ((fr1 Fm54 25 rfl).trans ((fr1 Fm40 25 rfl).trans ((fr1 Fm24 25 rfl).trans ((fr1 Fm13 25 rfl).trans (fr1 Fm2 25 rfl))))))]; omega) (show CN (m54.2 65) (m54.2 67) (m54.1 28) by rewrite [(show (m54.2 65) = (m.2 65) from ((fr2 Fm54 65 rfl).trans ((fr2 Fm40 65 rfl).trans ((fr2 Fm24 65 rfl).trans ((fr2 Fm13 65 rfl).trans (fr2 Fm2 65 rfl)))))), (show (m54.2 67) = (m.2 67) from ((fr2 Fm54 67 rfl).trans ((fr2 Fm40 67 rfl).trans ((fr2 Fm24 67 rfl).trans ((fr2 Fm13 67 rfl).trans (fr2 Fm2 67 rfl)))))), (show (m54.1 28) = (m.1 28) from ((fr1 Fm54 28 rfl).trans ((fr1 Fm40 28 rfl).trans ((fr1 Fm24 28 rfl).trans ((fr1 Fm13 28 rfl).trans (fr1 Fm2 28 rfl))))))]; exact hCN) (show TdP (m54.2 65) (m54.1 28) (m54.1 22) (m54.1 99) (m54.2 101) (m54.2 103) (m54.2 105) (m54.2 106) (m54.2 107) (m54.2 108) by rewrite [(show (m54.2 65) = (m.2 65) from ((fr2 Fm54 65 rfl).trans ((fr2 Fm40 65 rfl).trans ((fr2 Fm24 65 rfl).trans ((fr2 Fm13 65 rfl).trans (fr2 Fm2 65 rfl)))))), (show (m54.1 28) = (m.1 28) from ((fr1 Fm54 28 rfl).trans ((fr1 Fm40 28 rfl).trans ((fr1 Fm24 28 rfl).trans ((fr1 Fm13 28 rfl).trans (fr1 Fm2 28 rfl)))))), (show (m54.1 22) = (m.1 22) from ((fr1 Fm54 22 rfl).trans ((fr1 Fm40 22 rfl).trans ((fr1 Fm24 22 rfl).trans ((fr1 Fm13 22 rfl).trans (fr1 Fm2 22 rfl)))))), (show (m54.1 99) = (m.1 99) from ((fr1 Fm54 99 rfl).trans ((fr1 Fm40 99 rfl).trans ((fr1 Fm24 99 rfl).trans ((fr1 Fm13 99 rfl).trans (fr1 Fm2 99 rfl)))))), (show (m54.2 101) = (m.2 101) from ((fr2 Fm54 101 rfl).trans ((fr2 Fm40 101 rfl).trans ((fr2 Fm24 101 rfl).trans ((fr2 Fm13 101 rfl).trans (fr2 Fm2 101 rfl)))))), (show (m54.2 103) = (m.2 103) from ((fr2 Fm54 103 rfl).trans ((fr2 Fm40 103 rfl).trans ((fr2 Fm24 103 rfl).trans ((fr2 Fm13 103 rfl).trans (fr2 Fm2 103 rfl)))))), (show (m54.2 105) = (m.2 105) from ((fr2 Fm54 105 rfl).trans ((fr2 Fm40 105 rfl).trans ((fr2 Fm24 105 rfl).trans ((fr2 Fm13 105 rfl).trans (fr2 Fm2 105 rfl)))))), (show (m54.2 106) = (m.2 106) from ((fr2 Fm54 106 rfl).trans ((fr2 Fm40 106 rfl).trans ((fr2 Fm24 106 rfl).trans ((fr2 Fm13 106 rfl).trans (fr2 Fm2 106 rfl)))))), (show (m54.2 107) = (m.2 107) from ((fr2 Fm54 107 rfl).trans ((fr2 Fm40 107 rfl).trans ((fr2 Fm24 107 rfl).trans ((fr2 Fm13 107 rfl).trans (fr2 Fm2 107 rfl)))))), (show (m54.2 108) = (m.2 108) from ((fr2 Fm54 108 rfl).trans ((fr2 Fm40 108 rfl).trans ((fr2 Fm24 108 rfl).trans ((fr2 Fm13 108 rfl).trans (fr2 Fm2 108 rfl))))))]; exact pTd) (show AcP (m54.1 25) (m54.1 99) (m54.2 109) (m54.2 50) by rewrite [(show (m54.1 25) = (m.1 25) from ((fr1 Fm54 25 rfl).trans ((fr1 Fm40 25 rfl).trans ((fr1 Fm24 25 rfl).trans ((fr1 Fm13 25 rfl).trans (fr1 Fm2 25 rfl)))))), (show (m54.1 99) = (m.1 99) from ((fr1 Fm54 99 rfl).trans ((fr1 Fm40 99 rfl).trans ((fr1 Fm24 99 rfl).trans ((fr1 Fm13 99 rfl).trans (fr1 Fm2 99 rfl)))))), (show (m54.2 109) = (m.2 109) from ((fr2 Fm54 109 rfl).trans ((fr2 Fm40 109 rfl).trans ((fr2 Fm24 109 rfl).trans ((fr2 Fm13 109 rfl).trans (fr2 Fm2 109 rfl)))))), (show (m54.2 50) = (m.2 50) from ((fr2 Fm54 50 rfl).trans ((fr2 Fm40 50 rfl).trans ((fr2 Fm24 50 rfl).trans ((fr2 Fm13 50 rfl).trans (fr2 Fm2 50 rfl))))))]; exact pAc)) (fun rr68 k69 => ?_)
                                    obtain ⟨m70, Tm70, Fm70, rfl⟩ := k69
                                    refine ⟨_, _, rfl, ?_⟩
                                    refine T_nb (st' := []) rfl ?_
                                    refine T_iinc 213 [(1, .int (i32 (v23 + 1))), (0, .ref 189), (2, .int (i32 ((m.2 63) v23))), (3, .int (i32 v53))] rfl rfl (by decide) rfl rfl ?_
                                    refine T_goto 53 rfl (fun _ => rfl) ?_
                                    refine Tm_lv (a := [(0, .ref 189), (1, .int (i32 (v23 + 1)))]) rfl rfl ⟨rfl, rfl, trivial⟩ ?_
                                    exact ih32 (v23 + 1) (mO m70 [] []) (r32 (by omega) (by omega)) Tm70 (fr_m (fr_s Fm70 (fr_m (fr_s Fm54 (fr_m (fr_s Fm40 (fr_m (fr_s Fm24 (fr_m fr_0 rfl rfl) rfl rfl) rfl rfl) rfl rfl) rfl rfl) rfl rfl) rfl rfl) rfl rfl) rfl rfl) (show 0 ≤ (v23 + 1) by omega) (show (v23 + 1) ≤ (m.1 27) by omega) (show (m.1 27) - (v23 + 1) < (n31 : Int) by omega)
                                  · skip
                                    have ht7 := ht3 v53 (by omega) (by omega)
                                    refine T_ld 183 (.ref 189) rfl (fun _ => rfl) ?_
                                    refine T_ld 184 (.int (i32 v23)) rfl (fun _ => rfl) ?_
                                    refine T_gf 188 (.ref 274) rfl rfl rfl rfl rfl rfl ?_
                                    refine T_ld 189 (.int (i32 v53)) rfl (fun _ => rfl) ?_
                                    refine T_iald 190 114 (m.2 114) rfl rfl rfl (by omega) (show v53 < (64 : Int) by omega) (show (m54.2 114) = (m.2 114) from ((fr2 Fm54 114 rfl).trans ((fr2 Fm40 114 rfl).trans ((fr2 Fm24 114 rfl).trans ((fr2 Fm13 114 rfl).trans (fr2 Fm2 114 rfl)))))) ?_
                                    have e71 : 0 ≤ m.2 114 v53 ∧ m.2 114 v53 ≤ 15 := hT.2.1 114 v53
                                    refine T_call 193 294 [.ref 189, .int (i32 v23), .int (i32 ((m.2 114) v53))] [] rfl (fun _ => rfl) rfl (c_touchesAction w (mO m54 [] []) c N D (by omega) Tm54 v23 ((m.2 114) v53) (r32 (by omega) (by omega)) (r32 (by omega) (by omega)) (show 0 ≤ v23 ∧ v23 ≤ 47 by omega) (show 0 ≤ ((m.2 114) v53) ∧ ((m.2 114) v53) ≤ 15 by omega) (show ((m.2 114) v53) < (m54.1 25) by rewrite [(show (m54.1 25) = (m.1 25) from ((fr1 Fm54 25 rfl).trans ((fr1 Fm40 25 rfl).trans ((fr1 Fm24 25 rfl).trans ((fr1 Fm13 25 rfl).trans (fr1 Fm2 25 rfl))))))]; omega) (show CN (m54.2 65) (m54.2 67) (m54.1 28) by rewrite [(show (m54.2 65) = (m.2 65) from ((fr2 Fm54 65 rfl).trans ((fr2 Fm40 65 rfl).trans ((fr2 Fm24 65 rfl).trans ((fr2 Fm13 65 rfl).trans (fr2 Fm2 65 rfl)))))), (show (m54.2 67) = (m.2 67) from ((fr2 Fm54 67 rfl).trans ((fr2 Fm40 67 rfl).trans ((fr2 Fm24 67 rfl).trans ((fr2 Fm13 67 rfl).trans (fr2 Fm2 67 rfl)))))), (show (m54.1 28) = (m.1 28) from ((fr1 Fm54 28 rfl).trans ((fr1 Fm40 28 rfl).trans ((fr1 Fm24 28 rfl).trans ((fr1 Fm13 28 rfl).trans (fr1 Fm2 28 rfl))))))]; exact hCN) (show TdP (m54.2 65) (m54.1 28) (m54.1 22) (m54.1 99) (m54.2 101) (m54.2 103) (m54.2 105) (m54.2 106) (m54.2 107) (m54.2 108) by rewrite [(show (m54.2 65) = (m.2 65) from ((fr2 Fm54 65 rfl).trans ((fr2 Fm40 65 rfl).trans ((fr2 Fm24 65 rfl).trans ((fr2 Fm13 65 rfl).trans (fr2 Fm2 65 rfl)))))), (show (m54.1 28) = (m.1 28) from ((fr1 Fm54 28 rfl).trans ((fr1 Fm40 28 rfl).trans ((fr1 Fm24 28 rfl).trans ((fr1 Fm13 28 rfl).trans (fr1 Fm2 28 rfl)))))), (show (m54.1 22) = (m.1 22) from ((fr1 Fm54 22 rfl).trans ((fr1 Fm40 22 rfl).trans ((fr1 Fm24 22 rfl).trans ((fr1 Fm13 22 rfl).trans (fr1 Fm2 22 rfl)))))), (show (m54.1 99) = (m.1 99) from ((fr1 Fm54 99 rfl).trans ((fr1 Fm40 99 rfl).trans ((fr1 Fm24 99 rfl).trans ((fr1 Fm13 99 rfl).trans (fr1 Fm2 99 rfl)))))), (show (m54.2 101) = (m.2 101) from ((fr2 Fm54 101 rfl).trans ((fr2 Fm40 101 rfl).trans ((fr2 Fm24 101 rfl).trans ((fr2 Fm13 101 rfl).trans (fr2 Fm2 101 rfl)))))), (show (m54.2 103) = (m.2 103) from ((fr2 Fm54 103 rfl).trans ((fr2 Fm40 103 rfl).trans ((fr2 Fm24 103 rfl).trans ((fr2 Fm13 103 rfl).trans (fr2 Fm2 103 rfl)))))), (show (m54.2 105) = (m.2 105) from ((fr2 Fm54 105 rfl).trans ((fr2 Fm40 105 rfl).trans ((fr2 Fm24 105 rfl).trans ((fr2 Fm13 105 rfl).trans (fr2 Fm2 105 rfl)))))), (show (m54.2 106) = (m.2 106) from ((fr2 Fm54 106 rfl).trans ((fr2 Fm40 106 rfl).trans ((fr2 Fm24 106 rfl).trans ((fr2 Fm13 106 rfl).trans (fr2 Fm2 106 rfl)))))), (show (m54.2 107) = (m.2 107) from ((fr2 Fm54 107 rfl).trans ((fr2 Fm40 107 rfl).trans ((fr2 Fm24 107 rfl).trans ((fr2 Fm13 107 rfl).trans (fr2 Fm2 107 rfl)))))), (show (m54.2 108) = (m.2 108) from ((fr2 Fm54 108 rfl).trans ((fr2 Fm40 108 rfl).trans ((fr2 Fm24 108 rfl).trans ((fr2 Fm13 108 rfl).trans (fr2 Fm2 108 rfl))))))]; exact pTd) (show AcP (m54.1 25) (m54.1 99) (m54.2 109) (m54.2 50) by rewrite [(show (m54.1 25) = (m.1 25) from ((fr1 Fm54 25 rfl).trans ((fr1 Fm40 25 rfl).trans ((fr1 Fm24 25 rfl).trans ((fr1 Fm13 25 rfl).trans (fr1 Fm2 25 rfl)))))), (show (m54.1 99) = (m.1 99) from ((fr1 Fm54 99 rfl).trans ((fr1 Fm40 99 rfl).trans ((fr1 Fm24 99 rfl).trans ((fr1 Fm13 99 rfl).trans (fr1 Fm2 99 rfl)))))), (show (m54.2 109) = (m.2 109) from ((fr2 Fm54 109 rfl).trans ((fr2 Fm40 109 rfl).trans ((fr2 Fm24 109 rfl).trans ((fr2 Fm13 109 rfl).trans (fr2 Fm2 109 rfl)))))), (show (m54.2 50) = (m.2 50) from ((fr2 Fm54 50 rfl).trans ((fr2 Fm40 50 rfl).trans ((fr2 Fm24 50 rfl).trans ((fr2 Fm13 50 rfl).trans (fr2 Fm2 50 rfl))))))]; exact pAc)) (fun rr72 k73 => ?_)
                                    obtain ⟨m74, Tm74, Fm74, rfl⟩ := k73
                                    refine ⟨_, _, rfl, ?_⟩
                                    refine T_nb (st' := []) rfl ?_
                                    refine T_iinc 196 [(3, .int (i32 (v53 + 1))), (0, .ref 189), (1, .int (i32 v23)), (2, .int (i32 ((m.2 63) v23)))] rfl rfl (by decide) rfl rfl ?_
                                    refine T_goto 167 rfl (fun _ => rfl) ?_
                                    refine Tm_lv (a := [(0, .ref 189), (1, .int (i32 v23)), (2, .int (i32 ((m.2 63) v23))), (3, .int (i32 (v53 + 1)))]) rfl rfl ⟨rfl, rfl, rfl, rfl, trivial⟩ ?_
                                    exact ih64 (v53 + 1) (mO m74 [] []) (r32 (by omega) (by omega)) Tm74 (fr_m (fr_s Fm74 (fr_m (fr_s Fm54 (fr_m fr_0 rfl rfl) rfl rfl) rfl rfl) rfl rfl) rfl rfl) (show (-8) ≤ (v53 + 1) by omega) (show (v53 + 1) ≤ (8 * ((m.2 63) v23)) + ((m.2 53) ((m.2 63) v23)) by omega) (show 8 * ((m.2 63) v23) ≤ (v53 + 1) by omega) (show ((8 * ((m.2 63) v23)) + ((m.2 53) ((m.2 63) v23))) - (v53 + 1) < (n62 : Int) by omega)
                              refine Tm_lv (a := [(0, .ref 189), (1, .int (i32 v23)), (2, .int (i32 ((m.2 63) v23))), (3, .int (i32 (8 * ((m.2 63) v23))))]) rfl rfl ⟨rfl, rfl, rfl, rfl, trivial⟩ ?_
                              exact L167_55 ((((8 * ((m.2 63) v23)) + ((m.2 53) ((m.2 63) v23))) - (8 * ((m.2 63) v23)) : Int) + 1).toNat (8 * ((m.2 63) v23)) (mO m40 [] []) (r32 (by omega) (by omega)) Tm40 (fr_m fr_0 rfl rfl) (show (-8) ≤ (8 * ((m.2 63) v23)) by omega) (show (8 * ((m.2 63) v23)) ≤ (8 * ((m.2 63) v23)) + ((m.2 53) ((m.2 63) v23)) by omega) (show 8 * ((m.2 63) v23) ≤ (8 * ((m.2 63) v23)) by omega) (show ((8 * ((m.2 63) v23)) + ((m.2 53) ((m.2 63) v23))) - (8 * ((m.2 63) v23)) < ((((((8 * ((m.2 63) v23)) + ((m.2 53) ((m.2 63) v23))) - (8 * ((m.2 63) v23)) : Int) + 1).toNat : Nat) : Int) by omega)
                            · skip
                              have ht6 := (ht1 v39 (by omega) (by omega)).2
                              refine T_ld 140 (.ref 189) rfl (fun _ => rfl) ?_
                              refine T_ld 141 (.int (i32 v23)) rfl (fun _ => rfl) ?_
                              refine T_gf 145 (.ref 270) rfl rfl rfl rfl rfl rfl ?_
                              refine T_ld 146 (.int (i32 v39)) rfl (fun _ => rfl) ?_
                              refine T_iald 147 110 (m.2 110) rfl rfl rfl (by omega) (show v39 < (32 : Int) by omega) (show (m40.2 110) = (m.2 110) from ((fr2 Fm40 110 rfl).trans ((fr2 Fm24 110 rfl).trans ((fr2 Fm13 110 rfl).trans (fr2 Fm2 110 rfl))))) ?_
                              have e75 : 0 ≤ m.2 110 v39 ∧ m.2 110 v39 ≤ 800 := hT.2.1 110 v39
                              refine T_gf 151 (.ref 271) rfl rfl rfl rfl rfl rfl ?_
                              refine T_ld 152 (.int (i32 v39)) rfl (fun _ => rfl) ?_
                              refine T_iald 153 111 (m.2 111) rfl rfl rfl (by omega) (show v39 < (32 : Int) by omega) (show (m40.2 111) = (m.2 111) from ((fr2 Fm40 111 rfl).trans ((fr2 Fm24 111 rfl).trans ((fr2 Fm13 111 rfl).trans (fr2 Fm2 111 rfl))))) ?_
                              have e76 : 0 ≤ m.2 111 v39 ∧ m.2 111 v39 ≤ 800 := hT.2.1 111 v39
                              refine T_call 156 292 [.ref 189, .int (i32 v23), .int (i32 ((m.2 110) v39)), .int (i32 ((m.2 111) v39))] [] rfl (fun _ => rfl) rfl (c_readsCode w (mO m40 [] []) c N D (by omega) Tm40 v23 ((m.2 110) v39) ((m.2 111) v39) (r32 (by omega) (by omega)) (r32 (by omega) (by omega)) (r32 (by omega) (by omega)) (show 0 ≤ v23 ∧ v23 ≤ 47 by omega) (show 0 ≤ ((m.2 110) v39) ∧ ((m.2 110) v39) ≤ 800 by omega) (show 0 ≤ ((m.2 111) v39) ∧ ((m.2 111) v39) ≤ 800 by omega) (show ((m.2 111) v39) ≤ (m40.1 28) by rewrite [(show (m40.1 28) = (m.1 28) from ((fr1 Fm40 28 rfl).trans ((fr1 Fm24 28 rfl).trans ((fr1 Fm13 28 rfl).trans (fr1 Fm2 28 rfl)))))]; omega) (show CN (m40.2 65) (m40.2 67) (m40.1 28) by rewrite [(show (m40.2 65) = (m.2 65) from ((fr2 Fm40 65 rfl).trans ((fr2 Fm24 65 rfl).trans ((fr2 Fm13 65 rfl).trans (fr2 Fm2 65 rfl))))), (show (m40.2 67) = (m.2 67) from ((fr2 Fm40 67 rfl).trans ((fr2 Fm24 67 rfl).trans ((fr2 Fm13 67 rfl).trans (fr2 Fm2 67 rfl))))), (show (m40.1 28) = (m.1 28) from ((fr1 Fm40 28 rfl).trans ((fr1 Fm24 28 rfl).trans ((fr1 Fm13 28 rfl).trans (fr1 Fm2 28 rfl)))))]; exact hCN)) (fun rr77 k78 => ?_)
                              obtain ⟨m79, Tm79, Fm79, rfl⟩ := k78
                              refine ⟨_, _, rfl, ?_⟩
                              refine T_nb (st' := []) rfl ?_
                              refine T_iinc 159 [(3, .int (i32 (v39 + 1))), (0, .ref 189), (1, .int (i32 v23)), (2, .int (i32 ((m.2 63) v23)))] rfl rfl (by decide) rfl rfl ?_
                              refine T_goto 125 rfl (fun _ => rfl) ?_
                              refine Tm_lv (a := [(0, .ref 189), (1, .int (i32 v23)), (2, .int (i32 ((m.2 63) v23))), (3, .int (i32 (v39 + 1)))]) rfl rfl ⟨rfl, rfl, rfl, rfl, trivial⟩ ?_
                              exact ih50 (v39 + 1) (mO m79 [] []) (r32 (by omega) (by omega)) Tm79 (fr_m (fr_s Fm79 (fr_m (fr_s Fm40 (fr_m fr_0 rfl rfl) rfl rfl) rfl rfl) rfl rfl) rfl rfl) (show (-4) ≤ (v39 + 1) by omega) (show (v39 + 1) ≤ (4 * ((m.2 63) v23)) + ((m.2 51) ((m.2 63) v23)) by omega) (show 4 * ((m.2 63) v23) ≤ (v39 + 1) by omega) (show ((4 * ((m.2 63) v23)) + ((m.2 51) ((m.2 63) v23))) - (v39 + 1) < (n48 : Int) by omega)
                        refine Tm_lv (a := [(0, .ref 189), (1, .int (i32 v23)), (2, .int (i32 ((m.2 63) v23))), (3, .int (i32 (4 * ((m.2 63) v23))))]) rfl rfl ⟨rfl, rfl, rfl, rfl, trivial⟩ ?_
                        exact L125_41 ((((4 * ((m.2 63) v23)) + ((m.2 51) ((m.2 63) v23))) - (4 * ((m.2 63) v23)) : Int) + 1).toNat (4 * ((m.2 63) v23)) (mO m24 [] []) (r32 (by omega) (by omega)) Tm24 (fr_m fr_0 rfl rfl) (show (-4) ≤ (4 * ((m.2 63) v23)) by omega) (show (4 * ((m.2 63) v23)) ≤ (4 * ((m.2 63) v23)) + ((m.2 51) ((m.2 63) v23)) by omega) (show 4 * ((m.2 63) v23) ≤ (4 * ((m.2 63) v23)) by omega) (show ((4 * ((m.2 63) v23)) + ((m.2 51) ((m.2 63) v23))) - (4 * ((m.2 63) v23)) < ((((((4 * ((m.2 63) v23)) + ((m.2 51) ((m.2 63) v23))) - (4 * ((m.2 63) v23)) : Int) + 1).toNat : Nat) : Int) by omega)
                      · skip
                        have hs5 := (hs3 (by omega)).2
                        refine T_ld 95 (.ref 189) rfl (fun _ => rfl) ?_
                        refine T_ld 96 (.int (i32 v23)) rfl (fun _ => rfl) ?_
                        refine T_gf 100 (.ref 280) rfl rfl rfl rfl rfl rfl ?_
                        refine T_ld 101 (.int (i32 v23)) rfl (fun _ => rfl) ?_
                        refine T_iald 102 121 (m.2 121) rfl rfl rfl (by omega) (show v23 < (48 : Int) by omega) (show (m24.2 121) = (m.2 121) from ((fr2 Fm24 121 rfl).trans ((fr2 Fm13 121 rfl).trans (fr2 Fm2 121 rfl)))) ?_
                        have e80 : 0 ≤ m.2 121 v23 ∧ m.2 121 v23 ≤ 800 := hT.2.1 121 v23
                        refine T_gf 106 (.ref 281) rfl rfl rfl rfl rfl rfl ?_
                        refine T_ld 107 (.int (i32 v23)) rfl (fun _ => rfl) ?_
                        refine T_iald 108 122 (m.2 122) rfl rfl rfl (by omega) (show v23 < (48 : Int) by omega) (show (m24.2 122) = (m.2 122) from ((fr2 Fm24 122 rfl).trans ((fr2 Fm13 122 rfl).trans (fr2 Fm2 122 rfl)))) ?_
                        have e81 : 0 ≤ m.2 122 v23 ∧ m.2 122 v23 ≤ 800 := hT.2.1 122 v23
                        refine T_call 111 292 [.ref 189, .int (i32 v23), .int (i32 ((m.2 121) v23)), .int (i32 ((m.2 122) v23))] [] rfl (fun _ => rfl) rfl (c_readsCode w (mO m24 [] []) c N D (by omega) Tm24 v23 ((m.2 121) v23) ((m.2 122) v23) (r32 (by omega) (by omega)) (r32 (by omega) (by omega)) (r32 (by omega) (by omega)) (show 0 ≤ v23 ∧ v23 ≤ 47 by omega) (show 0 ≤ ((m.2 121) v23) ∧ ((m.2 121) v23) ≤ 800 by omega) (show 0 ≤ ((m.2 122) v23) ∧ ((m.2 122) v23) ≤ 800 by omega) (show ((m.2 122) v23) ≤ (m24.1 28) by rewrite [(show (m24.1 28) = (m.1 28) from ((fr1 Fm24 28 rfl).trans ((fr1 Fm13 28 rfl).trans (fr1 Fm2 28 rfl))))]; omega) (show CN (m24.2 65) (m24.2 67) (m24.1 28) by rewrite [(show (m24.2 65) = (m.2 65) from ((fr2 Fm24 65 rfl).trans ((fr2 Fm13 65 rfl).trans (fr2 Fm2 65 rfl)))), (show (m24.2 67) = (m.2 67) from ((fr2 Fm24 67 rfl).trans ((fr2 Fm13 67 rfl).trans (fr2 Fm2 67 rfl)))), (show (m24.1 28) = (m.1 28) from ((fr1 Fm24 28 rfl).trans ((fr1 Fm13 28 rfl).trans (fr1 Fm2 28 rfl))))]; exact hCN)) (fun rr82 k83 => ?_)
                        obtain ⟨m84, Tm84, Fm84, rfl⟩ := k83
                        refine ⟨_, _, rfl, ?_⟩
                        refine T_nb (st' := []) rfl ?_
                        refine T_goto 210 rfl (fun _ => rfl) ?_
                        refine T_iinc 213 [(1, .int (i32 (v23 + 1))), (0, .ref 189)] rfl rfl (by decide) rfl rfl ?_
                        refine T_goto 53 rfl (fun _ => rfl) ?_
                        refine Tm_lv (a := [(0, .ref 189), (1, .int (i32 (v23 + 1)))]) rfl rfl ⟨rfl, rfl, trivial⟩ ?_
                        exact ih32 (v23 + 1) (mO m84 [] []) (r32 (by omega) (by omega)) Tm84 (fr_m (fr_s Fm84 (fr_m (fr_s Fm24 (fr_m fr_0 rfl rfl) rfl rfl) rfl rfl) rfl rfl) rfl rfl) (show 0 ≤ (v23 + 1) by omega) (show (v23 + 1) ≤ (m.1 27) by omega) (show (m.1 27) - (v23 + 1) < (n31 : Int) by omega)
                    · skip
                      refine T_ld 71 (.ref 189) rfl (fun _ => rfl) ?_
                      refine T_ld 72 (.int (i32 v23)) rfl (fun _ => rfl) ?_
                      refine T_gf 76 (.ref 279) rfl rfl rfl rfl rfl rfl ?_
                      refine T_ld 77 (.int (i32 v23)) rfl (fun _ => rfl) ?_
                      refine T_iald 78 120 (m.2 120) rfl rfl rfl (by omega) (show v23 < (48 : Int) by omega) (show (m24.2 120) = (m.2 120) from ((fr2 Fm24 120 rfl).trans ((fr2 Fm13 120 rfl).trans (fr2 Fm2 120 rfl)))) ?_
                      have e85 : 0 ≤ m.2 120 v23 ∧ m.2 120 v23 ≤ 240 := hT.2.1 120 v23
                      refine T_call 81 291 [.ref 189, .int (i32 v23), .int (i32 ((m.2 120) v23))] [] rfl (fun _ => rfl) rfl (c_touches w (mO m24 [] []) c N D (by omega) Tm24 v23 ((m.2 120) v23) (r32 (by omega) (by omega)) (r32 (by omega) (by omega)) (show 0 ≤ v23 ∧ v23 ≤ 47 by omega) (show 0 ≤ ((m.2 120) v23) ∧ ((m.2 120) v23) ≤ 239 by omega) (show ((m.2 120) v23) < (m24.1 99) by rewrite [(show (m24.1 99) = (m.1 99) from ((fr1 Fm24 99 rfl).trans ((fr1 Fm13 99 rfl).trans (fr1 Fm2 99 rfl))))]; omega) (show CN (m24.2 65) (m24.2 67) (m24.1 28) by rewrite [(show (m24.2 65) = (m.2 65) from ((fr2 Fm24 65 rfl).trans ((fr2 Fm13 65 rfl).trans (fr2 Fm2 65 rfl)))), (show (m24.2 67) = (m.2 67) from ((fr2 Fm24 67 rfl).trans ((fr2 Fm13 67 rfl).trans (fr2 Fm2 67 rfl)))), (show (m24.1 28) = (m.1 28) from ((fr1 Fm24 28 rfl).trans ((fr1 Fm13 28 rfl).trans (fr1 Fm2 28 rfl))))]; exact hCN) (show TdP (m24.2 65) (m24.1 28) (m24.1 22) (m24.1 99) (m24.2 101) (m24.2 103) (m24.2 105) (m24.2 106) (m24.2 107) (m24.2 108) by rewrite [(show (m24.2 65) = (m.2 65) from ((fr2 Fm24 65 rfl).trans ((fr2 Fm13 65 rfl).trans (fr2 Fm2 65 rfl)))), (show (m24.1 28) = (m.1 28) from ((fr1 Fm24 28 rfl).trans ((fr1 Fm13 28 rfl).trans (fr1 Fm2 28 rfl)))), (show (m24.1 22) = (m.1 22) from ((fr1 Fm24 22 rfl).trans ((fr1 Fm13 22 rfl).trans (fr1 Fm2 22 rfl)))), (show (m24.1 99) = (m.1 99) from ((fr1 Fm24 99 rfl).trans ((fr1 Fm13 99 rfl).trans (fr1 Fm2 99 rfl)))), (show (m24.2 101) = (m.2 101) from ((fr2 Fm24 101 rfl).trans ((fr2 Fm13 101 rfl).trans (fr2 Fm2 101 rfl)))), (show (m24.2 103) = (m.2 103) from ((fr2 Fm24 103 rfl).trans ((fr2 Fm13 103 rfl).trans (fr2 Fm2 103 rfl)))), (show (m24.2 105) = (m.2 105) from ((fr2 Fm24 105 rfl).trans ((fr2 Fm13 105 rfl).trans (fr2 Fm2 105 rfl)))), (show (m24.2 106) = (m.2 106) from ((fr2 Fm24 106 rfl).trans ((fr2 Fm13 106 rfl).trans (fr2 Fm2 106 rfl)))), (show (m24.2 107) = (m.2 107) from ((fr2 Fm24 107 rfl).trans ((fr2 Fm13 107 rfl).trans (fr2 Fm2 107 rfl)))), (show (m24.2 108) = (m.2 108) from ((fr2 Fm24 108 rfl).trans ((fr2 Fm13 108 rfl).trans (fr2 Fm2 108 rfl))))]; exact pTd)) (fun rr86 k87 => ?_)
                      obtain ⟨m88, Tm88, Fm88, rfl⟩ := k87
                      refine ⟨_, _, rfl, ?_⟩
                      refine T_nb (st' := []) rfl ?_
                      refine T_goto 210 rfl (fun _ => rfl) ?_
                      refine T_iinc 213 [(1, .int (i32 (v23 + 1))), (0, .ref 189)] rfl rfl (by decide) rfl rfl ?_
                      refine T_goto 53 rfl (fun _ => rfl) ?_
                      refine Tm_lv (a := [(0, .ref 189), (1, .int (i32 (v23 + 1)))]) rfl rfl ⟨rfl, rfl, trivial⟩ ?_
                      exact ih32 (v23 + 1) (mO m88 [] []) (r32 (by omega) (by omega)) Tm88 (fr_m (fr_s Fm88 (fr_m (fr_s Fm24 (fr_m fr_0 rfl rfl) rfl rfl) rfl rfl) rfl rfl) rfl rfl) (show 0 ≤ (v23 + 1) by omega) (show (v23 + 1) ≤ (m.1 27) by omega) (show (m.1 27) - (v23 + 1) < (n31 : Int) by omega)
              refine Tm_lv (a := [(0, .ref 189), (1, .int (i32 0))]) rfl rfl ⟨rfl, rfl, trivial⟩ ?_
              exact L53_25 (((m.1 27) - (0 : Int) : Int) + 1).toNat 0 (mO m13 [] []) ⟨by decide, by decide⟩ Tm13 (fr_m fr_0 rfl rfl) (show 0 ≤ (0 : Int) by omega) (show (0 : Int) ≤ (m.1 27) by omega) (show (m.1 27) - (0 : Int) < (((((m.1 27) - (0 : Int) : Int) + 1).toNat : Nat) : Int) by omega)
            · skip
              refine T_gf 42 (.ref 291) rfl rfl rfl rfl rfl rfl ?_
              refine T_ld 43 (.int (i32 v12)) rfl (fun _ => rfl) ?_
              refine T_ld 44 (.int (i32 0)) rfl (fun _ => rfl) ?_
              have G89 : ∀ j, 0 ≤ (upI (m13.2 137) v12 0) j ∧ (upI (m13.2 137) v12 0) j ≤ 1 := upI_rg (Tm13.2.1 137) ⟨by omega, by omega⟩
              refine T_bast (a' := [(137, upI (m13.2 137) v12 0)]) 45 137 (m13.2 137) rfl rfl rfl (by omega) (show v12 < (384 : Int) by omega) (by omega) rfl rfl ?_
              refine T_iinc 48 [(1, .int (i32 (v12 + 1))), (0, .ref 189)] rfl rfl (by decide) rfl rfl ?_
              refine T_goto 31 rfl (fun _ => rfl) ?_
              refine Tm_lv (a := [(0, .ref 189), (1, .int (i32 (v12 + 1)))]) rfl rfl ⟨rfl, rfl, trivial⟩ ?_
              exact ih21 (v12 + 1) (mO m13 [] [(137, upI (m13.2 137) v12 0)]) (r32 (by omega) (by omega)) (Ty_mO Tm13 rfl rfl trivial ⟨G89, trivial⟩) (fr_m (fr_s Fm13 (fr_m fr_0 rfl rfl) rfl rfl) rfl rfl) (show 0 ≤ (v12 + 1) by omega) (show (v12 + 1) ≤ 384 by omega) (show 384 - (v12 + 1) < (n20 : Int) by omega)
        refine Tm_lv (a := [(0, .ref 189), (1, .int (i32 0))]) rfl rfl ⟨rfl, rfl, trivial⟩ ?_
        exact L31_14 ((384 - (0 : Int) : Int) + 1).toNat 0 (mO m2 [] []) ⟨by decide, by decide⟩ Tm2 (fr_m fr_0 rfl rfl) (show 0 ≤ (0 : Int) by omega) (show (0 : Int) ≤ 384 by omega) (show 384 - (0 : Int) < ((((384 - (0 : Int) : Int) + 1).toNat : Nat) : Int) by omega)
      · skip
        refine T_gf 13 (.ref 289) rfl rfl rfl rfl rfl rfl ?_
        refine T_ld 14 (.int (i32 v1)) rfl (fun _ => rfl) ?_
        refine T_ld 15 (.int (i32 0)) rfl (fun _ => rfl) ?_
        have G90 : ∀ j, 0 ≤ (upI (m2.2 135) v1 0) j ∧ (upI (m2.2 135) v1 0) j ≤ 1 := upI_rg (Tm2.2.1 135) ⟨by omega, by omega⟩
        refine T_bast (a' := [(135, upI (m2.2 135) v1 0)]) 16 135 (m2.2 135) rfl rfl rfl (by omega) (show v1 < (10608 : Int) by omega) (by omega) rfl rfl ?_
        refine T_gf 20 (.ref 290) rfl rfl rfl rfl rfl rfl ?_
        refine T_ld 21 (.int (i32 v1)) rfl (fun _ => rfl) ?_
        refine T_ld 22 (.int (i32 0)) rfl (fun _ => rfl) ?_
        have G91 : ∀ j, 0 ≤ (upI (m2.2 136) v1 0) j ∧ (upI (m2.2 136) v1 0) j ≤ 1 := upI_rg (Tm2.2.1 136) ⟨by omega, by omega⟩
        refine T_bast (a' := [(135, upI (m2.2 135) v1 0), (136, upI (m2.2 136) v1 0)]) 23 136 (m2.2 136) rfl rfl rfl (by omega) (show v1 < (10608 : Int) by omega) (by omega) rfl rfl ?_
        refine T_iinc 26 [(1, .int (i32 (v1 + 1))), (0, .ref 189)] rfl rfl (by decide) rfl rfl ?_
        refine T_goto 2 rfl (fun _ => rfl) ?_
        refine Tm_lv (a := [(0, .ref 189), (1, .int (i32 (v1 + 1)))]) rfl rfl ⟨rfl, rfl, trivial⟩ ?_
        exact ih10 (v1 + 1) (mO m2 [] [(135, upI (m2.2 135) v1 0), (136, upI (m2.2 136) v1 0)]) (r32 (by omega) (by omega)) (Ty_mO Tm2 rfl rfl trivial ⟨G90, G91, trivial⟩) (fr_m (fr_s Fm2 (fr_m fr_0 rfl rfl) rfl rfl) rfl rfl) (show 0 ≤ (v1 + 1) by omega) (show (v1 + 1) ≤ 10608 by omega) (show 10608 - (v1 + 1) < (n9 : Int) by omega)
  refine Tm_lv (a := [(0, .ref 189), (1, .int (i32 0))]) rfl rfl ⟨rfl, rfl, trivial⟩ ?_
  exact L2_3 ((10608 - (0 : Int) : Int) + 1).toNat 0 (mO m [] []) ⟨by decide, by decide⟩ hT (fr_m fr_0 rfl rfl) (show 0 ≤ (0 : Int) by omega) (show (0 : Int) ≤ 10608 by omega) (show 10608 - (0 : Int) < ((((10608 - (0 : Int) : Int) + 1).toNat : Nat) : Int) by omega)
def Q_givesTo (m : mR) (c : Nat → Option am_C) (N : Nat) (i : Int) (j : Int) : ag_Re af_T → Prop := fun R => ∃ (r : Int), (0 ≤ r ∧ r ≤ 1) ∧ R = (.inl (some (.int (i32 r))), (mhp m c, N), 0, 0)
set_option maxHeartbeats 3000000 in
theorem c_givesTo (w : wX) (m : mR) (c : Nat → Option am_C) (N D : Nat) (hD : 1 ≤ D) (hT : Ty m) (i : Int) (j : Int) (qi : R32 i) (qj : R32 j) (p0 : 0 ≤ i ∧ i ≤ 47) (p1 : 0 ≤ j ∧ j ≤ 47) : TC w D 296 [.ref 189, .int (i32 i), .int (i32 j)] (mhp m c, N) (Q_givesTo m c N i j) := by
  obtain ⟨D, rfl⟩ : ∃ k, D = k + 1 := ⟨D - 1, by omega⟩
  obtain ⟨qia, qib⟩ := id qi
  obtain ⟨qja, qjb⟩ := id qj
  refine Tc_of rfl ?_
  show TT w D pm_296 (0, [(0, .ref 189), (1, .int (i32 i)), (2, .int (i32 j))], [], (mhp (mO m [] []) c, N), 0, 0) (Q_givesTo m c N i j)
  refine T_ld 1 (.int (i32 0)) rfl (fun _ => rfl) ?_
  refine T_sto 2 [(3, .int (i32 0)), (0, .ref 189), (1, .int (i32 i)), (2, .int (i32 j))] rfl (fun _ => rfl) ?_
  refine T_ld 3 (.int (i32 0)) rfl (fun _ => rfl) ?_
  refine T_sto 5 [(4, .int (i32 0)), (3, .int (i32 0)), (0, .ref 189), (1, .int (i32 i)), (2, .int (i32 j))] rfl (fun _ => rfl) ?_
  have L5_3 : ∀ (n11 : Nat) (v1 : Int) (v2 : Int), (R32 v1) → (R32 v2) → (0 ≤ v1) → (v1 ≤ 1) → (0 ≤ v2) → (v2 ≤ 221) → 221 - v2 < (n11 : Int) → TT w D pm_296 (5, [(0, .ref 189), (1, .int (i32 i)), (2, .int (i32 j)), (3, .int (i32 v1)), (4, .int (i32 v2))], [], (mhp (mO m [] []) c, N), 0, 0) (Q_givesTo m c N i j) := by
    intro n11
    induction n11 with
    | zero =>
      intro v1 v2 q8 q9 ic4 ic5 ic6 ic7 hmu
      obtain ⟨q8a, q8b⟩ := id q8
      obtain ⟨q9a, q9b⟩ := id q9
      exfalso
      omega
    | succ n11 ih =>
      intro v1 v2 q8 q9 ic4 ic5 ic6 ic7 hmu
      obtain ⟨q8a, q8b⟩ := id q8
      obtain ⟨q9a, q9b⟩ := id q9
      have ih12 := ih
      refine T_ld 7 (.int (i32 v2)) rfl (fun _ => rfl) ?_
      refine T_ld 10 (.int (i32 221)) rfl (fun _ => rfl) ?_
      refine T_icmp 77 13 rfl rfl rfl (r32 (by omega) (by omega)) ⟨by decide, by decide⟩ (fun (h13 : (221 : Int) ≤ v2) => ?_) (fun (h13 : ¬ ((221 : Int) ≤ v2)) => ?_)
      · skip
        refine T_ld 78 (.int (i32 v1)) rfl (fun _ => rfl) ?_
        refine T_retb rfl rfl (by omega) ?_
        exact ⟨v1, ⟨by omega, by omega⟩, rfl⟩
      · skip
        refine T_ld 14 (.int (i32 v1)) rfl (fun _ => rfl) ?_
        refine T_if 65 17 rfl rfl rfl (r32 (by omega) (by omega)) (fun (h14 : v1 ≠ 0) => ?_) (fun (h14 : ¬ (v1 ≠ 0)) => ?_)
        · skip
          refine T_ld 66 (.int (i32 1)) rfl (fun _ => rfl) ?_
          refine T_goto 70 rfl (fun _ => rfl) ?_
          refine T_sto 71 [(3, .int (i32 1)), (0, .ref 189), (1, .int (i32 i)), (2, .int (i32 j)), (4, .int (i32 v2))] rfl (fun _ => rfl) ?_
          refine T_iinc 74 [(4, .int (i32 (v2 + 1))), (3, .int (i32 1)), (0, .ref 189), (1, .int (i32 i)), (2, .int (i32 j))] rfl rfl (by decide) rfl rfl ?_
          refine T_goto 5 rfl (fun _ => rfl) ?_
          refine Tm_lv (a := [(0, .ref 189), (1, .int (i32 i)), (2, .int (i32 j)), (3, .int (i32 1)), (4, .int (i32 (v2 + 1)))]) rfl rfl ⟨rfl, rfl, rfl, rfl, rfl, trivial⟩ ?_
          exact ih12 1 (v2 + 1) ⟨by decide, by decide⟩ (r32 (by omega) (by omega)) (show 0 ≤ (1 : Int) by omega) (show (1 : Int) ≤ 1 by omega) (show 0 ≤ (v2 + 1) by omega) (show (v2 + 1) ≤ 221 by omega) (show 221 - (v2 + 1) < (n11 : Int) by omega)
        · skip
          refine T_gf 21 (.ref 290) rfl rfl rfl rfl rfl rfl ?_
          refine T_ld 24 (.int (i32 221)) rfl (fun _ => rfl) ?_
          refine T_ld 25 (.int (i32 i)) rfl (fun _ => rfl) ?_
          refine T_imul 26 rfl rfl ?_
          refine T_ld 28 (.int (i32 v2)) rfl (fun _ => rfl) ?_
          refine T_iadd 29 rfl rfl ?_
          refine T_bald 30 136 (m.2 136) rfl rfl rfl (by omega) (show ((221 * i) + v2) < (10608 : Int) by omega) rfl ?_
          have e15 : 0 ≤ m.2 136 ((221 * i) + v2) ∧ m.2 136 ((221 * i) + v2) ≤ 1 := hT.2.1 136 ((221 * i) + v2)
          refine T_if 69 33 rfl rfl rfl (r32 (by omega) (by omega)) (fun (h16 : (m.2 136) ((221 * i) + v2) = 0) => ?_) (fun (h16 : ¬ ((m.2 136) ((221 * i) + v2) = 0)) => ?_)
          · skip
            refine T_ld 70 (.int (i32 0)) rfl (fun _ => rfl) ?_
            refine T_sto 71 [(3, .int (i32 0)), (0, .ref 189), (1, .int (i32 i)), (2, .int (i32 j)), (4, .int (i32 v2))] rfl (fun _ => rfl) ?_
            refine T_iinc 74 [(4, .int (i32 (v2 + 1))), (3, .int (i32 0)), (0, .ref 189), (1, .int (i32 i)), (2, .int (i32 j))] rfl rfl (by decide) rfl rfl ?_
            refine T_goto 5 rfl (fun _ => rfl) ?_
            refine Tm_lv (a := [(0, .ref 189), (1, .int (i32 i)), (2, .int (i32 j)), (3, .int (i32 0)), (4, .int (i32 (v2 + 1)))]) rfl rfl ⟨rfl, rfl, rfl, rfl, rfl, trivial⟩ ?_
            exact ih12 0 (v2 + 1) ⟨by decide, by decide⟩ (r32 (by omega) (by omega)) (show 0 ≤ (0 : Int) by omega) (show (0 : Int) ≤ 1 by omega) (show 0 ≤ (v2 + 1) by omega) (show (v2 + 1) ≤ 221 by omega) (show 221 - (v2 + 1) < (n11 : Int) by omega)
          · skip
            refine T_gf 37 (.ref 289) rfl rfl rfl rfl rfl rfl ?_
            refine T_ld 40 (.int (i32 221)) rfl (fun _ => rfl) ?_
            refine T_ld 41 (.int (i32 j)) rfl (fun _ => rfl) ?_
            refine T_imul 42 rfl rfl ?_
            refine T_ld 44 (.int (i32 v2)) rfl (fun _ => rfl) ?_
            refine T_iadd 45 rfl rfl ?_
            refine T_bald 46 135 (m.2 135) rfl rfl rfl (by omega) (show ((221 * j) + v2) < (10608 : Int) by omega) rfl ?_
            have e17 : 0 ≤ m.2 135 ((221 * j) + v2) ∧ m.2 135 ((221 * j) + v2) ≤ 1 := hT.2.1 135 ((221 * j) + v2)
            refine T_if 65 49 rfl rfl rfl (r32 (by omega) (by omega)) (fun (h18 : (m.2 135) ((221 * j) + v2) ≠ 0) => ?_) (fun (h18 : ¬ ((m.2 135) ((221 * j) + v2) ≠ 0)) => ?_)
            · skip
              refine T_ld 66 (.int (i32 1)) rfl (fun _ => rfl) ?_
              refine T_goto 70 rfl (fun _ => rfl) ?_
              refine T_sto 71 [(3, .int (i32 1)), (0, .ref 189), (1, .int (i32 i)), (2, .int (i32 j)), (4, .int (i32 v2))] rfl (fun _ => rfl) ?_
              refine T_iinc 74 [(4, .int (i32 (v2 + 1))), (3, .int (i32 1)), (0, .ref 189), (1, .int (i32 i)), (2, .int (i32 j))] rfl rfl (by decide) rfl rfl ?_
              refine T_goto 5 rfl (fun _ => rfl) ?_
              refine Tm_lv (a := [(0, .ref 189), (1, .int (i32 i)), (2, .int (i32 j)), (3, .int (i32 1)), (4, .int (i32 (v2 + 1)))]) rfl rfl ⟨rfl, rfl, rfl, rfl, rfl, trivial⟩ ?_
              exact ih12 1 (v2 + 1) ⟨by decide, by decide⟩ (r32 (by omega) (by omega)) (show 0 ≤ (1 : Int) by omega) (show (1 : Int) ≤ 1 by omega) (show 0 ≤ (v2 + 1) by omega) (show (v2 + 1) ≤ 221 by omega) (show 221 - (v2 + 1) < (n11 : Int) by omega)
            · skip
              refine T_gf 53 (.ref 290) rfl rfl rfl rfl rfl rfl ?_
              refine T_ld 56 (.int (i32 221)) rfl (fun _ => rfl) ?_
              refine T_ld 57 (.int (i32 j)) rfl (fun _ => rfl) ?_
              refine T_imul 58 rfl rfl ?_
              refine T_ld 60 (.int (i32 v2)) rfl (fun _ => rfl) ?_
              refine T_iadd 61 rfl rfl ?_
              refine T_bald 62 136 (m.2 136) rfl rfl rfl (by omega) (show ((221 * j) + v2) < (10608 : Int) by omega) rfl ?_
              have e19 : 0 ≤ m.2 136 ((221 * j) + v2) ∧ m.2 136 ((221 * j) + v2) ≤ 1 := hT.2.1 136 ((221 * j) + v2)
              refine T_if 69 65 rfl rfl rfl (r32 (by omega) (by omega)) (fun (h20 : (m.2 136) ((221 * j) + v2) = 0) => ?_) (fun (h20 : ¬ ((m.2 136) ((221 * j) + v2) = 0)) => ?_)
              · skip
                refine T_ld 70 (.int (i32 0)) rfl (fun _ => rfl) ?_
                refine T_sto 71 [(3, .int (i32 0)), (0, .ref 189), (1, .int (i32 i)), (2, .int (i32 j)), (4, .int (i32 v2))] rfl (fun _ => rfl) ?_
                refine T_iinc 74 [(4, .int (i32 (v2 + 1))), (3, .int (i32 0)), (0, .ref 189), (1, .int (i32 i)), (2, .int (i32 j))] rfl rfl (by decide) rfl rfl ?_
                refine T_goto 5 rfl (fun _ => rfl) ?_
                refine Tm_lv (a := [(0, .ref 189), (1, .int (i32 i)), (2, .int (i32 j)), (3, .int (i32 0)), (4, .int (i32 (v2 + 1)))]) rfl rfl ⟨rfl, rfl, rfl, rfl, rfl, trivial⟩ ?_
                exact ih12 0 (v2 + 1) ⟨by decide, by decide⟩ (r32 (by omega) (by omega)) (show 0 ≤ (0 : Int) by omega) (show (0 : Int) ≤ 1 by omega) (show 0 ≤ (v2 + 1) by omega) (show (v2 + 1) ≤ 221 by omega) (show 221 - (v2 + 1) < (n11 : Int) by omega)
              · skip
                refine T_ld 66 (.int (i32 1)) rfl (fun _ => rfl) ?_
                refine T_goto 70 rfl (fun _ => rfl) ?_
                refine T_sto 71 [(3, .int (i32 1)), (0, .ref 189), (1, .int (i32 i)), (2, .int (i32 j)), (4, .int (i32 v2))] rfl (fun _ => rfl) ?_
                refine T_iinc 74 [(4, .int (i32 (v2 + 1))), (3, .int (i32 1)), (0, .ref 189), (1, .int (i32 i)), (2, .int (i32 j))] rfl rfl (by decide) rfl rfl ?_
                refine T_goto 5 rfl (fun _ => rfl) ?_
                refine Tm_lv (a := [(0, .ref 189), (1, .int (i32 i)), (2, .int (i32 j)), (3, .int (i32 1)), (4, .int (i32 (v2 + 1)))]) rfl rfl ⟨rfl, rfl, rfl, rfl, rfl, trivial⟩ ?_
                exact ih12 1 (v2 + 1) ⟨by decide, by decide⟩ (r32 (by omega) (by omega)) (show 0 ≤ (1 : Int) by omega) (show (1 : Int) ≤ 1 by omega) (show 0 ≤ (v2 + 1) by omega) (show (v2 + 1) ≤ 221 by omega) (show 221 - (v2 + 1) < (n11 : Int) by omega)
  refine Tm_lv (a := [(0, .ref 189), (1, .int (i32 i)), (2, .int (i32 j)), (3, .int (i32 0)), (4, .int (i32 0))]) rfl rfl ⟨rfl, rfl, rfl, rfl, rfl, trivial⟩ ?_
  exact L5_3 ((221 - (0 : Int) : Int) + 1).toNat 0 0 ⟨by decide, by decide⟩ ⟨by decide, by decide⟩ (show 0 ≤ (0 : Int) by omega) (show (0 : Int) ≤ 1 by omega) (show 0 ≤ (0 : Int) by omega) (show (0 : Int) ≤ 221 by omega) (show 221 - (0 : Int) < ((((221 - (0 : Int) : Int) + 1).toNat : Nat) : Int) by omega)
def Q_readsAhead (m : mR) (c : Nat → Option am_C) (N : Nat) (i : Int) (j : Int) : ag_Re af_T → Prop := fun R => ∃ (r : Int), (0 ≤ r ∧ r ≤ 1) ∧ R = (.inl (some (.int (i32 r))), (mhp m c, N), 0, 0)
set_option maxHeartbeats 3000000 in
theorem c_readsAhead (w : wX) (m : mR) (c : Nat → Option am_C) (N D : Nat) (hD : 1 ≤ D) (hT : Ty m) (i : Int) (j : Int) (qi : R32 i) (qj : R32 j) (p0 : 0 ≤ i ∧ i ≤ 47) (p1 : 0 ≤ j ∧ j ≤ 47) : TC w D 298 [.ref 189, .int (i32 i), .int (i32 j)] (mhp m c, N) (Q_readsAhead m c N i j) := by
  obtain ⟨D, rfl⟩ : ∃ k, D = k + 1 := ⟨D - 1, by omega⟩
  obtain ⟨qia, qib⟩ := id qi
  obtain ⟨qja, qjb⟩ := id qj
  refine Tc_of rfl ?_
  show TT w D pm_298 (0, [(0, .ref 189), (1, .int (i32 i)), (2, .int (i32 j))], [], (mhp (mO m [] []) c, N), 0, 0) (Q_readsAhead m c N i j)
  refine T_ld 1 (.int (i32 0)) rfl (fun _ => rfl) ?_
  refine T_sto 2 [(3, .int (i32 0)), (0, .ref 189), (1, .int (i32 i)), (2, .int (i32 j))] rfl (fun _ => rfl) ?_
  refine T_ld 3 (.int (i32 0)) rfl (fun _ => rfl) ?_
  refine T_sto 5 [(4, .int (i32 0)), (3, .int (i32 0)), (0, .ref 189), (1, .int (i32 i)), (2, .int (i32 j))] rfl (fun _ => rfl) ?_
  have L5_3 : ∀ (n11 : Nat) (v1 : Int) (v2 : Int), (R32 v1) → (R32 v2) → (0 ≤ v1) → (v1 ≤ 1) → (0 ≤ v2) → (v2 ≤ 221) → 221 - v2 < (n11 : Int) → TT w D pm_298 (5, [(0, .ref 189), (1, .int (i32 i)), (2, .int (i32 j)), (3, .int (i32 v1)), (4, .int (i32 v2))], [], (mhp (mO m [] []) c, N), 0, 0) (Q_readsAhead m c N i j) := by
    intro n11
    induction n11 with
    | zero =>
      intro v1 v2 q8 q9 ic4 ic5 ic6 ic7 hmu
      obtain ⟨q8a, q8b⟩ := id q8
      obtain ⟨q9a, q9b⟩ := id q9
      exfalso
      omega
    | succ n11 ih =>
      intro v1 v2 q8 q9 ic4 ic5 ic6 ic7 hmu
      obtain ⟨q8a, q8b⟩ := id q8
      obtain ⟨q9a, q9b⟩ := id q9
      have ih12 := ih
      refine T_ld 7 (.int (i32 v2)) rfl (fun _ => rfl) ?_
      refine T_ld 10 (.int (i32 221)) rfl (fun _ => rfl) ?_
      refine T_icmp 61 13 rfl rfl rfl (r32 (by omega) (by omega)) ⟨by decide, by decide⟩ (fun (h13 : (221 : Int) ≤ v2) => ?_) (fun (h13 : ¬ ((221 : Int) ≤ v2)) => ?_)
      · skip
        refine T_ld 62 (.int (i32 v1)) rfl (fun _ => rfl) ?_
        refine T_retb rfl rfl (by omega) ?_
        exact ⟨v1, ⟨by omega, by omega⟩, rfl⟩
      · skip
        refine T_ld 14 (.int (i32 v1)) rfl (fun _ => rfl) ?_
        refine T_if 49 17 rfl rfl rfl (r32 (by omega) (by omega)) (fun (h14 : v1 ≠ 0) => ?_) (fun (h14 : ¬ (v1 ≠ 0)) => ?_)
        · skip
          refine T_ld 50 (.int (i32 1)) rfl (fun _ => rfl) ?_
          refine T_goto 54 rfl (fun _ => rfl) ?_
          refine T_sto 55 [(3, .int (i32 1)), (0, .ref 189), (1, .int (i32 i)), (2, .int (i32 j)), (4, .int (i32 v2))] rfl (fun _ => rfl) ?_
          refine T_iinc 58 [(4, .int (i32 (v2 + 1))), (3, .int (i32 1)), (0, .ref 189), (1, .int (i32 i)), (2, .int (i32 j))] rfl rfl (by decide) rfl rfl ?_
          refine T_goto 5 rfl (fun _ => rfl) ?_
          refine Tm_lv (a := [(0, .ref 189), (1, .int (i32 i)), (2, .int (i32 j)), (3, .int (i32 1)), (4, .int (i32 (v2 + 1)))]) rfl rfl ⟨rfl, rfl, rfl, rfl, rfl, trivial⟩ ?_
          exact ih12 1 (v2 + 1) ⟨by decide, by decide⟩ (r32 (by omega) (by omega)) (show 0 ≤ (1 : Int) by omega) (show (1 : Int) ≤ 1 by omega) (show 0 ≤ (v2 + 1) by omega) (show (v2 + 1) ≤ 221 by omega) (show 221 - (v2 + 1) < (n11 : Int) by omega)
        · skip
          refine T_gf 21 (.ref 289) rfl rfl rfl rfl rfl rfl ?_
          refine T_ld 24 (.int (i32 221)) rfl (fun _ => rfl) ?_
          refine T_ld 25 (.int (i32 i)) rfl (fun _ => rfl) ?_
          refine T_imul 26 rfl rfl ?_
          refine T_ld 28 (.int (i32 v2)) rfl (fun _ => rfl) ?_
          refine T_iadd 29 rfl rfl ?_
          refine T_bald 30 135 (m.2 135) rfl rfl rfl (by omega) (show ((221 * i) + v2) < (10608 : Int) by omega) rfl ?_
          have e15 : 0 ≤ m.2 135 ((221 * i) + v2) ∧ m.2 135 ((221 * i) + v2) ≤ 1 := hT.2.1 135 ((221 * i) + v2)
          refine T_if 53 33 rfl rfl rfl (r32 (by omega) (by omega)) (fun (h16 : (m.2 135) ((221 * i) + v2) = 0) => ?_) (fun (h16 : ¬ ((m.2 135) ((221 * i) + v2) = 0)) => ?_)
          · skip
            refine T_ld 54 (.int (i32 0)) rfl (fun _ => rfl) ?_
            refine T_sto 55 [(3, .int (i32 0)), (0, .ref 189), (1, .int (i32 i)), (2, .int (i32 j)), (4, .int (i32 v2))] rfl (fun _ => rfl) ?_
            refine T_iinc 58 [(4, .int (i32 (v2 + 1))), (3, .int (i32 0)), (0, .ref 189), (1, .int (i32 i)), (2, .int (i32 j))] rfl rfl (by decide) rfl rfl ?_
            refine T_goto 5 rfl (fun _ => rfl) ?_
            refine Tm_lv (a := [(0, .ref 189), (1, .int (i32 i)), (2, .int (i32 j)), (3, .int (i32 0)), (4, .int (i32 (v2 + 1)))]) rfl rfl ⟨rfl, rfl, rfl, rfl, rfl, trivial⟩ ?_
            exact ih12 0 (v2 + 1) ⟨by decide, by decide⟩ (r32 (by omega) (by omega)) (show 0 ≤ (0 : Int) by omega) (show (0 : Int) ≤ 1 by omega) (show 0 ≤ (v2 + 1) by omega) (show (v2 + 1) ≤ 221 by omega) (show 221 - (v2 + 1) < (n11 : Int) by omega)
          · skip
            refine T_gf 37 (.ref 290) rfl rfl rfl rfl rfl rfl ?_
            refine T_ld 40 (.int (i32 221)) rfl (fun _ => rfl) ?_
            refine T_ld 41 (.int (i32 j)) rfl (fun _ => rfl) ?_
            refine T_imul 42 rfl rfl ?_
            refine T_ld 44 (.int (i32 v2)) rfl (fun _ => rfl) ?_
            refine T_iadd 45 rfl rfl ?_
            refine T_bald 46 136 (m.2 136) rfl rfl rfl (by omega) (show ((221 * j) + v2) < (10608 : Int) by omega) rfl ?_
            have e17 : 0 ≤ m.2 136 ((221 * j) + v2) ∧ m.2 136 ((221 * j) + v2) ≤ 1 := hT.2.1 136 ((221 * j) + v2)
            refine T_if 53 49 rfl rfl rfl (r32 (by omega) (by omega)) (fun (h18 : (m.2 136) ((221 * j) + v2) = 0) => ?_) (fun (h18 : ¬ ((m.2 136) ((221 * j) + v2) = 0)) => ?_)
            · skip
              refine T_ld 54 (.int (i32 0)) rfl (fun _ => rfl) ?_
              refine T_sto 55 [(3, .int (i32 0)), (0, .ref 189), (1, .int (i32 i)), (2, .int (i32 j)), (4, .int (i32 v2))] rfl (fun _ => rfl) ?_
              refine T_iinc 58 [(4, .int (i32 (v2 + 1))), (3, .int (i32 0)), (0, .ref 189), (1, .int (i32 i)), (2, .int (i32 j))] rfl rfl (by decide) rfl rfl ?_
              refine T_goto 5 rfl (fun _ => rfl) ?_
              refine Tm_lv (a := [(0, .ref 189), (1, .int (i32 i)), (2, .int (i32 j)), (3, .int (i32 0)), (4, .int (i32 (v2 + 1)))]) rfl rfl ⟨rfl, rfl, rfl, rfl, rfl, trivial⟩ ?_
              exact ih12 0 (v2 + 1) ⟨by decide, by decide⟩ (r32 (by omega) (by omega)) (show 0 ≤ (0 : Int) by omega) (show (0 : Int) ≤ 1 by omega) (show 0 ≤ (v2 + 1) by omega) (show (v2 + 1) ≤ 221 by omega) (show 221 - (v2 + 1) < (n11 : Int) by omega)
            · skip
              refine T_ld 50 (.int (i32 1)) rfl (fun _ => rfl) ?_
              refine T_goto 54 rfl (fun _ => rfl) ?_
              refine T_sto 55 [(3, .int (i32 1)), (0, .ref 189), (1, .int (i32 i)), (2, .int (i32 j)), (4, .int (i32 v2))] rfl (fun _ => rfl) ?_
              refine T_iinc 58 [(4, .int (i32 (v2 + 1))), (3, .int (i32 1)), (0, .ref 189), (1, .int (i32 i)), (2, .int (i32 j))] rfl rfl (by decide) rfl rfl ?_
              refine T_goto 5 rfl (fun _ => rfl) ?_
              refine Tm_lv (a := [(0, .ref 189), (1, .int (i32 i)), (2, .int (i32 j)), (3, .int (i32 1)), (4, .int (i32 (v2 + 1)))]) rfl rfl ⟨rfl, rfl, rfl, rfl, rfl, trivial⟩ ?_
              exact ih12 1 (v2 + 1) ⟨by decide, by decide⟩ (r32 (by omega) (by omega)) (show 0 ≤ (1 : Int) by omega) (show (1 : Int) ≤ 1 by omega) (show 0 ≤ (v2 + 1) by omega) (show (v2 + 1) ≤ 221 by omega) (show 221 - (v2 + 1) < (n11 : Int) by omega)
  refine Tm_lv (a := [(0, .ref 189), (1, .int (i32 i)), (2, .int (i32 j)), (3, .int (i32 0)), (4, .int (i32 0))]) rfl rfl ⟨rfl, rfl, rfl, rfl, rfl, trivial⟩ ?_
  exact L5_3 ((221 - (0 : Int) : Int) + 1).toNat 0 0 ⟨by decide, by decide⟩ ⟨by decide, by decide⟩ (show 0 ≤ (0 : Int) by omega) (show (0 : Int) ≤ 1 by omega) (show 0 ≤ (0 : Int) by omega) (show (0 : Int) ≤ 221 by omega) (show 221 - (0 : Int) < ((((221 - (0 : Int) : Int) + 1).toNat : Nat) : Int) by omega)
def Q_sharesArray (m : mR) (c : Nat → Option am_C) (N : Nat) (i : Int) (j : Int) : ag_Re af_T → Prop := fun R => ∃ (r : Int), (0 ≤ r ∧ r ≤ 1) ∧ R = (.inl (some (.int (i32 r))), (mhp m c, N), 0, 0)
set_option maxHeartbeats 3000000 in
theorem c_sharesArray (w : wX) (m : mR) (c : Nat → Option am_C) (N D : Nat) (hD : 1 ≤ D) (hT : Ty m) (i : Int) (j : Int) (qi : R32 i) (qj : R32 j) (p0 : 0 ≤ i ∧ i ≤ 47) (p1 : 0 ≤ j ∧ j ≤ 47) : TC w D 299 [.ref 189, .int (i32 i), .int (i32 j)] (mhp m c, N) (Q_sharesArray m c N i j) := by
  obtain ⟨D, rfl⟩ : ∃ k, D = k + 1 := ⟨D - 1, by omega⟩
  obtain ⟨qia, qib⟩ := id qi
  obtain ⟨qja, qjb⟩ := id qj
  refine Tc_of rfl ?_
  show TT w D pm_299 (0, [(0, .ref 189), (1, .int (i32 i)), (2, .int (i32 j))], [], (mhp (mO m [] []) c, N), 0, 0) (Q_sharesArray m c N i j)
  refine T_ld 1 (.int (i32 0)) rfl (fun _ => rfl) ?_
  refine T_sto 2 [(3, .int (i32 0)), (0, .ref 189), (1, .int (i32 i)), (2, .int (i32 j))] rfl (fun _ => rfl) ?_
  refine T_ld 3 (.int (i32 0)) rfl (fun _ => rfl) ?_
  refine T_sto 5 [(4, .int (i32 0)), (3, .int (i32 0)), (0, .ref 189), (1, .int (i32 i)), (2, .int (i32 j))] rfl (fun _ => rfl) ?_
  have L5_3 : ∀ (n11 : Nat) (v1 : Int) (v2 : Int), (R32 v1) → (R32 v2) → (0 ≤ v1) → (v1 ≤ 1) → (0 ≤ v2) → (v2 ≤ 8) → 8 - v2 < (n11 : Int) → TT w D pm_299 (5, [(0, .ref 189), (1, .int (i32 i)), (2, .int (i32 j)), (3, .int (i32 v1)), (4, .int (i32 v2))], [], (mhp (mO m [] []) c, N), 0, 0) (Q_sharesArray m c N i j) := by
    intro n11
    induction n11 with
    | zero =>
      intro v1 v2 q8 q9 ic4 ic5 ic6 ic7 hmu
      obtain ⟨q8a, q8b⟩ := id q8
      obtain ⟨q9a, q9b⟩ := id q9
      exfalso
      omega
    | succ n11 ih =>
      intro v1 v2 q8 q9 ic4 ic5 ic6 ic7 hmu
      obtain ⟨q8a, q8b⟩ := id q8
      obtain ⟨q9a, q9b⟩ := id q9
      have ih12 := ih
      refine T_ld 7 (.int (i32 v2)) rfl (fun _ => rfl) ?_
      refine T_ld 9 (.int (i32 8)) rfl (fun _ => rfl) ?_
      refine T_icmp 58 12 rfl rfl rfl (r32 (by omega) (by omega)) ⟨by decide, by decide⟩ (fun (h13 : (8 : Int) ≤ v2) => ?_) (fun (h13 : ¬ ((8 : Int) ≤ v2)) => ?_)
      · skip
        refine T_ld 59 (.int (i32 v1)) rfl (fun _ => rfl) ?_
        refine T_retb rfl rfl (by omega) ?_
        exact ⟨v1, ⟨by omega, by omega⟩, rfl⟩
      · skip
        refine T_ld 13 (.int (i32 v1)) rfl (fun _ => rfl) ?_
        refine T_if 46 16 rfl rfl rfl (r32 (by omega) (by omega)) (fun (h14 : v1 ≠ 0) => ?_) (fun (h14 : ¬ (v1 ≠ 0)) => ?_)
        · skip
          refine T_ld 47 (.int (i32 1)) rfl (fun _ => rfl) ?_
          refine T_goto 51 rfl (fun _ => rfl) ?_
          refine T_sto 52 [(3, .int (i32 1)), (0, .ref 189), (1, .int (i32 i)), (2, .int (i32 j)), (4, .int (i32 v2))] rfl (fun _ => rfl) ?_
          refine T_iinc 55 [(4, .int (i32 (v2 + 1))), (3, .int (i32 1)), (0, .ref 189), (1, .int (i32 i)), (2, .int (i32 j))] rfl rfl (by decide) rfl rfl ?_
          refine T_goto 5 rfl (fun _ => rfl) ?_
          refine Tm_lv (a := [(0, .ref 189), (1, .int (i32 i)), (2, .int (i32 j)), (3, .int (i32 1)), (4, .int (i32 (v2 + 1)))]) rfl rfl ⟨rfl, rfl, rfl, rfl, rfl, trivial⟩ ?_
          exact ih12 1 (v2 + 1) ⟨by decide, by decide⟩ (r32 (by omega) (by omega)) (show 0 ≤ (1 : Int) by omega) (show (1 : Int) ≤ 1 by omega) (show 0 ≤ (v2 + 1) by omega) (show (v2 + 1) ≤ 8 by omega) (show 8 - (v2 + 1) < (n11 : Int) by omega)
        · skip
          refine T_gf 20 (.ref 291) rfl rfl rfl rfl rfl rfl ?_
          refine T_ld 22 (.int (i32 8)) rfl (fun _ => rfl) ?_
          refine T_ld 23 (.int (i32 i)) rfl (fun _ => rfl) ?_
          refine T_imul 24 rfl rfl ?_
          refine T_ld 26 (.int (i32 v2)) rfl (fun _ => rfl) ?_
          refine T_iadd 27 rfl rfl ?_
          refine T_bald 28 137 (m.2 137) rfl rfl rfl (by omega) (show ((8 * i) + v2) < (384 : Int) by omega) rfl ?_
          have e15 : 0 ≤ m.2 137 ((8 * i) + v2) ∧ m.2 137 ((8 * i) + v2) ≤ 1 := hT.2.1 137 ((8 * i) + v2)
          refine T_if 50 31 rfl rfl rfl (r32 (by omega) (by omega)) (fun (h16 : (m.2 137) ((8 * i) + v2) = 0) => ?_) (fun (h16 : ¬ ((m.2 137) ((8 * i) + v2) = 0)) => ?_)
          · skip
            refine T_ld 51 (.int (i32 0)) rfl (fun _ => rfl) ?_
            refine T_sto 52 [(3, .int (i32 0)), (0, .ref 189), (1, .int (i32 i)), (2, .int (i32 j)), (4, .int (i32 v2))] rfl (fun _ => rfl) ?_
            refine T_iinc 55 [(4, .int (i32 (v2 + 1))), (3, .int (i32 0)), (0, .ref 189), (1, .int (i32 i)), (2, .int (i32 j))] rfl rfl (by decide) rfl rfl ?_
            refine T_goto 5 rfl (fun _ => rfl) ?_
            refine Tm_lv (a := [(0, .ref 189), (1, .int (i32 i)), (2, .int (i32 j)), (3, .int (i32 0)), (4, .int (i32 (v2 + 1)))]) rfl rfl ⟨rfl, rfl, rfl, rfl, rfl, trivial⟩ ?_
            exact ih12 0 (v2 + 1) ⟨by decide, by decide⟩ (r32 (by omega) (by omega)) (show 0 ≤ (0 : Int) by omega) (show (0 : Int) ≤ 1 by omega) (show 0 ≤ (v2 + 1) by omega) (show (v2 + 1) ≤ 8 by omega) (show 8 - (v2 + 1) < (n11 : Int) by omega)
          · skip
            refine T_gf 35 (.ref 291) rfl rfl rfl rfl rfl rfl ?_
            refine T_ld 37 (.int (i32 8)) rfl (fun _ => rfl) ?_
            refine T_ld 38 (.int (i32 j)) rfl (fun _ => rfl) ?_
            refine T_imul 39 rfl rfl ?_
            refine T_ld 41 (.int (i32 v2)) rfl (fun _ => rfl) ?_
            refine T_iadd 42 rfl rfl ?_
            refine T_bald 43 137 (m.2 137) rfl rfl rfl (by omega) (show ((8 * j) + v2) < (384 : Int) by omega) rfl ?_
            have e17 : 0 ≤ m.2 137 ((8 * j) + v2) ∧ m.2 137 ((8 * j) + v2) ≤ 1 := hT.2.1 137 ((8 * j) + v2)
            refine T_if 50 46 rfl rfl rfl (r32 (by omega) (by omega)) (fun (h18 : (m.2 137) ((8 * j) + v2) = 0) => ?_) (fun (h18 : ¬ ((m.2 137) ((8 * j) + v2) = 0)) => ?_)
            · skip
              refine T_ld 51 (.int (i32 0)) rfl (fun _ => rfl) ?_
              refine T_sto 52 [(3, .int (i32 0)), (0, .ref 189), (1, .int (i32 i)), (2, .int (i32 j)), (4, .int (i32 v2))] rfl (fun _ => rfl) ?_
              refine T_iinc 55 [(4, .int (i32 (v2 + 1))), (3, .int (i32 0)), (0, .ref 189), (1, .int (i32 i)), (2, .int (i32 j))] rfl rfl (by decide) rfl rfl ?_
              refine T_goto 5 rfl (fun _ => rfl) ?_
              refine Tm_lv (a := [(0, .ref 189), (1, .int (i32 i)), (2, .int (i32 j)), (3, .int (i32 0)), (4, .int (i32 (v2 + 1)))]) rfl rfl ⟨rfl, rfl, rfl, rfl, rfl, trivial⟩ ?_
              exact ih12 0 (v2 + 1) ⟨by decide, by decide⟩ (r32 (by omega) (by omega)) (show 0 ≤ (0 : Int) by omega) (show (0 : Int) ≤ 1 by omega) (show 0 ≤ (v2 + 1) by omega) (show (v2 + 1) ≤ 8 by omega) (show 8 - (v2 + 1) < (n11 : Int) by omega)
            · skip
              refine T_ld 47 (.int (i32 1)) rfl (fun _ => rfl) ?_
              refine T_goto 51 rfl (fun _ => rfl) ?_
              refine T_sto 52 [(3, .int (i32 1)), (0, .ref 189), (1, .int (i32 i)), (2, .int (i32 j)), (4, .int (i32 v2))] rfl (fun _ => rfl) ?_
              refine T_iinc 55 [(4, .int (i32 (v2 + 1))), (3, .int (i32 1)), (0, .ref 189), (1, .int (i32 i)), (2, .int (i32 j))] rfl rfl (by decide) rfl rfl ?_
              refine T_goto 5 rfl (fun _ => rfl) ?_
              refine Tm_lv (a := [(0, .ref 189), (1, .int (i32 i)), (2, .int (i32 j)), (3, .int (i32 1)), (4, .int (i32 (v2 + 1)))]) rfl rfl ⟨rfl, rfl, rfl, rfl, rfl, trivial⟩ ?_
              exact ih12 1 (v2 + 1) ⟨by decide, by decide⟩ (r32 (by omega) (by omega)) (show 0 ≤ (1 : Int) by omega) (show (1 : Int) ≤ 1 by omega) (show 0 ≤ (v2 + 1) by omega) (show (v2 + 1) ≤ 8 by omega) (show 8 - (v2 + 1) < (n11 : Int) by omega)
  refine Tm_lv (a := [(0, .ref 189), (1, .int (i32 i)), (2, .int (i32 j)), (3, .int (i32 0)), (4, .int (i32 0))]) rfl rfl ⟨rfl, rfl, rfl, rfl, rfl, trivial⟩ ?_
  exact L5_3 ((8 - (0 : Int) : Int) + 1).toNat 0 0 ⟨by decide, by decide⟩ ⟨by decide, by decide⟩ (show 0 ≤ (0 : Int) by omega) (show (0 : Int) ≤ 1 by omega) (show 0 ≤ (0 : Int) by omega) (show (0 : Int) ≤ 8 by omega) (show 8 - (0 : Int) < ((((8 - (0 : Int) : Int) + 1).toNat : Nat) : Int) by omega)
def Q_isWithin (m : mR) (c : Nat → Option am_C) (N : Nat) (j : Int) (i : Int) : ag_Re af_T → Prop := fun R => ∃ (r : Int), (0 ≤ r ∧ r ≤ 1) ∧ R = (.inl (some (.int (i32 r))), (mhp m c, N), 0, 0)
set_option maxHeartbeats 3000000 in
theorem c_isWithin (w : wX) (m : mR) (c : Nat → Option am_C) (N D : Nat) (hD : 1 ≤ D) (hT : Ty m) (j : Int) (i : Int) (qj : R32 j) (qi : R32 i) (p0 : 0 ≤ j ∧ j ≤ 47) (p1 : j < (m.1 27)) (pSp : SpP (m.2 65) (m.1 28) (m.1 99) (m.1 26) (m.1 27) (m.2 60) (m.2 61) (m.2 120) (m.2 121) (m.2 122) (m.2 63)) : TC w D 297 [.ref 189, .int (i32 j), .int (i32 i)] (mhp m c, N) (Q_isWithin m c N j i) := by
  obtain ⟨D, rfl⟩ : ∃ k, D = k + 1 := ⟨D - 1, by omega⟩
  obtain ⟨qja, qjb⟩ := id qj
  obtain ⟨qia, qib⟩ := id qi
  have f28 : 0 ≤ m.1 28 ∧ m.1 28 ≤ 800 := hT.1 28
  have f27 : 0 ≤ m.1 27 ∧ m.1 27 ≤ 48 := hT.1 27
  have f26 : 0 ≤ m.1 26 ∧ m.1 26 ≤ 8 := hT.1 26
  have f99 : 0 ≤ m.1 99 ∧ m.1 99 ≤ 240 := hT.1 99
  refine Tc_of rfl ?_
  show TT w D pm_297 (0, [(0, .ref 189), (1, .int (i32 j)), (2, .int (i32 i))], [], (mhp (mO m [] []) c, N), 0, 0) (Q_isWithin m c N j i)
  refine T_gf 4 (.ref 231) rfl rfl rfl rfl rfl rfl ?_
  refine T_ld 5 (.int (i32 j)) rfl (fun _ => rfl) ?_
  have hj := (pSp j (by omega) (by omega)).1
  refine T_iald 6 61 (m.2 61) rfl rfl rfl (by omega) (show j < (48 : Int) by omega) rfl ?_
  have e1 : (-1) ≤ m.2 61 j ∧ m.2 61 j ≤ 47 := hT.2.1 61 j
  refine T_sto 7 [(3, .int (i32 ((m.2 61) j))), (0, .ref 189), (1, .int (i32 j)), (2, .int (i32 i))] rfl (fun _ => rfl) ?_
  have L7_3 : ∀ (n9 : Nat) (v2 : Int), (R32 v2) → ((-1) ≤ v2) → (v2 ≤ 47) → ((-1) ≤ v2 ∧ v2 < (m.1 27)) → v2 + 1 < (n9 : Int) → TT w D pm_297 (7, [(0, .ref 189), (1, .int (i32 j)), (2, .int (i32 i)), (3, .int (i32 v2))], [], (mhp (mO m [] []) c, N), 0, 0) (Q_isWithin m c N j i) := by
    intro n9
    induction n9 with
    | zero =>
      intro v2 q7 ic4 ic5 ic6 hmu
      obtain ⟨q7a, q7b⟩ := id q7
      exfalso
      omega
    | succ n9 ih =>
      intro v2 q7 ic4 ic5 ic6 hmu
      obtain ⟨q7a, q7b⟩ := id q7
      have ih10 := ih
      refine T_ld 8 (.int (i32 v2)) rfl (fun _ => rfl) ?_
      refine T_if 26 11 rfl rfl rfl (r32 (by omega) (by omega)) (fun (h11 : v2 < 0) => ?_) (fun (h11 : ¬ (v2 < 0)) => ?_)
      · skip
        refine T_ld 27 (.int (i32 v2)) rfl (fun _ => rfl) ?_
        refine T_ld 28 (.int (i32 i)) rfl (fun _ => rfl) ?_
        refine T_icmp 35 31 rfl rfl rfl (r32 (by omega) (by omega)) (r32 (by omega) (by omega)) (fun (h12 : v2 ≠ i) => ?_) (fun (h12 : ¬ (v2 ≠ i)) => ?_)
        · skip
          refine T_ld 36 (.int (i32 0)) rfl (fun _ => rfl) ?_
          refine T_ret rfl (fun _ => rfl) ?_
          exact ⟨0, ⟨by omega, by omega⟩, rfl⟩
        · skip
          refine T_ld 32 (.int (i32 1)) rfl (fun _ => rfl) ?_
          refine T_goto 36 rfl (fun _ => rfl) ?_
          refine T_ret rfl (fun _ => rfl) ?_
          exact ⟨1, ⟨by omega, by omega⟩, rfl⟩
      · skip
        refine T_ld 12 (.int (i32 v2)) rfl (fun _ => rfl) ?_
        refine T_ld 13 (.int (i32 i)) rfl (fun _ => rfl) ?_
        refine T_icmp 26 16 rfl rfl rfl (r32 (by omega) (by omega)) (r32 (by omega) (by omega)) (fun (h13 : v2 = i) => ?_) (fun (h13 : ¬ (v2 = i)) => ?_)
        · skip
          refine T_ld 27 (.int (i32 v2)) rfl (fun _ => rfl) ?_
          refine T_ld 28 (.int (i32 i)) rfl (fun _ => rfl) ?_
          refine T_icmp 35 31 rfl rfl rfl (r32 (by omega) (by omega)) (r32 (by omega) (by omega)) (fun (h14 : v2 ≠ i) => ?_) (fun (h14 : ¬ (v2 ≠ i)) => ?_)
          · skip
            refine T_ld 36 (.int (i32 0)) rfl (fun _ => rfl) ?_
            refine T_ret rfl (fun _ => rfl) ?_
            exact ⟨0, ⟨by omega, by omega⟩, rfl⟩
          · skip
            refine T_ld 32 (.int (i32 1)) rfl (fun _ => rfl) ?_
            refine T_goto 36 rfl (fun _ => rfl) ?_
            refine T_ret rfl (fun _ => rfl) ?_
            exact ⟨1, ⟨by omega, by omega⟩, rfl⟩
        · skip
          have hk := (pSp v2 (by omega) (by omega)).1
          refine T_gf 20 (.ref 231) rfl rfl rfl rfl rfl rfl ?_
          refine T_ld 21 (.int (i32 v2)) rfl (fun _ => rfl) ?_
          refine T_iald 22 61 (m.2 61) rfl rfl rfl (by omega) (show v2 < (48 : Int) by omega) rfl ?_
          have e15 : (-1) ≤ m.2 61 v2 ∧ m.2 61 v2 ≤ 47 := hT.2.1 61 v2
          refine T_sto 23 [(3, .int (i32 ((m.2 61) v2))), (0, .ref 189), (1, .int (i32 j)), (2, .int (i32 i))] rfl (fun _ => rfl) ?_
          refine T_goto 7 rfl (fun _ => rfl) ?_
          refine Tm_lv (a := [(0, .ref 189), (1, .int (i32 j)), (2, .int (i32 i)), (3, .int (i32 ((m.2 61) v2)))]) rfl rfl ⟨rfl, rfl, rfl, rfl, trivial⟩ ?_
          exact ih10 ((m.2 61) v2) (r32 (by omega) (by omega)) (show (-1) ≤ ((m.2 61) v2) by omega) (show ((m.2 61) v2) ≤ 47 by omega) (show (-1) ≤ ((m.2 61) v2) ∧ ((m.2 61) v2) < (m.1 27) by omega) (show ((m.2 61) v2) + 1 < (n9 : Int) by omega)
  refine Tm_lv (a := [(0, .ref 189), (1, .int (i32 j)), (2, .int (i32 i)), (3, .int (i32 ((m.2 61) j)))]) rfl rfl ⟨rfl, rfl, rfl, rfl, trivial⟩ ?_
  exact L7_3 ((((m.2 61) j) + 1 : Int) + 1).toNat ((m.2 61) j) (r32 (by omega) (by omega)) (show (-1) ≤ ((m.2 61) j) by omega) (show ((m.2 61) j) ≤ 47 by omega) (show (-1) ≤ ((m.2 61) j) ∧ ((m.2 61) j) < (m.1 27) by omega) (show ((m.2 61) j) + 1 < ((((((m.2 61) j) + 1 : Int) + 1).toNat : Nat) : Int) by omega)
def Q_bitsOfParameters (m : mR) (c : Nat → Option am_C) (N : Nat) (n : Int) (a : Int) : ag_Re af_T → Prop := fun R => ∃ (r : Int), (0 ≤ r ∧ r ≤ 256) ∧ R = (.inl (some (.int (i32 r))), (mhp m c, N), 0, 0)
set_option maxHeartbeats 3000000 in
theorem c_bitsOfParameters (w : wX) (m : mR) (c : Nat → Option am_C) (N D : Nat) (hD : 1 ≤ D) (hT : Ty m) (n : Int) (a : Int) (qn : R32 n) (qa : R32 a) (p0 : 0 ≤ n ∧ n ≤ 4) (p1 : 0 ≤ a ∧ a ≤ 15) : TC w D 301 [.ref 219, .int (i32 n), .int (i32 a)] (mhp m c, N) (Q_bitsOfParameters m c N n a) := by
  obtain ⟨D, rfl⟩ : ∃ k, D = k + 1 := ⟨D - 1, by omega⟩
  obtain ⟨qna, qnb⟩ := id qn
  obtain ⟨qaa, qab⟩ := id qa
  refine Tc_of rfl ?_
  show TT w D pm_301 (0, [(0, .ref 219), (1, .int (i32 n)), (2, .int (i32 a))], [], (mhp (mO m [] []) c, N), 0, 0) (Q_bitsOfParameters m c N n a)
  refine T_ld 1 (.int (i32 0)) rfl (fun _ => rfl) ?_
  refine T_sto 2 [(3, .int (i32 0)), (0, .ref 219), (1, .int (i32 n)), (2, .int (i32 a))] rfl (fun _ => rfl) ?_
  refine T_ld 3 (.int (i32 4)) rfl (fun _ => rfl) ?_
  refine T_ld 4 (.int (i32 a)) rfl (fun _ => rfl) ?_
  refine T_imul 5 rfl rfl ?_
  refine T_sto 7 [(4, .int (i32 (4 * a))), (3, .int (i32 0)), (0, .ref 219), (1, .int (i32 n)), (2, .int (i32 a))] rfl (fun _ => rfl) ?_
  have L7_3 : ∀ (n12 : Nat) (v1 : Int) (v2 : Int), (R32 v1) → (R32 v2) → (0 ≤ v1) → (0 ≤ v2) → (v2 ≤ (4 * a) + n) → (4 * a ≤ v2 ∧ v2 ≤ 4 * a + 4) → (0 ≤ v1 ∧ v1 ≤ 64 * (v2 - 4 * a)) → ((4 * a) + n) - v2 < (n12 : Int) → TT w D pm_301 (7, [(0, .ref 219), (1, .int (i32 n)), (2, .int (i32 a)), (3, .int (i32 v1)), (4, .int (i32 v2))], [], (mhp (mO m [] []) c, N), 0, 0) (Q_bitsOfParameters m c N n a) := by
    intro n12
    induction n12 with
    | zero =>
      intro v1 v2 q9 q10 ic4 ic5 ic6 ic7 ic8 hmu
      obtain ⟨q9a, q9b⟩ := id q9
      obtain ⟨q10a, q10b⟩ := id q10
      exfalso
      omega
    | succ n12 ih =>
      intro v1 v2 q9 q10 ic4 ic5 ic6 ic7 ic8 hmu
      obtain ⟨q9a, q9b⟩ := id q9
      obtain ⟨q10a, q10b⟩ := id q10
      have ih13 := ih
      refine T_ld 9 (.int (i32 v2)) rfl (fun _ => rfl) ?_
      refine T_ld 10 (.int (i32 4)) rfl (fun _ => rfl) ?_
      refine T_ld 11 (.int (i32 a)) rfl (fun _ => rfl) ?_
      refine T_imul 12 rfl rfl ?_
      refine T_ld 13 (.int (i32 n)) rfl (fun _ => rfl) ?_
      refine T_iadd 14 rfl rfl ?_
      refine T_icmp 30 17 rfl rfl rfl (r32 (by omega) (by omega)) (r32 (by omega) (by omega)) (fun (h14 : (4 * a) + n ≤ v2) => ?_) (fun (h14 : ¬ ((4 * a) + n ≤ v2)) => ?_)
      · skip
        refine T_ld 31 (.int (i32 v1)) rfl (fun _ => rfl) ?_
        refine T_ret rfl (fun _ => rfl) ?_
        exact ⟨v1, ⟨by omega, by omega⟩, rfl⟩
      · skip
        refine T_ld 18 (.int (i32 v1)) rfl (fun _ => rfl) ?_
        refine T_ld 19 (.ref 219) rfl (fun _ => rfl) ?_
        refine T_ld 21 (.int (i32 v2)) rfl (fun _ => rfl) ?_
        refine T_iald 22 49 (m.2 49) rfl rfl rfl (by omega) (show v2 < (64 : Int) by omega) rfl ?_
        have e15 : 0 ≤ m.2 49 v2 ∧ m.2 49 v2 ≤ 64 := hT.2.1 49 v2
        refine T_iadd 23 rfl rfl ?_
        refine T_sto 24 [(3, .int (i32 (v1 + ((m.2 49) v2)))), (0, .ref 219), (1, .int (i32 n)), (2, .int (i32 a)), (4, .int (i32 v2))] rfl (fun _ => rfl) ?_
        refine T_iinc 27 [(4, .int (i32 (v2 + 1))), (3, .int (i32 (v1 + ((m.2 49) v2)))), (0, .ref 219), (1, .int (i32 n)), (2, .int (i32 a))] rfl rfl (by decide) rfl rfl ?_
        refine T_goto 7 rfl (fun _ => rfl) ?_
        refine Tm_lv (a := [(0, .ref 219), (1, .int (i32 n)), (2, .int (i32 a)), (3, .int (i32 (v1 + ((m.2 49) v2)))), (4, .int (i32 (v2 + 1)))]) rfl rfl ⟨rfl, rfl, rfl, rfl, rfl, trivial⟩ ?_
        exact ih13 (v1 + ((m.2 49) v2)) (v2 + 1) (r32 (by omega) (by omega)) (r32 (by omega) (by omega)) (show 0 ≤ (v1 + ((m.2 49) v2)) by omega) (show 0 ≤ (v2 + 1) by omega) (show (v2 + 1) ≤ (4 * a) + n by omega) (show 4 * a ≤ (v2 + 1) ∧ (v2 + 1) ≤ 4 * a + 4 by omega) (show 0 ≤ (v1 + ((m.2 49) v2)) ∧ (v1 + ((m.2 49) v2)) ≤ 64 * ((v2 + 1) - 4 * a) by omega) (show ((4 * a) + n) - (v2 + 1) < (n12 : Int) by omega)
  refine Tm_lv (a := [(0, .ref 219), (1, .int (i32 n)), (2, .int (i32 a)), (3, .int (i32 0)), (4, .int (i32 (4 * a)))]) rfl rfl ⟨rfl, rfl, rfl, rfl, rfl, trivial⟩ ?_
  exact L7_3 ((((4 * a) + n) - (4 * a) : Int) + 1).toNat 0 (4 * a) ⟨by decide, by decide⟩ (r32 (by omega) (by omega)) (show 0 ≤ (0 : Int) by omega) (show 0 ≤ (4 * a) by omega) (show (4 * a) ≤ (4 * a) + n by omega) (show 4 * a ≤ (4 * a) ∧ (4 * a) ≤ 4 * a + 4 by omega) (show 0 ≤ (0 : Int) ∧ (0 : Int) ≤ 64 * ((4 * a) - 4 * a) by omega) (show ((4 * a) + n) - (4 * a) < ((((((4 * a) + n) - (4 * a) : Int) + 1).toNat : Nat) : Int) by omega)
def Q_memoryOf (m : mR) (c : Nat → Option am_C) (N : Nat) (s : Int) : ag_Re af_T → Prop := fun R => ∃ (r : Int), (0 ≤ r ∧ r ≤ 1200000) ∧ R = (.inl (some (.long (i64 r))), (mhp m c, N), 0, 0)
set_option maxHeartbeats 3000000 in
theorem c_memoryOf (w : wX) (m : mR) (c : Nat → Option am_C) (N D : Nat) (hD : 2 ≤ D) (hT : Ty m) (s : Int) (qs : R32 s) (p0 : 0 ≤ s ∧ s ≤ 47) (p1 : s < (m.1 27)) (pSp : SpP (m.2 65) (m.1 28) (m.1 99) (m.1 26) (m.1 27) (m.2 60) (m.2 61) (m.2 120) (m.2 121) (m.2 122) (m.2 63)) (pTb : TbP (m.2 65) (m.1 28) (m.1 25) (m.1 26) (m.2 51) (m.2 110) (m.2 111) (m.2 57) (m.2 53) (m.2 114) (m.2 58) (m.2 54)) : TC w D 300 [.ref 189, .int (i32 s)] (mhp m c, N) (Q_memoryOf m c N s) := by
  obtain ⟨D, rfl⟩ : ∃ k, D = k + 1 := ⟨D - 1, by omega⟩
  obtain ⟨qsa, qsb⟩ := id qs
  have f25 : 0 ≤ m.1 25 ∧ m.1 25 ≤ 16 := hT.1 25
  have f28 : 0 ≤ m.1 28 ∧ m.1 28 ≤ 800 := hT.1 28
  have f27 : 0 ≤ m.1 27 ∧ m.1 27 ≤ 48 := hT.1 27
  have f26 : 0 ≤ m.1 26 ∧ m.1 26 ≤ 8 := hT.1 26
  have f99 : 0 ≤ m.1 99 ∧ m.1 99 ≤ 240 := hT.1 99
  refine Tc_of rfl ?_
  show TT w D pm_300 (0, [(0, .ref 189), (1, .int (i32 s))], [], (mhp (mO m [] []) c, N), 0, 0) (Q_memoryOf m c N s)
  refine T_gf 4 (.ref 230) rfl rfl rfl rfl rfl rfl ?_
  refine T_ld 5 (.int (i32 s)) rfl (fun _ => rfl) ?_
  refine T_iald 6 60 (m.2 60) rfl rfl rfl (by omega) (show s < (48 : Int) by omega) rfl ?_
  have e1 : 0 ≤ m.2 60 s ∧ m.2 60 s ≤ 2 := hT.2.1 60 s
  refine T_ld 7 (.int (i32 2)) rfl (fun _ => rfl) ?_
  refine T_icmp 12 10 rfl rfl rfl (r32 (by omega) (by omega)) ⟨by decide, by decide⟩ (fun (h2 : (m.2 60) s = 2) => ?_) (fun (h2 : ¬ ((m.2 60) s = 2)) => ?_)
  · skip
    refine T_gf 16 (.ref 233) rfl rfl rfl rfl rfl rfl ?_
    refine T_ld 17 (.int (i32 s)) rfl (fun _ => rfl) ?_
    refine T_iald 18 63 (m.2 63) rfl rfl rfl (by omega) (show s < (48 : Int) by omega) rfl ?_
    have e3 : (-1) ≤ m.2 63 s ∧ m.2 63 s ≤ 7 := hT.2.1 63 s
    refine T_sto 19 [(2, .int (i32 ((m.2 63) s))), (0, .ref 189), (1, .int (i32 s))] rfl (fun _ => rfl) ?_
    have hs6 := (pSp s (by omega) (by omega)).2.2.2 (by omega)
    refine T_ld 20 (.int (i32 0)) rfl (fun _ => rfl) ?_
    refine T_sto 21 [(3, .int (i32 0)), (2, .int (i32 ((m.2 63) s))), (0, .ref 189), (1, .int (i32 s))] rfl (fun _ => rfl) ?_
    refine T_ld 23 (.int (i32 8)) rfl (fun _ => rfl) ?_
    refine T_ld 24 (.int (i32 ((m.2 63) s))) rfl (fun _ => rfl) ?_
    refine T_imul 25 rfl rfl ?_
    refine T_sto 27 [(4, .int (i32 (8 * ((m.2 63) s)))), (3, .int (i32 0)), (2, .int (i32 ((m.2 63) s))), (0, .ref 189), (1, .int (i32 s))] rfl (fun _ => rfl) ?_
    have e17 : 0 ≤ m.2 53 ((m.2 63) s) ∧ m.2 53 ((m.2 63) s) ≤ 8 := hT.2.1 53 ((m.2 63) s)
    have L27_6 : ∀ (n16 : Nat) (v4 : Int) (v5 : Int), (R32 v4) → (R32 v5) → (0 ≤ v4) → (v4 ≤ 256) → ((-8) ≤ v5) → (v5 ≤ (8 * ((m.2 63) s)) + ((m.2 53) ((m.2 63) s))) → (8 * ((m.2 63) s) ≤ v5 ∧ v5 ≤ 64) → (0 ≤ v4 ∧ v4 ≤ 256) → ((8 * ((m.2 63) s)) + ((m.2 53) ((m.2 63) s))) - v5 < (n16 : Int) → TT w D pm_300 (27, [(0, .ref 189), (1, .int (i32 s)), (2, .int (i32 ((m.2 63) s))), (3, .int (i32 v4)), (4, .int (i32 v5))], [], (mhp (mO m [] []) c, N), 0, 0) (Q_memoryOf m c N s) := by
      intro n16
      induction n16 with
      | zero =>
        intro v4 v5 q13 q14 ic7 ic8 ic9 ic10 ic11 ic12 hmu
        obtain ⟨q13a, q13b⟩ := id q13
        obtain ⟨q14a, q14b⟩ := id q14
        exfalso
        omega
      | succ n16 ih =>
        intro v4 v5 q13 q14 ic7 ic8 ic9 ic10 ic11 ic12 hmu
        obtain ⟨q13a, q13b⟩ := id q13
        obtain ⟨q14a, q14b⟩ := id q14
        have ih18 := ih
        refine T_ld 29 (.int (i32 v5)) rfl (fun _ => rfl) ?_
        refine T_ld 31 (.int (i32 8)) rfl (fun _ => rfl) ?_
        refine T_ld 32 (.int (i32 ((m.2 63) s))) rfl (fun _ => rfl) ?_
        refine T_imul 33 rfl rfl ?_
        refine T_gf 37 (.ref 223) rfl rfl rfl rfl rfl rfl ?_
        refine T_ld 38 (.int (i32 ((m.2 63) s))) rfl (fun _ => rfl) ?_
        refine T_iald 39 53 (m.2 53) rfl rfl rfl (by omega) (show ((m.2 63) s) < (8 : Int) by omega) rfl ?_
        have e19 : 0 ≤ m.2 53 ((m.2 63) s) ∧ m.2 53 ((m.2 63) s) ≤ 8 := hT.2.1 53 ((m.2 63) s)
        refine T_iadd 40 rfl rfl ?_
        refine T_icmp 90 43 rfl rfl rfl (r32 (by omega) (by omega)) (r32 (by omega) (by omega)) (fun (h20 : (8 * ((m.2 63) s)) + ((m.2 53) ((m.2 63) s)) ≤ v5) => ?_) (fun (h20 : ¬ ((8 * ((m.2 63) s)) + ((m.2 53) ((m.2 63) s)) ≤ v5)) => ?_)
        · skip
          refine T_gf 94 (.ref 228) rfl rfl rfl rfl rfl rfl ?_
          refine T_ld 95 (.int (i32 ((m.2 63) s))) rfl (fun _ => rfl) ?_
          refine T_bald 96 58 (m.2 58) rfl rfl rfl (by omega) (show ((m.2 63) s) < (8 : Int) by omega) rfl ?_
          have e21 : 0 ≤ m.2 58 ((m.2 63) s) ∧ m.2 58 ((m.2 63) s) ≤ 1 := hT.2.1 58 ((m.2 63) s)
          have J128_23 : ∀ (s22 : Int), (R32 s22) → (0 ≤ s22) → (s22 ≤ 136) → TT w D pm_300 (128, [(0, .ref 189), (2, .int (i32 ((m.2 63) s))), (3, .int (i32 v4))], [.int (i32 s22)], (mhp (mO m [] []) c, N), 0, 0) (Q_memoryOf m c N s) := by
            intro s22 q26 ic24 ic25
            obtain ⟨q26a, q26b⟩ := id q26
            refine T_sto 130 [(4, .int (i32 s22)), (0, .ref 189), (2, .int (i32 ((m.2 63) s))), (3, .int (i32 v4))] rfl (fun _ => rfl) ?_
            refine T_ld 132 (.int (i32 s22)) rfl (fun _ => rfl) ?_
            refine T_i2l 133 rfl rfl (r32 (by omega) (by omega)) ?_
            refine T_gf 137 (.ref 228) rfl rfl rfl rfl rfl rfl ?_
            refine T_ld 138 (.int (i32 ((m.2 63) s))) rfl (fun _ => rfl) ?_
            refine T_bald 139 58 (m.2 58) rfl rfl rfl (by omega) (show ((m.2 63) s) < (8 : Int) by omega) rfl ?_
            have e29 : 0 ≤ m.2 58 ((m.2 63) s) ∧ m.2 58 ((m.2 63) s) ≤ 1 := hT.2.1 58 ((m.2 63) s)
            refine T_if 146 142 rfl rfl rfl (r32 (by omega) (by omega)) (fun (h30 : (m.2 58) ((m.2 63) s) = 0) => ?_) (fun (h30 : ¬ ((m.2 58) ((m.2 63) s) = 0)) => ?_)
            · skip
              refine T_ld 147 (.int (i32 2)) rfl (fun _ => rfl) ?_
              refine T_gf 151 (.ref 222) rfl rfl rfl rfl rfl rfl ?_
              refine T_ld 152 (.int (i32 ((m.2 63) s))) rfl (fun _ => rfl) ?_
              refine T_iald 153 52 (m.2 52) rfl rfl rfl (by omega) (show ((m.2 63) s) < (8 : Int) by omega) rfl ?_
              have e31 : 0 ≤ m.2 52 ((m.2 63) s) ∧ m.2 52 ((m.2 63) s) ≤ 4096 := hT.2.1 52 ((m.2 63) s)
              refine T_imul 154 rfl rfl ?_
              refine T_ld 155 (.int (i32 v4)) rfl (fun _ => rfl) ?_
              refine T_iadd 156 rfl rfl ?_
              refine T_ld 158 (.int (i32 8)) rfl (fun _ => rfl) ?_
              refine T_iadd 159 rfl rfl ?_
              refine T_i2l 160 rfl rfl (r32 (by omega) (by omega)) ?_
              refine T_lmul 161 rfl rfl ?_
              have hm : 0 ≤ (s22 * (((2 * ((m.2 52) ((m.2 63) s))) + v4) + 8)) ∧ (s22 * (((2 * ((m.2 52) ((m.2 63) s))) + v4) + 8)) ≤ 1200000 := mul_rg (u := 136) (v := 8456) (by omega) (by omega) (by omega) (by omega) (by omega)
              refine T_ret rfl (fun _ => rfl) ?_
              exact ⟨s22 * (((2 * ((m.2 52) ((m.2 63) s))) + v4) + 8), ⟨by omega, by omega⟩, rfl⟩
            · skip
              refine T_ld 143 (.int (i32 1)) rfl (fun _ => rfl) ?_
              refine T_goto 147 rfl (fun _ => rfl) ?_
              refine T_gf 151 (.ref 222) rfl rfl rfl rfl rfl rfl ?_
              refine T_ld 152 (.int (i32 ((m.2 63) s))) rfl (fun _ => rfl) ?_
              refine T_iald 153 52 (m.2 52) rfl rfl rfl (by omega) (show ((m.2 63) s) < (8 : Int) by omega) rfl ?_
              have e32 : 0 ≤ m.2 52 ((m.2 63) s) ∧ m.2 52 ((m.2 63) s) ≤ 4096 := hT.2.1 52 ((m.2 63) s)
              refine T_imul 154 rfl rfl ?_
              refine T_ld 155 (.int (i32 v4)) rfl (fun _ => rfl) ?_
              refine T_iadd 156 rfl rfl ?_
              refine T_ld 158 (.int (i32 8)) rfl (fun _ => rfl) ?_
              refine T_iadd 159 rfl rfl ?_
              refine T_i2l 160 rfl rfl (r32 (by omega) (by omega)) ?_
              refine T_lmul 161 rfl rfl ?_
              have hm : 0 ≤ (s22 * (((1 * ((m.2 52) ((m.2 63) s))) + v4) + 8)) ∧ (s22 * (((1 * ((m.2 52) ((m.2 63) s))) + v4) + 8)) ≤ 1200000 := mul_rg (u := 136) (v := 8456) (by omega) (by omega) (by omega) (by omega) (by omega)
              refine T_ret rfl (fun _ => rfl) ?_
              exact ⟨s22 * (((1 * ((m.2 52) ((m.2 63) s))) + v4) + 8), ⟨by omega, by omega⟩, rfl⟩
          refine T_if 122 99 rfl rfl rfl (r32 (by omega) (by omega)) (fun (h33 : (m.2 58) ((m.2 63) s) = 0) => ?_) (fun (h33 : ¬ ((m.2 58) ((m.2 63) s) = 0)) => ?_)
          · skip
            refine T_gf 126 (.ref 224) rfl rfl rfl rfl rfl rfl ?_
            refine T_ld 127 (.int (i32 ((m.2 63) s))) rfl (fun _ => rfl) ?_
            refine T_iald 128 54 (m.2 54) rfl rfl rfl (by omega) (show ((m.2 63) s) < (8 : Int) by omega) rfl ?_
            have e34 : 0 ≤ m.2 54 ((m.2 63) s) ∧ m.2 54 ((m.2 63) s) ≤ 32 := hT.2.1 54 ((m.2 63) s)
            refine Tm_lv (a := [(0, .ref 189), (2, .int (i32 ((m.2 63) s))), (3, .int (i32 v4))]) rfl rfl ⟨rfl, rfl, rfl, trivial⟩ ?_
            exact J128_23 ((m.2 54) ((m.2 63) s)) (r32 (by omega) (by omega)) (show 0 ≤ ((m.2 54) ((m.2 63) s)) by omega) (show ((m.2 54) ((m.2 63) s)) ≤ 136 by omega)
          · skip
            refine T_gf 103 (.ref 224) rfl rfl rfl rfl rfl rfl ?_
            refine T_ld 104 (.int (i32 ((m.2 63) s))) rfl (fun _ => rfl) ?_
            refine T_iald 105 54 (m.2 54) rfl rfl rfl (by omega) (show ((m.2 63) s) < (8 : Int) by omega) rfl ?_
            have e35 : 0 ≤ m.2 54 ((m.2 63) s) ∧ m.2 54 ((m.2 63) s) ≤ 32 := hT.2.1 54 ((m.2 63) s)
            refine T_gf 109 (.ref 225) rfl rfl rfl rfl rfl rfl ?_
            refine T_ld 110 (.int (i32 ((m.2 63) s))) rfl (fun _ => rfl) ?_
            refine T_iald 111 55 (m.2 55) rfl rfl rfl (by omega) (show ((m.2 63) s) < (8 : Int) by omega) rfl ?_
            have e36 : 0 ≤ m.2 55 ((m.2 63) s) ∧ m.2 55 ((m.2 63) s) ≤ 4 := hT.2.1 55 ((m.2 63) s)
            refine T_imul 112 rfl rfl ?_
            have hm : 0 ≤ ((m.2 54) ((m.2 63) s)) * ((m.2 55) ((m.2 63) s)) ∧ ((m.2 54) ((m.2 63) s)) * ((m.2 55) ((m.2 63) s)) ≤ 128 := mul_rg (u := 32) (v := 4) (by omega) (by omega) (by omega) (by omega) (by omega)
            refine T_gf 116 (.ref 226) rfl rfl rfl rfl rfl rfl ?_
            refine T_ld 117 (.int (i32 ((m.2 63) s))) rfl (fun _ => rfl) ?_
            refine T_iald 118 56 (m.2 56) rfl rfl rfl (by omega) (show ((m.2 63) s) < (8 : Int) by omega) rfl ?_
            have e37 : 0 ≤ m.2 56 ((m.2 63) s) ∧ m.2 56 ((m.2 63) s) ≤ 8 := hT.2.1 56 ((m.2 63) s)
            refine T_iadd 119 rfl rfl ?_
            refine T_goto 128 rfl (fun _ => rfl) ?_
            refine Tm_lv (a := [(0, .ref 189), (2, .int (i32 ((m.2 63) s))), (3, .int (i32 v4))]) rfl rfl ⟨rfl, rfl, rfl, trivial⟩ ?_
            exact J128_23 ((((m.2 54) ((m.2 63) s)) * ((m.2 55) ((m.2 63) s))) + ((m.2 56) ((m.2 63) s))) (r32 (by omega) (by omega)) (show 0 ≤ ((((m.2 54) ((m.2 63) s)) * ((m.2 55) ((m.2 63) s))) + ((m.2 56) ((m.2 63) s))) by omega) (show ((((m.2 54) ((m.2 63) s)) * ((m.2 55) ((m.2 63) s))) + ((m.2 56) ((m.2 63) s))) ≤ 136 by omega)
        · skip
          refine T_gf 47 (.ref 219) rfl rfl rfl rfl rfl rfl ?_
          refine T_gf 51 (.ref 216) rfl rfl rfl rfl rfl rfl ?_
          refine T_gf 55 (.ref 274) rfl rfl rfl rfl rfl rfl ?_
          refine T_ld 57 (.int (i32 v5)) rfl (fun _ => rfl) ?_
          refine T_iald 58 114 (m.2 114) rfl rfl rfl (by omega) (show v5 < (64 : Int) by omega) rfl ?_
          have e38 : 0 ≤ m.2 114 v5 ∧ m.2 114 v5 ≤ 15 := hT.2.1 114 v5
          refine T_iald 59 46 (m.2 46) rfl rfl rfl (by omega) (show ((m.2 114) v5) < (16 : Int) by omega) rfl ?_
          have e39 : 0 ≤ m.2 46 ((m.2 114) v5) ∧ m.2 46 ((m.2 114) v5) ≤ 4 := hT.2.1 46 ((m.2 114) v5)
          refine T_gf 63 (.ref 274) rfl rfl rfl rfl rfl rfl ?_
          refine T_ld 65 (.int (i32 v5)) rfl (fun _ => rfl) ?_
          refine T_iald 66 114 (m.2 114) rfl rfl rfl (by omega) (show v5 < (64 : Int) by omega) rfl ?_
          have e40 : 0 ≤ m.2 114 v5 ∧ m.2 114 v5 ≤ 15 := hT.2.1 114 v5
          refine T_call 69 301 [.ref 219, .int (i32 ((m.2 46) ((m.2 114) v5))), .int (i32 ((m.2 114) v5))] [] rfl (fun _ => rfl) rfl (c_bitsOfParameters w (mO m [] []) c N D (by omega) hT ((m.2 46) ((m.2 114) v5)) ((m.2 114) v5) (r32 (by omega) (by omega)) (r32 (by omega) (by omega)) (show 0 ≤ ((m.2 46) ((m.2 114) v5)) ∧ ((m.2 46) ((m.2 114) v5)) ≤ 4 by omega) (show 0 ≤ ((m.2 114) v5) ∧ ((m.2 114) v5) ≤ 15 by omega)) (fun rr41 k42 => ?_)
          obtain ⟨x43, g44, rfl⟩ := k42
          refine ⟨_, _, rfl, ?_⟩
          refine T_ns (st' := [.int (i32 x43)]) rfl ?_
          obtain ⟨g44a, g44b⟩ := g44
          refine T_sto 71 [(5, .int (i32 x43)), (0, .ref 189), (1, .int (i32 s)), (2, .int (i32 ((m.2 63) s))), (3, .int (i32 v4)), (4, .int (i32 v5))] rfl (fun _ => rfl) ?_
          refine T_ld 73 (.int (i32 x43)) rfl (fun _ => rfl) ?_
          refine T_ld 74 (.int (i32 v4)) rfl (fun _ => rfl) ?_
          refine T_icmp 82 77 rfl rfl rfl (r32 (by omega) (by omega)) (r32 (by omega) (by omega)) (fun (h45 : x43 ≤ v4) => ?_) (fun (h45 : ¬ (x43 ≤ v4)) => ?_)
          · skip
            refine T_ld 83 (.int (i32 v4)) rfl (fun _ => rfl) ?_
            refine T_sto 84 [(3, .int (i32 v4)), (5, .int (i32 x43)), (0, .ref 189), (1, .int (i32 s)), (2, .int (i32 ((m.2 63) s))), (4, .int (i32 v5))] rfl (fun _ => rfl) ?_
            refine T_iinc 87 [(4, .int (i32 (v5 + 1))), (3, .int (i32 v4)), (5, .int (i32 x43)), (0, .ref 189), (1, .int (i32 s)), (2, .int (i32 ((m.2 63) s)))] rfl rfl (by decide) rfl rfl ?_
            refine T_goto 27 rfl (fun _ => rfl) ?_
            refine Tm_lv (a := [(0, .ref 189), (1, .int (i32 s)), (2, .int (i32 ((m.2 63) s))), (3, .int (i32 v4)), (4, .int (i32 (v5 + 1)))]) rfl rfl ⟨rfl, rfl, rfl, rfl, rfl, trivial⟩ ?_
            exact ih18 v4 (v5 + 1) (r32 (by omega) (by omega)) (r32 (by omega) (by omega)) (show 0 ≤ v4 by omega) (show v4 ≤ 256 by omega) (show (-8) ≤ (v5 + 1) by omega) (show (v5 + 1) ≤ (8 * ((m.2 63) s)) + ((m.2 53) ((m.2 63) s)) by omega) (show 8 * ((m.2 63) s) ≤ (v5 + 1) ∧ (v5 + 1) ≤ 64 by omega) (show 0 ≤ v4 ∧ v4 ≤ 256 by omega) (show ((8 * ((m.2 63) s)) + ((m.2 53) ((m.2 63) s))) - (v5 + 1) < (n16 : Int) by omega)
          · skip
            refine T_ld 79 (.int (i32 x43)) rfl (fun _ => rfl) ?_
            refine T_goto 83 rfl (fun _ => rfl) ?_
            refine T_sto 84 [(3, .int (i32 x43)), (5, .int (i32 x43)), (0, .ref 189), (1, .int (i32 s)), (2, .int (i32 ((m.2 63) s))), (4, .int (i32 v5))] rfl (fun _ => rfl) ?_
            refine T_iinc 87 [(4, .int (i32 (v5 + 1))), (3, .int (i32 x43)), (5, .int (i32 x43)), (0, .ref 189), (1, .int (i32 s)), (2, .int (i32 ((m.2 63) s)))] rfl rfl (by decide) rfl rfl ?_
            refine T_goto 27 rfl (fun _ => rfl) ?_
            refine Tm_lv (a := [(0, .ref 189), (1, .int (i32 s)), (2, .int (i32 ((m.2 63) s))), (3, .int (i32 x43)), (4, .int (i32 (v5 + 1)))]) rfl rfl ⟨rfl, rfl, rfl, rfl, rfl, trivial⟩ ?_
            exact ih18 x43 (v5 + 1) (r32 (by omega) (by omega)) (r32 (by omega) (by omega)) (show 0 ≤ x43 by omega) (show x43 ≤ 256 by omega) (show (-8) ≤ (v5 + 1) by omega) (show (v5 + 1) ≤ (8 * ((m.2 63) s)) + ((m.2 53) ((m.2 63) s)) by omega) (show 8 * ((m.2 63) s) ≤ (v5 + 1) ∧ (v5 + 1) ≤ 64 by omega) (show 0 ≤ x43 ∧ x43 ≤ 256 by omega) (show ((8 * ((m.2 63) s)) + ((m.2 53) ((m.2 63) s))) - (v5 + 1) < (n16 : Int) by omega)
    refine Tm_lv (a := [(0, .ref 189), (1, .int (i32 s)), (2, .int (i32 ((m.2 63) s))), (3, .int (i32 0)), (4, .int (i32 (8 * ((m.2 63) s))))]) rfl rfl ⟨rfl, rfl, rfl, rfl, rfl, trivial⟩ ?_
    exact L27_6 ((((8 * ((m.2 63) s)) + ((m.2 53) ((m.2 63) s))) - (8 * ((m.2 63) s)) : Int) + 1).toNat 0 (8 * ((m.2 63) s)) ⟨by decide, by decide⟩ (r32 (by omega) (by omega)) (show 0 ≤ (0 : Int) by omega) (show (0 : Int) ≤ 256 by omega) (show (-8) ≤ (8 * ((m.2 63) s)) by omega) (show (8 * ((m.2 63) s)) ≤ (8 * ((m.2 63) s)) + ((m.2 53) ((m.2 63) s)) by omega) (show 8 * ((m.2 63) s) ≤ (8 * ((m.2 63) s)) ∧ (8 * ((m.2 63) s)) ≤ 64 by omega) (show 0 ≤ (0 : Int) ∧ (0 : Int) ≤ 256 by omega) (show ((8 * ((m.2 63) s)) + ((m.2 53) ((m.2 63) s))) - (8 * ((m.2 63) s)) < ((((((8 * ((m.2 63) s)) + ((m.2 53) ((m.2 63) s))) - (8 * ((m.2 63) s)) : Int) + 1).toNat : Nat) : Int) by omega)
  · skip
    refine T_ld 11 (.long (i64 0)) rfl (fun _ => rfl) ?_
    refine T_ret rfl (fun _ => rfl) ?_
    exact ⟨0, ⟨by omega, by omega⟩, rfl⟩
def Q_wiresOf (m : mR) (c : Nat → Option am_C) (N : Nat) (s : Int) : ag_Re af_T → Prop := fun R => ∃ (r : Int), (0 ≤ r ∧ r ≤ 4096) ∧ R = (.inl (some (.long (i64 r))), (mhp m c, N), 0, 0)
set_option maxHeartbeats 3000000 in
theorem c_wiresOf (w : wX) (m : mR) (c : Nat → Option am_C) (N D : Nat) (hD : 1 ≤ D) (hT : Ty m) (s : Int) (qs : R32 s) (p0 : 0 ≤ s ∧ s ≤ 47) (p1 : s < (m.1 27)) (pSp : SpP (m.2 65) (m.1 28) (m.1 99) (m.1 26) (m.1 27) (m.2 60) (m.2 61) (m.2 120) (m.2 121) (m.2 122) (m.2 63)) : TC w D 302 [.ref 189, .int (i32 s)] (mhp m c, N) (Q_wiresOf m c N s) := by
  obtain ⟨D, rfl⟩ : ∃ k, D = k + 1 := ⟨D - 1, by omega⟩
  obtain ⟨qsa, qsb⟩ := id qs
  have f28 : 0 ≤ m.1 28 ∧ m.1 28 ≤ 800 := hT.1 28
  have f27 : 0 ≤ m.1 27 ∧ m.1 27 ≤ 48 := hT.1 27
  have f26 : 0 ≤ m.1 26 ∧ m.1 26 ≤ 8 := hT.1 26
  have f99 : 0 ≤ m.1 99 ∧ m.1 99 ≤ 240 := hT.1 99
  refine Tc_of rfl ?_
  show TT w D pm_302 (0, [(0, .ref 189), (1, .int (i32 s))], [], (mhp (mO m [] []) c, N), 0, 0) (Q_wiresOf m c N s)
  refine T_gf 4 (.ref 230) rfl rfl rfl rfl rfl rfl ?_
  refine T_ld 5 (.int (i32 s)) rfl (fun _ => rfl) ?_
  refine T_iald 6 60 (m.2 60) rfl rfl rfl (by omega) (show s < (48 : Int) by omega) rfl ?_
  have e1 : 0 ≤ m.2 60 s ∧ m.2 60 s ≤ 2 := hT.2.1 60 s
  refine T_ld 7 (.int (i32 2)) rfl (fun _ => rfl) ?_
  refine T_icmp 25 10 rfl rfl rfl (r32 (by omega) (by omega)) ⟨by decide, by decide⟩ (fun (h2 : (m.2 60) s ≠ 2) => ?_) (fun (h2 : ¬ ((m.2 60) s ≠ 2)) => ?_)
  · skip
    refine T_ld 26 (.long (i64 0)) rfl (fun _ => rfl) ?_
    refine T_ret rfl (fun _ => rfl) ?_
    exact ⟨0, ⟨by omega, by omega⟩, rfl⟩
  · skip
    have hs6 := (pSp s (by omega) (by omega)).2.2.2 (by omega)
    refine T_gf 14 (.ref 222) rfl rfl rfl rfl rfl rfl ?_
    refine T_gf 18 (.ref 233) rfl rfl rfl rfl rfl rfl ?_
    refine T_ld 19 (.int (i32 s)) rfl (fun _ => rfl) ?_
    refine T_iald 20 63 (m.2 63) rfl rfl rfl (by omega) (show s < (48 : Int) by omega) rfl ?_
    have e3 : (-1) ≤ m.2 63 s ∧ m.2 63 s ≤ 7 := hT.2.1 63 s
    refine T_iald 21 52 (m.2 52) rfl rfl rfl (by omega) (show ((m.2 63) s) < (8 : Int) by omega) rfl ?_
    have e4 : 0 ≤ m.2 52 ((m.2 63) s) ∧ m.2 52 ((m.2 63) s) ≤ 4096 := hT.2.1 52 ((m.2 63) s)
    refine T_i2l 22 rfl rfl (r32 (by omega) (by omega)) ?_
    refine T_goto 26 rfl (fun _ => rfl) ?_
    refine T_ret rfl (fun _ => rfl) ?_
    exact ⟨(m.2 52) ((m.2 63) s), ⟨by omega, by omega⟩, rfl⟩
def Q_stageFor (m : mR) (c : Nat → Option am_C) (N : Nat) (j : Int) (n : Int) (p : Int) (q : Int) : ag_Re af_T → Prop := fun R => ∃ (r : Int), ((-1) ≤ r ∧ r ≤ 11) ∧ (r < n) ∧ (0 ≤ r → (m.2 132) r < 8) ∧ R = (.inl (some (.int (i32 r))), (mhp m c, N), 0, 0)
set_option maxHeartbeats 3000000 in
theorem c_stageFor (w : wX) (m : mR) (c : Nat → Option am_C) (N D : Nat) (hD : 3 ≤ D) (hT : Ty m) (j : Int) (n : Int) (p : Int) (q : Int) (qj : R32 j) (qn : R32 n) (qp : R64 p) (qq : R64 q) (p0 : 0 ≤ j ∧ j ≤ 47) (p1 : j < (m.1 27)) (p2 : 1 ≤ n ∧ n ≤ 12) (pSp : SpP (m.2 65) (m.1 28) (m.1 99) (m.1 26) (m.1 27) (m.2 60) (m.2 61) (m.2 120) (m.2 121) (m.2 122) (m.2 63)) (pTb : TbP (m.2 65) (m.1 28) (m.1 25) (m.1 26) (m.2 51) (m.2 110) (m.2 111) (m.2 57) (m.2 53) (m.2 114) (m.2 58) (m.2 54)) : TC w D 295 [.ref 189, .int (i32 j), .int (i32 n), .long (i64 p), .long (i64 q)] (mhp m c, N) (Q_stageFor m c N j n p q) := by
  obtain ⟨D, rfl⟩ : ∃ k, D = k + 1 := ⟨D - 1, by omega⟩
  obtain ⟨qja, qjb⟩ := id qj
  obtain ⟨qna, qnb⟩ := id qn
  obtain ⟨qpa, qpb⟩ := id qp
  obtain ⟨qqa, qqb⟩ := id qq
  have f25 : 0 ≤ m.1 25 ∧ m.1 25 ≤ 16 := hT.1 25
  have f28 : 0 ≤ m.1 28 ∧ m.1 28 ≤ 800 := hT.1 28
  have f27 : 0 ≤ m.1 27 ∧ m.1 27 ≤ 48 := hT.1 27
  have f26 : 0 ≤ m.1 26 ∧ m.1 26 ≤ 8 := hT.1 26
  have f99 : 0 ≤ m.1 99 ∧ m.1 99 ≤ 240 := hT.1 99
  refine Tc_of rfl ?_
  show TT w D pm_295 (0, [(0, .ref 189), (1, .int (i32 j)), (2, .int (i32 n)), (3, .long (i64 p)), (5, .long (i64 q))], [], (mhp (mO m [] []) c, N), 0, 0) (Q_stageFor m c N j n p q)
  refine T_ld 1 (.int (i32 0)) rfl (fun _ => rfl) ?_
  refine T_sto 3 [(7, .int (i32 0)), (0, .ref 189), (1, .int (i32 j)), (2, .int (i32 n)), (3, .long (i64 p)), (5, .long (i64 q))] rfl (fun _ => rfl) ?_
  refine T_ld 4 (.int (i32 (-1))) rfl (fun _ => rfl) ?_
  refine T_sto 6 [(8, .int (i32 (-1))), (7, .int (i32 0)), (0, .ref 189), (1, .int (i32 j)), (2, .int (i32 n)), (3, .long (i64 p)), (5, .long (i64 q))] rfl (fun _ => rfl) ?_
  refine T_ld 7 (.int (i32 1)) rfl (fun _ => rfl) ?_
  refine T_sto 9 [(9, .int (i32 1)), (8, .int (i32 (-1))), (7, .int (i32 0)), (0, .ref 189), (1, .int (i32 j)), (2, .int (i32 n)), (3, .long (i64 p)), (5, .long (i64 q))] rfl (fun _ => rfl) ?_
  refine T_ld 10 (.int (i32 0)) rfl (fun _ => rfl) ?_
  refine T_sto 12 [(10, .int (i32 0)), (9, .int (i32 1)), (8, .int (i32 (-1))), (7, .int (i32 0)), (0, .ref 189), (1, .int (i32 j)), (2, .int (i32 n)), (3, .long (i64 p)), (5, .long (i64 q))] rfl (fun _ => rfl) ?_
  have L12_5 : ∀ (n21 : Nat) (v1 : Int) (v2 : Int) (v3 : Int) (v4 : Int), (R32 v1) → (R32 v2) → (R32 v3) → (R32 v4) → (0 ≤ v1) → (v1 ≤ 12) → ((-1) ≤ v2) → (v2 ≤ 11) → (v3 ≤ 1) → (0 ≤ v4) → (v4 ≤ j) → (0 ≤ v1 ∧ v1 ≤ 12) → ((-1) ≤ v2 ∧ v2 ≤ 11) → (v3 = 0 ∨ v3 = 1) → j - v4 < (n21 : Int) → TT w D pm_295 (12, [(0, .ref 189), (1, .int (i32 j)), (2, .int (i32 n)), (3, .long (i64 p)), (5, .long (i64 q)), (7, .int (i32 v1)), (8, .int (i32 v2)), (9, .int (i32 v3)), (10, .int (i32 v4))], [], (mhp (mO m [] []) c, N), 0, 0) (Q_stageFor m c N j n p q) := by
    intro n21
    induction n21 with
    | zero =>
      intro v1 v2 v3 v4 q16 q17 q18 q19 ic6 ic7 ic8 ic9 ic10 ic11 ic12 ic13 ic14 ic15 hmu
      obtain ⟨q16a, q16b⟩ := id q16
      obtain ⟨q17a, q17b⟩ := id q17
      obtain ⟨q18a, q18b⟩ := id q18
      obtain ⟨q19a, q19b⟩ := id q19
      exfalso
      omega
    | succ n21 ih =>
      intro v1 v2 v3 v4 q16 q17 q18 q19 ic6 ic7 ic8 ic9 ic10 ic11 ic12 ic13 ic14 ic15 hmu
      obtain ⟨q16a, q16b⟩ := id q16
      obtain ⟨q17a, q17b⟩ := id q17
      obtain ⟨q18a, q18b⟩ := id q18
      obtain ⟨q19a, q19b⟩ := id q19
      have ih22 := ih
      refine T_ld 14 (.int (i32 v4)) rfl (fun _ => rfl) ?_
      refine T_ld 15 (.int (i32 j)) rfl (fun _ => rfl) ?_
      refine T_icmp 135 18 rfl rfl rfl (r32 (by omega) (by omega)) (r32 (by omega) (by omega)) (fun (h23 : j ≤ v4) => ?_) (fun (h23 : ¬ (j ≤ v4)) => ?_)
      · skip
        refine T_ld 137 (.int (i32 v3)) rfl (fun _ => rfl) ?_
        refine T_if 142 140 rfl rfl rfl (r32 (by omega) (by omega)) (fun (h24 : v3 ≠ 0) => ?_) (fun (h24 : ¬ (v3 ≠ 0)) => ?_)
        · skip
          refine T_ld 144 (.int (i32 v1)) rfl (fun _ => rfl) ?_
          refine T_sto 146 [(10, .int (i32 v1)), (0, .ref 189), (1, .int (i32 j)), (2, .int (i32 n)), (3, .long (i64 p)), (5, .long (i64 q)), (7, .int (i32 v1)), (8, .int (i32 v2)), (9, .int (i32 v3))] rfl (fun _ => rfl) ?_
          have L146_26 : ∀ (n32 : Nat) (v25 : Int), (R32 v25) → (0 ≤ v25) → (v25 ≤ 12) → (0 ≤ v25 ∧ v25 ≤ 12) → 20 - v25 < (n32 : Int) → TT w D pm_295 (146, [(0, .ref 189), (1, .int (i32 j)), (2, .int (i32 n)), (3, .long (i64 p)), (5, .long (i64 q)), (7, .int (i32 v1)), (8, .int (i32 v2)), (9, .int (i32 v3)), (10, .int (i32 v25))], [], (mhp (mO m [] []) c, N), 0, 0) (Q_stageFor m c N j n p q) := by
            intro n32
            induction n32 with
            | zero =>
              intro v25 q30 ic27 ic28 ic29 hmu
              obtain ⟨q30a, q30b⟩ := id q30
              exfalso
              omega
            | succ n32 ih =>
              intro v25 q30 ic27 ic28 ic29 hmu
              obtain ⟨q30a, q30b⟩ := id q30
              have ih33 := ih
              refine T_ld 148 (.int (i32 v25)) rfl (fun _ => rfl) ?_
              refine T_ld 149 (.int (i32 n)) rfl (fun _ => rfl) ?_
              refine T_icmp 222 152 rfl rfl rfl (r32 (by omega) (by omega)) (r32 (by omega) (by omega)) (fun (h34 : n ≤ v25) => ?_) (fun (h34 : ¬ (n ≤ v25)) => ?_)
              · skip
                refine T_ld 223 (.int (i32 (-1))) rfl (fun _ => rfl) ?_
                refine T_ret rfl (fun _ => rfl) ?_
                exact ⟨(-1), ⟨by omega, by omega⟩, (show (-1 : Int) < n by omega), (show 0 ≤ (-1 : Int) → (m.2 132) (-1 : Int) < 8 by omega), rfl⟩
              · skip
                refine T_ld 154 (.int (i32 v2)) rfl (fun _ => rfl) ?_
                refine T_if 164 157 rfl rfl rfl (r32 (by omega) (by omega)) (fun (h35 : v2 < 0) => ?_) (fun (h35 : ¬ (v2 < 0)) => ?_)
                · skip
                  refine T_gf 168 (.ref 286) rfl rfl rfl rfl rfl rfl ?_
                  refine T_ld 170 (.int (i32 v25)) rfl (fun _ => rfl) ?_
                  refine T_iald 171 132 (m.2 132) rfl rfl rfl (by omega) (show v25 < (12 : Int) by omega) rfl ?_
                  have e36 : 0 ≤ m.2 132 v25 ∧ m.2 132 v25 ≤ 48 := hT.2.1 132 v25
                  refine T_ld 173 (.int (i32 8)) rfl (fun _ => rfl) ?_
                  refine T_icmp 216 176 rfl rfl rfl (r32 (by omega) (by omega)) ⟨by decide, by decide⟩ (fun (h37 : (8 : Int) ≤ (m.2 132) v25) => ?_) (fun (h37 : ¬ ((8 : Int) ≤ (m.2 132) v25)) => ?_)
                  · skip
                    refine T_iinc 219 [(10, .int (i32 (v25 + 1))), (0, .ref 189), (1, .int (i32 j)), (2, .int (i32 n)), (3, .long (i64 p)), (5, .long (i64 q)), (7, .int (i32 v1)), (8, .int (i32 v2)), (9, .int (i32 v3))] rfl rfl (by decide) rfl rfl ?_
                    refine T_goto 146 rfl (fun _ => rfl) ?_
                    refine Tm_lv (a := [(0, .ref 189), (1, .int (i32 j)), (2, .int (i32 n)), (3, .long (i64 p)), (5, .long (i64 q)), (7, .int (i32 v1)), (8, .int (i32 v2)), (9, .int (i32 v3)), (10, .int (i32 (v25 + 1)))]) rfl rfl ⟨rfl, rfl, rfl, rfl, rfl, rfl, rfl, rfl, rfl, trivial⟩ ?_
                    exact ih33 (v25 + 1) (r32 (by omega) (by omega)) (show 0 ≤ (v25 + 1) by omega) (show (v25 + 1) ≤ 12 by omega) (show 0 ≤ (v25 + 1) ∧ (v25 + 1) ≤ 12 by omega) (show 20 - (v25 + 1) < (n32 : Int) by omega)
                  · skip
                    refine T_gf 180 (.ref 287) rfl rfl rfl rfl rfl rfl ?_
                    refine T_ld 182 (.int (i32 v25)) rfl (fun _ => rfl) ?_
                    refine T_lald 183 133 (m.2 133) rfl rfl rfl (by omega) (show v25 < (12 : Int) by omega) rfl ?_
                    have e38 : 0 ≤ m.2 133 v25 ∧ m.2 133 v25 ≤ 60000000 := hT.2.1 133 v25
                    refine T_ld 184 (.ref 189) rfl (fun _ => rfl) ?_
                    refine T_ld 185 (.int (i32 j)) rfl (fun _ => rfl) ?_
                    refine T_call 188 300 [.ref 189, .int (i32 j)] [.long (i64 ((m.2 133) v25))] rfl (fun _ => rfl) rfl (c_memoryOf w (mO m [] []) c N D (by omega) hT j (r32 (by omega) (by omega)) (show 0 ≤ j ∧ j ≤ 47 by omega) (show j < (m.1 27) by omega) (show SpP (m.2 65) (m.1 28) (m.1 99) (m.1 26) (m.1 27) (m.2 60) (m.2 61) (m.2 120) (m.2 121) (m.2 122) (m.2 63) by exact pSp) (show TbP (m.2 65) (m.1 28) (m.1 25) (m.1 26) (m.2 51) (m.2 110) (m.2 111) (m.2 57) (m.2 53) (m.2 114) (m.2 58) (m.2 54) by exact pTb)) (fun rr39 k40 => ?_)
                    obtain ⟨x41, g42, rfl⟩ := k40
                    refine ⟨_, _, rfl, ?_⟩
                    refine T_ns (st' := [.long (i64 x41), .long (i64 ((m.2 133) v25))]) rfl ?_
                    obtain ⟨g42a, g42b⟩ := g42
                    refine T_ladd 189 rfl rfl ?_
                    refine T_lnm (fun z43 h44 => ?_)
                    obtain ⟨h44a, h44b⟩ := h44
                    refine T_ld 190 (.long (i64 p)) rfl (fun _ => rfl) ?_
                    refine T_lcmp 191 rfl rfl (r64 (by omega) (by omega)) (r64 (by omega) (by omega)) (fun z45 h46 => ?_)
                    obtain ⟨h46a, h46b, h46c, h46d, h46e⟩ := h46
                    refine T_if 216 194 rfl rfl rfl (r32 (by omega) (by omega)) (fun (h47 : (0 : Int) < z45) => ?_) (fun (h47 : ¬ ((0 : Int) < z45)) => ?_)
                    · skip
                      have hl48 : z43 > p := by omega
                      refine T_iinc 219 [(10, .int (i32 (v25 + 1))), (0, .ref 189), (1, .int (i32 j)), (2, .int (i32 n)), (3, .long (i64 p)), (5, .long (i64 q)), (7, .int (i32 v1)), (8, .int (i32 v2)), (9, .int (i32 v3))] rfl rfl (by decide) rfl rfl ?_
                      refine T_goto 146 rfl (fun _ => rfl) ?_
                      refine Tm_lv (a := [(0, .ref 189), (1, .int (i32 j)), (2, .int (i32 n)), (3, .long (i64 p)), (5, .long (i64 q)), (7, .int (i32 v1)), (8, .int (i32 v2)), (9, .int (i32 v3)), (10, .int (i32 (v25 + 1)))]) rfl rfl ⟨rfl, rfl, rfl, rfl, rfl, rfl, rfl, rfl, rfl, trivial⟩ ?_
                      exact ih33 (v25 + 1) (r32 (by omega) (by omega)) (show 0 ≤ (v25 + 1) by omega) (show (v25 + 1) ≤ 12 by omega) (show 0 ≤ (v25 + 1) ∧ (v25 + 1) ≤ 12 by omega) (show 20 - (v25 + 1) < (n32 : Int) by omega)
                    · skip
                      have hl49 : z43 ≤ p := by omega
                      refine T_gf 198 (.ref 288) rfl rfl rfl rfl rfl rfl ?_
                      refine T_ld 200 (.int (i32 v25)) rfl (fun _ => rfl) ?_
                      refine T_lald 201 134 (m.2 134) rfl rfl rfl (by omega) (show v25 < (12 : Int) by omega) rfl ?_
                      have e50 : 0 ≤ m.2 134 v25 ∧ m.2 134 v25 ≤ 200000 := hT.2.1 134 v25
                      refine T_ld 202 (.ref 189) rfl (fun _ => rfl) ?_
                      refine T_ld 203 (.int (i32 j)) rfl (fun _ => rfl) ?_
                      refine T_call 206 302 [.ref 189, .int (i32 j)] [.long (i64 ((m.2 134) v25))] rfl (fun _ => rfl) rfl (c_wiresOf w (mO m [] []) c N D (by omega) hT j (r32 (by omega) (by omega)) (show 0 ≤ j ∧ j ≤ 47 by omega) (show j < (m.1 27) by omega) (show SpP (m.2 65) (m.1 28) (m.1 99) (m.1 26) (m.1 27) (m.2 60) (m.2 61) (m.2 120) (m.2 121) (m.2 122) (m.2 63) by exact pSp)) (fun rr51 k52 => ?_)
                      obtain ⟨x53, g54, rfl⟩ := k52
                      refine ⟨_, _, rfl, ?_⟩
                      refine T_ns (st' := [.long (i64 x53), .long (i64 ((m.2 134) v25))]) rfl ?_
                      obtain ⟨g54a, g54b⟩ := g54
                      clear g42a g42b h44a h44b h46a h46b h46c h46d h46e h47 hl49
                      refine T_ladd 207 rfl rfl ?_
                      refine T_lnm (fun z55 h56 => ?_)
                      obtain ⟨h56a, h56b⟩ := h56
                      refine T_ld 209 (.long (i64 q)) rfl (fun _ => rfl) ?_
                      refine T_lcmp 210 rfl rfl (r64 (by omega) (by omega)) (r64 (by omega) (by omega)) (fun z57 h58 => ?_)
                      obtain ⟨h58a, h58b, h58c, h58d, h58e⟩ := h58
                      refine T_if 216 213 rfl rfl rfl (r32 (by omega) (by omega)) (fun (h59 : (0 : Int) < z57) => ?_) (fun (h59 : ¬ ((0 : Int) < z57)) => ?_)
                      · skip
                        have hl60 : z55 > q := by omega
                        refine T_iinc 219 [(10, .int (i32 (v25 + 1))), (0, .ref 189), (1, .int (i32 j)), (2, .int (i32 n)), (3, .long (i64 p)), (5, .long (i64 q)), (7, .int (i32 v1)), (8, .int (i32 v2)), (9, .int (i32 v3))] rfl rfl (by decide) rfl rfl ?_
                        refine T_goto 146 rfl (fun _ => rfl) ?_
                        refine Tm_lv (a := [(0, .ref 189), (1, .int (i32 j)), (2, .int (i32 n)), (3, .long (i64 p)), (5, .long (i64 q)), (7, .int (i32 v1)), (8, .int (i32 v2)), (9, .int (i32 v3)), (10, .int (i32 (v25 + 1)))]) rfl rfl ⟨rfl, rfl, rfl, rfl, rfl, rfl, rfl, rfl, rfl, trivial⟩ ?_
                        exact ih33 (v25 + 1) (r32 (by omega) (by omega)) (show 0 ≤ (v25 + 1) by omega) (show (v25 + 1) ≤ 12 by omega) (show 0 ≤ (v25 + 1) ∧ (v25 + 1) ≤ 12 by omega) (show 20 - (v25 + 1) < (n32 : Int) by omega)
                      · skip
                        have hl61 : z55 ≤ q := by omega
                        refine T_ld 215 (.int (i32 v25)) rfl (fun _ => rfl) ?_
                        refine T_ret rfl (fun _ => rfl) ?_
                        exact ⟨v25, ⟨by omega, by omega⟩, (show v25 < n by omega), (show 0 ≤ v25 → (m.2 132) v25 < 8 by omega), rfl⟩
                · skip
                  refine T_ld 159 (.int (i32 v25)) rfl (fun _ => rfl) ?_
                  refine T_ld 161 (.int (i32 v2)) rfl (fun _ => rfl) ?_
                  refine T_icmp 216 164 rfl rfl rfl (r32 (by omega) (by omega)) (r32 (by omega) (by omega)) (fun (h62 : v25 ≠ v2) => ?_) (fun (h62 : ¬ (v25 ≠ v2)) => ?_)
                  · skip
                    refine T_iinc 219 [(10, .int (i32 (v25 + 1))), (0, .ref 189), (1, .int (i32 j)), (2, .int (i32 n)), (3, .long (i64 p)), (5, .long (i64 q)), (7, .int (i32 v1)), (8, .int (i32 v2)), (9, .int (i32 v3))] rfl rfl (by decide) rfl rfl ?_
                    refine T_goto 146 rfl (fun _ => rfl) ?_
                    refine Tm_lv (a := [(0, .ref 189), (1, .int (i32 j)), (2, .int (i32 n)), (3, .long (i64 p)), (5, .long (i64 q)), (7, .int (i32 v1)), (8, .int (i32 v2)), (9, .int (i32 v3)), (10, .int (i32 (v25 + 1)))]) rfl rfl ⟨rfl, rfl, rfl, rfl, rfl, rfl, rfl, rfl, rfl, trivial⟩ ?_
                    exact ih33 (v25 + 1) (r32 (by omega) (by omega)) (show 0 ≤ (v25 + 1) by omega) (show (v25 + 1) ≤ 12 by omega) (show 0 ≤ (v25 + 1) ∧ (v25 + 1) ≤ 12 by omega) (show 20 - (v25 + 1) < (n32 : Int) by omega)
                  · skip
                    refine T_gf 168 (.ref 286) rfl rfl rfl rfl rfl rfl ?_
                    refine T_ld 170 (.int (i32 v25)) rfl (fun _ => rfl) ?_
                    refine T_iald 171 132 (m.2 132) rfl rfl rfl (by omega) (show v25 < (12 : Int) by omega) rfl ?_
                    have e63 : 0 ≤ m.2 132 v25 ∧ m.2 132 v25 ≤ 48 := hT.2.1 132 v25
                    refine T_ld 173 (.int (i32 8)) rfl (fun _ => rfl) ?_
                    refine T_icmp 216 176 rfl rfl rfl (r32 (by omega) (by omega)) ⟨by decide, by decide⟩ (fun (h64 : (8 : Int) ≤ (m.2 132) v25) => ?_) (fun (h64 : ¬ ((8 : Int) ≤ (m.2 132) v25)) => ?_)
                    · skip
                      refine T_iinc 219 [(10, .int (i32 (v25 + 1))), (0, .ref 189), (1, .int (i32 j)), (2, .int (i32 n)), (3, .long (i64 p)), (5, .long (i64 q)), (7, .int (i32 v1)), (8, .int (i32 v2)), (9, .int (i32 v3))] rfl rfl (by decide) rfl rfl ?_
                      refine T_goto 146 rfl (fun _ => rfl) ?_
                      refine Tm_lv (a := [(0, .ref 189), (1, .int (i32 j)), (2, .int (i32 n)), (3, .long (i64 p)), (5, .long (i64 q)), (7, .int (i32 v1)), (8, .int (i32 v2)), (9, .int (i32 v3)), (10, .int (i32 (v25 + 1)))]) rfl rfl ⟨rfl, rfl, rfl, rfl, rfl, rfl, rfl, rfl, rfl, trivial⟩ ?_
                      exact ih33 (v25 + 1) (r32 (by omega) (by omega)) (show 0 ≤ (v25 + 1) by omega) (show (v25 + 1) ≤ 12 by omega) (show 0 ≤ (v25 + 1) ∧ (v25 + 1) ≤ 12 by omega) (show 20 - (v25 + 1) < (n32 : Int) by omega)
                    · skip
                      refine T_gf 180 (.ref 287) rfl rfl rfl rfl rfl rfl ?_
                      refine T_ld 182 (.int (i32 v25)) rfl (fun _ => rfl) ?_
                      refine T_lald 183 133 (m.2 133) rfl rfl rfl (by omega) (show v25 < (12 : Int) by omega) rfl ?_
                      have e65 : 0 ≤ m.2 133 v25 ∧ m.2 133 v25 ≤ 60000000 := hT.2.1 133 v25
                      refine T_ld 184 (.ref 189) rfl (fun _ => rfl) ?_
                      refine T_ld 185 (.int (i32 j)) rfl (fun _ => rfl) ?_
                      refine T_call 188 300 [.ref 189, .int (i32 j)] [.long (i64 ((m.2 133) v25))] rfl (fun _ => rfl) rfl (c_memoryOf w (mO m [] []) c N D (by omega) hT j (r32 (by omega) (by omega)) (show 0 ≤ j ∧ j ≤ 47 by omega) (show j < (m.1 27) by omega) (show SpP (m.2 65) (m.1 28) (m.1 99) (m.1 26) (m.1 27) (m.2 60) (m.2 61) (m.2 120) (m.2 121) (m.2 122) (m.2 63) by exact pSp) (show TbP (m.2 65) (m.1 28) (m.1 25) (m.1 26) (m.2 51) (m.2 110) (m.2 111) (m.2 57) (m.2 53) (m.2 114) (m.2 58) (m.2 54) by exact pTb)) (fun rr66 k67 => ?_)
                      obtain ⟨x68, g69, rfl⟩ := k67
                      refine ⟨_, _, rfl, ?_⟩
                      refine T_ns (st' := [.long (i64 x68), .long (i64 ((m.2 133) v25))]) rfl ?_
                      obtain ⟨g69a, g69b⟩ := g69
                      refine T_ladd 189 rfl rfl ?_
                      refine T_lnm (fun z70 h71 => ?_)
                      obtain ⟨h71a, h71b⟩ := h71
                      refine T_ld 190 (.long (i64 p)) rfl (fun _ => rfl) ?_
                      refine T_lcmp 191 rfl rfl (r64 (by omega) (by omega)) (r64 (by omega) (by omega)) (fun z72 h73 => ?_)
                      obtain ⟨h73a, h73b, h73c, h73d, h73e⟩ := h73
                      refine T_if 216 194 rfl rfl rfl (r32 (by omega) (by omega)) (fun (h74 : (0 : Int) < z72) => ?_) (fun (h74 : ¬ ((0 : Int) < z72)) => ?_)
                      · skip
                        have hl75 : z70 > p := by omega
                        refine T_iinc 219 [(10, .int (i32 (v25 + 1))), (0, .ref 189), (1, .int (i32 j)), (2, .int (i32 n)), (3, .long (i64 p)), (5, .long (i64 q)), (7, .int (i32 v1)), (8, .int (i32 v2)), (9, .int (i32 v3))] rfl rfl (by decide) rfl rfl ?_
                        refine T_goto 146 rfl (fun _ => rfl) ?_
                        refine Tm_lv (a := [(0, .ref 189), (1, .int (i32 j)), (2, .int (i32 n)), (3, .long (i64 p)), (5, .long (i64 q)), (7, .int (i32 v1)), (8, .int (i32 v2)), (9, .int (i32 v3)), (10, .int (i32 (v25 + 1)))]) rfl rfl ⟨rfl, rfl, rfl, rfl, rfl, rfl, rfl, rfl, rfl, trivial⟩ ?_
                        exact ih33 (v25 + 1) (r32 (by omega) (by omega)) (show 0 ≤ (v25 + 1) by omega) (show (v25 + 1) ≤ 12 by omega) (show 0 ≤ (v25 + 1) ∧ (v25 + 1) ≤ 12 by omega) (show 20 - (v25 + 1) < (n32 : Int) by omega)
                      · skip
                        have hl76 : z70 ≤ p := by omega
                        refine T_gf 198 (.ref 288) rfl rfl rfl rfl rfl rfl ?_
                        refine T_ld 200 (.int (i32 v25)) rfl (fun _ => rfl) ?_
                        refine T_lald 201 134 (m.2 134) rfl rfl rfl (by omega) (show v25 < (12 : Int) by omega) rfl ?_
                        have e77 : 0 ≤ m.2 134 v25 ∧ m.2 134 v25 ≤ 200000 := hT.2.1 134 v25
                        refine T_ld 202 (.ref 189) rfl (fun _ => rfl) ?_
                        refine T_ld 203 (.int (i32 j)) rfl (fun _ => rfl) ?_
                        refine T_call 206 302 [.ref 189, .int (i32 j)] [.long (i64 ((m.2 134) v25))] rfl (fun _ => rfl) rfl (c_wiresOf w (mO m [] []) c N D (by omega) hT j (r32 (by omega) (by omega)) (show 0 ≤ j ∧ j ≤ 47 by omega) (show j < (m.1 27) by omega) (show SpP (m.2 65) (m.1 28) (m.1 99) (m.1 26) (m.1 27) (m.2 60) (m.2 61) (m.2 120) (m.2 121) (m.2 122) (m.2 63) by exact pSp)) (fun rr78 k79 => ?_)
                        obtain ⟨x80, g81, rfl⟩ := k79
                        refine ⟨_, _, rfl, ?_⟩
                        refine T_ns (st' := [.long (i64 x80), .long (i64 ((m.2 134) v25))]) rfl ?_
                        obtain ⟨g81a, g81b⟩ := g81
                        clear g69a g69b h71a h71b h73a h73b h73c h73d h73e h74 hl76
                        refine T_ladd 207 rfl rfl ?_
                        refine T_lnm (fun z82 h83 => ?_)
                        obtain ⟨h83a, h83b⟩ := h83
                        refine T_ld 209 (.long (i64 q)) rfl (fun _ => rfl) ?_
                        refine T_lcmp 210 rfl rfl (r64 (by omega) (by omega)) (r64 (by omega) (by omega)) (fun z84 h85 => ?_)
                        obtain ⟨h85a, h85b, h85c, h85d, h85e⟩ := h85
                        refine T_if 216 213 rfl rfl rfl (r32 (by omega) (by omega)) (fun (h86 : (0 : Int) < z84) => ?_) (fun (h86 : ¬ ((0 : Int) < z84)) => ?_)
                        · skip
                          have hl87 : z82 > q := by omega
                          refine T_iinc 219 [(10, .int (i32 (v25 + 1))), (0, .ref 189), (1, .int (i32 j)), (2, .int (i32 n)), (3, .long (i64 p)), (5, .long (i64 q)), (7, .int (i32 v1)), (8, .int (i32 v2)), (9, .int (i32 v3))] rfl rfl (by decide) rfl rfl ?_
                          refine T_goto 146 rfl (fun _ => rfl) ?_
                          refine Tm_lv (a := [(0, .ref 189), (1, .int (i32 j)), (2, .int (i32 n)), (3, .long (i64 p)), (5, .long (i64 q)), (7, .int (i32 v1)), (8, .int (i32 v2)), (9, .int (i32 v3)), (10, .int (i32 (v25 + 1)))]) rfl rfl ⟨rfl, rfl, rfl, rfl, rfl, rfl, rfl, rfl, rfl, trivial⟩ ?_
                          exact ih33 (v25 + 1) (r32 (by omega) (by omega)) (show 0 ≤ (v25 + 1) by omega) (show (v25 + 1) ≤ 12 by omega) (show 0 ≤ (v25 + 1) ∧ (v25 + 1) ≤ 12 by omega) (show 20 - (v25 + 1) < (n32 : Int) by omega)
                        · skip
                          have hl88 : z82 ≤ q := by omega
                          refine T_ld 215 (.int (i32 v25)) rfl (fun _ => rfl) ?_
                          refine T_ret rfl (fun _ => rfl) ?_
                          exact ⟨v25, ⟨by omega, by omega⟩, (show v25 < n by omega), (show 0 ≤ v25 → (m.2 132) v25 < 8 by omega), rfl⟩
          refine Tm_lv (a := [(0, .ref 189), (1, .int (i32 j)), (2, .int (i32 n)), (3, .long (i64 p)), (5, .long (i64 q)), (7, .int (i32 v1)), (8, .int (i32 v2)), (9, .int (i32 v3)), (10, .int (i32 v1))]) rfl rfl ⟨rfl, rfl, rfl, rfl, rfl, rfl, rfl, rfl, rfl, trivial⟩ ?_
          exact L146_26 ((20 - v1 : Int) + 1).toNat v1 (r32 (by omega) (by omega)) (show 0 ≤ v1 by omega) (show v1 ≤ 12 by omega) (show 0 ≤ v1 ∧ v1 ≤ 12 by omega) (show 20 - v1 < ((((20 - v1 : Int) + 1).toNat : Nat) : Int) by omega)
        · skip
          refine T_ld 141 (.int (i32 (-1))) rfl (fun _ => rfl) ?_
          refine T_ret rfl (fun _ => rfl) ?_
          exact ⟨(-1), ⟨by omega, by omega⟩, (show (-1 : Int) < n by omega), (show 0 ≤ (-1 : Int) → (m.2 132) (-1 : Int) < 8 by omega), rfl⟩
      · skip
        refine T_gf 22 (.ref 285) rfl rfl rfl rfl rfl rfl ?_
        refine T_ld 24 (.int (i32 v4)) rfl (fun _ => rfl) ?_
        refine T_iald 25 131 (m.2 131) rfl rfl rfl (by omega) (show v4 < (48 : Int) by omega) rfl ?_
        have e89 : 0 ≤ m.2 131 v4 ∧ m.2 131 v4 ≤ 11 := hT.2.1 131 v4
        refine T_sto 27 [(11, .int (i32 ((m.2 131) v4))), (0, .ref 189), (1, .int (i32 j)), (2, .int (i32 n)), (3, .long (i64 p)), (5, .long (i64 q)), (7, .int (i32 v1)), (8, .int (i32 v2)), (9, .int (i32 v3)), (10, .int (i32 v4))] rfl (fun _ => rfl) ?_
        refine T_ld 28 (.ref 189) rfl (fun _ => rfl) ?_
        refine T_ld 30 (.int (i32 v4)) rfl (fun _ => rfl) ?_
        refine T_ld 31 (.int (i32 j)) rfl (fun _ => rfl) ?_
        refine T_call 34 296 [.ref 189, .int (i32 v4), .int (i32 j)] [] rfl (fun _ => rfl) rfl (c_givesTo w (mO m [] []) c N D (by omega) hT v4 j (r32 (by omega) (by omega)) (r32 (by omega) (by omega)) (show 0 ≤ v4 ∧ v4 ≤ 47 by omega) (show 0 ≤ j ∧ j ≤ 47 by omega)) (fun rr90 k91 => ?_)
        obtain ⟨x92, g93, rfl⟩ := k91
        refine ⟨_, _, rfl, ?_⟩
        refine T_ns (st' := [.int (i32 x92)]) rfl ?_
        obtain ⟨g93a, g93b⟩ := g93
        have J70_95 : ∀ (s94 : Int), (R32 s94) → (0 ≤ s94) → (s94 ≤ 12) → TT w D pm_295 (70, [(0, .ref 189), (1, .int (i32 j)), (2, .int (i32 n)), (3, .long (i64 p)), (5, .long (i64 q)), (7, .int (i32 v1)), (8, .int (i32 v2)), (9, .int (i32 v3)), (10, .int (i32 v4)), (11, .int (i32 ((m.2 131) v4)))], [.int (i32 s94)], (mhp (mO m [] []) c, N), 0, 0) (Q_stageFor m c N j n p q) := by
          intro s94 q98 ic96 ic97
          obtain ⟨q98a, q98b⟩ := id q98
          refine T_sto 72 [(12, .int (i32 s94)), (0, .ref 189), (1, .int (i32 j)), (2, .int (i32 n)), (3, .long (i64 p)), (5, .long (i64 q)), (7, .int (i32 v1)), (8, .int (i32 v2)), (9, .int (i32 v3)), (10, .int (i32 v4)), (11, .int (i32 ((m.2 131) v4)))] rfl (fun _ => rfl) ?_
          refine T_ld 74 (.int (i32 s94)) rfl (fun _ => rfl) ?_
          refine T_ld 76 (.int (i32 v1)) rfl (fun _ => rfl) ?_
          have J86_102 : ∀ (s101 : Int), (R32 s101) → (0 ≤ s101) → (s101 ≤ 12) → TT w D pm_295 (86, [(0, .ref 189), (1, .int (i32 j)), (2, .int (i32 n)), (3, .long (i64 p)), (5, .long (i64 q)), (8, .int (i32 v2)), (9, .int (i32 v3)), (10, .int (i32 v4)), (11, .int (i32 ((m.2 131) v4)))], [.int (i32 s101)], (mhp (mO m [] []) c, N), 0, 0) (Q_stageFor m c N j n p q) := by
            intro s101 q105 ic103 ic104
            obtain ⟨q105a, q105b⟩ := id q105
            refine T_sto 88 [(7, .int (i32 s101)), (0, .ref 189), (1, .int (i32 j)), (2, .int (i32 n)), (3, .long (i64 p)), (5, .long (i64 q)), (8, .int (i32 v2)), (9, .int (i32 v3)), (10, .int (i32 v4)), (11, .int (i32 ((m.2 131) v4)))] rfl (fun _ => rfl) ?_
            refine T_ld 89 (.ref 189) rfl (fun _ => rfl) ?_
            refine T_ld 91 (.int (i32 v4)) rfl (fun _ => rfl) ?_
            refine T_ld 92 (.int (i32 j)) rfl (fun _ => rfl) ?_
            refine T_call 95 299 [.ref 189, .int (i32 v4), .int (i32 j)] [] rfl (fun _ => rfl) rfl (c_sharesArray w (mO m [] []) c N D (by omega) hT v4 j (r32 (by omega) (by omega)) (r32 (by omega) (by omega)) (show 0 ≤ v4 ∧ v4 ≤ 47 by omega) (show 0 ≤ j ∧ j ≤ 47 by omega)) (fun rr108 k109 => ?_)
            obtain ⟨x110, g111, rfl⟩ := k109
            refine ⟨_, _, rfl, ?_⟩
            refine T_ns (st' := [.int (i32 x110)]) rfl ?_
            obtain ⟨g111a, g111b⟩ := g111
            clear q16a q16b q16 ic6 ic7 ic13 g93a g93b q98a q98b q98 ic96 ic97
            refine T_if 101 98 rfl rfl rfl (r32 (by omega) (by omega)) (fun (h112 : x110 ≠ 0) => ?_) (fun (h112 : ¬ (x110 ≠ 0)) => ?_)
            · skip
              refine T_ld 103 (.int (i32 v3)) rfl (fun _ => rfl) ?_
              refine T_if 122 106 rfl rfl rfl (r32 (by omega) (by omega)) (fun (h113 : v3 = 0) => ?_) (fun (h113 : ¬ (v3 = 0)) => ?_)
              · skip
                refine T_ld 123 (.int (i32 0)) rfl (fun _ => rfl) ?_
                refine T_sto 125 [(9, .int (i32 0)), (7, .int (i32 s101)), (0, .ref 189), (1, .int (i32 j)), (2, .int (i32 n)), (3, .long (i64 p)), (5, .long (i64 q)), (8, .int (i32 v2)), (10, .int (i32 v4)), (11, .int (i32 ((m.2 131) v4)))] rfl (fun _ => rfl) ?_
                refine T_ld 127 (.int (i32 ((m.2 131) v4))) rfl (fun _ => rfl) ?_
                refine T_sto 129 [(8, .int (i32 ((m.2 131) v4))), (9, .int (i32 0)), (7, .int (i32 s101)), (0, .ref 189), (1, .int (i32 j)), (2, .int (i32 n)), (3, .long (i64 p)), (5, .long (i64 q)), (10, .int (i32 v4)), (11, .int (i32 ((m.2 131) v4)))] rfl (fun _ => rfl) ?_
                refine T_iinc 132 [(10, .int (i32 (v4 + 1))), (8, .int (i32 ((m.2 131) v4))), (9, .int (i32 0)), (7, .int (i32 s101)), (0, .ref 189), (1, .int (i32 j)), (2, .int (i32 n)), (3, .long (i64 p)), (5, .long (i64 q)), (11, .int (i32 ((m.2 131) v4)))] rfl rfl (by decide) rfl rfl ?_
                refine T_goto 12 rfl (fun _ => rfl) ?_
                refine Tm_lv (a := [(0, .ref 189), (1, .int (i32 j)), (2, .int (i32 n)), (3, .long (i64 p)), (5, .long (i64 q)), (7, .int (i32 s101)), (8, .int (i32 ((m.2 131) v4))), (9, .int (i32 0)), (10, .int (i32 (v4 + 1)))]) rfl rfl ⟨rfl, rfl, rfl, rfl, rfl, rfl, rfl, rfl, rfl, trivial⟩ ?_
                exact ih22 s101 ((m.2 131) v4) 0 (v4 + 1) (r32 (by omega) (by omega)) (r32 (by omega) (by omega)) ⟨by decide, by decide⟩ (r32 (by omega) (by omega)) (show 0 ≤ s101 by omega) (show s101 ≤ 12 by omega) (show (-1) ≤ ((m.2 131) v4) by omega) (show ((m.2 131) v4) ≤ 11 by omega) (show (0 : Int) ≤ 1 by omega) (show 0 ≤ (v4 + 1) by omega) (show (v4 + 1) ≤ j by omega) (show 0 ≤ s101 ∧ s101 ≤ 12 by omega) (show (-1) ≤ ((m.2 131) v4) ∧ ((m.2 131) v4) ≤ 11 by omega) (show (0 : Int) = 0 ∨ (0 : Int) = 1 by omega) (show j - (v4 + 1) < (n21 : Int) by omega)
              · skip
                refine T_ld 108 (.int (i32 v2)) rfl (fun _ => rfl) ?_
                refine T_if 118 111 rfl rfl rfl (r32 (by omega) (by omega)) (fun (h114 : v2 < 0) => ?_) (fun (h114 : ¬ (v2 < 0)) => ?_)
                · skip
                  refine T_ld 119 (.int (i32 1)) rfl (fun _ => rfl) ?_
                  refine T_goto 123 rfl (fun _ => rfl) ?_
                  refine T_sto 125 [(9, .int (i32 1)), (7, .int (i32 s101)), (0, .ref 189), (1, .int (i32 j)), (2, .int (i32 n)), (3, .long (i64 p)), (5, .long (i64 q)), (8, .int (i32 v2)), (10, .int (i32 v4)), (11, .int (i32 ((m.2 131) v4)))] rfl (fun _ => rfl) ?_
                  refine T_ld 127 (.int (i32 ((m.2 131) v4))) rfl (fun _ => rfl) ?_
                  refine T_sto 129 [(8, .int (i32 ((m.2 131) v4))), (9, .int (i32 1)), (7, .int (i32 s101)), (0, .ref 189), (1, .int (i32 j)), (2, .int (i32 n)), (3, .long (i64 p)), (5, .long (i64 q)), (10, .int (i32 v4)), (11, .int (i32 ((m.2 131) v4)))] rfl (fun _ => rfl) ?_
                  refine T_iinc 132 [(10, .int (i32 (v4 + 1))), (8, .int (i32 ((m.2 131) v4))), (9, .int (i32 1)), (7, .int (i32 s101)), (0, .ref 189), (1, .int (i32 j)), (2, .int (i32 n)), (3, .long (i64 p)), (5, .long (i64 q)), (11, .int (i32 ((m.2 131) v4)))] rfl rfl (by decide) rfl rfl ?_
                  refine T_goto 12 rfl (fun _ => rfl) ?_
                  refine Tm_lv (a := [(0, .ref 189), (1, .int (i32 j)), (2, .int (i32 n)), (3, .long (i64 p)), (5, .long (i64 q)), (7, .int (i32 s101)), (8, .int (i32 ((m.2 131) v4))), (9, .int (i32 1)), (10, .int (i32 (v4 + 1)))]) rfl rfl ⟨rfl, rfl, rfl, rfl, rfl, rfl, rfl, rfl, rfl, trivial⟩ ?_
                  exact ih22 s101 ((m.2 131) v4) 1 (v4 + 1) (r32 (by omega) (by omega)) (r32 (by omega) (by omega)) ⟨by decide, by decide⟩ (r32 (by omega) (by omega)) (show 0 ≤ s101 by omega) (show s101 ≤ 12 by omega) (show (-1) ≤ ((m.2 131) v4) by omega) (show ((m.2 131) v4) ≤ 11 by omega) (show (1 : Int) ≤ 1 by omega) (show 0 ≤ (v4 + 1) by omega) (show (v4 + 1) ≤ j by omega) (show 0 ≤ s101 ∧ s101 ≤ 12 by omega) (show (-1) ≤ ((m.2 131) v4) ∧ ((m.2 131) v4) ≤ 11 by omega) (show (1 : Int) = 0 ∨ (1 : Int) = 1 by omega) (show j - (v4 + 1) < (n21 : Int) by omega)
                · skip
                  refine T_ld 113 (.int (i32 v2)) rfl (fun _ => rfl) ?_
                  refine T_ld 115 (.int (i32 ((m.2 131) v4))) rfl (fun _ => rfl) ?_
                  refine T_icmp 122 118 rfl rfl rfl (r32 (by omega) (by omega)) (r32 (by omega) (by omega)) (fun (h115 : v2 ≠ (m.2 131) v4) => ?_) (fun (h115 : ¬ (v2 ≠ (m.2 131) v4)) => ?_)
                  · skip
                    refine T_ld 123 (.int (i32 0)) rfl (fun _ => rfl) ?_
                    refine T_sto 125 [(9, .int (i32 0)), (7, .int (i32 s101)), (0, .ref 189), (1, .int (i32 j)), (2, .int (i32 n)), (3, .long (i64 p)), (5, .long (i64 q)), (8, .int (i32 v2)), (10, .int (i32 v4)), (11, .int (i32 ((m.2 131) v4)))] rfl (fun _ => rfl) ?_
                    refine T_ld 127 (.int (i32 ((m.2 131) v4))) rfl (fun _ => rfl) ?_
                    refine T_sto 129 [(8, .int (i32 ((m.2 131) v4))), (9, .int (i32 0)), (7, .int (i32 s101)), (0, .ref 189), (1, .int (i32 j)), (2, .int (i32 n)), (3, .long (i64 p)), (5, .long (i64 q)), (10, .int (i32 v4)), (11, .int (i32 ((m.2 131) v4)))] rfl (fun _ => rfl) ?_
                    refine T_iinc 132 [(10, .int (i32 (v4 + 1))), (8, .int (i32 ((m.2 131) v4))), (9, .int (i32 0)), (7, .int (i32 s101)), (0, .ref 189), (1, .int (i32 j)), (2, .int (i32 n)), (3, .long (i64 p)), (5, .long (i64 q)), (11, .int (i32 ((m.2 131) v4)))] rfl rfl (by decide) rfl rfl ?_
                    refine T_goto 12 rfl (fun _ => rfl) ?_
                    refine Tm_lv (a := [(0, .ref 189), (1, .int (i32 j)), (2, .int (i32 n)), (3, .long (i64 p)), (5, .long (i64 q)), (7, .int (i32 s101)), (8, .int (i32 ((m.2 131) v4))), (9, .int (i32 0)), (10, .int (i32 (v4 + 1)))]) rfl rfl ⟨rfl, rfl, rfl, rfl, rfl, rfl, rfl, rfl, rfl, trivial⟩ ?_
                    exact ih22 s101 ((m.2 131) v4) 0 (v4 + 1) (r32 (by omega) (by omega)) (r32 (by omega) (by omega)) ⟨by decide, by decide⟩ (r32 (by omega) (by omega)) (show 0 ≤ s101 by omega) (show s101 ≤ 12 by omega) (show (-1) ≤ ((m.2 131) v4) by omega) (show ((m.2 131) v4) ≤ 11 by omega) (show (0 : Int) ≤ 1 by omega) (show 0 ≤ (v4 + 1) by omega) (show (v4 + 1) ≤ j by omega) (show 0 ≤ s101 ∧ s101 ≤ 12 by omega) (show (-1) ≤ ((m.2 131) v4) ∧ ((m.2 131) v4) ≤ 11 by omega) (show (0 : Int) = 0 ∨ (0 : Int) = 1 by omega) (show j - (v4 + 1) < (n21 : Int) by omega)
                  · skip
                    refine T_ld 119 (.int (i32 1)) rfl (fun _ => rfl) ?_
                    refine T_goto 123 rfl (fun _ => rfl) ?_
                    refine T_sto 125 [(9, .int (i32 1)), (7, .int (i32 s101)), (0, .ref 189), (1, .int (i32 j)), (2, .int (i32 n)), (3, .long (i64 p)), (5, .long (i64 q)), (8, .int (i32 v2)), (10, .int (i32 v4)), (11, .int (i32 ((m.2 131) v4)))] rfl (fun _ => rfl) ?_
                    refine T_ld 127 (.int (i32 ((m.2 131) v4))) rfl (fun _ => rfl) ?_
                    refine T_sto 129 [(8, .int (i32 ((m.2 131) v4))), (9, .int (i32 1)), (7, .int (i32 s101)), (0, .ref 189), (1, .int (i32 j)), (2, .int (i32 n)), (3, .long (i64 p)), (5, .long (i64 q)), (10, .int (i32 v4)), (11, .int (i32 ((m.2 131) v4)))] rfl (fun _ => rfl) ?_
                    refine T_iinc 132 [(10, .int (i32 (v4 + 1))), (8, .int (i32 ((m.2 131) v4))), (9, .int (i32 1)), (7, .int (i32 s101)), (0, .ref 189), (1, .int (i32 j)), (2, .int (i32 n)), (3, .long (i64 p)), (5, .long (i64 q)), (11, .int (i32 ((m.2 131) v4)))] rfl rfl (by decide) rfl rfl ?_
                    refine T_goto 12 rfl (fun _ => rfl) ?_
                    refine Tm_lv (a := [(0, .ref 189), (1, .int (i32 j)), (2, .int (i32 n)), (3, .long (i64 p)), (5, .long (i64 q)), (7, .int (i32 s101)), (8, .int (i32 ((m.2 131) v4))), (9, .int (i32 1)), (10, .int (i32 (v4 + 1)))]) rfl rfl ⟨rfl, rfl, rfl, rfl, rfl, rfl, rfl, rfl, rfl, trivial⟩ ?_
                    exact ih22 s101 ((m.2 131) v4) 1 (v4 + 1) (r32 (by omega) (by omega)) (r32 (by omega) (by omega)) ⟨by decide, by decide⟩ (r32 (by omega) (by omega)) (show 0 ≤ s101 by omega) (show s101 ≤ 12 by omega) (show (-1) ≤ ((m.2 131) v4) by omega) (show ((m.2 131) v4) ≤ 11 by omega) (show (1 : Int) ≤ 1 by omega) (show 0 ≤ (v4 + 1) by omega) (show (v4 + 1) ≤ j by omega) (show 0 ≤ s101 ∧ s101 ≤ 12 by omega) (show (-1) ≤ ((m.2 131) v4) ∧ ((m.2 131) v4) ≤ 11 by omega) (show (1 : Int) = 0 ∨ (1 : Int) = 1 by omega) (show j - (v4 + 1) < (n21 : Int) by omega)
            · skip
              refine T_goto 129 rfl (fun _ => rfl) ?_
              refine T_iinc 132 [(10, .int (i32 (v4 + 1))), (7, .int (i32 s101)), (0, .ref 189), (1, .int (i32 j)), (2, .int (i32 n)), (3, .long (i64 p)), (5, .long (i64 q)), (8, .int (i32 v2)), (9, .int (i32 v3)), (11, .int (i32 ((m.2 131) v4)))] rfl rfl (by decide) rfl rfl ?_
              refine T_goto 12 rfl (fun _ => rfl) ?_
              refine Tm_lv (a := [(0, .ref 189), (1, .int (i32 j)), (2, .int (i32 n)), (3, .long (i64 p)), (5, .long (i64 q)), (7, .int (i32 s101)), (8, .int (i32 v2)), (9, .int (i32 v3)), (10, .int (i32 (v4 + 1)))]) rfl rfl ⟨rfl, rfl, rfl, rfl, rfl, rfl, rfl, rfl, rfl, trivial⟩ ?_
              exact ih22 s101 v2 v3 (v4 + 1) (r32 (by omega) (by omega)) (r32 (by omega) (by omega)) (r32 (by omega) (by omega)) (r32 (by omega) (by omega)) (show 0 ≤ s101 by omega) (show s101 ≤ 12 by omega) (show (-1) ≤ v2 by omega) (show v2 ≤ 11 by omega) (show v3 ≤ 1 by omega) (show 0 ≤ (v4 + 1) by omega) (show (v4 + 1) ≤ j by omega) (show 0 ≤ s101 ∧ s101 ≤ 12 by omega) (show (-1) ≤ v2 ∧ v2 ≤ 11 by omega) (show v3 = 0 ∨ v3 = 1 by omega) (show j - (v4 + 1) < (n21 : Int) by omega)
          refine T_icmp 84 79 rfl rfl rfl (r32 (by omega) (by omega)) (r32 (by omega) (by omega)) (fun (h116 : s94 ≤ v1) => ?_) (fun (h116 : ¬ (s94 ≤ v1)) => ?_)
          · skip
            refine T_ld 86 (.int (i32 v1)) rfl (fun _ => rfl) ?_
            refine Tm_lv (a := [(0, .ref 189), (1, .int (i32 j)), (2, .int (i32 n)), (3, .long (i64 p)), (5, .long (i64 q)), (8, .int (i32 v2)), (9, .int (i32 v3)), (10, .int (i32 v4)), (11, .int (i32 ((m.2 131) v4)))]) rfl rfl ⟨rfl, rfl, rfl, rfl, rfl, rfl, rfl, rfl, rfl, trivial⟩ ?_
            exact J86_102 v1 (r32 (by omega) (by omega)) (show 0 ≤ v1 by omega) (show v1 ≤ 12 by omega)
          · skip
            refine T_ld 81 (.int (i32 s94)) rfl (fun _ => rfl) ?_
            refine T_goto 86 rfl (fun _ => rfl) ?_
            refine Tm_lv (a := [(0, .ref 189), (1, .int (i32 j)), (2, .int (i32 n)), (3, .long (i64 p)), (5, .long (i64 q)), (8, .int (i32 v2)), (9, .int (i32 v3)), (10, .int (i32 v4)), (11, .int (i32 ((m.2 131) v4)))]) rfl rfl ⟨rfl, rfl, rfl, rfl, rfl, rfl, rfl, rfl, rfl, trivial⟩ ?_
            exact J86_102 s94 (r32 (by omega) (by omega)) (show 0 ≤ s94 by omega) (show s94 ≤ 12 by omega)
        refine T_if 47 37 rfl rfl rfl (r32 (by omega) (by omega)) (fun (h117 : x92 ≠ 0) => ?_) (fun (h117 : ¬ (x92 ≠ 0)) => ?_)
        · skip
          refine T_ld 49 (.int (i32 ((m.2 131) v4))) rfl (fun _ => rfl) ?_
          refine T_ld 50 (.int (i32 1)) rfl (fun _ => rfl) ?_
          refine T_iadd 51 rfl rfl ?_
          refine T_goto 70 rfl (fun _ => rfl) ?_
          refine Tm_lv (a := [(0, .ref 189), (1, .int (i32 j)), (2, .int (i32 n)), (3, .long (i64 p)), (5, .long (i64 q)), (7, .int (i32 v1)), (8, .int (i32 v2)), (9, .int (i32 v3)), (10, .int (i32 v4)), (11, .int (i32 ((m.2 131) v4)))]) rfl rfl ⟨rfl, rfl, rfl, rfl, rfl, rfl, rfl, rfl, rfl, rfl, trivial⟩ ?_
          exact J70_95 (((m.2 131) v4) + 1) (r32 (by omega) (by omega)) (show 0 ≤ (((m.2 131) v4) + 1) by omega) (show (((m.2 131) v4) + 1) ≤ 12 by omega)
        · skip
          refine T_ld 38 (.ref 189) rfl (fun _ => rfl) ?_
          refine T_ld 39 (.int (i32 j)) rfl (fun _ => rfl) ?_
          refine T_ld 41 (.int (i32 v4)) rfl (fun _ => rfl) ?_
          refine T_call 44 297 [.ref 189, .int (i32 j), .int (i32 v4)] [] rfl (fun _ => rfl) rfl (c_isWithin w (mO m [] []) c N D (by omega) hT j v4 (r32 (by omega) (by omega)) (r32 (by omega) (by omega)) (show 0 ≤ j ∧ j ≤ 47 by omega) (show j < (m.1 27) by omega) (show SpP (m.2 65) (m.1 28) (m.1 99) (m.1 26) (m.1 27) (m.2 60) (m.2 61) (m.2 120) (m.2 121) (m.2 122) (m.2 63) by exact pSp)) (fun rr118 k119 => ?_)
          obtain ⟨x120, g121, rfl⟩ := k119
          refine ⟨_, _, rfl, ?_⟩
          refine T_ns (st' := [.int (i32 x120)]) rfl ?_
          obtain ⟨g121a, g121b⟩ := g121
          clear g93a g93b h117
          refine T_if 54 47 rfl rfl rfl (r32 (by omega) (by omega)) (fun (h122 : x120 = 0) => ?_) (fun (h122 : ¬ (x120 = 0)) => ?_)
          · skip
            refine T_ld 55 (.ref 189) rfl (fun _ => rfl) ?_
            refine T_ld 57 (.int (i32 v4)) rfl (fun _ => rfl) ?_
            refine T_ld 58 (.int (i32 j)) rfl (fun _ => rfl) ?_
            refine T_call 61 298 [.ref 189, .int (i32 v4), .int (i32 j)] [] rfl (fun _ => rfl) rfl (c_readsAhead w (mO m [] []) c N D (by omega) hT v4 j (r32 (by omega) (by omega)) (r32 (by omega) (by omega)) (show 0 ≤ v4 ∧ v4 ≤ 47 by omega) (show 0 ≤ j ∧ j ≤ 47 by omega)) (fun rr123 k124 => ?_)
            obtain ⟨x125, g126, rfl⟩ := k124
            refine ⟨_, _, rfl, ?_⟩
            refine T_ns (st' := [.int (i32 x125)]) rfl ?_
            obtain ⟨g126a, g126b⟩ := g126
            clear g121a g121b h122
            refine T_if 69 64 rfl rfl rfl (r32 (by omega) (by omega)) (fun (h127 : x125 = 0) => ?_) (fun (h127 : ¬ (x125 = 0)) => ?_)
            · skip
              refine T_ld 70 (.int (i32 0)) rfl (fun _ => rfl) ?_
              refine Tm_lv (a := [(0, .ref 189), (1, .int (i32 j)), (2, .int (i32 n)), (3, .long (i64 p)), (5, .long (i64 q)), (7, .int (i32 v1)), (8, .int (i32 v2)), (9, .int (i32 v3)), (10, .int (i32 v4)), (11, .int (i32 ((m.2 131) v4)))]) rfl rfl ⟨rfl, rfl, rfl, rfl, rfl, rfl, rfl, rfl, rfl, rfl, trivial⟩ ?_
              exact J70_95 0 ⟨by decide, by decide⟩ (show 0 ≤ (0 : Int) by omega) (show (0 : Int) ≤ 12 by omega)
            · skip
              refine T_ld 66 (.int (i32 ((m.2 131) v4))) rfl (fun _ => rfl) ?_
              refine T_goto 70 rfl (fun _ => rfl) ?_
              refine Tm_lv (a := [(0, .ref 189), (1, .int (i32 j)), (2, .int (i32 n)), (3, .long (i64 p)), (5, .long (i64 q)), (7, .int (i32 v1)), (8, .int (i32 v2)), (9, .int (i32 v3)), (10, .int (i32 v4)), (11, .int (i32 ((m.2 131) v4)))]) rfl rfl ⟨rfl, rfl, rfl, rfl, rfl, rfl, rfl, rfl, rfl, rfl, trivial⟩ ?_
              exact J70_95 ((m.2 131) v4) (r32 (by omega) (by omega)) (show 0 ≤ ((m.2 131) v4) by omega) (show ((m.2 131) v4) ≤ 12 by omega)
          · skip
            refine T_ld 49 (.int (i32 ((m.2 131) v4))) rfl (fun _ => rfl) ?_
            refine T_ld 50 (.int (i32 1)) rfl (fun _ => rfl) ?_
            refine T_iadd 51 rfl rfl ?_
            refine T_goto 70 rfl (fun _ => rfl) ?_
            refine Tm_lv (a := [(0, .ref 189), (1, .int (i32 j)), (2, .int (i32 n)), (3, .long (i64 p)), (5, .long (i64 q)), (7, .int (i32 v1)), (8, .int (i32 v2)), (9, .int (i32 v3)), (10, .int (i32 v4)), (11, .int (i32 ((m.2 131) v4)))]) rfl rfl ⟨rfl, rfl, rfl, rfl, rfl, rfl, rfl, rfl, rfl, rfl, trivial⟩ ?_
            exact J70_95 (((m.2 131) v4) + 1) (r32 (by omega) (by omega)) (show 0 ≤ (((m.2 131) v4) + 1) by omega) (show (((m.2 131) v4) + 1) ≤ 12 by omega)
  refine Tm_lv (a := [(0, .ref 189), (1, .int (i32 j)), (2, .int (i32 n)), (3, .long (i64 p)), (5, .long (i64 q)), (7, .int (i32 0)), (8, .int (i32 (-1))), (9, .int (i32 1)), (10, .int (i32 0))]) rfl rfl ⟨rfl, rfl, rfl, rfl, rfl, rfl, rfl, rfl, rfl, trivial⟩ ?_
  exact L12_5 ((j - (0 : Int) : Int) + 1).toNat 0 (-1) 1 0 ⟨by decide, by decide⟩ ⟨by decide, by decide⟩ ⟨by decide, by decide⟩ ⟨by decide, by decide⟩ (show 0 ≤ (0 : Int) by omega) (show (0 : Int) ≤ 12 by omega) (show (-1) ≤ (-1 : Int) by omega) (show (-1 : Int) ≤ 11 by omega) (show (1 : Int) ≤ 1 by omega) (show 0 ≤ (0 : Int) by omega) (show (0 : Int) ≤ j by omega) (show 0 ≤ (0 : Int) ∧ (0 : Int) ≤ 12 by omega) (show (-1) ≤ (-1 : Int) ∧ (-1 : Int) ≤ 11 by omega) (show (1 : Int) = 0 ∨ (1 : Int) = 1 by omega) (show j - (0 : Int) < ((((j - (0 : Int) : Int) + 1).toNat : Nat) : Int) by omega)
def fF_lay : List Nat := [1, 128, 129, 130]
def fA_lay : List Nat := [131, 132, 133, 134, 135, 136, 137]
def Q_lay (m : mR) (c : Nat → Option am_C) (N : Nat) (a : Int) (b : Int) (d : Int) : ag_Re af_T → Prop := fun R => ∃ (M : mR) (r : Int), Ty M ∧ fr fF_lay fA_lay m M ∧ (0 ≤ r ∧ r ≤ 12) ∧ ((M.1 128) = 1 → (m.1 127) = 1) ∧ R = (.inl (some (.int (i32 r))), (mhp M c, N), 0, 0)
set_option maxHeartbeats 3000000 in
theorem c_lay (w : wX) (m : mR) (c : Nat → Option am_C) (N D : Nat) (hD : 5 ≤ D) (hT : Ty m) (a : Int) (b : Int) (d : Int) (qa : R32 a) (qb : R32 b) (qd : R32 d) (wCN : (m.1 127) = 1 → CN (m.2 65) (m.2 67) (m.1 28)) (wSO : (m.1 127) = 1 → SOp (m.2 38) (m.1 23) (m.1 24)) (wSt : (m.1 127) = 1 → StP (m.2 65) (m.1 28) (m.1 23) (m.1 24) (m.2 42) (m.2 95) (m.2 96) (m.2 44) (m.2 45)) (wTd : (m.1 127) = 1 → TdP (m.2 65) (m.1 28) (m.1 22) (m.1 99) (m.2 101) (m.2 103) (m.2 105) (m.2 106) (m.2 107) (m.2 108)) (wAc : (m.1 127) = 1 → AcP (m.1 25) (m.1 99) (m.2 109) (m.2 50)) (wTb : (m.1 127) = 1 → TbP (m.2 65) (m.1 28) (m.1 25) (m.1 26) (m.2 51) (m.2 110) (m.2 111) (m.2 57) (m.2 53) (m.2 114) (m.2 58) (m.2 54)) (wIN : (m.1 127) = 1 → ∀ k, 0 ≤ k → k < (m.1 20) → (m.2 34) k < (m.1 19)) (wHO : (m.1 127) = 1 → ∀ g, 0 ≤ g → g < (m.1 19) → (m.2 30) g ≤ 512) (wAR : (m.1 127) = 1 → ∀ k, 0 ≤ k → k < (m.1 22) → 1 ≤ (m.2 93) k ∧ 1 ≤ (m.2 36) k) (wSp : (m.1 127) = 1 → SpP (m.2 65) (m.1 28) (m.1 99) (m.1 26) (m.1 27) (m.2 60) (m.2 61) (m.2 120) (m.2 121) (m.2 122) (m.2 63)) (wEM : (m.1 127) = 1 → ∀ j, 0 ≤ j → j < (m.1 125) → (m.2 124) j < (m.1 20)) (wNA : (m.1 127) = 1 → ∀ q, 0 ≤ q → q < (m.1 24) → 0 < (m.2 41) q ∨ NR (m.2 44) (m.2 38) (m.2 42) (m.2 45) (m.2 41) (m.1 24) q) (p12 : (m.1 127) = 0 ∨ (m.1 127) = 1) (p13 : (m.1 128) = 1 → (m.1 127) = 1) : TC w D 289 [.ref 189, .int (i32 a), .int (i32 b), .int (i32 d)] (mhp m c, N) (Q_lay m c N a b d) := by
  obtain ⟨D, rfl⟩ : ∃ k, D = k + 1 := ⟨D - 1, by omega⟩
  obtain ⟨qaa, qab⟩ := id qa
  obtain ⟨qba, qbb⟩ := id qb
  obtain ⟨qda, qdb⟩ := id qd
  have f1 : 0 ≤ m.1 1 ∧ m.1 1 ≤ 3 := hT.1 1
  have f128 : 0 ≤ m.1 128 ∧ m.1 128 ≤ 1 := hT.1 128
  have f129 : 0 ≤ m.1 129 ∧ m.1 129 ≤ 12 := hT.1 129
  have f25 : 0 ≤ m.1 25 ∧ m.1 25 ≤ 16 := hT.1 25
  have f22 : 0 ≤ m.1 22 ∧ m.1 22 ≤ 8 := hT.1 22
  have f24 : 0 ≤ m.1 24 ∧ m.1 24 ≤ 16 := hT.1 24
  have f125 : 0 ≤ m.1 125 ∧ m.1 125 ≤ 12 := hT.1 125
  have f19 : 0 ≤ m.1 19 ∧ m.1 19 ≤ 12 := hT.1 19
  have f20 : 0 ≤ m.1 20 ∧ m.1 20 ≤ 12 := hT.1 20
  have f127 : 0 ≤ m.1 127 ∧ m.1 127 ≤ 1 := hT.1 127
  have f28 : 0 ≤ m.1 28 ∧ m.1 28 ≤ 800 := hT.1 28
  have f23 : 0 ≤ m.1 23 ∧ m.1 23 ≤ 16 := hT.1 23
  have f27 : 0 ≤ m.1 27 ∧ m.1 27 ≤ 48 := hT.1 27
  have f26 : 0 ≤ m.1 26 ∧ m.1 26 ≤ 8 := hT.1 26
  have f99 : 0 ≤ m.1 99 ∧ m.1 99 ≤ 240 := hT.1 99
  refine Tc_of rfl ?_
  show TT w D pm_289 (0, [(0, .ref 189), (1, .int (i32 a)), (2, .int (i32 b)), (3, .int (i32 d))], [], (mhp (mO m [] []) c, N), 0, 0) (Q_lay m c N a b d)
  refine T_ld 1 (.ref 189) rfl (fun _ => rfl) ?_
  refine T_gf 5 (.int (i32 (m.1 127))) rfl rfl rfl rfl rfl rfl ?_
  refine T_if 15 8 rfl rfl rfl (r32 (by omega) (by omega)) (fun (h1 : (m.1 127) = 0) => ?_) (fun (h1 : ¬ ((m.1 127) = 0)) => ?_)
  · skip
    refine T_ld 16 (.int (i32 1)) rfl (fun _ => rfl) ?_
    refine T_goto 43 rfl (fun _ => rfl) ?_
    refine T_pf (l' := [(1, 1)]) 46 1 rfl rfl rfl rfl rfl rfl ?_
    refine T_gf 50 (.int (i32 1)) rfl rfl rfl rfl rfl rfl ?_
    refine T_if 55 53 rfl rfl rfl ⟨by decide, by decide⟩ (fun h2 => absurd (show (1 : Int) ≤ 0 from h2) (by decide)) (fun _ => ?_)
    refine T_ld 54 (.int (i32 0)) rfl (fun _ => rfl) ?_
    refine T_ret rfl (fun _ => rfl) ?_
    exact ⟨(mO m [(1, 1)] []), 0, (Ty_mO hT rfl rfl ⟨⟨(by omega : (0 : Int) ≤ 1), (by omega : (1 : Int) ≤ 3)⟩, trivial⟩ trivial), (fr_m fr_0 rfl rfl), ⟨by omega, by omega⟩, (show (m.1 128) = 1 → (m.1 127) = 1 by omega), rfl⟩
  · skip
    refine T_gf 12 (.int (i32 (m.1 128))) rfl rfl rfl rfl rfl rfl ?_
    refine T_if 19 15 rfl rfl rfl (r32 (by omega) (by omega)) (fun (h3 : (m.1 128) = 0) => ?_) (fun (h3 : ¬ ((m.1 128) = 0)) => ?_)
    · skip
      refine T_ld 20 (.int (i32 a)) rfl (fun _ => rfl) ?_
      refine T_ld 21 (.int (i32 1)) rfl (fun _ => rfl) ?_
      refine T_icmp 38 24 rfl rfl rfl (r32 (by omega) (by omega)) ⟨by decide, by decide⟩ (fun (h4 : a < 1) => ?_) (fun (h4 : ¬ (a < 1)) => ?_)
      · skip
        refine T_ld 39 (.int (i32 2)) rfl (fun _ => rfl) ?_
        refine T_goto 43 rfl (fun _ => rfl) ?_
        refine T_pf (l' := [(1, 2)]) 46 2 rfl rfl rfl rfl rfl rfl ?_
        refine T_gf 50 (.int (i32 2)) rfl rfl rfl rfl rfl rfl ?_
        refine T_if 55 53 rfl rfl rfl ⟨by decide, by decide⟩ (fun h5 => absurd (show (2 : Int) ≤ 0 from h5) (by decide)) (fun _ => ?_)
        refine T_ld 54 (.int (i32 0)) rfl (fun _ => rfl) ?_
        refine T_ret rfl (fun _ => rfl) ?_
        exact ⟨(mO m [(1, 2)] []), 0, (Ty_mO hT rfl rfl ⟨⟨(by omega : (0 : Int) ≤ 2), (by omega : (2 : Int) ≤ 3)⟩, trivial⟩ trivial), (fr_m fr_0 rfl rfl), ⟨by omega, by omega⟩, (show (m.1 128) = 1 → (m.1 127) = 1 by omega), rfl⟩
      · skip
        refine T_ld 25 (.int (i32 a)) rfl (fun _ => rfl) ?_
        refine T_ld 27 (.int (i32 12)) rfl (fun _ => rfl) ?_
        refine T_icmp 38 30 rfl rfl rfl (r32 (by omega) (by omega)) ⟨by decide, by decide⟩ (fun (h6 : (12 : Int) < a) => ?_) (fun (h6 : ¬ ((12 : Int) < a)) => ?_)
        · skip
          refine T_ld 39 (.int (i32 2)) rfl (fun _ => rfl) ?_
          refine T_goto 43 rfl (fun _ => rfl) ?_
          refine T_pf (l' := [(1, 2)]) 46 2 rfl rfl rfl rfl rfl rfl ?_
          refine T_gf 50 (.int (i32 2)) rfl rfl rfl rfl rfl rfl ?_
          refine T_if 55 53 rfl rfl rfl ⟨by decide, by decide⟩ (fun h7 => absurd (show (2 : Int) ≤ 0 from h7) (by decide)) (fun _ => ?_)
          refine T_ld 54 (.int (i32 0)) rfl (fun _ => rfl) ?_
          refine T_ret rfl (fun _ => rfl) ?_
          exact ⟨(mO m [(1, 2)] []), 0, (Ty_mO hT rfl rfl ⟨⟨(by omega : (0 : Int) ≤ 2), (by omega : (2 : Int) ≤ 3)⟩, trivial⟩ trivial), (fr_m fr_0 rfl rfl), ⟨by omega, by omega⟩, (show (m.1 128) = 1 → (m.1 127) = 1 by omega), rfl⟩
        · skip
          refine T_ld 31 (.int (i32 b)) rfl (fun _ => rfl) ?_
          refine T_if 38 34 rfl rfl rfl (r32 (by omega) (by omega)) (fun (h8 : b < 0) => ?_) (fun (h8 : ¬ (b < 0)) => ?_)
          · skip
            refine T_ld 39 (.int (i32 2)) rfl (fun _ => rfl) ?_
            refine T_goto 43 rfl (fun _ => rfl) ?_
            refine T_pf (l' := [(1, 2)]) 46 2 rfl rfl rfl rfl rfl rfl ?_
            refine T_gf 50 (.int (i32 2)) rfl rfl rfl rfl rfl rfl ?_
            refine T_if 55 53 rfl rfl rfl ⟨by decide, by decide⟩ (fun h9 => absurd (show (2 : Int) ≤ 0 from h9) (by decide)) (fun _ => ?_)
            refine T_ld 54 (.int (i32 0)) rfl (fun _ => rfl) ?_
            refine T_ret rfl (fun _ => rfl) ?_
            exact ⟨(mO m [(1, 2)] []), 0, (Ty_mO hT rfl rfl ⟨⟨(by omega : (0 : Int) ≤ 2), (by omega : (2 : Int) ≤ 3)⟩, trivial⟩ trivial), (fr_m fr_0 rfl rfl), ⟨by omega, by omega⟩, (show (m.1 128) = 1 → (m.1 127) = 1 by omega), rfl⟩
          · skip
            refine T_ld 35 (.int (i32 d)) rfl (fun _ => rfl) ?_
            refine T_if 42 38 rfl rfl rfl (r32 (by omega) (by omega)) (fun (h10 : (0 : Int) ≤ d) => ?_) (fun (h10 : ¬ ((0 : Int) ≤ d)) => ?_)
            · skip
              refine T_ld 43 (.int (i32 0)) rfl (fun _ => rfl) ?_
              refine T_pf (l' := [(1, 0)]) 46 0 rfl rfl rfl rfl rfl rfl ?_
              refine T_gf 50 (.int (i32 0)) rfl rfl rfl rfl rfl rfl ?_
              refine T_if 55 53 rfl rfl rfl ⟨by decide, by decide⟩ (fun _ => ?_) (fun h11 => absurd (show (0 : Int) ≤ 0 by decide) h11)
              have hCN := wCN (by omega)
              have pSO := wSO (by omega)
              have pSt := wSt (by omega)
              have pTd := wTd (by omega)
              have pAc := wAc (by omega)
              have pTb := wTb (by omega)
              have pIN := wIN (by omega)
              have pHO := wHO (by omega)
              have pAR := wAR (by omega)
              have pSp := wSp (by omega)
              have hEM := wEM (by omega)
              have hNA := wNA (by omega)
              refine T_ld 56 (.ref 189) rfl (fun _ => rfl) ?_
              refine T_ld 57 (.int (i32 (-1))) rfl (fun _ => rfl) ?_
              refine T_pf (l' := [(1, 0), (130, (-1))]) 60 (-1) rfl rfl rfl rfl rfl rfl ?_
              refine T_ld 61 (.ref 189) rfl (fun _ => rfl) ?_
              refine T_call 64 290 [.ref 189] [] rfl (fun _ => rfl) rfl (c_touchesAll w (mO m [(1, 0), (130, (-1))] []) c N D (by omega) (Ty_mO hT rfl rfl ⟨⟨(by omega : (0 : Int) ≤ 0), (by omega : (0 : Int) ≤ 3)⟩, ⟨(by omega : ((-1) : Int) ≤ (-1)), (by omega : ((-1) : Int) ≤ 47)⟩, trivial⟩ trivial) (show CN (m.2 65) (m.2 67) (m.1 28) by exact hCN) (show TdP (m.2 65) (m.1 28) (m.1 22) (m.1 99) (m.2 101) (m.2 103) (m.2 105) (m.2 106) (m.2 107) (m.2 108) by exact pTd) (show AcP (m.1 25) (m.1 99) (m.2 109) (m.2 50) by exact pAc) (show TbP (m.2 65) (m.1 28) (m.1 25) (m.1 26) (m.2 51) (m.2 110) (m.2 111) (m.2 57) (m.2 53) (m.2 114) (m.2 58) (m.2 54) by exact pTb) (show SpP (m.2 65) (m.1 28) (m.1 99) (m.1 26) (m.1 27) (m.2 60) (m.2 61) (m.2 120) (m.2 121) (m.2 122) (m.2 63) by exact pSp)) (fun rr12 k13 => ?_)
              obtain ⟨m14, Tm14, Fm14, rfl⟩ := k13
              refine ⟨_, _, rfl, ?_⟩
              refine T_nb (st' := []) rfl ?_
              refine T_ld 65 (.int (i32 0)) rfl (fun _ => rfl) ?_
              refine T_sto 67 [(4, .int (i32 0)), (0, .ref 189), (1, .int (i32 a)), (2, .int (i32 b)), (3, .int (i32 d))] rfl (fun _ => rfl) ?_
              have L67_17 : ∀ (n25 : Nat) (v15 : Int) (m16 : mR), (R32 v15) → Ty m16 → fr [] [132, 133, 134] (mO m14 [] []) m16 → (0 ≤ v15) → (v15 ≤ 12) → (∀ k, 0 ≤ k → k < v15 → (m16.2 133) k = 0) → (∀ k, 0 ≤ k → k < v15 → (m16.2 134) k = 0) → 12 - v15 < (n25 : Int) → TT w D pm_289 (67, [(0, .ref 189), (1, .int (i32 a)), (2, .int (i32 b)), (3, .int (i32 d)), (4, .int (i32 v15))], [], (mhp (mO m16 [] []) c, N), 0, 0) (Q_lay m c N a b d) := by
                intro n25
                induction n25 with
                | zero =>
                  intro v15 m16 q22 Tm16 Fm16 ic18 ic19 ic20 ic21 hmu
                  obtain ⟨q22a, q22b⟩ := id q22
                  have hz1 := ic20
                  have hz2 := ic21
                  exfalso
                  omega
                | succ n25 ih =>
                  intro v15 m16 q22 Tm16 Fm16 ic18 ic19 ic20 ic21 hmu
                  obtain ⟨q22a, q22b⟩ := id q22
                  have hz1 := ic20
                  have hz2 := ic21
                  have ih26 := ih
                  refine T_ld 69 (.int (i32 v15)) rfl (fun _ => rfl) ?_
                  refine T_ld 71 (.int (i32 12)) rfl (fun _ => rfl) ?_
                  refine T_icmp 104 74 rfl rfl rfl (r32 (by omega) (by omega)) ⟨by decide, by decide⟩ (fun (h27 : (12 : Int) ≤ v15) => ?_) (fun (h27 : ¬ ((12 : Int) ≤ v15)) => ?_)
                  · skip
                    refine T_ld 105 (.ref 189) rfl (fun _ => rfl) ?_
                    refine T_ld 106 (.int (i32 1)) rfl (fun _ => rfl) ?_
                    refine T_pf (l' := [(129, 1)]) 109 1 rfl rfl rfl rfl rfl rfl ?_
                    refine T_ld 110 (.int (i32 0)) rfl (fun _ => rfl) ?_
                    refine T_sto 112 [(4, .int (i32 0)), (0, .ref 189), (1, .int (i32 a)), (2, .int (i32 b)), (3, .int (i32 d))] rfl (fun _ => rfl) ?_
                    refine T_fl (Ty_mO Tm16 rfl rfl ⟨⟨(by omega : (0 : Int) ≤ 1), (by omega : (1 : Int) ≤ 12)⟩, trivial⟩ trivial) (fun m28 Tm28 Fm28 => ?_)
                    have L112_31 : ∀ (n40 : Nat) (v29 : Int) (m30 : mR), (R32 v29) → Ty m30 → fr [129] [131, 132, 133, 134] (mO m28 [] []) m30 → (0 ≤ v29) → (v29 ≤ (m.1 27)) → (∀ k, 0 ≤ k → k < 12 → (m30.2 133) k ≤ 1200000 * v29) → (∀ k, 0 ≤ k → k < 12 → (m30.2 134) k ≤ 4096 * v29) → (1 ≤ (m30.1 129)) → (m.1 27) - v29 < (n40 : Int) → TT w D pm_289 (112, [(0, .ref 189), (1, .int (i32 a)), (2, .int (i32 b)), (3, .int (i32 d)), (4, .int (i32 v29))], [], (mhp (mO m30 [] []) c, N), 0, 0) (Q_lay m c N a b d) := by
                      intro n40
                      induction n40 with
                      | zero =>
                        intro v29 m30 q37 Tm30 Fm30 ic32 ic33 ic34 ic35 ic36 hmu
                        obtain ⟨q37a, q37b⟩ := id q37
                        have q38_129 : 0 ≤ m30.1 129 ∧ m30.1 129 ≤ 12 := Tm30.1 129
                        have hz1 := ic34
                        have hz2 := ic35
                        exfalso
                        omega
                      | succ n40 ih =>
                        intro v29 m30 q37 Tm30 Fm30 ic32 ic33 ic34 ic35 ic36 hmu
                        obtain ⟨q37a, q37b⟩ := id q37
                        have q38_129 : 0 ≤ m30.1 129 ∧ m30.1 129 ≤ 12 := Tm30.1 129
                        have hz1 := ic34
                        have hz2 := ic35
                        have ih41 := ih
                        refine T_ld 114 (.int (i32 v29)) rfl (fun _ => rfl) ?_
                        refine T_gf 118 (.int (i32 (m.1 27))) rfl rfl rfl rfl (mfv_c (F := fun x => .int (i32 x)) rfl (show (m30.1 27) = (m.1 27) from ((fr1 Fm30 27 rfl).trans ((fr1 Fm28 27 rfl).trans ((fr1 Fm16 27 rfl).trans (fr1 Fm14 27 rfl)))))) rfl ?_
                        refine T_icmp 236 121 rfl rfl rfl (r32 (by omega) (by omega)) (r32 (by omega) (by omega)) (fun (h42 : (m.1 27) ≤ v29) => ?_) (fun (h42 : ¬ ((m.1 27) ≤ v29)) => ?_)
                        · skip
                          refine T_ld 237 (.ref 189) rfl (fun _ => rfl) ?_
                          refine T_ld 238 (.int (i32 1)) rfl (fun _ => rfl) ?_
                          refine T_pf (l' := [(128, 1)]) 241 1 rfl rfl rfl rfl rfl rfl ?_
                          refine T_gf 245 (.int (i32 (m30.1 129))) rfl rfl rfl rfl rfl rfl ?_
                          refine T_ret rfl (fun _ => rfl) ?_
                          exact ⟨(mO m30 [(128, 1)] []), (m30.1 129), (Ty_mO Tm30 rfl rfl ⟨⟨(by omega : (0 : Int) ≤ 1), (by omega : (1 : Int) ≤ 1)⟩, trivial⟩ trivial), (fr_m (fr_s Fm30 (fr_m (fr_s Fm28 (fr_m (fr_s Fm16 (fr_m (fr_s Fm14 (fr_m fr_0 rfl rfl) rfl rfl) rfl rfl) rfl rfl) rfl rfl) rfl rfl) rfl rfl) rfl rfl) rfl rfl), ⟨by omega, by omega⟩, (show (1 : Int) = 1 → (m.1 127) = 1 by omega), rfl⟩
                        · skip
                          refine T_ld 122 (.ref 189) rfl (fun _ => rfl) ?_
                          refine T_ld 124 (.int (i32 v29)) rfl (fun _ => rfl) ?_
                          refine T_ld 125 (.int (i32 a)) rfl (fun _ => rfl) ?_
                          refine T_ld 126 (.int (i32 b)) rfl (fun _ => rfl) ?_
                          refine T_i2l 127 rfl rfl (r32 (by omega) (by omega)) ?_
                          refine T_ld 128 (.int (i32 d)) rfl (fun _ => rfl) ?_
                          refine T_i2l 129 rfl rfl (r32 (by omega) (by omega)) ?_
                          refine T_call 132 295 [.ref 189, .int (i32 v29), .int (i32 a), .long (i64 b), .long (i64 d)] [] rfl (fun _ => rfl) rfl (c_stageFor w (mO m30 [] []) c N D (by omega) Tm30 v29 a b d (r32 (by omega) (by omega)) (r32 (by omega) (by omega)) (r64 (by omega) (by omega)) (r64 (by omega) (by omega)) (show 0 ≤ v29 ∧ v29 ≤ 47 by omega) (show v29 < (m30.1 27) by rewrite [(show (m30.1 27) = (m.1 27) from ((fr1 Fm30 27 rfl).trans ((fr1 Fm28 27 rfl).trans ((fr1 Fm16 27 rfl).trans (fr1 Fm14 27 rfl)))))]; omega) (show 1 ≤ a ∧ a ≤ 12 by omega) (show SpP (m30.2 65) (m30.1 28) (m30.1 99) (m30.1 26) (m30.1 27) (m30.2 60) (m30.2 61) (m30.2 120) (m30.2 121) (m30.2 122) (m30.2 63) by rewrite [(show (m30.2 65) = (m.2 65) from ((fr2 Fm30 65 rfl).trans ((fr2 Fm28 65 rfl).trans ((fr2 Fm16 65 rfl).trans (fr2 Fm14 65 rfl))))), (show (m30.1 28) = (m.1 28) from ((fr1 Fm30 28 rfl).trans ((fr1 Fm28 28 rfl).trans ((fr1 Fm16 28 rfl).trans (fr1 Fm14 28 rfl))))), (show (m30.1 99) = (m.1 99) from ((fr1 Fm30 99 rfl).trans ((fr1 Fm28 99 rfl).trans ((fr1 Fm16 99 rfl).trans (fr1 Fm14 99 rfl))))), (show (m30.1 26) = (m.1 26) from ((fr1 Fm30 26 rfl).trans ((fr1 Fm28 26 rfl).trans ((fr1 Fm16 26 rfl).trans (fr1 Fm14 26 rfl))))), (show (m30.1 27) = (m.1 27) from ((fr1 Fm30 27 rfl).trans ((fr1 Fm28 27 rfl).trans ((fr1 Fm16 27 rfl).trans (fr1 Fm14 27 rfl))))), (show (m30.2 60) = (m.2 60) from ((fr2 Fm30 60 rfl).trans ((fr2 Fm28 60 rfl).trans ((fr2 Fm16 60 rfl).trans (fr2 Fm14 60 rfl))))), (show (m30.2 61) = (m.2 61) from ((fr2 Fm30 61 rfl).trans ((fr2 Fm28 61 rfl).trans ((fr2 Fm16 61 rfl).trans (fr2 Fm14 61 rfl))))), (show (m30.2 120) = (m.2 120) from ((fr2 Fm30 120 rfl).trans ((fr2 Fm28 120 rfl).trans ((fr2 Fm16 120 rfl).trans (fr2 Fm14 120 rfl))))), (show (m30.2 121) = (m.2 121) from ((fr2 Fm30 121 rfl).trans ((fr2 Fm28 121 rfl).trans ((fr2 Fm16 121 rfl).trans (fr2 Fm14 121 rfl))))), (show (m30.2 122) = (m.2 122) from ((fr2 Fm30 122 rfl).trans ((fr2 Fm28 122 rfl).trans ((fr2 Fm16 122 rfl).trans (fr2 Fm14 122 rfl))))), (show (m30.2 63) = (m.2 63) from ((fr2 Fm30 63 rfl).trans ((fr2 Fm28 63 rfl).trans ((fr2 Fm16 63 rfl).trans (fr2 Fm14 63 rfl)))))]; exact pSp) (show TbP (m30.2 65) (m30.1 28) (m30.1 25) (m30.1 26) (m30.2 51) (m30.2 110) (m30.2 111) (m30.2 57) (m30.2 53) (m30.2 114) (m30.2 58) (m30.2 54) by rewrite [(show (m30.2 65) = (m.2 65) from ((fr2 Fm30 65 rfl).trans ((fr2 Fm28 65 rfl).trans ((fr2 Fm16 65 rfl).trans (fr2 Fm14 65 rfl))))), (show (m30.1 28) = (m.1 28) from ((fr1 Fm30 28 rfl).trans ((fr1 Fm28 28 rfl).trans ((fr1 Fm16 28 rfl).trans (fr1 Fm14 28 rfl))))), (show (m30.1 25) = (m.1 25) from ((fr1 Fm30 25 rfl).trans ((fr1 Fm28 25 rfl).trans ((fr1 Fm16 25 rfl).trans (fr1 Fm14 25 rfl))))), (show (m30.1 26) = (m.1 26) from ((fr1 Fm30 26 rfl).trans ((fr1 Fm28 26 rfl).trans ((fr1 Fm16 26 rfl).trans (fr1 Fm14 26 rfl))))), (show (m30.2 51) = (m.2 51) from ((fr2 Fm30 51 rfl).trans ((fr2 Fm28 51 rfl).trans ((fr2 Fm16 51 rfl).trans (fr2 Fm14 51 rfl))))), (show (m30.2 110) = (m.2 110) from ((fr2 Fm30 110 rfl).trans ((fr2 Fm28 110 rfl).trans ((fr2 Fm16 110 rfl).trans (fr2 Fm14 110 rfl))))), (show (m30.2 111) = (m.2 111) from ((fr2 Fm30 111 rfl).trans ((fr2 Fm28 111 rfl).trans ((fr2 Fm16 111 rfl).trans (fr2 Fm14 111 rfl))))), (show (m30.2 57) = (m.2 57) from ((fr2 Fm30 57 rfl).trans ((fr2 Fm28 57 rfl).trans ((fr2 Fm16 57 rfl).trans (fr2 Fm14 57 rfl))))), (show (m30.2 53) = (m.2 53) from ((fr2 Fm30 53 rfl).trans ((fr2 Fm28 53 rfl).trans ((fr2 Fm16 53 rfl).trans (fr2 Fm14 53 rfl))))), (show (m30.2 114) = (m.2 114) from ((fr2 Fm30 114 rfl).trans ((fr2 Fm28 114 rfl).trans ((fr2 Fm16 114 rfl).trans (fr2 Fm14 114 rfl))))), (show (m30.2 58) = (m.2 58) from ((fr2 Fm30 58 rfl).trans ((fr2 Fm28 58 rfl).trans ((fr2 Fm16 58 rfl).trans (fr2 Fm14 58 rfl))))), (show (m30.2 54) = (m.2 54) from ((fr2 Fm30 54 rfl).trans ((fr2 Fm28 54 rfl).trans ((fr2 Fm16 54 rfl).trans (fr2 Fm14 54 rfl)))))]; exact pTb)) (fun rr43 k44 => ?_)
                          obtain ⟨x45, g46, h47, h48, rfl⟩ := k44
                          refine ⟨_, _, rfl, ?_⟩
                          refine T_ns (st' := [.int (i32 x45)]) rfl ?_
                          obtain ⟨g46a, g46b⟩ := g46
                          replace h47 : x45 < a := h47
                          replace h48 : 0 ≤ x45 → (m30.2 132) x45 < 8 := h48
                          refine T_sto 134 [(5, .int (i32 x45)), (0, .ref 189), (1, .int (i32 a)), (2, .int (i32 b)), (3, .int (i32 d)), (4, .int (i32 v29))] rfl (fun _ => rfl) ?_
                          refine T_ld 136 (.int (i32 x45)) rfl (fun _ => rfl) ?_
                          refine T_if 152 139 rfl rfl rfl (r32 (by omega) (by omega)) (fun (h49 : (0 : Int) ≤ x45) => ?_) (fun (h49 : ¬ ((0 : Int) ≤ x45)) => ?_)
                          · skip
                            refine T_gf 156 (.ref 285) rfl rfl rfl rfl rfl rfl ?_
                            refine T_ld 158 (.int (i32 v29)) rfl (fun _ => rfl) ?_
                            refine T_ld 160 (.int (i32 x45)) rfl (fun _ => rfl) ?_
                            have G50 : ∀ j, 0 ≤ (upI (m30.2 131) v29 x45) j ∧ (upI (m30.2 131) v29 x45) j ≤ 11 := upI_rg (Tm30.2.1 131) ⟨by omega, by omega⟩
                            refine T_iast (a' := [(131, upI (m30.2 131) v29 x45)]) 161 131 (m30.2 131) rfl rfl rfl (by omega) (show v29 < (48 : Int) by omega) rfl rfl ?_
                            refine T_gf 165 (.ref 286) rfl rfl rfl rfl rfl rfl ?_
                            refine T_ld 167 (.int (i32 x45)) rfl (fun _ => rfl) ?_
                            refine T_dup2 168 rfl (fun _ => rfl) ?_
                            refine T_iald 169 132 (m30.2 132) rfl rfl rfl (by omega) (show x45 < (12 : Int) by omega) rfl ?_
                            have e51 : 0 ≤ (m30.2 132) x45 ∧ (m30.2 132) x45 ≤ 48 := (Tm30.2.1 132) x45
                            refine T_ld 170 (.int (i32 1)) rfl (fun _ => rfl) ?_
                            refine T_iadd 171 rfl rfl ?_
                            have G52 : ∀ j, 0 ≤ (upI (m30.2 132) x45 (((m30.2 132) x45) + 1)) j ∧ (upI (m30.2 132) x45 (((m30.2 132) x45) + 1)) j ≤ 48 := upI_rg (Tm30.2.1 132) ⟨by omega, by omega⟩
                            refine T_iast (a' := [(131, upI (m30.2 131) v29 x45), (132, upI (m30.2 132) x45 (((m30.2 132) x45) + 1))]) 172 132 (m30.2 132) rfl rfl rfl (by omega) (show x45 < (12 : Int) by omega) rfl rfl ?_
                            have hq1 := hz1 x45 (by omega) (by omega)
                            have hq2 := hz2 x45 (by omega) (by omega)
                            refine T_gf 176 (.ref 287) rfl rfl rfl rfl rfl rfl ?_
                            refine T_ld 178 (.int (i32 x45)) rfl (fun _ => rfl) ?_
                            refine T_dup2 179 rfl (fun _ => rfl) ?_
                            refine T_lald 180 133 (m30.2 133) rfl rfl rfl (by omega) (show x45 < (12 : Int) by omega) rfl ?_
                            have e53 : 0 ≤ (m30.2 133) x45 ∧ (m30.2 133) x45 ≤ 60000000 := (Tm30.2.1 133) x45
                            refine T_ld 181 (.ref 189) rfl (fun _ => rfl) ?_
                            refine T_ld 183 (.int (i32 v29)) rfl (fun _ => rfl) ?_
                            refine T_call 186 300 [.ref 189, .int (i32 v29)] [.long (i64 ((m30.2 133) x45)), .int (i32 x45), .ref 287] rfl (fun _ => rfl) rfl (c_memoryOf w (mO m30 [] [(131, upI (m30.2 131) v29 x45), (132, upI (m30.2 132) x45 (((m30.2 132) x45) + 1))]) c N D (by omega) (Ty_mO Tm30 rfl rfl trivial ⟨G50, G52, trivial⟩) v29 (r32 (by omega) (by omega)) (show 0 ≤ v29 ∧ v29 ≤ 47 by omega) (show v29 < (m30.1 27) by rewrite [(show (m30.1 27) = (m.1 27) from ((fr1 Fm30 27 rfl).trans ((fr1 Fm28 27 rfl).trans ((fr1 Fm16 27 rfl).trans (fr1 Fm14 27 rfl)))))]; omega) (show SpP (m30.2 65) (m30.1 28) (m30.1 99) (m30.1 26) (m30.1 27) (m30.2 60) (m30.2 61) (m30.2 120) (m30.2 121) (m30.2 122) (m30.2 63) by rewrite [(show (m30.2 65) = (m.2 65) from ((fr2 Fm30 65 rfl).trans ((fr2 Fm28 65 rfl).trans ((fr2 Fm16 65 rfl).trans (fr2 Fm14 65 rfl))))), (show (m30.1 28) = (m.1 28) from ((fr1 Fm30 28 rfl).trans ((fr1 Fm28 28 rfl).trans ((fr1 Fm16 28 rfl).trans (fr1 Fm14 28 rfl))))), (show (m30.1 99) = (m.1 99) from ((fr1 Fm30 99 rfl).trans ((fr1 Fm28 99 rfl).trans ((fr1 Fm16 99 rfl).trans (fr1 Fm14 99 rfl))))), (show (m30.1 26) = (m.1 26) from ((fr1 Fm30 26 rfl).trans ((fr1 Fm28 26 rfl).trans ((fr1 Fm16 26 rfl).trans (fr1 Fm14 26 rfl))))), (show (m30.1 27) = (m.1 27) from ((fr1 Fm30 27 rfl).trans ((fr1 Fm28 27 rfl).trans ((fr1 Fm16 27 rfl).trans (fr1 Fm14 27 rfl))))), (show (m30.2 60) = (m.2 60) from ((fr2 Fm30 60 rfl).trans ((fr2 Fm28 60 rfl).trans ((fr2 Fm16 60 rfl).trans (fr2 Fm14 60 rfl))))), (show (m30.2 61) = (m.2 61) from ((fr2 Fm30 61 rfl).trans ((fr2 Fm28 61 rfl).trans ((fr2 Fm16 61 rfl).trans (fr2 Fm14 61 rfl))))), (show (m30.2 120) = (m.2 120) from ((fr2 Fm30 120 rfl).trans ((fr2 Fm28 120 rfl).trans ((fr2 Fm16 120 rfl).trans (fr2 Fm14 120 rfl))))), (show (m30.2 121) = (m.2 121) from ((fr2 Fm30 121 rfl).trans ((fr2 Fm28 121 rfl).trans ((fr2 Fm16 121 rfl).trans (fr2 Fm14 121 rfl))))), (show (m30.2 122) = (m.2 122) from ((fr2 Fm30 122 rfl).trans ((fr2 Fm28 122 rfl).trans ((fr2 Fm16 122 rfl).trans (fr2 Fm14 122 rfl))))), (show (m30.2 63) = (m.2 63) from ((fr2 Fm30 63 rfl).trans ((fr2 Fm28 63 rfl).trans ((fr2 Fm16 63 rfl).trans (fr2 Fm14 63 rfl)))))]; exact pSp) (show TbP (m30.2 65) (m30.1 28) (m30.1 25) (m30.1 26) (m30.2 51) (m30.2 110) (m30.2 111) (m30.2 57) (m30.2 53) (m30.2 114) (m30.2 58) (m30.2 54) by rewrite [(show (m30.2 65) = (m.2 65) from ((fr2 Fm30 65 rfl).trans ((fr2 Fm28 65 rfl).trans ((fr2 Fm16 65 rfl).trans (fr2 Fm14 65 rfl))))), (show (m30.1 28) = (m.1 28) from ((fr1 Fm30 28 rfl).trans ((fr1 Fm28 28 rfl).trans ((fr1 Fm16 28 rfl).trans (fr1 Fm14 28 rfl))))), (show (m30.1 25) = (m.1 25) from ((fr1 Fm30 25 rfl).trans ((fr1 Fm28 25 rfl).trans ((fr1 Fm16 25 rfl).trans (fr1 Fm14 25 rfl))))), (show (m30.1 26) = (m.1 26) from ((fr1 Fm30 26 rfl).trans ((fr1 Fm28 26 rfl).trans ((fr1 Fm16 26 rfl).trans (fr1 Fm14 26 rfl))))), (show (m30.2 51) = (m.2 51) from ((fr2 Fm30 51 rfl).trans ((fr2 Fm28 51 rfl).trans ((fr2 Fm16 51 rfl).trans (fr2 Fm14 51 rfl))))), (show (m30.2 110) = (m.2 110) from ((fr2 Fm30 110 rfl).trans ((fr2 Fm28 110 rfl).trans ((fr2 Fm16 110 rfl).trans (fr2 Fm14 110 rfl))))), (show (m30.2 111) = (m.2 111) from ((fr2 Fm30 111 rfl).trans ((fr2 Fm28 111 rfl).trans ((fr2 Fm16 111 rfl).trans (fr2 Fm14 111 rfl))))), (show (m30.2 57) = (m.2 57) from ((fr2 Fm30 57 rfl).trans ((fr2 Fm28 57 rfl).trans ((fr2 Fm16 57 rfl).trans (fr2 Fm14 57 rfl))))), (show (m30.2 53) = (m.2 53) from ((fr2 Fm30 53 rfl).trans ((fr2 Fm28 53 rfl).trans ((fr2 Fm16 53 rfl).trans (fr2 Fm14 53 rfl))))), (show (m30.2 114) = (m.2 114) from ((fr2 Fm30 114 rfl).trans ((fr2 Fm28 114 rfl).trans ((fr2 Fm16 114 rfl).trans (fr2 Fm14 114 rfl))))), (show (m30.2 58) = (m.2 58) from ((fr2 Fm30 58 rfl).trans ((fr2 Fm28 58 rfl).trans ((fr2 Fm16 58 rfl).trans (fr2 Fm14 58 rfl))))), (show (m30.2 54) = (m.2 54) from ((fr2 Fm30 54 rfl).trans ((fr2 Fm28 54 rfl).trans ((fr2 Fm16 54 rfl).trans (fr2 Fm14 54 rfl)))))]; exact pTb)) (fun rr54 k55 => ?_)
                            obtain ⟨x56, g57, rfl⟩ := k55
                            refine ⟨_, _, rfl, ?_⟩
                            refine T_ns (st' := [.long (i64 x56), .long (i64 ((m30.2 133) x45)), .int (i32 x45), .ref 287]) rfl ?_
                            obtain ⟨g57a, g57b⟩ := g57
                            refine T_ladd 187 rfl rfl ?_
                            have G58 : ∀ j, 0 ≤ (upI (m30.2 133) x45 (((m30.2 133) x45) + x56)) j ∧ (upI (m30.2 133) x45 (((m30.2 133) x45) + x56)) j ≤ 60000000 := upI_rg (Tm30.2.1 133) ⟨by omega, by omega⟩
                            refine T_last (a' := [(131, upI (m30.2 131) v29 x45), (132, upI (m30.2 132) x45 (((m30.2 132) x45) + 1)), (133, upI (m30.2 133) x45 (((m30.2 133) x45) + x56))]) 188 133 (m30.2 133) rfl rfl rfl (by omega) (show x45 < (12 : Int) by omega) rfl rfl ?_
                            refine T_gf 192 (.ref 288) rfl rfl rfl rfl rfl rfl ?_
                            refine T_ld 194 (.int (i32 x45)) rfl (fun _ => rfl) ?_
                            refine T_dup2 195 rfl (fun _ => rfl) ?_
                            refine T_lald 196 134 (m30.2 134) rfl rfl rfl (by omega) (show x45 < (12 : Int) by omega) rfl ?_
                            have e59 : 0 ≤ (m30.2 134) x45 ∧ (m30.2 134) x45 ≤ 200000 := (Tm30.2.1 134) x45
                            refine T_ld 197 (.ref 189) rfl (fun _ => rfl) ?_
                            refine T_ld 199 (.int (i32 v29)) rfl (fun _ => rfl) ?_
                            refine T_call 202 302 [.ref 189, .int (i32 v29)] [.long (i64 ((m30.2 134) x45)), .int (i32 x45), .ref 288] rfl (fun _ => rfl) rfl (c_wiresOf w (mO m30 [] [(131, upI (m30.2 131) v29 x45), (132, upI (m30.2 132) x45 (((m30.2 132) x45) + 1)), (133, upI (m30.2 133) x45 (((m30.2 133) x45) + x56))]) c N D (by omega) (Ty_mO Tm30 rfl rfl trivial ⟨G50, G52, G58, trivial⟩) v29 (r32 (by omega) (by omega)) (show 0 ≤ v29 ∧ v29 ≤ 47 by omega) (show v29 < (m30.1 27) by rewrite [(show (m30.1 27) = (m.1 27) from ((fr1 Fm30 27 rfl).trans ((fr1 Fm28 27 rfl).trans ((fr1 Fm16 27 rfl).trans (fr1 Fm14 27 rfl)))))]; omega) (show SpP (m30.2 65) (m30.1 28) (m30.1 99) (m30.1 26) (m30.1 27) (m30.2 60) (m30.2 61) (m30.2 120) (m30.2 121) (m30.2 122) (m30.2 63) by rewrite [(show (m30.2 65) = (m.2 65) from ((fr2 Fm30 65 rfl).trans ((fr2 Fm28 65 rfl).trans ((fr2 Fm16 65 rfl).trans (fr2 Fm14 65 rfl))))), (show (m30.1 28) = (m.1 28) from ((fr1 Fm30 28 rfl).trans ((fr1 Fm28 28 rfl).trans ((fr1 Fm16 28 rfl).trans (fr1 Fm14 28 rfl))))), (show (m30.1 99) = (m.1 99) from ((fr1 Fm30 99 rfl).trans ((fr1 Fm28 99 rfl).trans ((fr1 Fm16 99 rfl).trans (fr1 Fm14 99 rfl))))), (show (m30.1 26) = (m.1 26) from ((fr1 Fm30 26 rfl).trans ((fr1 Fm28 26 rfl).trans ((fr1 Fm16 26 rfl).trans (fr1 Fm14 26 rfl))))), (show (m30.1 27) = (m.1 27) from ((fr1 Fm30 27 rfl).trans ((fr1 Fm28 27 rfl).trans ((fr1 Fm16 27 rfl).trans (fr1 Fm14 27 rfl))))), (show (m30.2 60) = (m.2 60) from ((fr2 Fm30 60 rfl).trans ((fr2 Fm28 60 rfl).trans ((fr2 Fm16 60 rfl).trans (fr2 Fm14 60 rfl))))), (show (m30.2 61) = (m.2 61) from ((fr2 Fm30 61 rfl).trans ((fr2 Fm28 61 rfl).trans ((fr2 Fm16 61 rfl).trans (fr2 Fm14 61 rfl))))), (show (m30.2 120) = (m.2 120) from ((fr2 Fm30 120 rfl).trans ((fr2 Fm28 120 rfl).trans ((fr2 Fm16 120 rfl).trans (fr2 Fm14 120 rfl))))), (show (m30.2 121) = (m.2 121) from ((fr2 Fm30 121 rfl).trans ((fr2 Fm28 121 rfl).trans ((fr2 Fm16 121 rfl).trans (fr2 Fm14 121 rfl))))), (show (m30.2 122) = (m.2 122) from ((fr2 Fm30 122 rfl).trans ((fr2 Fm28 122 rfl).trans ((fr2 Fm16 122 rfl).trans (fr2 Fm14 122 rfl))))), (show (m30.2 63) = (m.2 63) from ((fr2 Fm30 63 rfl).trans ((fr2 Fm28 63 rfl).trans ((fr2 Fm16 63 rfl).trans (fr2 Fm14 63 rfl)))))]; exact pSp)) (fun rr60 k61 => ?_)
                            obtain ⟨x62, g63, rfl⟩ := k61
                            refine ⟨_, _, rfl, ?_⟩
                            refine T_ns (st' := [.long (i64 x62), .long (i64 ((m30.2 134) x45)), .int (i32 x45), .ref 288]) rfl ?_
                            obtain ⟨g63a, g63b⟩ := g63
                            refine T_ladd 203 rfl rfl ?_
                            have G64 : ∀ j, 0 ≤ (upI (m30.2 134) x45 (((m30.2 134) x45) + x62)) j ∧ (upI (m30.2 134) x45 (((m30.2 134) x45) + x62)) j ≤ 200000 := upI_rg (Tm30.2.1 134) ⟨by omega, by omega⟩
                            refine T_last (a' := [(131, upI (m30.2 131) v29 x45), (132, upI (m30.2 132) x45 (((m30.2 132) x45) + 1)), (133, upI (m30.2 133) x45 (((m30.2 133) x45) + x56)), (134, upI (m30.2 134) x45 (((m30.2 134) x45) + x62))]) 204 134 (m30.2 134) rfl rfl rfl (by omega) (show x45 < (12 : Int) by omega) rfl rfl ?_
                            refine T_ld 205 (.ref 189) rfl (fun _ => rfl) ?_
                            refine T_ld 207 (.int (i32 x45)) rfl (fun _ => rfl) ?_
                            refine T_ld 208 (.int (i32 1)) rfl (fun _ => rfl) ?_
                            refine T_iadd 209 rfl rfl ?_
                            refine T_gf 213 (.int (i32 (m30.1 129))) rfl rfl rfl rfl rfl rfl ?_
                            refine T_icmp 223 216 rfl rfl rfl (r32 (by omega) (by omega)) (r32 (by omega) (by omega)) (fun (h65 : x45 + 1 ≤ (m30.1 129)) => ?_) (fun (h65 : ¬ (x45 + 1 ≤ (m30.1 129))) => ?_)
                            · skip
                              refine T_gf 227 (.int (i32 (m30.1 129))) rfl rfl rfl rfl rfl rfl ?_
                              refine T_pf (l' := [(129, (m30.1 129))]) 230 (m30.1 129) rfl rfl rfl rfl rfl rfl ?_
                              have g66 : 0 ≤ (m30.1 129) ∧ (m30.1 129) ≤ 12 := ⟨by omega, by omega⟩
                              refine T_iinc 233 [(4, .int (i32 (v29 + 1))), (5, .int (i32 x45)), (0, .ref 189), (1, .int (i32 a)), (2, .int (i32 b)), (3, .int (i32 d))] rfl rfl (by decide) rfl rfl ?_
                              refine T_goto 112 rfl (fun _ => rfl) ?_
                              refine Tm_lv (a := [(0, .ref 189), (1, .int (i32 a)), (2, .int (i32 b)), (3, .int (i32 d)), (4, .int (i32 (v29 + 1)))]) rfl rfl ⟨rfl, rfl, rfl, rfl, rfl, trivial⟩ ?_
                              exact ih41 (v29 + 1) (mO m30 [(129, (m30.1 129))] [(131, upI (m30.2 131) v29 x45), (132, upI (m30.2 132) x45 (((m30.2 132) x45) + 1)), (133, upI (m30.2 133) x45 (((m30.2 133) x45) + x56)), (134, upI (m30.2 134) x45 (((m30.2 134) x45) + x62))]) (r32 (by omega) (by omega)) (Ty_mO Tm30 rfl rfl ⟨g66, trivial⟩ ⟨G50, G52, G58, G64, trivial⟩) (fr_m (fr_s Fm30 (fr_m fr_0 rfl rfl) rfl rfl) rfl rfl) (show 0 ≤ (v29 + 1) by omega) (show (v29 + 1) ≤ (m.1 27) by omega) (show ∀ k, 0 ≤ k → k < 12 → (upI (m30.2 133) x45 (((m30.2 133) x45) + x56)) k ≤ 1200000 * (v29 + 1) by first | (intro k a b; rw [hz1 k a (by omega)]; omega) | (intro k a b; have := hz1 k a b; unfold upI; split <;> omega)) (show ∀ k, 0 ≤ k → k < 12 → (upI (m30.2 134) x45 (((m30.2 134) x45) + x62)) k ≤ 4096 * (v29 + 1) by first | (intro k a b; rw [hz2 k a (by omega)]; omega) | (intro k a b; have := hz2 k a b; unfold upI; split <;> omega)) (show 1 ≤ (m30.1 129) by omega) (show (m.1 27) - (v29 + 1) < (n40 : Int) by omega)
                            · skip
                              refine T_ld 218 (.int (i32 x45)) rfl (fun _ => rfl) ?_
                              refine T_ld 219 (.int (i32 1)) rfl (fun _ => rfl) ?_
                              refine T_iadd 220 rfl rfl ?_
                              refine T_goto 227 rfl (fun _ => rfl) ?_
                              refine T_pf (l' := [(129, x45 + 1)]) 230 (x45 + 1) rfl rfl rfl rfl rfl rfl ?_
                              have g67 : 0 ≤ x45 + 1 ∧ x45 + 1 ≤ 12 := ⟨by omega, by omega⟩
                              refine T_iinc 233 [(4, .int (i32 (v29 + 1))), (5, .int (i32 x45)), (0, .ref 189), (1, .int (i32 a)), (2, .int (i32 b)), (3, .int (i32 d))] rfl rfl (by decide) rfl rfl ?_
                              refine T_goto 112 rfl (fun _ => rfl) ?_
                              refine Tm_lv (a := [(0, .ref 189), (1, .int (i32 a)), (2, .int (i32 b)), (3, .int (i32 d)), (4, .int (i32 (v29 + 1)))]) rfl rfl ⟨rfl, rfl, rfl, rfl, rfl, trivial⟩ ?_
                              exact ih41 (v29 + 1) (mO m30 [(129, x45 + 1)] [(131, upI (m30.2 131) v29 x45), (132, upI (m30.2 132) x45 (((m30.2 132) x45) + 1)), (133, upI (m30.2 133) x45 (((m30.2 133) x45) + x56)), (134, upI (m30.2 134) x45 (((m30.2 134) x45) + x62))]) (r32 (by omega) (by omega)) (Ty_mO Tm30 rfl rfl ⟨g67, trivial⟩ ⟨G50, G52, G58, G64, trivial⟩) (fr_m (fr_s Fm30 (fr_m fr_0 rfl rfl) rfl rfl) rfl rfl) (show 0 ≤ (v29 + 1) by omega) (show (v29 + 1) ≤ (m.1 27) by omega) (show ∀ k, 0 ≤ k → k < 12 → (upI (m30.2 133) x45 (((m30.2 133) x45) + x56)) k ≤ 1200000 * (v29 + 1) by first | (intro k a b; rw [hz1 k a (by omega)]; omega) | (intro k a b; have := hz1 k a b; unfold upI; split <;> omega)) (show ∀ k, 0 ≤ k → k < 12 → (upI (m30.2 134) x45 (((m30.2 134) x45) + x62)) k ≤ 4096 * (v29 + 1) by first | (intro k a b; rw [hz2 k a (by omega)]; omega) | (intro k a b; have := hz2 k a b; unfold upI; split <;> omega)) (show 1 ≤ (x45 + 1) by omega) (show (m.1 27) - (v29 + 1) < (n40 : Int) by omega)
                          · skip
                            refine T_ld 140 (.ref 189) rfl (fun _ => rfl) ?_
                            refine T_ld 142 (.int (i32 v29)) rfl (fun _ => rfl) ?_
                            refine T_pf (l' := [(130, v29)]) 145 v29 rfl rfl rfl rfl rfl rfl ?_
                            have g68 : (-1) ≤ v29 ∧ v29 ≤ 47 := ⟨by omega, by omega⟩
                            refine T_ld 146 (.ref 189) rfl (fun _ => rfl) ?_
                            refine T_ld 147 (.int (i32 3)) rfl (fun _ => rfl) ?_
                            refine T_pf (l' := [(1, 3), (130, v29)]) 150 3 rfl rfl rfl rfl rfl rfl ?_
                            refine T_ld 151 (.int (i32 0)) rfl (fun _ => rfl) ?_
                            refine T_ret rfl (fun _ => rfl) ?_
                            exact ⟨(mO m30 [(1, 3), (130, v29)] []), 0, (Ty_mO Tm30 rfl rfl ⟨⟨(by omega : (0 : Int) ≤ 3), (by omega : (3 : Int) ≤ 3)⟩, g68, trivial⟩ trivial), (fr_m (fr_s Fm30 (fr_m (fr_s Fm28 (fr_m (fr_s Fm16 (fr_m (fr_s Fm14 (fr_m fr_0 rfl rfl) rfl rfl) rfl rfl) rfl rfl) rfl rfl) rfl rfl) rfl rfl) rfl rfl) rfl rfl), ⟨by omega, by omega⟩, (show (m30.1 128) = 1 → (m.1 127) = 1 by rewrite [(show (m30.1 128) = (m.1 128) from ((fr1 Fm30 128 rfl).trans ((fr1 Fm28 128 rfl).trans ((fr1 Fm16 128 rfl).trans (fr1 Fm14 128 rfl)))))]; omega), rfl⟩
                    refine Tm_lv (a := [(0, .ref 189), (1, .int (i32 a)), (2, .int (i32 b)), (3, .int (i32 d)), (4, .int (i32 0))]) rfl rfl ⟨rfl, rfl, rfl, rfl, rfl, trivial⟩ ?_
                    exact L112_31 (((m.1 27) - (0 : Int) : Int) + 1).toNat 0 (mO m28 [] []) ⟨by decide, by decide⟩ Tm28 (fr_m fr_0 rfl rfl) (show 0 ≤ (0 : Int) by omega) (show (0 : Int) ≤ (m.1 27) by omega) (show ∀ k, 0 ≤ k → k < 12 → (m28.2 133) k ≤ 1200000 * (0 : Int) by rewrite [(show (m28.2 133) = (m16.2 133) from (fr2 Fm28 133 rfl))]; first | (intro k a b; rw [hz1 k a (by omega)]; omega) | (intro k a b; have := hz1 k a b; unfold upI; split <;> omega)) (show ∀ k, 0 ≤ k → k < 12 → (m28.2 134) k ≤ 4096 * (0 : Int) by rewrite [(show (m28.2 134) = (m16.2 134) from (fr2 Fm28 134 rfl))]; first | (intro k a b; rw [hz2 k a (by omega)]; omega) | (intro k a b; have := hz2 k a b; unfold upI; split <;> omega)) (show 1 ≤ (m28.1 129) by rewrite [(show (m28.1 129) = 1 from (fr1 Fm28 129 rfl))]; omega) (show (m.1 27) - (0 : Int) < (((((m.1 27) - (0 : Int) : Int) + 1).toNat : Nat) : Int) by omega)
                  · skip
                    refine T_gf 78 (.ref 286) rfl rfl rfl rfl rfl rfl ?_
                    refine T_ld 80 (.int (i32 v15)) rfl (fun _ => rfl) ?_
                    refine T_ld 81 (.int (i32 0)) rfl (fun _ => rfl) ?_
                    have G69 : ∀ j, 0 ≤ (upI (m16.2 132) v15 0) j ∧ (upI (m16.2 132) v15 0) j ≤ 48 := upI_rg (Tm16.2.1 132) ⟨by omega, by omega⟩
                    refine T_iast (a' := [(132, upI (m16.2 132) v15 0)]) 82 132 (m16.2 132) rfl rfl rfl (by omega) (show v15 < (12 : Int) by omega) rfl rfl ?_
                    refine T_gf 86 (.ref 287) rfl rfl rfl rfl rfl rfl ?_
                    refine T_ld 88 (.int (i32 v15)) rfl (fun _ => rfl) ?_
                    refine T_ld 89 (.long (i64 0)) rfl (fun _ => rfl) ?_
                    have G70 : ∀ j, 0 ≤ (upI (m16.2 133) v15 0) j ∧ (upI (m16.2 133) v15 0) j ≤ 60000000 := upI_rg (Tm16.2.1 133) ⟨by omega, by omega⟩
                    refine T_last (a' := [(132, upI (m16.2 132) v15 0), (133, upI (m16.2 133) v15 0)]) 90 133 (m16.2 133) rfl rfl rfl (by omega) (show v15 < (12 : Int) by omega) rfl rfl ?_
                    refine T_gf 94 (.ref 288) rfl rfl rfl rfl rfl rfl ?_
                    refine T_ld 96 (.int (i32 v15)) rfl (fun _ => rfl) ?_
                    refine T_ld 97 (.long (i64 0)) rfl (fun _ => rfl) ?_
                    have G71 : ∀ j, 0 ≤ (upI (m16.2 134) v15 0) j ∧ (upI (m16.2 134) v15 0) j ≤ 200000 := upI_rg (Tm16.2.1 134) ⟨by omega, by omega⟩
                    refine T_last (a' := [(132, upI (m16.2 132) v15 0), (133, upI (m16.2 133) v15 0), (134, upI (m16.2 134) v15 0)]) 98 134 (m16.2 134) rfl rfl rfl (by omega) (show v15 < (12 : Int) by omega) rfl rfl ?_
                    refine T_iinc 101 [(4, .int (i32 (v15 + 1))), (0, .ref 189), (1, .int (i32 a)), (2, .int (i32 b)), (3, .int (i32 d))] rfl rfl (by decide) rfl rfl ?_
                    refine T_goto 67 rfl (fun _ => rfl) ?_
                    refine Tm_lv (a := [(0, .ref 189), (1, .int (i32 a)), (2, .int (i32 b)), (3, .int (i32 d)), (4, .int (i32 (v15 + 1)))]) rfl rfl ⟨rfl, rfl, rfl, rfl, rfl, trivial⟩ ?_
                    exact ih26 (v15 + 1) (mO m16 [] [(132, upI (m16.2 132) v15 0), (133, upI (m16.2 133) v15 0), (134, upI (m16.2 134) v15 0)]) (r32 (by omega) (by omega)) (Ty_mO Tm16 rfl rfl trivial ⟨G69, G70, G71, trivial⟩) (fr_m (fr_s Fm16 (fr_m fr_0 rfl rfl) rfl rfl) rfl rfl) (show 0 ≤ (v15 + 1) by omega) (show (v15 + 1) ≤ 12 by omega) (show ∀ k, 0 ≤ k → k < (v15 + 1) → (upI (m16.2 133) v15 0) k = 0 by first | (intro j a b; omega) | (intro j a b; by_cases e : j = v15; (rw [e, upI_s]); (rw [upI_n e]; exact hz1 j a (by omega)))) (show ∀ k, 0 ≤ k → k < (v15 + 1) → (upI (m16.2 134) v15 0) k = 0 by first | (intro j a b; omega) | (intro j a b; by_cases e : j = v15; (rw [e, upI_s]); (rw [upI_n e]; exact hz2 j a (by omega)))) (show 12 - (v15 + 1) < (n25 : Int) by omega)
              refine Tm_lv (a := [(0, .ref 189), (1, .int (i32 a)), (2, .int (i32 b)), (3, .int (i32 d)), (4, .int (i32 0))]) rfl rfl ⟨rfl, rfl, rfl, rfl, rfl, trivial⟩ ?_
              exact L67_17 ((12 - (0 : Int) : Int) + 1).toNat 0 (mO m14 [] []) ⟨by decide, by decide⟩ Tm14 (fr_m fr_0 rfl rfl) (show 0 ≤ (0 : Int) by omega) (show (0 : Int) ≤ 12 by omega) (show ∀ k, 0 ≤ k → k < (0 : Int) → (m14.2 133) k = 0 by rewrite [(show (m14.2 133) = (m.2 133) from (fr2 Fm14 133 rfl))]; first | (intro j a b; omega) | (intro j a b; by_cases e : j = v15; (rw [e, upI_s]); (rw [upI_n e]; exact hz1 j a (by omega)))) (show ∀ k, 0 ≤ k → k < (0 : Int) → (m14.2 134) k = 0 by rewrite [(show (m14.2 134) = (m.2 134) from (fr2 Fm14 134 rfl))]; first | (intro j a b; omega) | (intro j a b; by_cases e : j = v15; (rw [e, upI_s]); (rw [upI_n e]; exact hz2 j a (by omega)))) (show 12 - (0 : Int) < ((((12 - (0 : Int) : Int) + 1).toNat : Nat) : Int) by omega)
            · skip
              refine T_ld 39 (.int (i32 2)) rfl (fun _ => rfl) ?_
              refine T_goto 43 rfl (fun _ => rfl) ?_
              refine T_pf (l' := [(1, 2)]) 46 2 rfl rfl rfl rfl rfl rfl ?_
              refine T_gf 50 (.int (i32 2)) rfl rfl rfl rfl rfl rfl ?_
              refine T_if 55 53 rfl rfl rfl ⟨by decide, by decide⟩ (fun h72 => absurd (show (2 : Int) ≤ 0 from h72) (by decide)) (fun _ => ?_)
              refine T_ld 54 (.int (i32 0)) rfl (fun _ => rfl) ?_
              refine T_ret rfl (fun _ => rfl) ?_
              exact ⟨(mO m [(1, 2)] []), 0, (Ty_mO hT rfl rfl ⟨⟨(by omega : (0 : Int) ≤ 2), (by omega : (2 : Int) ≤ 3)⟩, trivial⟩ trivial), (fr_m fr_0 rfl rfl), ⟨by omega, by omega⟩, (show (m.1 128) = 1 → (m.1 127) = 1 by omega), rfl⟩
    · skip
      refine T_ld 16 (.int (i32 1)) rfl (fun _ => rfl) ?_
      refine T_goto 43 rfl (fun _ => rfl) ?_
      refine T_pf (l' := [(1, 1)]) 46 1 rfl rfl rfl rfl rfl rfl ?_
      refine T_gf 50 (.int (i32 1)) rfl rfl rfl rfl rfl rfl ?_
      refine T_if 55 53 rfl rfl rfl ⟨by decide, by decide⟩ (fun h73 => absurd (show (1 : Int) ≤ 0 from h73) (by decide)) (fun _ => ?_)
      refine T_ld 54 (.int (i32 0)) rfl (fun _ => rfl) ?_
      refine T_ret rfl (fun _ => rfl) ?_
      exact ⟨(mO m [(1, 1)] []), 0, (Ty_mO hT rfl rfl ⟨⟨(by omega : (0 : Int) ≤ 1), (by omega : (1 : Int) ≤ 3)⟩, trivial⟩ trivial), (fr_m fr_0 rfl rfl), ⟨by omega, by omega⟩, (show (m.1 128) = 1 → (m.1 127) = 1 by omega), rfl⟩
