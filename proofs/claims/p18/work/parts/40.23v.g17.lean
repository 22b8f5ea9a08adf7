def Q_in (m : mR) (c : Nat → Option am_C) (N : Nat) (v : Int) (n : Int) : ag_Re af_T → Prop := fun R => ∃ (r : Int), (0 ≤ r ∧ r ≤ 1) ∧ (r = 1 ↔ (0 ≤ v ∧ v < n)) ∧ R = (.inl (some (.int (i32 r))), (mhp m c, N), 0, 0)
set_option maxHeartbeats 3000000 in
theorem c_in (w : wX) (m : mR) (c : Nat → Option am_C) (N D : Nat) (hD : 1 ≤ D) (hT : Ty m) (v : Int) (n : Int) (qv : R32 v) (qn : R32 n) : TC w D 305 [.int (i32 v), .int (i32 n)] (mhp m c, N) (Q_in m c N v n) := by
  obtain ⟨D, rfl⟩ : ∃ k, D = k + 1 := ⟨D - 1, by omega⟩
  obtain ⟨qva, qvb⟩ := id qv
  obtain ⟨qna, qnb⟩ := id qn
  refine Tc_of rfl ?_
  show TT w D pm_305 (0, [(0, .int (i32 v)), (1, .int (i32 n))], [], (mhp (mO m [] []) c, N), 0, 0) (Q_in m c N v n)
  refine T_ld 1 (.int (i32 v)) rfl (fun _ => rfl) ?_
  refine T_if 13 4 rfl rfl rfl (r32 (by omega) (by omega)) (fun (h1 : v < 0) => ?_) (fun (h1 : ¬ (v < 0)) => ?_)
  · skip
    refine T_ld 14 (.int (i32 0)) rfl (fun _ => rfl) ?_
    refine T_ret rfl (fun _ => rfl) ?_
    exact ⟨0, ⟨by omega, by omega⟩, (show (0 : Int) = 1 ↔ (0 ≤ v ∧ v < n) by omega), rfl⟩
  · skip
    refine T_ld 5 (.int (i32 v)) rfl (fun _ => rfl) ?_
    refine T_ld 6 (.int (i32 n)) rfl (fun _ => rfl) ?_
    refine T_icmp 13 9 rfl rfl rfl (r32 (by omega) (by omega)) (r32 (by omega) (by omega)) (fun (h2 : n ≤ v) => ?_) (fun (h2 : ¬ (n ≤ v)) => ?_)
    · skip
      refine T_ld 14 (.int (i32 0)) rfl (fun _ => rfl) ?_
      refine T_ret rfl (fun _ => rfl) ?_
      exact ⟨0, ⟨by omega, by omega⟩, (show (0 : Int) = 1 ↔ (0 ≤ v ∧ v < n) by omega), rfl⟩
    · skip
      refine T_ld 10 (.int (i32 1)) rfl (fun _ => rfl) ?_
      refine T_goto 14 rfl (fun _ => rfl) ?_
      refine T_ret rfl (fun _ => rfl) ?_
      exact ⟨1, ⟨by omega, by omega⟩, (show (1 : Int) = 1 ↔ (0 ≤ v ∧ v < n) by omega), rfl⟩
def fF_comes : List Nat := [148, 149]
def fA_comes : List Nat := [153]
def Q_comes (m : mR) (c : Nat → Option am_C) (N : Nat) (k : Int) : ag_Re af_T → Prop := fun R => ∃ (M : mR) (r : Int), Ty M ∧ fr fF_comes fA_comes m M ∧ (0 ≤ r ∧ r ≤ 1000000) ∧ ((M.1 149) = (m.1 149) + 1) ∧ ((M.1 148) = (m.1 148) + 1) ∧ (r = (m.1 148)) ∧ ((M.2 153) = upI (m.2 153) (m.1 149) k) ∧ R = (.inl (some (.int (i32 r))), (mhp M c, N), 0, 0)
set_option maxHeartbeats 3000000 in
theorem c_comes (w : wX) (m : mR) (c : Nat → Option am_C) (N D : Nat) (hD : 1 ≤ D) (hT : Ty m) (k : Int) (qk : R32 k) (p0 : 0 ≤ k ∧ k ≤ 3) (p1 : (m.1 149) ≤ 39) (p2 : (m.1 148) ≤ 999999) : TC w D 308 [.ref 189, .int (i32 k)] (mhp m c, N) (Q_comes m c N k) := by
  obtain ⟨D, rfl⟩ : ∃ k, D = k + 1 := ⟨D - 1, by omega⟩
  obtain ⟨qka, qkb⟩ := id qk
  have f148 : 0 ≤ m.1 148 ∧ m.1 148 ≤ 1000000 := hT.1 148
  have f149 : 0 ≤ m.1 149 ∧ m.1 149 ≤ 40 := hT.1 149
  refine Tc_of rfl ?_
  show TT w D pm_308 (0, [(0, .ref 189), (1, .int (i32 k))], [], (mhp (mO m [] []) c, N), 0, 0) (Q_comes m c N k)
  refine T_gf 4 (.ref 302) rfl rfl rfl rfl rfl rfl ?_
  refine T_gf 8 (.int (i32 (m.1 149))) rfl rfl rfl rfl rfl rfl ?_
  refine T_ld 9 (.int (i32 k)) rfl (fun _ => rfl) ?_
  have G1 : ∀ j, 0 ≤ (upI (m.2 153) (m.1 149) k) j ∧ (upI (m.2 153) (m.1 149) k) j ≤ 3 := upI_rg (hT.2.1 153) ⟨by omega, by omega⟩
  refine T_iast (a' := [(153, upI (m.2 153) (m.1 149) k)]) 10 153 (m.2 153) rfl rfl rfl (by omega) (show (m.1 149) < (41 : Int) by omega) rfl rfl ?_
  refine T_ld 11 (.ref 189) rfl (fun _ => rfl) ?_
  refine T_ld 12 (.ref 189) rfl (fun _ => rfl) ?_
  refine T_gf1 15 (.int (i32 (m.1 149))) rfl rfl rfl rfl ?_
  refine T_ld 16 (.int (i32 1)) rfl (fun _ => rfl) ?_
  refine T_iadd 17 rfl rfl ?_
  refine T_pf (l' := [(149, (m.1 149) + 1)]) 20 ((m.1 149) + 1) rfl rfl rfl rfl rfl rfl ?_
  have g2 : 0 ≤ (m.1 149) + 1 ∧ (m.1 149) + 1 ≤ 40 := ⟨by omega, by omega⟩
  refine T_ld 21 (.ref 189) rfl (fun _ => rfl) ?_
  refine T_ld 22 (.ref 189) rfl (fun _ => rfl) ?_
  refine T_gf1 25 (.int (i32 (m.1 148))) rfl rfl rfl rfl ?_
  refine T_ld 26 (.int (i32 1)) rfl (fun _ => rfl) ?_
  refine T_iadd 27 rfl rfl ?_
  refine T_pf (l' := [(148, (m.1 148) + 1), (149, (m.1 149) + 1)]) 30 ((m.1 148) + 1) rfl rfl rfl rfl rfl rfl ?_
  have g3 : 0 ≤ (m.1 148) + 1 ∧ (m.1 148) + 1 ≤ 1000000 := ⟨by omega, by omega⟩
  refine T_gf 34 (.int (i32 ((m.1 148) + 1))) rfl rfl rfl rfl rfl rfl ?_
  refine T_ld 35 (.int (i32 1)) rfl (fun _ => rfl) ?_
  refine T_isub 36 rfl rfl ?_
  refine T_ret rfl (fun _ => rfl) ?_
  exact ⟨(mO m [(148, (m.1 148) + 1), (149, (m.1 149) + 1)] [(153, upI (m.2 153) (m.1 149) k)]), ((m.1 148) + 1) - 1, (Ty_mO hT rfl rfl ⟨g3, g2, trivial⟩ ⟨G1, trivial⟩), (fr_m fr_0 rfl rfl), ⟨by omega, by omega⟩, (show ((m.1 149) + 1) = (m.1 149) + 1 by omega), (show ((m.1 148) + 1) = (m.1 148) + 1 by omega), (show (((m.1 148) + 1) - 1) = (m.1 148) by omega), (show (upI (m.2 153) (m.1 149) k) = upI (m.2 153) (m.1 149) k by rfl), rfl⟩
def fF_packet : List Nat := [1, 5, 148, 149]
def fA_packet : List Nat := [153, 154, 155, 159]
def Q_packet (m : mR) (c : Nat → Option am_C) (N : Nat) (p : Int) : ag_Re af_T → Prop := fun R => ∃ (M : mR) (r : Int), Ty M ∧ fr fF_packet fA_packet m M ∧ (0 ≤ r ∧ r ≤ 1000000) ∧ ((M.1 148) ≤ (m.1 148) + 1) ∧ (((M.1 1) = 0 ∧ (m.1 128) = 1 ∧ (m.1 149) < 40 ∧ (m.1 5) ≤ 128 ∧ (M.1 5) = 0 ∧ (M.1 148) = (m.1 148) + 1 ∧ r = (m.1 148)) ∨ ((M.1 1) = 1 ∧ ((m.1 128) = 0 ∨ (m.1 149) = 40) ∧ (M.1 5) = (m.1 5) ∧ (M.1 148) = (m.1 148)) ∨ ((M.1 1) = 2 ∧ (m.1 128) = 1 ∧ (m.1 149) < 40 ∧ 128 < (m.1 5) ∧ (M.1 5) = (m.1 5) ∧ (M.1 148) = (m.1 148))) ∧ ((M.1 148) - (M.1 149) = (m.1 148) - (m.1 149)) ∧ (∀ k, 0 ≤ k → k < (M.1 149) → 0 < (M.2 153) k → (m.2 156) k < (m.1 26)) ∧ R = (.inl (some (.int (i32 r))), (mhp M c, N), 0, 0)
set_option maxHeartbeats 3000000 in
theorem c_packet (w : wX) (m : mR) (c : Nat → Option am_C) (N D : Nat) (hD : 2 ≤ D) (hT : Ty m) (p : Int) (qp : R32 p) (p0 : (m.1 148) ≤ 999999) (hLT : ∀ k, 0 ≤ k → k < (m.1 149) → 0 < (m.2 153) k → (m.2 156) k < (m.1 26)) : TC w D 307 [.ref 189, .int (i32 p)] (mhp m c, N) (Q_packet m c N p) := by
  obtain ⟨D, rfl⟩ : ∃ k, D = k + 1 := ⟨D - 1, by omega⟩
  obtain ⟨qpa, qpb⟩ := id qp
  have f1 : 0 ≤ m.1 1 ∧ m.1 1 ≤ 3 := hT.1 1
  have f5 : 0 ≤ m.1 5 ∧ m.1 5 ≤ 4000 := hT.1 5
  have f148 : 0 ≤ m.1 148 ∧ m.1 148 ≤ 1000000 := hT.1 148
  have f149 : 0 ≤ m.1 149 ∧ m.1 149 ≤ 40 := hT.1 149
  have f128 : 0 ≤ m.1 128 ∧ m.1 128 ≤ 1 := hT.1 128
  have f26 : 0 ≤ m.1 26 ∧ m.1 26 ≤ 8 := hT.1 26
  refine Tc_of rfl ?_
  show TT w D pm_307 (0, [(0, .ref 189), (1, .int (i32 p))], [], (mhp (mO m [] []) c, N), 0, 0) (Q_packet m c N p)
  refine T_ld 1 (.ref 189) rfl (fun _ => rfl) ?_
  refine T_gf 5 (.int (i32 (m.1 128))) rfl rfl rfl rfl rfl rfl ?_
  refine T_if 17 8 rfl rfl rfl (r32 (by omega) (by omega)) (fun (h1 : (m.1 128) = 0) => ?_) (fun (h1 : ¬ ((m.1 128) = 0)) => ?_)
  · skip
    refine T_ld 18 (.int (i32 1)) rfl (fun _ => rfl) ?_
    refine T_goto 36 rfl (fun _ => rfl) ?_
    refine T_pf (l' := [(1, 1)]) 39 1 rfl rfl rfl rfl rfl rfl ?_
    refine T_gf 43 (.int (i32 1)) rfl rfl rfl rfl rfl rfl ?_
    refine T_if 48 46 rfl rfl rfl ⟨by decide, by decide⟩ (fun h2 => absurd (show (1 : Int) ≤ 0 from h2) (by decide)) (fun _ => ?_)
    refine T_ld 47 (.int (i32 0)) rfl (fun _ => rfl) ?_
    refine T_ret rfl (fun _ => rfl) ?_
    exact ⟨(mO m [(1, 1)] []), 0, (Ty_mO hT rfl rfl ⟨⟨(by omega : (0 : Int) ≤ 1), (by omega : (1 : Int) ≤ 3)⟩, trivial⟩ trivial), (fr_m fr_0 rfl rfl), ⟨by omega, by omega⟩, (show (m.1 148) ≤ (m.1 148) + 1 by omega), (show ((1 : Int) = 0 ∧ (m.1 128) = 1 ∧ (m.1 149) < 40 ∧ (m.1 5) ≤ 128 ∧ (m.1 5) = 0 ∧ (m.1 148) = (m.1 148) + 1 ∧ (0 : Int) = (m.1 148)) ∨ ((1 : Int) = 1 ∧ ((m.1 128) = 0 ∨ (m.1 149) = 40) ∧ (m.1 5) = (m.1 5) ∧ (m.1 148) = (m.1 148)) ∨ ((1 : Int) = 2 ∧ (m.1 128) = 1 ∧ (m.1 149) < 40 ∧ 128 < (m.1 5) ∧ (m.1 5) = (m.1 5) ∧ (m.1 148) = (m.1 148)) by omega), (show (m.1 148) - (m.1 149) = (m.1 148) - (m.1 149) by omega), (show ∀ k, 0 ≤ k → k < (m.1 149) → 0 < (m.2 153) k → (m.2 156) k < (m.1 26) by first | (first | exact hLT | (intro k a b c; rw [hLk] at c; by_cases e : k = (m.1 149); (rw [e, upI_s] at c; omega); (rw [upI_n e] at c; exact hLT k a (by omega) c))) | (exfalso; omega)), rfl⟩
  · skip
    refine T_gf 12 (.int (i32 (m.1 149))) rfl rfl rfl rfl rfl rfl ?_
    refine T_ld 14 (.int (i32 40)) rfl (fun _ => rfl) ?_
    refine T_icmp 21 17 rfl rfl rfl (r32 (by omega) (by omega)) ⟨by decide, by decide⟩ (fun (h3 : (m.1 149) ≠ 40) => ?_) (fun (h3 : ¬ ((m.1 149) ≠ 40)) => ?_)
    · skip
      refine T_gf 25 (.int (i32 (m.1 5))) rfl rfl rfl rfl rfl rfl ?_
      refine T_ld 28 (.int (i32 128)) rfl (fun _ => rfl) ?_
      refine T_icmp 35 31 rfl rfl rfl (r32 (by omega) (by omega)) ⟨by decide, by decide⟩ (fun (h4 : (m.1 5) ≤ 128) => ?_) (fun (h4 : ¬ ((m.1 5) ≤ 128)) => ?_)
      · skip
        refine T_ld 36 (.int (i32 0)) rfl (fun _ => rfl) ?_
        refine T_pf (l' := [(1, 0)]) 39 0 rfl rfl rfl rfl rfl rfl ?_
        refine T_gf 43 (.int (i32 0)) rfl rfl rfl rfl rfl rfl ?_
        refine T_if 48 46 rfl rfl rfl ⟨by decide, by decide⟩ (fun _ => ?_) (fun h5 => absurd (show (0 : Int) ≤ 0 by decide) h5)
        refine T_gf 52 (.ref 303) rfl rfl rfl rfl rfl rfl ?_
        refine T_gf 56 (.int (i32 (m.1 149))) rfl rfl rfl rfl rfl rfl ?_
        refine T_gf 60 (.int (i32 (m.1 5))) rfl rfl rfl rfl rfl rfl ?_
        have G6 : ∀ j, 0 ≤ (upI (m.2 154) (m.1 149) (m.1 5)) j ∧ (upI (m.2 154) (m.1 149) (m.1 5)) j ≤ 128 := upI_rg (hT.2.1 154) ⟨by omega, by omega⟩
        refine T_iast (a' := [(154, upI (m.2 154) (m.1 149) (m.1 5))]) 61 154 (m.2 154) rfl rfl rfl (by omega) (show (m.1 149) < (41 : Int) by omega) rfl rfl ?_
        refine T_gf 65 (.ref 304) rfl rfl rfl rfl rfl rfl ?_
        refine T_gf 69 (.int (i32 (m.1 149))) rfl rfl rfl rfl rfl rfl ?_
        refine T_ld 70 (.int (i32 p)) rfl (fun _ => rfl) ?_
        have G7 : ∀ j, (-2147483648) ≤ (upI (m.2 155) (m.1 149) p) j ∧ (upI (m.2 155) (m.1 149) p) j ≤ 2147483647 := upI_rg (hT.2.1 155) ⟨by omega, by omega⟩
        refine T_iast (a' := [(154, upI (m.2 154) (m.1 149) (m.1 5)), (155, upI (m.2 155) (m.1 149) p)]) 71 155 (m.2 155) rfl rfl rfl (by omega) (show (m.1 149) < (41 : Int) by omega) rfl rfl ?_
        refine T_ld 72 (.int (i32 0)) rfl (fun _ => rfl) ?_
        refine T_sto 73 [(2, .int (i32 0)), (0, .ref 189), (1, .int (i32 p))] rfl (fun _ => rfl) ?_
        refine T_fl (Ty_mO hT rfl rfl ⟨⟨(by omega : (0 : Int) ≤ 0), (by omega : (0 : Int) ≤ 3)⟩, trivial⟩ ⟨G6, G7, trivial⟩) (fun m8 Tm8 Fm8 => ?_)
        have L73_11 : ∀ (n17 : Nat) (v9 : Int) (m10 : mR), (R32 v9) → Ty m10 → fr [] [159] (mO m8 [] []) m10 → (0 ≤ v9) → (v9 ≤ (m.1 5)) → (m.1 5) - v9 < (n17 : Int) → TT w D pm_307 (73, [(0, .ref 189), (1, .int (i32 p)), (2, .int (i32 v9))], [], (mhp (mO m10 [] []) c, N), 0, 0) (Q_packet m c N p) := by
          intro n17
          induction n17 with
          | zero =>
            intro v9 m10 q14 Tm10 Fm10 ic12 ic13 hmu
            obtain ⟨q14a, q14b⟩ := id q14
            exfalso
            omega
          | succ n17 ih =>
            intro v9 m10 q14 Tm10 Fm10 ic12 ic13 hmu
            obtain ⟨q14a, q14b⟩ := id q14
            have ih18 := ih
            refine T_ld 74 (.int (i32 v9)) rfl (fun _ => rfl) ?_
            refine T_gf 78 (.int (i32 (m.1 5))) rfl rfl rfl rfl (mfv_c (F := fun x => .int (i32 x)) rfl (show (m10.1 5) = (m.1 5) from ((fr1 Fm10 5 rfl).trans (fr1 Fm8 5 rfl)))) rfl ?_
            refine T_icmp 108 81 rfl rfl rfl (r32 (by omega) (by omega)) (r32 (by omega) (by omega)) (fun (h19 : (m.1 5) ≤ v9) => ?_) (fun (h19 : ¬ ((m.1 5) ≤ v9)) => ?_)
            · skip
              refine T_ld 109 (.ref 189) rfl (fun _ => rfl) ?_
              refine T_ld 110 (.int (i32 0)) rfl (fun _ => rfl) ?_
              refine T_pf (l' := [(5, 0)]) 113 0 rfl rfl rfl rfl rfl rfl ?_
              refine T_ld 114 (.ref 189) rfl (fun _ => rfl) ?_
              refine T_ld 115 (.int (i32 0)) rfl (fun _ => rfl) ?_
              refine T_call 118 308 [.ref 189, .int (i32 0)] [] rfl (fun _ => rfl) rfl (c_comes w (mO m10 [(5, 0)] []) c N D (by omega) (Ty_mO Tm10 rfl rfl ⟨⟨(by omega : (0 : Int) ≤ 0), (by omega : (0 : Int) ≤ 4000)⟩, trivial⟩ trivial) 0 ⟨by decide, by decide⟩ (show 0 ≤ (0 : Int) ∧ (0 : Int) ≤ 3 by omega) (show (m10.1 149) ≤ 39 by rewrite [(show (m10.1 149) = (m.1 149) from ((fr1 Fm10 149 rfl).trans (fr1 Fm8 149 rfl)))]; omega) (show (m10.1 148) ≤ 999999 by rewrite [(show (m10.1 148) = (m.1 148) from ((fr1 Fm10 148 rfl).trans (fr1 Fm8 148 rfl)))]; omega)) (fun rr20 k21 => ?_)
              obtain ⟨m22, x23, Tm22, Fm22, g24, h25, h26, h27, h28, rfl⟩ := k21
              refine ⟨_, _, rfl, ?_⟩
              refine T_nb (st' := [.int (i32 x23)]) rfl ?_
              obtain ⟨g24a, g24b⟩ := g24
              have g29 : 0 ≤ m22.1 148 ∧ m22.1 148 ≤ 1000000 := Tm22.1 148
              have g30 : 0 ≤ m22.1 149 ∧ m22.1 149 ≤ 40 := Tm22.1 149
              replace h25 : (m22.1 149) = (m10.1 149) + 1 := h25
              rewrite [(show (m10.1 149) = (m.1 149) from ((fr1 Fm10 149 rfl).trans (fr1 Fm8 149 rfl)))] at h25
              replace h26 : (m22.1 148) = (m10.1 148) + 1 := h26
              rewrite [(show (m10.1 148) = (m.1 148) from ((fr1 Fm10 148 rfl).trans (fr1 Fm8 148 rfl)))] at h26
              replace h27 : x23 = (m10.1 148) := h27
              rewrite [(show (m10.1 148) = (m.1 148) from ((fr1 Fm10 148 rfl).trans (fr1 Fm8 148 rfl)))] at h27
              replace h28 : (m22.2 153) = upI (m10.2 153) (m10.1 149) (0 : Int) := h28
              rewrite [(show (m10.2 153) = (m.2 153) from ((fr2 Fm10 153 rfl).trans (fr2 Fm8 153 rfl))), (show (m10.1 149) = (m.1 149) from ((fr1 Fm10 149 rfl).trans (fr1 Fm8 149 rfl)))] at h28
              have hLk := h28
              refine T_ret rfl (fun _ => rfl) ?_
              exact ⟨(mO m22 [] []), x23, Tm22, (fr_m (fr_s Fm22 (fr_m (fr_s Fm10 (fr_m (fr_s Fm8 (fr_m fr_0 rfl rfl) rfl rfl) rfl rfl) rfl rfl) rfl rfl) rfl rfl) rfl rfl), ⟨by omega, by omega⟩, (show (m22.1 148) ≤ (m.1 148) + 1 by omega), (show ((m22.1 1) = 0 ∧ (m.1 128) = 1 ∧ (m.1 149) < 40 ∧ (m.1 5) ≤ 128 ∧ (m22.1 5) = 0 ∧ (m22.1 148) = (m.1 148) + 1 ∧ x23 = (m.1 148)) ∨ ((m22.1 1) = 1 ∧ ((m.1 128) = 0 ∨ (m.1 149) = 40) ∧ (m22.1 5) = (m.1 5) ∧ (m22.1 148) = (m.1 148)) ∨ ((m22.1 1) = 2 ∧ (m.1 128) = 1 ∧ (m.1 149) < 40 ∧ 128 < (m.1 5) ∧ (m22.1 5) = (m.1 5) ∧ (m22.1 148) = (m.1 148)) by rewrite [(show (m22.1 1) = 0 from ((fr1 Fm22 1 rfl).trans ((fr1 Fm10 1 rfl).trans (fr1 Fm8 1 rfl)))), (show (m22.1 5) = 0 from (fr1 Fm22 5 rfl))]; omega), (show (m22.1 148) - (m22.1 149) = (m.1 148) - (m.1 149) by omega), (show ∀ k, 0 ≤ k → k < (m22.1 149) → 0 < (m22.2 153) k → (m.2 156) k < (m.1 26) by first | (first | exact hLT | (intro k a b c; rw [hLk] at c; by_cases e : k = (m.1 149); (rw [e, upI_s] at c; omega); (rw [upI_n e] at c; exact hLT k a (by omega) c))) | (exfalso; omega)), rfl⟩
            · skip
              refine T_gf 85 (.ref 308) rfl rfl rfl rfl rfl rfl ?_
              refine T_ld 88 (.int (i32 128)) rfl (fun _ => rfl) ?_
              refine T_gf 92 (.int (i32 (m.1 149))) rfl rfl rfl rfl (mfv_c (F := fun x => .int (i32 x)) rfl (show (m10.1 149) = (m.1 149) from ((fr1 Fm10 149 rfl).trans (fr1 Fm8 149 rfl)))) rfl ?_
              refine T_imul 93 rfl rfl ?_
              refine T_ld 94 (.int (i32 v9)) rfl (fun _ => rfl) ?_
              refine T_iadd 95 rfl rfl ?_
              refine T_gf 99 (.ref 192) rfl rfl rfl rfl rfl rfl ?_
              refine T_ld 100 (.int (i32 v9)) rfl (fun _ => rfl) ?_
              refine T_iald 101 3 (m.2 3) rfl rfl rfl (by omega) (show v9 < (4000 : Int) by omega) (show (m10.2 3) = (m.2 3) from ((fr2 Fm10 3 rfl).trans (fr2 Fm8 3 rfl))) ?_
              have e31 : 0 ≤ m.2 3 v9 ∧ m.2 3 v9 ≤ 255 := hT.2.1 3 v9
              have G32 : ∀ j, 0 ≤ (upI (m10.2 159) ((128 * (m.1 149)) + v9) ((m.2 3) v9)) j ∧ (upI (m10.2 159) ((128 * (m.1 149)) + v9) ((m.2 3) v9)) j ≤ 255 := upI_rg (Tm10.2.1 159) ⟨by omega, by omega⟩
              refine T_iast (a' := [(159, upI (m10.2 159) ((128 * (m.1 149)) + v9) ((m.2 3) v9))]) 102 159 (m10.2 159) rfl rfl rfl (by omega) (show ((128 * (m.1 149)) + v9) < (5248 : Int) by omega) rfl rfl ?_
              refine T_iinc 105 [(2, .int (i32 (v9 + 1))), (0, .ref 189), (1, .int (i32 p))] rfl rfl (by decide) rfl rfl ?_
              refine T_goto 73 rfl (fun _ => rfl) ?_
              refine Tm_lv (a := [(0, .ref 189), (1, .int (i32 p)), (2, .int (i32 (v9 + 1)))]) rfl rfl ⟨rfl, rfl, rfl, trivial⟩ ?_
              exact ih18 (v9 + 1) (mO m10 [] [(159, upI (m10.2 159) ((128 * (m.1 149)) + v9) ((m.2 3) v9))]) (r32 (by omega) (by omega)) (Ty_mO Tm10 rfl rfl trivial ⟨G32, trivial⟩) (fr_m (fr_s Fm10 (fr_m fr_0 rfl rfl) rfl rfl) rfl rfl) (show 0 ≤ (v9 + 1) by omega) (show (v9 + 1) ≤ (m.1 5) by omega) (show (m.1 5) - (v9 + 1) < (n17 : Int) by omega)
        refine Tm_lv (a := [(0, .ref 189), (1, .int (i32 p)), (2, .int (i32 0))]) rfl rfl ⟨rfl, rfl, rfl, trivial⟩ ?_
        exact L73_11 (((m.1 5) - (0 : Int) : Int) + 1).toNat 0 (mO m8 [] []) ⟨by decide, by decide⟩ Tm8 (fr_m fr_0 rfl rfl) (show 0 ≤ (0 : Int) by omega) (show (0 : Int) ≤ (m.1 5) by omega) (show (m.1 5) - (0 : Int) < (((((m.1 5) - (0 : Int) : Int) + 1).toNat : Nat) : Int) by omega)
      · skip
        refine T_ld 32 (.int (i32 2)) rfl (fun _ => rfl) ?_
        refine T_goto 36 rfl (fun _ => rfl) ?_
        refine T_pf (l' := [(1, 2)]) 39 2 rfl rfl rfl rfl rfl rfl ?_
        refine T_gf 43 (.int (i32 2)) rfl rfl rfl rfl rfl rfl ?_
        refine T_if 48 46 rfl rfl rfl ⟨by decide, by decide⟩ (fun h33 => absurd (show (2 : Int) ≤ 0 from h33) (by decide)) (fun _ => ?_)
        refine T_ld 47 (.int (i32 0)) rfl (fun _ => rfl) ?_
        refine T_ret rfl (fun _ => rfl) ?_
        exact ⟨(mO m [(1, 2)] []), 0, (Ty_mO hT rfl rfl ⟨⟨(by omega : (0 : Int) ≤ 2), (by omega : (2 : Int) ≤ 3)⟩, trivial⟩ trivial), (fr_m fr_0 rfl rfl), ⟨by omega, by omega⟩, (show (m.1 148) ≤ (m.1 148) + 1 by omega), (show ((2 : Int) = 0 ∧ (m.1 128) = 1 ∧ (m.1 149) < 40 ∧ (m.1 5) ≤ 128 ∧ (m.1 5) = 0 ∧ (m.1 148) = (m.1 148) + 1 ∧ (0 : Int) = (m.1 148)) ∨ ((2 : Int) = 1 ∧ ((m.1 128) = 0 ∨ (m.1 149) = 40) ∧ (m.1 5) = (m.1 5) ∧ (m.1 148) = (m.1 148)) ∨ ((2 : Int) = 2 ∧ (m.1 128) = 1 ∧ (m.1 149) < 40 ∧ 128 < (m.1 5) ∧ (m.1 5) = (m.1 5) ∧ (m.1 148) = (m.1 148)) by omega), (show (m.1 148) - (m.1 149) = (m.1 148) - (m.1 149) by omega), (show ∀ k, 0 ≤ k → k < (m.1 149) → 0 < (m.2 153) k → (m.2 156) k < (m.1 26) by first | (first | exact hLT | (intro k a b c; rw [hLk] at c; by_cases e : k = (m.1 149); (rw [e, upI_s] at c; omega); (rw [upI_n e] at c; exact hLT k a (by omega) c))) | (exfalso; omega)), rfl⟩
    · skip
      refine T_ld 18 (.int (i32 1)) rfl (fun _ => rfl) ?_
      refine T_goto 36 rfl (fun _ => rfl) ?_
      refine T_pf (l' := [(1, 1)]) 39 1 rfl rfl rfl rfl rfl rfl ?_
      refine T_gf 43 (.int (i32 1)) rfl rfl rfl rfl rfl rfl ?_
      refine T_if 48 46 rfl rfl rfl ⟨by decide, by decide⟩ (fun h34 => absurd (show (1 : Int) ≤ 0 from h34) (by decide)) (fun _ => ?_)
      refine T_ld 47 (.int (i32 0)) rfl (fun _ => rfl) ?_
      refine T_ret rfl (fun _ => rfl) ?_
      exact ⟨(mO m [(1, 1)] []), 0, (Ty_mO hT rfl rfl ⟨⟨(by omega : (0 : Int) ≤ 1), (by omega : (1 : Int) ≤ 3)⟩, trivial⟩ trivial), (fr_m fr_0 rfl rfl), ⟨by omega, by omega⟩, (show (m.1 148) ≤ (m.1 148) + 1 by omega), (show ((1 : Int) = 0 ∧ (m.1 128) = 1 ∧ (m.1 149) < 40 ∧ (m.1 5) ≤ 128 ∧ (m.1 5) = 0 ∧ (m.1 148) = (m.1 148) + 1 ∧ (0 : Int) = (m.1 148)) ∨ ((1 : Int) = 1 ∧ ((m.1 128) = 0 ∨ (m.1 149) = 40) ∧ (m.1 5) = (m.1 5) ∧ (m.1 148) = (m.1 148)) ∨ ((1 : Int) = 2 ∧ (m.1 128) = 1 ∧ (m.1 149) < 40 ∧ 128 < (m.1 5) ∧ (m.1 5) = (m.1 5) ∧ (m.1 148) = (m.1 148)) by omega), (show (m.1 148) - (m.1 149) = (m.1 148) - (m.1 149) by omega), (show ∀ k, 0 ≤ k → k < (m.1 149) → 0 < (m.2 153) k → (m.2 156) k < (m.1 26) by first | (first | exact hLT | (intro k a b c; rw [hLk] at c; by_cases e : k = (m.1 149); (rw [e, upI_s] at c; omega); (rw [upI_n e] at c; exact hLT k a (by omega) c))) | (exfalso; omega)), rfl⟩
def fF_key : List Nat := [1]
def fA_key : List Nat := [145, 146]
def Q_key (m : mR) (c : Nat → Option am_C) (N : Nat) (i : Int) (v : Int) (u : Int) : ag_Re af_T → Prop := fun R => ∃ (M : mR), Ty M ∧ fr fF_key fA_key m M ∧ R = (.inl (none), (mhp M c, N), 0, 0)
set_option maxHeartbeats 3000000 in
theorem c_key (w : wX) (m : mR) (c : Nat → Option am_C) (N D : Nat) (hD : 2 ≤ D) (hT : Ty m) (i : Int) (v : Int) (u : Int) (qi : R32 i) (qv : R64 v) (qu : R64 u) : TC w D 309 [.ref 189, .int (i32 i), .long (i64 v), .long (i64 u)] (mhp m c, N) (Q_key m c N i v u) := by
  obtain ⟨D, rfl⟩ : ∃ k, D = k + 1 := ⟨D - 1, by omega⟩
  obtain ⟨qia, qib⟩ := id qi
  obtain ⟨qva, qvb⟩ := id qv
  obtain ⟨qua, qub⟩ := id qu
  have f1 : 0 ≤ m.1 1 ∧ m.1 1 ≤ 3 := hT.1 1
  refine Tc_of rfl ?_
  show TT w D pm_309 (0, [(0, .ref 189), (1, .int (i32 i)), (2, .long (i64 v)), (4, .long (i64 u))], [], (mhp (mO m [] []) c, N), 0, 0) (Q_key m c N i v u)
  refine T_ld 1 (.ref 189) rfl (fun _ => rfl) ?_
  refine T_ld 2 (.int (i32 i)) rfl (fun _ => rfl) ?_
  refine T_ld 3 (.int (i32 4)) rfl (fun _ => rfl) ?_
  refine T_call 6 305 [.int (i32 i), .int (i32 4)] [.ref 189] rfl (fun _ => rfl) rfl (c_in w (mO m [] []) c N D (by omega) hT i 4 (r32 (by omega) (by omega)) ⟨by decide, by decide⟩) (fun rr1 k2 => ?_)
  obtain ⟨x3, g4, h5, rfl⟩ := k2
  refine ⟨_, _, rfl, ?_⟩
  refine T_ns (st' := [.int (i32 x3), .ref 189]) rfl ?_
  obtain ⟨g4a, g4b⟩ := g4
  replace h5 : x3 = 1 ↔ (0 ≤ i ∧ i < (4 : Int)) := h5
  refine T_if 13 9 rfl rfl rfl (r32 (by omega) (by omega)) (fun (h6 : x3 = 0) => ?_) (fun (h6 : ¬ (x3 = 0)) => ?_)
  · skip
    refine T_ld 14 (.int (i32 1)) rfl (fun _ => rfl) ?_
    refine T_pf (l' := [(1, 1)]) 17 1 rfl rfl rfl rfl rfl rfl ?_
    refine T_gf 21 (.int (i32 1)) rfl rfl rfl rfl rfl rfl ?_
    refine T_if 25 24 rfl rfl rfl ⟨by decide, by decide⟩ (fun h7 => absurd (show (1 : Int) ≤ 0 from h7) (by decide)) (fun _ => ?_)
    refine T_ret rfl (fun _ => rfl) ?_
    exact ⟨(mO m [(1, 1)] []), (Ty_mO hT rfl rfl ⟨⟨(by omega : (0 : Int) ≤ 1), (by omega : (1 : Int) ≤ 3)⟩, trivial⟩ trivial), (fr_m fr_0 rfl rfl), rfl⟩
  · skip
    refine T_ld 10 (.int (i32 0)) rfl (fun _ => rfl) ?_
    refine T_goto 14 rfl (fun _ => rfl) ?_
    refine T_pf (l' := [(1, 0)]) 17 0 rfl rfl rfl rfl rfl rfl ?_
    refine T_gf 21 (.int (i32 0)) rfl rfl rfl rfl rfl rfl ?_
    refine T_if 25 24 rfl rfl rfl ⟨by decide, by decide⟩ (fun _ => ?_) (fun h8 => absurd (show (0 : Int) ≤ 0 by decide) h8)
    refine T_gf 29 (.ref 299) rfl rfl rfl rfl rfl rfl ?_
    refine T_ld 30 (.int (i32 i)) rfl (fun _ => rfl) ?_
    refine T_ld 31 (.long (i64 v)) rfl (fun _ => rfl) ?_
    have G9 : ∀ j, (-9223372036854775808) ≤ (upI (m.2 145) i v) j ∧ (upI (m.2 145) i v) j ≤ 9223372036854775807 := upI_rg (hT.2.1 145) ⟨by omega, by omega⟩
    refine T_last (a' := [(145, upI (m.2 145) i v)]) 32 145 (m.2 145) rfl rfl rfl (by omega) (show i < (4 : Int) by omega) rfl rfl ?_
    refine T_gf 36 (.ref 300) rfl rfl rfl rfl rfl rfl ?_
    refine T_ld 37 (.int (i32 i)) rfl (fun _ => rfl) ?_
    refine T_ld 39 (.long (i64 u)) rfl (fun _ => rfl) ?_
    have G10 : ∀ j, (-9223372036854775808) ≤ (upI (m.2 146) i u) j ∧ (upI (m.2 146) i u) j ≤ 9223372036854775807 := upI_rg (hT.2.1 146) ⟨by omega, by omega⟩
    refine T_last (a' := [(145, upI (m.2 145) i v), (146, upI (m.2 146) i u)]) 40 146 (m.2 146) rfl rfl rfl (by omega) (show i < (4 : Int) by omega) rfl rfl ?_
    refine T_ret rfl (fun _ => rfl) ?_
    exact ⟨(mO m [(1, 0)] [(145, upI (m.2 145) i v), (146, upI (m.2 146) i u)]), (Ty_mO hT rfl rfl ⟨⟨(by omega : (0 : Int) ≤ 0), (by omega : (0 : Int) ≤ 3)⟩, trivial⟩ ⟨G9, G10, trivial⟩), (fr_m fr_0 rfl rfl), rfl⟩
def fF_datum : List Nat := [1]
def fA_datum : List Nat := [147]
def Q_datum (m : mR) (c : Nat → Option am_C) (N : Nat) (i : Int) (v : Int) : ag_Re af_T → Prop := fun R => ∃ (M : mR), Ty M ∧ fr fF_datum fA_datum m M ∧ R = (.inl (none), (mhp M c, N), 0, 0)
set_option maxHeartbeats 3000000 in
theorem c_datum (w : wX) (m : mR) (c : Nat → Option am_C) (N D : Nat) (hD : 2 ≤ D) (hT : Ty m) (i : Int) (v : Int) (qi : R32 i) (qv : R64 v) : TC w D 310 [.ref 189, .int (i32 i), .long (i64 v)] (mhp m c, N) (Q_datum m c N i v) := by
  obtain ⟨D, rfl⟩ : ∃ k, D = k + 1 := ⟨D - 1, by omega⟩
  obtain ⟨qia, qib⟩ := id qi
  obtain ⟨qva, qvb⟩ := id qv
  have f1 : 0 ≤ m.1 1 ∧ m.1 1 ≤ 3 := hT.1 1
  refine Tc_of rfl ?_
  show TT w D pm_310 (0, [(0, .ref 189), (1, .int (i32 i)), (2, .long (i64 v))], [], (mhp (mO m [] []) c, N), 0, 0) (Q_datum m c N i v)
  refine T_ld 1 (.ref 189) rfl (fun _ => rfl) ?_
  refine T_ld 2 (.int (i32 i)) rfl (fun _ => rfl) ?_
  refine T_ld 3 (.int (i32 4)) rfl (fun _ => rfl) ?_
  refine T_call 6 305 [.int (i32 i), .int (i32 4)] [.ref 189] rfl (fun _ => rfl) rfl (c_in w (mO m [] []) c N D (by omega) hT i 4 (r32 (by omega) (by omega)) ⟨by decide, by decide⟩) (fun rr1 k2 => ?_)
  obtain ⟨x3, g4, h5, rfl⟩ := k2
  refine ⟨_, _, rfl, ?_⟩
  refine T_ns (st' := [.int (i32 x3), .ref 189]) rfl ?_
  obtain ⟨g4a, g4b⟩ := g4
  replace h5 : x3 = 1 ↔ (0 ≤ i ∧ i < (4 : Int)) := h5
  refine T_if 13 9 rfl rfl rfl (r32 (by omega) (by omega)) (fun (h6 : x3 = 0) => ?_) (fun (h6 : ¬ (x3 = 0)) => ?_)
  · skip
    refine T_ld 14 (.int (i32 1)) rfl (fun _ => rfl) ?_
    refine T_pf (l' := [(1, 1)]) 17 1 rfl rfl rfl rfl rfl rfl ?_
    refine T_gf 21 (.int (i32 1)) rfl rfl rfl rfl rfl rfl ?_
    refine T_if 31 24 rfl rfl rfl ⟨by decide, by decide⟩ (fun _ => ?_) (fun h7 => absurd (show (1 : Int) ≠ 0 by decide) h7)
    refine T_ret rfl (fun _ => rfl) ?_
    exact ⟨(mO m [(1, 1)] []), (Ty_mO hT rfl rfl ⟨⟨(by omega : (0 : Int) ≤ 1), (by omega : (1 : Int) ≤ 3)⟩, trivial⟩ trivial), (fr_m fr_0 rfl rfl), rfl⟩
  · skip
    refine T_ld 10 (.int (i32 0)) rfl (fun _ => rfl) ?_
    refine T_goto 14 rfl (fun _ => rfl) ?_
    refine T_pf (l' := [(1, 0)]) 17 0 rfl rfl rfl rfl rfl rfl ?_
    refine T_gf 21 (.int (i32 0)) rfl rfl rfl rfl rfl rfl ?_
    refine T_if 31 24 rfl rfl rfl ⟨by decide, by decide⟩ (fun h8 => absurd (show (0 : Int) ≠ 0 from h8) (by decide)) (fun _ => ?_)
    refine T_gf 28 (.ref 301) rfl rfl rfl rfl rfl rfl ?_
    refine T_ld 29 (.int (i32 i)) rfl (fun _ => rfl) ?_
    refine T_ld 30 (.long (i64 v)) rfl (fun _ => rfl) ?_
    have G9 : ∀ j, (-9223372036854775808) ≤ (upI (m.2 147) i v) j ∧ (upI (m.2 147) i v) j ≤ 9223372036854775807 := upI_rg (hT.2.1 147) ⟨by omega, by omega⟩
    refine T_last (a' := [(147, upI (m.2 147) i v)]) 31 147 (m.2 147) rfl rfl rfl (by omega) (show i < (4 : Int) by omega) rfl rfl ?_
    refine T_ret rfl (fun _ => rfl) ?_
    exact ⟨(mO m [(1, 0)] [(147, upI (m.2 147) i v)]), (Ty_mO hT rfl rfl ⟨⟨(by omega : (0 : Int) ≤ 0), (by omega : (0 : Int) ≤ 3)⟩, trivial⟩ ⟨G9, trivial⟩), (fr_m fr_0 rfl rfl), rfl⟩
def fF_entry : List Nat := [1, 148, 149]
def fA_entry : List Nat := [153, 156, 157, 158, 160, 161, 162]
def Q_entry (m : mR) (c : Nat → Option am_C) (N : Nat) (k : Int) (t : Int) (p : Int) (a : Int) : ag_Re af_T → Prop := fun R => ∃ (M : mR) (r : Int), Ty M ∧ fr fF_entry fA_entry m M ∧ (0 ≤ r ∧ r ≤ 1000000) ∧ ((M.1 148) ≤ (m.1 148) + 1) ∧ (((M.1 1) = 0 ∧ 0 ≤ k ∧ k ≤ 2 ∧ (m.1 127) = 1 ∧ 0 ≤ t ∧ t < (m.1 26) ∧ (m.1 128) = 1 ∧ (m.1 149) < 40 ∧ (M.1 148) = (m.1 148) + 1 ∧ r = (m.1 148)) ∨ ((M.1 1) = 1 ∧ (k < 0 ∨ 2 < k ∨ (m.1 127) = 0 ∨ t < 0 ∨ (m.1 26) ≤ t) ∧ (M.1 148) = (m.1 148)) ∨ ((M.1 1) = 2 ∧ 0 ≤ k ∧ k ≤ 2 ∧ (m.1 127) = 1 ∧ 0 ≤ t ∧ t < (m.1 26) ∧ ((m.1 128) = 0 ∨ (m.1 149) = 40) ∧ (M.1 148) = (m.1 148))) ∧ ((M.1 148) - (M.1 149) = (m.1 148) - (m.1 149)) ∧ (∀ k, 0 ≤ k → k < (M.1 149) → 0 < (M.2 153) k → (M.2 156) k < (m.1 26)) ∧ R = (.inl (some (.int (i32 r))), (mhp M c, N), 0, 0)
set_option maxHeartbeats 3000000 in
theorem c_entry (w : wX) (m : mR) (c : Nat → Option am_C) (N D : Nat) (hD : 2 ≤ D) (hT : Ty m) (k : Int) (t : Int) (p : Int) (a : Int) (qk : R32 k) (qt : R32 t) (qp : R32 p) (qa : R32 a) (p0 : (m.1 148) ≤ 999999) (hLT : ∀ k, 0 ≤ k → k < (m.1 149) → 0 < (m.2 153) k → (m.2 156) k < (m.1 26)) : TC w D 311 [.ref 189, .int (i32 k), .int (i32 t), .int (i32 p), .int (i32 a)] (mhp m c, N) (Q_entry m c N k t p a) := by
  obtain ⟨D, rfl⟩ : ∃ k, D = k + 1 := ⟨D - 1, by omega⟩
  obtain ⟨qka, qkb⟩ := id qk
  obtain ⟨qta, qtb⟩ := id qt
  obtain ⟨qpa, qpb⟩ := id qp
  obtain ⟨qaa, qab⟩ := id qa
  have f1 : 0 ≤ m.1 1 ∧ m.1 1 ≤ 3 := hT.1 1
  have f148 : 0 ≤ m.1 148 ∧ m.1 148 ≤ 1000000 := hT.1 148
  have f149 : 0 ≤ m.1 149 ∧ m.1 149 ≤ 40 := hT.1 149
  have f128 : 0 ≤ m.1 128 ∧ m.1 128 ≤ 1 := hT.1 128
  have f127 : 0 ≤ m.1 127 ∧ m.1 127 ≤ 1 := hT.1 127
  have f26 : 0 ≤ m.1 26 ∧ m.1 26 ≤ 8 := hT.1 26
  refine Tc_of rfl ?_
  show TT w D pm_311 (0, [(0, .ref 189), (1, .int (i32 k)), (2, .int (i32 t)), (3, .int (i32 p)), (4, .int (i32 a))], [], (mhp (mO m [] []) c, N), 0, 0) (Q_entry m c N k t p a)
  refine T_ld 1 (.ref 189) rfl (fun _ => rfl) ?_
  refine T_ld 2 (.int (i32 k)) rfl (fun _ => rfl) ?_
  refine T_ld 3 (.int (i32 3)) rfl (fun _ => rfl) ?_
  refine T_call 6 305 [.int (i32 k), .int (i32 3)] [.ref 189] rfl (fun _ => rfl) rfl (c_in w (mO m [] []) c N D (by omega) hT k 3 (r32 (by omega) (by omega)) ⟨by decide, by decide⟩) (fun rr1 k2 => ?_)
  obtain ⟨x3, g4, h5, rfl⟩ := k2
  refine ⟨_, _, rfl, ?_⟩
  refine T_ns (st' := [.int (i32 x3), .ref 189]) rfl ?_
  obtain ⟨g4a, g4b⟩ := g4
  replace h5 : x3 = 1 ↔ (0 ≤ k ∧ k < (3 : Int)) := h5
  refine T_if 27 9 rfl rfl rfl (r32 (by omega) (by omega)) (fun (h6 : x3 = 0) => ?_) (fun (h6 : ¬ (x3 = 0)) => ?_)
  · skip
    refine T_ld 28 (.int (i32 1)) rfl (fun _ => rfl) ?_
    refine T_goto 52 rfl (fun _ => rfl) ?_
    refine T_pf (l' := [(1, 1)]) 55 1 rfl rfl rfl rfl rfl rfl ?_
    refine T_gf 59 (.int (i32 1)) rfl rfl rfl rfl rfl rfl ?_
    refine T_if 64 62 rfl rfl rfl ⟨by decide, by decide⟩ (fun h7 => absurd (show (1 : Int) ≤ 0 from h7) (by decide)) (fun _ => ?_)
    refine T_ld 63 (.int (i32 0)) rfl (fun _ => rfl) ?_
    refine T_ret rfl (fun _ => rfl) ?_
    exact ⟨(mO m [(1, 1)] []), 0, (Ty_mO hT rfl rfl ⟨⟨(by omega : (0 : Int) ≤ 1), (by omega : (1 : Int) ≤ 3)⟩, trivial⟩ trivial), (fr_m fr_0 rfl rfl), ⟨by omega, by omega⟩, (show (m.1 148) ≤ (m.1 148) + 1 by omega), (show ((1 : Int) = 0 ∧ 0 ≤ k ∧ k ≤ 2 ∧ (m.1 127) = 1 ∧ 0 ≤ t ∧ t < (m.1 26) ∧ (m.1 128) = 1 ∧ (m.1 149) < 40 ∧ (m.1 148) = (m.1 148) + 1 ∧ (0 : Int) = (m.1 148)) ∨ ((1 : Int) = 1 ∧ (k < 0 ∨ 2 < k ∨ (m.1 127) = 0 ∨ t < 0 ∨ (m.1 26) ≤ t) ∧ (m.1 148) = (m.1 148)) ∨ ((1 : Int) = 2 ∧ 0 ≤ k ∧ k ≤ 2 ∧ (m.1 127) = 1 ∧ 0 ≤ t ∧ t < (m.1 26) ∧ ((m.1 128) = 0 ∨ (m.1 149) = 40) ∧ (m.1 148) = (m.1 148)) by omega), (show (m.1 148) - (m.1 149) = (m.1 148) - (m.1 149) by omega), (show ∀ k, 0 ≤ k → k < (m.1 149) → 0 < (m.2 153) k → (m.2 156) k < (m.1 26) by first | (first | exact hLT | (intro k a b c; rw [hLk] at c; by_cases e : k = (m.1 149); (rw [e, upI_s]; omega); (rw [upI_n e]; rw [upI_n e] at c; exact hLT k a (by omega) c))) | (exfalso; omega)), rfl⟩
  · skip
    refine T_gf 13 (.int (i32 (m.1 127))) rfl rfl rfl rfl rfl rfl ?_
    refine T_if 27 16 rfl rfl rfl (r32 (by omega) (by omega)) (fun (h8 : (m.1 127) = 0) => ?_) (fun (h8 : ¬ ((m.1 127) = 0)) => ?_)
    · skip
      refine T_ld 28 (.int (i32 1)) rfl (fun _ => rfl) ?_
      refine T_goto 52 rfl (fun _ => rfl) ?_
      refine T_pf (l' := [(1, 1)]) 55 1 rfl rfl rfl rfl rfl rfl ?_
      refine T_gf 59 (.int (i32 1)) rfl rfl rfl rfl rfl rfl ?_
      refine T_if 64 62 rfl rfl rfl ⟨by decide, by decide⟩ (fun h9 => absurd (show (1 : Int) ≤ 0 from h9) (by decide)) (fun _ => ?_)
      refine T_ld 63 (.int (i32 0)) rfl (fun _ => rfl) ?_
      refine T_ret rfl (fun _ => rfl) ?_
      exact ⟨(mO m [(1, 1)] []), 0, (Ty_mO hT rfl rfl ⟨⟨(by omega : (0 : Int) ≤ 1), (by omega : (1 : Int) ≤ 3)⟩, trivial⟩ trivial), (fr_m fr_0 rfl rfl), ⟨by omega, by omega⟩, (show (m.1 148) ≤ (m.1 148) + 1 by omega), (show ((1 : Int) = 0 ∧ 0 ≤ k ∧ k ≤ 2 ∧ (m.1 127) = 1 ∧ 0 ≤ t ∧ t < (m.1 26) ∧ (m.1 128) = 1 ∧ (m.1 149) < 40 ∧ (m.1 148) = (m.1 148) + 1 ∧ (0 : Int) = (m.1 148)) ∨ ((1 : Int) = 1 ∧ (k < 0 ∨ 2 < k ∨ (m.1 127) = 0 ∨ t < 0 ∨ (m.1 26) ≤ t) ∧ (m.1 148) = (m.1 148)) ∨ ((1 : Int) = 2 ∧ 0 ≤ k ∧ k ≤ 2 ∧ (m.1 127) = 1 ∧ 0 ≤ t ∧ t < (m.1 26) ∧ ((m.1 128) = 0 ∨ (m.1 149) = 40) ∧ (m.1 148) = (m.1 148)) by omega), (show (m.1 148) - (m.1 149) = (m.1 148) - (m.1 149) by omega), (show ∀ k, 0 ≤ k → k < (m.1 149) → 0 < (m.2 153) k → (m.2 156) k < (m.1 26) by first | (first | exact hLT | (intro k a b c; rw [hLk] at c; by_cases e : k = (m.1 149); (rw [e, upI_s]; omega); (rw [upI_n e]; rw [upI_n e] at c; exact hLT k a (by omega) c))) | (exfalso; omega)), rfl⟩
    · skip
      refine T_ld 17 (.int (i32 t)) rfl (fun _ => rfl) ?_
      refine T_gf 21 (.int (i32 (m.1 26))) rfl rfl rfl rfl rfl rfl ?_
      refine T_call 24 305 [.int (i32 t), .int (i32 (m.1 26))] [.ref 189] rfl (fun _ => rfl) rfl (c_in w (mO m [] []) c N D (by omega) hT t (m.1 26) (r32 (by omega) (by omega)) (r32 (by omega) (by omega))) (fun rr10 k11 => ?_)
      obtain ⟨x12, g13, h14, rfl⟩ := k11
      refine ⟨_, _, rfl, ?_⟩
      refine T_ns (st' := [.int (i32 x12), .ref 189]) rfl ?_
      obtain ⟨g13a, g13b⟩ := g13
      replace h14 : x12 = 1 ↔ (0 ≤ t ∧ t < (m.1 26)) := h14
      refine T_if 31 27 rfl rfl rfl (r32 (by omega) (by omega)) (fun (h15 : x12 ≠ 0) => ?_) (fun (h15 : ¬ (x12 ≠ 0)) => ?_)
      · skip
        refine T_gf 35 (.int (i32 (m.1 128))) rfl rfl rfl rfl rfl rfl ?_
        refine T_if 47 38 rfl rfl rfl (r32 (by omega) (by omega)) (fun (h16 : (m.1 128) = 0) => ?_) (fun (h16 : ¬ ((m.1 128) = 0)) => ?_)
        · skip
          refine T_ld 48 (.int (i32 2)) rfl (fun _ => rfl) ?_
          refine T_goto 52 rfl (fun _ => rfl) ?_
          refine T_pf (l' := [(1, 2)]) 55 2 rfl rfl rfl rfl rfl rfl ?_
          refine T_gf 59 (.int (i32 2)) rfl rfl rfl rfl rfl rfl ?_
          refine T_if 64 62 rfl rfl rfl ⟨by decide, by decide⟩ (fun h17 => absurd (show (2 : Int) ≤ 0 from h17) (by decide)) (fun _ => ?_)
          refine T_ld 63 (.int (i32 0)) rfl (fun _ => rfl) ?_
          refine T_ret rfl (fun _ => rfl) ?_
          exact ⟨(mO m [(1, 2)] []), 0, (Ty_mO hT rfl rfl ⟨⟨(by omega : (0 : Int) ≤ 2), (by omega : (2 : Int) ≤ 3)⟩, trivial⟩ trivial), (fr_m fr_0 rfl rfl), ⟨by omega, by omega⟩, (show (m.1 148) ≤ (m.1 148) + 1 by omega), (show ((2 : Int) = 0 ∧ 0 ≤ k ∧ k ≤ 2 ∧ (m.1 127) = 1 ∧ 0 ≤ t ∧ t < (m.1 26) ∧ (m.1 128) = 1 ∧ (m.1 149) < 40 ∧ (m.1 148) = (m.1 148) + 1 ∧ (0 : Int) = (m.1 148)) ∨ ((2 : Int) = 1 ∧ (k < 0 ∨ 2 < k ∨ (m.1 127) = 0 ∨ t < 0 ∨ (m.1 26) ≤ t) ∧ (m.1 148) = (m.1 148)) ∨ ((2 : Int) = 2 ∧ 0 ≤ k ∧ k ≤ 2 ∧ (m.1 127) = 1 ∧ 0 ≤ t ∧ t < (m.1 26) ∧ ((m.1 128) = 0 ∨ (m.1 149) = 40) ∧ (m.1 148) = (m.1 148)) by omega), (show (m.1 148) - (m.1 149) = (m.1 148) - (m.1 149) by omega), (show ∀ k, 0 ≤ k → k < (m.1 149) → 0 < (m.2 153) k → (m.2 156) k < (m.1 26) by first | (first | exact hLT | (intro k a b c; rw [hLk] at c; by_cases e : k = (m.1 149); (rw [e, upI_s]; omega); (rw [upI_n e]; rw [upI_n e] at c; exact hLT k a (by omega) c))) | (exfalso; omega)), rfl⟩
        · skip
          refine T_gf 42 (.int (i32 (m.1 149))) rfl rfl rfl rfl rfl rfl ?_
          refine T_ld 44 (.int (i32 40)) rfl (fun _ => rfl) ?_
          refine T_icmp 51 47 rfl rfl rfl (r32 (by omega) (by omega)) ⟨by decide, by decide⟩ (fun (h18 : (m.1 149) ≠ 40) => ?_) (fun (h18 : ¬ ((m.1 149) ≠ 40)) => ?_)
          · skip
            refine T_ld 52 (.int (i32 0)) rfl (fun _ => rfl) ?_
            refine T_pf (l' := [(1, 0)]) 55 0 rfl rfl rfl rfl rfl rfl ?_
            refine T_gf 59 (.int (i32 0)) rfl rfl rfl rfl rfl rfl ?_
            refine T_if 64 62 rfl rfl rfl ⟨by decide, by decide⟩ (fun _ => ?_) (fun h19 => absurd (show (0 : Int) ≤ 0 by decide) h19)
            refine T_gf 68 (.ref 305) rfl rfl rfl rfl rfl rfl ?_
            refine T_gf 72 (.int (i32 (m.1 149))) rfl rfl rfl rfl rfl rfl ?_
            refine T_ld 73 (.int (i32 t)) rfl (fun _ => rfl) ?_
            have G20 : ∀ j, 0 ≤ (upI (m.2 156) (m.1 149) t) j ∧ (upI (m.2 156) (m.1 149) t) j ≤ 7 := upI_rg (hT.2.1 156) ⟨by omega, by omega⟩
            refine T_iast (a' := [(156, upI (m.2 156) (m.1 149) t)]) 74 156 (m.2 156) rfl rfl rfl (by omega) (show (m.1 149) < (41 : Int) by omega) rfl rfl ?_
            refine T_gf 78 (.ref 306) rfl rfl rfl rfl rfl rfl ?_
            refine T_gf 82 (.int (i32 (m.1 149))) rfl rfl rfl rfl rfl rfl ?_
            refine T_ld 83 (.int (i32 p)) rfl (fun _ => rfl) ?_
            have G21 : ∀ j, (-2147483648) ≤ (upI (m.2 157) (m.1 149) p) j ∧ (upI (m.2 157) (m.1 149) p) j ≤ 2147483647 := upI_rg (hT.2.1 157) ⟨by omega, by omega⟩
            refine T_iast (a' := [(156, upI (m.2 156) (m.1 149) t), (157, upI (m.2 157) (m.1 149) p)]) 84 157 (m.2 157) rfl rfl rfl (by omega) (show (m.1 149) < (41 : Int) by omega) rfl rfl ?_
            refine T_gf 88 (.ref 307) rfl rfl rfl rfl rfl rfl ?_
            refine T_gf 92 (.int (i32 (m.1 149))) rfl rfl rfl rfl rfl rfl ?_
            refine T_ld 94 (.int (i32 a)) rfl (fun _ => rfl) ?_
            have G22 : ∀ j, (-2147483648) ≤ (upI (m.2 158) (m.1 149) a) j ∧ (upI (m.2 158) (m.1 149) a) j ≤ 2147483647 := upI_rg (hT.2.1 158) ⟨by omega, by omega⟩
            refine T_iast (a' := [(156, upI (m.2 156) (m.1 149) t), (157, upI (m.2 157) (m.1 149) p), (158, upI (m.2 158) (m.1 149) a)]) 95 158 (m.2 158) rfl rfl rfl (by omega) (show (m.1 149) < (41 : Int) by omega) rfl rfl ?_
            refine T_ld 96 (.int (i32 0)) rfl (fun _ => rfl) ?_
            refine T_sto 98 [(5, .int (i32 0)), (0, .ref 189), (1, .int (i32 k)), (2, .int (i32 t)), (3, .int (i32 p)), (4, .int (i32 a))] rfl (fun _ => rfl) ?_
            refine T_fl (Ty_mO hT rfl rfl ⟨⟨(by omega : (0 : Int) ≤ 0), (by omega : (0 : Int) ≤ 3)⟩, trivial⟩ ⟨G20, G21, G22, trivial⟩) (fun m23 Tm23 Fm23 => ?_)
            have L98_26 : ∀ (n32 : Nat) (v24 : Int) (m25 : mR), (R32 v24) → Ty m25 → fr [] [160, 161, 162] (mO m23 [] []) m25 → (0 ≤ v24) → (v24 ≤ 4) → 4 - v24 < (n32 : Int) → TT w D pm_311 (98, [(0, .ref 189), (1, .int (i32 k)), (2, .int (i32 t)), (3, .int (i32 p)), (4, .int (i32 a)), (5, .int (i32 v24))], [], (mhp (mO m25 [] []) c, N), 0, 0) (Q_entry m c N k t p a) := by
              intro n32
              induction n32 with
              | zero =>
                intro v24 m25 q29 Tm25 Fm25 ic27 ic28 hmu
                obtain ⟨q29a, q29b⟩ := id q29
                exfalso
                omega
              | succ n32 ih =>
                intro v24 m25 q29 Tm25 Fm25 ic27 ic28 hmu
                obtain ⟨q29a, q29b⟩ := id q29
                have ih33 := ih
                refine T_ld 100 (.int (i32 v24)) rfl (fun _ => rfl) ?_
                refine T_ld 101 (.int (i32 4)) rfl (fun _ => rfl) ?_
                refine T_icmp 173 104 rfl rfl rfl (r32 (by omega) (by omega)) ⟨by decide, by decide⟩ (fun (h34 : (4 : Int) ≤ v24) => ?_) (fun (h34 : ¬ ((4 : Int) ≤ v24)) => ?_)
                · skip
                  refine T_ld 174 (.ref 189) rfl (fun _ => rfl) ?_
                  refine T_ld 175 (.int (i32 1)) rfl (fun _ => rfl) ?_
                  refine T_ld 176 (.int (i32 k)) rfl (fun _ => rfl) ?_
                  refine T_iadd 177 rfl rfl ?_
                  refine T_call 180 308 [.ref 189, .int (i32 (1 + k))] [] rfl (fun _ => rfl) rfl (c_comes w (mO m25 [] []) c N D (by omega) Tm25 (1 + k) (r32 (by omega) (by omega)) (show 0 ≤ (1 + k) ∧ (1 + k) ≤ 3 by omega) (show (m25.1 149) ≤ 39 by rewrite [(show (m25.1 149) = (m.1 149) from ((fr1 Fm25 149 rfl).trans (fr1 Fm23 149 rfl)))]; omega) (show (m25.1 148) ≤ 999999 by rewrite [(show (m25.1 148) = (m.1 148) from ((fr1 Fm25 148 rfl).trans (fr1 Fm23 148 rfl)))]; omega)) (fun rr35 k36 => ?_)
                  obtain ⟨m37, x38, Tm37, Fm37, g39, h40, h41, h42, h43, rfl⟩ := k36
                  refine ⟨_, _, rfl, ?_⟩
                  refine T_nb (st' := [.int (i32 x38)]) rfl ?_
                  obtain ⟨g39a, g39b⟩ := g39
                  have g44 : 0 ≤ m37.1 148 ∧ m37.1 148 ≤ 1000000 := Tm37.1 148
                  have g45 : 0 ≤ m37.1 149 ∧ m37.1 149 ≤ 40 := Tm37.1 149
                  replace h40 : (m37.1 149) = (m25.1 149) + 1 := h40
                  rewrite [(show (m25.1 149) = (m.1 149) from ((fr1 Fm25 149 rfl).trans (fr1 Fm23 149 rfl)))] at h40
                  replace h41 : (m37.1 148) = (m25.1 148) + 1 := h41
                  rewrite [(show (m25.1 148) = (m.1 148) from ((fr1 Fm25 148 rfl).trans (fr1 Fm23 148 rfl)))] at h41
                  replace h42 : x38 = (m25.1 148) := h42
                  rewrite [(show (m25.1 148) = (m.1 148) from ((fr1 Fm25 148 rfl).trans (fr1 Fm23 148 rfl)))] at h42
                  replace h43 : (m37.2 153) = upI (m25.2 153) (m25.1 149) (1 + k) := h43
                  rewrite [(show (m25.2 153) = (m.2 153) from ((fr2 Fm25 153 rfl).trans (fr2 Fm23 153 rfl))), (show (m25.1 149) = (m.1 149) from ((fr1 Fm25 149 rfl).trans (fr1 Fm23 149 rfl)))] at h43
                  have hLk := h43
                  refine T_ret rfl (fun _ => rfl) ?_
                  exact ⟨(mO m37 [] []), x38, Tm37, (fr_m (fr_s Fm37 (fr_m (fr_s Fm25 (fr_m (fr_s Fm23 (fr_m fr_0 rfl rfl) rfl rfl) rfl rfl) rfl rfl) rfl rfl) rfl rfl) rfl rfl), ⟨by omega, by omega⟩, (show (m37.1 148) ≤ (m.1 148) + 1 by omega), (show ((m37.1 1) = 0 ∧ 0 ≤ k ∧ k ≤ 2 ∧ (m.1 127) = 1 ∧ 0 ≤ t ∧ t < (m.1 26) ∧ (m.1 128) = 1 ∧ (m.1 149) < 40 ∧ (m37.1 148) = (m.1 148) + 1 ∧ x38 = (m.1 148)) ∨ ((m37.1 1) = 1 ∧ (k < 0 ∨ 2 < k ∨ (m.1 127) = 0 ∨ t < 0 ∨ (m.1 26) ≤ t) ∧ (m37.1 148) = (m.1 148)) ∨ ((m37.1 1) = 2 ∧ 0 ≤ k ∧ k ≤ 2 ∧ (m.1 127) = 1 ∧ 0 ≤ t ∧ t < (m.1 26) ∧ ((m.1 128) = 0 ∨ (m.1 149) = 40) ∧ (m37.1 148) = (m.1 148)) by rewrite [(show (m37.1 1) = 0 from ((fr1 Fm37 1 rfl).trans ((fr1 Fm25 1 rfl).trans (fr1 Fm23 1 rfl))))]; omega), (show (m37.1 148) - (m37.1 149) = (m.1 148) - (m.1 149) by omega), (show ∀ k, 0 ≤ k → k < (m37.1 149) → 0 < (m37.2 153) k → (m37.2 156) k < (m.1 26) by rewrite [(show (m37.2 156) = (upI (m.2 156) (m.1 149) t) from ((fr2 Fm37 156 rfl).trans ((fr2 Fm25 156 rfl).trans (fr2 Fm23 156 rfl))))]; first | (first | exact hLT | (intro k a b c; rw [hLk] at c; by_cases e : k = (m.1 149); (rw [e, upI_s]; omega); (rw [upI_n e]; rw [upI_n e] at c; exact hLT k a (by omega) c))) | (exfalso; omega)), rfl⟩
                · skip
                  refine T_gf 108 (.ref 309) rfl rfl rfl rfl rfl rfl ?_
                  refine T_ld 109 (.int (i32 4)) rfl (fun _ => rfl) ?_
                  refine T_gf 113 (.int (i32 (m.1 149))) rfl rfl rfl rfl (mfv_c (F := fun x => .int (i32 x)) rfl (show (m25.1 149) = (m.1 149) from ((fr1 Fm25 149 rfl).trans (fr1 Fm23 149 rfl)))) rfl ?_
                  refine T_imul 114 rfl rfl ?_
                  refine T_ld 116 (.int (i32 v24)) rfl (fun _ => rfl) ?_
                  refine T_iadd 117 rfl rfl ?_
                  refine T_gf 121 (.ref 299) rfl rfl rfl rfl rfl rfl ?_
                  refine T_ld 123 (.int (i32 v24)) rfl (fun _ => rfl) ?_
                  refine T_lald 124 145 (m.2 145) rfl rfl rfl (by omega) (show v24 < (4 : Int) by omega) (show (m25.2 145) = (m.2 145) from ((fr2 Fm25 145 rfl).trans (fr2 Fm23 145 rfl))) ?_
                  have e46 : (-9223372036854775808) ≤ m.2 145 v24 ∧ m.2 145 v24 ≤ 9223372036854775807 := hT.2.1 145 v24
                  have G47 : ∀ j, (-9223372036854775808) ≤ (upI (m25.2 160) ((4 * (m.1 149)) + v24) ((m.2 145) v24)) j ∧ (upI (m25.2 160) ((4 * (m.1 149)) + v24) ((m.2 145) v24)) j ≤ 9223372036854775807 := upI_rg (Tm25.2.1 160) ⟨by omega, by omega⟩
                  refine T_last (a' := [(160, upI (m25.2 160) ((4 * (m.1 149)) + v24) ((m.2 145) v24))]) 125 160 (m25.2 160) rfl rfl rfl (by omega) (show ((4 * (m.1 149)) + v24) < (164 : Int) by omega) rfl rfl ?_
                  refine T_gf 129 (.ref 310) rfl rfl rfl rfl rfl rfl ?_
                  refine T_ld 130 (.int (i32 4)) rfl (fun _ => rfl) ?_
                  refine T_gf 134 (.int (i32 (m.1 149))) rfl rfl rfl rfl (mfv_c (F := fun x => .int (i32 x)) rfl (show (m25.1 149) = (m.1 149) from ((fr1 Fm25 149 rfl).trans (fr1 Fm23 149 rfl)))) rfl ?_
                  refine T_imul 135 rfl rfl ?_
                  refine T_ld 137 (.int (i32 v24)) rfl (fun _ => rfl) ?_
                  refine T_iadd 138 rfl rfl ?_
                  refine T_gf 142 (.ref 300) rfl rfl rfl rfl rfl rfl ?_
                  refine T_ld 144 (.int (i32 v24)) rfl (fun _ => rfl) ?_
                  refine T_lald 145 146 (m.2 146) rfl rfl rfl (by omega) (show v24 < (4 : Int) by omega) (show (m25.2 146) = (m.2 146) from ((fr2 Fm25 146 rfl).trans (fr2 Fm23 146 rfl))) ?_
                  have e48 : (-9223372036854775808) ≤ m.2 146 v24 ∧ m.2 146 v24 ≤ 9223372036854775807 := hT.2.1 146 v24
                  have G49 : ∀ j, (-9223372036854775808) ≤ (upI (m25.2 161) ((4 * (m.1 149)) + v24) ((m.2 146) v24)) j ∧ (upI (m25.2 161) ((4 * (m.1 149)) + v24) ((m.2 146) v24)) j ≤ 9223372036854775807 := upI_rg (Tm25.2.1 161) ⟨by omega, by omega⟩
                  refine T_last (a' := [(160, upI (m25.2 160) ((4 * (m.1 149)) + v24) ((m.2 145) v24)), (161, upI (m25.2 161) ((4 * (m.1 149)) + v24) ((m.2 146) v24))]) 146 161 (m25.2 161) rfl rfl rfl (by omega) (show ((4 * (m.1 149)) + v24) < (164 : Int) by omega) rfl rfl ?_
                  refine T_gf 150 (.ref 311) rfl rfl rfl rfl rfl rfl ?_
                  refine T_ld 151 (.int (i32 4)) rfl (fun _ => rfl) ?_
                  refine T_gf 155 (.int (i32 (m.1 149))) rfl rfl rfl rfl (mfv_c (F := fun x => .int (i32 x)) rfl (show (m25.1 149) = (m.1 149) from ((fr1 Fm25 149 rfl).trans (fr1 Fm23 149 rfl)))) rfl ?_
                  refine T_imul 156 rfl rfl ?_
                  refine T_ld 158 (.int (i32 v24)) rfl (fun _ => rfl) ?_
                  refine T_iadd 159 rfl rfl ?_
                  refine T_gf 163 (.ref 301) rfl rfl rfl rfl rfl rfl ?_
                  refine T_ld 165 (.int (i32 v24)) rfl (fun _ => rfl) ?_
                  refine T_lald 166 147 (m.2 147) rfl rfl rfl (by omega) (show v24 < (4 : Int) by omega) (show (m25.2 147) = (m.2 147) from ((fr2 Fm25 147 rfl).trans (fr2 Fm23 147 rfl))) ?_
                  have e50 : (-9223372036854775808) ≤ m.2 147 v24 ∧ m.2 147 v24 ≤ 9223372036854775807 := hT.2.1 147 v24
                  have G51 : ∀ j, (-9223372036854775808) ≤ (upI (m25.2 162) ((4 * (m.1 149)) + v24) ((m.2 147) v24)) j ∧ (upI (m25.2 162) ((4 * (m.1 149)) + v24) ((m.2 147) v24)) j ≤ 9223372036854775807 := upI_rg (Tm25.2.1 162) ⟨by omega, by omega⟩
                  refine T_last (a' := [(160, upI (m25.2 160) ((4 * (m.1 149)) + v24) ((m.2 145) v24)), (161, upI (m25.2 161) ((4 * (m.1 149)) + v24) ((m.2 146) v24)), (162, upI (m25.2 162) ((4 * (m.1 149)) + v24) ((m.2 147) v24))]) 167 162 (m25.2 162) rfl rfl rfl (by omega) (show ((4 * (m.1 149)) + v24) < (164 : Int) by omega) rfl rfl ?_
                  refine T_iinc 170 [(5, .int (i32 (v24 + 1))), (0, .ref 189), (1, .int (i32 k)), (2, .int (i32 t)), (3, .int (i32 p)), (4, .int (i32 a))] rfl rfl (by decide) rfl rfl ?_
                  refine T_goto 98 rfl (fun _ => rfl) ?_
                  refine Tm_lv (a := [(0, .ref 189), (1, .int (i32 k)), (2, .int (i32 t)), (3, .int (i32 p)), (4, .int (i32 a)), (5, .int (i32 (v24 + 1)))]) rfl rfl ⟨rfl, rfl, rfl, rfl, rfl, rfl, trivial⟩ ?_
                  exact ih33 (v24 + 1) (mO m25 [] [(160, upI (m25.2 160) ((4 * (m.1 149)) + v24) ((m.2 145) v24)), (161, upI (m25.2 161) ((4 * (m.1 149)) + v24) ((m.2 146) v24)), (162, upI (m25.2 162) ((4 * (m.1 149)) + v24) ((m.2 147) v24))]) (r32 (by omega) (by omega)) (Ty_mO Tm25 rfl rfl trivial ⟨G47, G49, G51, trivial⟩) (fr_m (fr_s Fm25 (fr_m fr_0 rfl rfl) rfl rfl) rfl rfl) (show 0 ≤ (v24 + 1) by omega) (show (v24 + 1) ≤ 4 by omega) (show 4 - (v24 + 1) < (n32 : Int) by omega)
            refine Tm_lv (a := [(0, .ref 189), (1, .int (i32 k)), (2, .int (i32 t)), (3, .int (i32 p)), (4, .int (i32 a)), (5, .int (i32 0))]) rfl rfl ⟨rfl, rfl, rfl, rfl, rfl, rfl, trivial⟩ ?_
            exact L98_26 ((4 - (0 : Int) : Int) + 1).toNat 0 (mO m23 [] []) ⟨by decide, by decide⟩ Tm23 (fr_m fr_0 rfl rfl) (show 0 ≤ (0 : Int) by omega) (show (0 : Int) ≤ 4 by omega) (show 4 - (0 : Int) < ((((4 - (0 : Int) : Int) + 1).toNat : Nat) : Int) by omega)
          · skip
            refine T_ld 48 (.int (i32 2)) rfl (fun _ => rfl) ?_
            refine T_goto 52 rfl (fun _ => rfl) ?_
            refine T_pf (l' := [(1, 2)]) 55 2 rfl rfl rfl rfl rfl rfl ?_
            refine T_gf 59 (.int (i32 2)) rfl rfl rfl rfl rfl rfl ?_
            refine T_if 64 62 rfl rfl rfl ⟨by decide, by decide⟩ (fun h52 => absurd (show (2 : Int) ≤ 0 from h52) (by decide)) (fun _ => ?_)
            refine T_ld 63 (.int (i32 0)) rfl (fun _ => rfl) ?_
            refine T_ret rfl (fun _ => rfl) ?_
            exact ⟨(mO m [(1, 2)] []), 0, (Ty_mO hT rfl rfl ⟨⟨(by omega : (0 : Int) ≤ 2), (by omega : (2 : Int) ≤ 3)⟩, trivial⟩ trivial), (fr_m fr_0 rfl rfl), ⟨by omega, by omega⟩, (show (m.1 148) ≤ (m.1 148) + 1 by omega), (show ((2 : Int) = 0 ∧ 0 ≤ k ∧ k ≤ 2 ∧ (m.1 127) = 1 ∧ 0 ≤ t ∧ t < (m.1 26) ∧ (m.1 128) = 1 ∧ (m.1 149) < 40 ∧ (m.1 148) = (m.1 148) + 1 ∧ (0 : Int) = (m.1 148)) ∨ ((2 : Int) = 1 ∧ (k < 0 ∨ 2 < k ∨ (m.1 127) = 0 ∨ t < 0 ∨ (m.1 26) ≤ t) ∧ (m.1 148) = (m.1 148)) ∨ ((2 : Int) = 2 ∧ 0 ≤ k ∧ k ≤ 2 ∧ (m.1 127) = 1 ∧ 0 ≤ t ∧ t < (m.1 26) ∧ ((m.1 128) = 0 ∨ (m.1 149) = 40) ∧ (m.1 148) = (m.1 148)) by omega), (show (m.1 148) - (m.1 149) = (m.1 148) - (m.1 149) by omega), (show ∀ k, 0 ≤ k → k < (m.1 149) → 0 < (m.2 153) k → (m.2 156) k < (m.1 26) by first | (first | exact hLT | (intro k a b c; rw [hLk] at c; by_cases e : k = (m.1 149); (rw [e, upI_s]; omega); (rw [upI_n e]; rw [upI_n e] at c; exact hLT k a (by omega) c))) | (exfalso; omega)), rfl⟩
      · skip
        refine T_ld 28 (.int (i32 1)) rfl (fun _ => rfl) ?_
        refine T_goto 52 rfl (fun _ => rfl) ?_
        refine T_pf (l' := [(1, 1)]) 55 1 rfl rfl rfl rfl rfl rfl ?_
        refine T_gf 59 (.int (i32 1)) rfl rfl rfl rfl rfl rfl ?_
        refine T_if 64 62 rfl rfl rfl ⟨by decide, by decide⟩ (fun h53 => absurd (show (1 : Int) ≤ 0 from h53) (by decide)) (fun _ => ?_)
        refine T_ld 63 (.int (i32 0)) rfl (fun _ => rfl) ?_
        refine T_ret rfl (fun _ => rfl) ?_
        exact ⟨(mO m [(1, 1)] []), 0, (Ty_mO hT rfl rfl ⟨⟨(by omega : (0 : Int) ≤ 1), (by omega : (1 : Int) ≤ 3)⟩, trivial⟩ trivial), (fr_m fr_0 rfl rfl), ⟨by omega, by omega⟩, (show (m.1 148) ≤ (m.1 148) + 1 by omega), (show ((1 : Int) = 0 ∧ 0 ≤ k ∧ k ≤ 2 ∧ (m.1 127) = 1 ∧ 0 ≤ t ∧ t < (m.1 26) ∧ (m.1 128) = 1 ∧ (m.1 149) < 40 ∧ (m.1 148) = (m.1 148) + 1 ∧ (0 : Int) = (m.1 148)) ∨ ((1 : Int) = 1 ∧ (k < 0 ∨ 2 < k ∨ (m.1 127) = 0 ∨ t < 0 ∨ (m.1 26) ≤ t) ∧ (m.1 148) = (m.1 148)) ∨ ((1 : Int) = 2 ∧ 0 ≤ k ∧ k ≤ 2 ∧ (m.1 127) = 1 ∧ 0 ≤ t ∧ t < (m.1 26) ∧ ((m.1 128) = 0 ∨ (m.1 149) = 40) ∧ (m.1 148) = (m.1 148)) by omega), (show (m.1 148) - (m.1 149) = (m.1 148) - (m.1 149) by omega), (show ∀ k, 0 ≤ k → k < (m.1 149) → 0 < (m.2 153) k → (m.2 156) k < (m.1 26) by first | (first | exact hLT | (intro k a b c; rw [hLk] at c; by_cases e : k = (m.1 149); (rw [e, upI_s]; omega); (rw [upI_n e]; rw [upI_n e] at c; exact hLT k a (by omega) c))) | (exfalso; omega)), rfl⟩
def Q_cut (m : mR) (c : Nat → Option am_C) (N : Nat) (v : Int) (b : Int) : ag_Re af_T → Prop := fun R => ∃ (r : Int), ((-9223372036854775808) ≤ r ∧ r ≤ 9223372036854775807) ∧ R = (.inl (some (.long (i64 r))), (mhp m c, N), 0, 0)
set_option maxHeartbeats 3000000 in
theorem c_cut (w : wX) (m : mR) (c : Nat → Option am_C) (N D : Nat) (hD : 1 ≤ D) (hT : Ty m) (v : Int) (b : Int) (qv : R64 v) (qb : R32 b) : TC w D 315 [.long (i64 v), .int (i32 b)] (mhp m c, N) (Q_cut m c N v b) := by
  obtain ⟨D, rfl⟩ : ∃ k, D = k + 1 := ⟨D - 1, by omega⟩
  obtain ⟨qva, qvb⟩ := id qv
  obtain ⟨qba, qbb⟩ := id qb
  refine Tc_of rfl ?_
  show TT w D pm_315 (0, [(0, .long (i64 v)), (2, .int (i32 b))], [], (mhp (mO m [] []) c, N), 0, 0) (Q_cut m c N v b)
  refine T_ld 1 (.int (i32 b)) rfl (fun _ => rfl) ?_
  refine T_ld 3 (.int (i32 64)) rfl (fun _ => rfl) ?_
  refine T_icmp 10 6 rfl rfl rfl (r32 (by omega) (by omega)) ⟨by decide, by decide⟩ (fun (h1 : b ≠ 64) => ?_) (fun (h1 : ¬ (b ≠ 64)) => ?_)
  · skip
    refine T_ld 11 (.long (i64 v)) rfl (fun _ => rfl) ?_
    refine T_ld 12 (.long (i64 1)) rfl (fun _ => rfl) ?_
    refine T_ld 13 (.int (i32 b)) rfl (fun _ => rfl) ?_
    refine T_lhv 14 _ rfl (fun _ => rfl) (fun z2 h3 => ?_)
    obtain ⟨h3a, h3b⟩ := h3
    refine T_ld 15 (.long (i64 1)) rfl (fun _ => rfl) ?_
    refine T_lsub 16 rfl rfl ?_
    refine T_lnm (fun z4 h5 => ?_)
    obtain ⟨h5a, h5b⟩ := h5
    refine T_lhv 17 _ rfl (fun _ => rfl) (fun z6 h7 => ?_)
    obtain ⟨h7a, h7b⟩ := h7
    refine T_ret rfl (fun _ => rfl) ?_
    exact ⟨z6, ⟨by omega, by omega⟩, rfl⟩
  · skip
    refine T_ld 7 (.long (i64 v)) rfl (fun _ => rfl) ?_
    refine T_goto 17 rfl (fun _ => rfl) ?_
    refine T_ret rfl (fun _ => rfl) ?_
    exact ⟨v, ⟨by omega, by omega⟩, rfl⟩
def Q_areMasks (m : mR) (c : Nat → Option am_C) (N : Nat) (t : Int) : ag_Re af_T → Prop := fun R => ∃ (r : Int), (0 ≤ r ∧ r ≤ 1) ∧ R = (.inl (some (.int (i32 r))), (mhp m c, N), 0, 0)
set_option maxHeartbeats 3000000 in
theorem c_areMasks (w : wX) (m : mR) (c : Nat → Option am_C) (N D : Nat) (hD : 2 ≤ D) (hT : Ty m) (t : Int) (qt : R32 t) (p0 : 0 ≤ t ∧ t ≤ 7) : TC w D 314 [.ref 189, .int (i32 t)] (mhp m c, N) (Q_areMasks m c N t) := by
  obtain ⟨D, rfl⟩ : ∃ k, D = k + 1 := ⟨D - 1, by omega⟩
  obtain ⟨qta, qtb⟩ := id qt
  refine Tc_of rfl ?_
  show TT w D pm_314 (0, [(0, .ref 189), (1, .int (i32 t))], [], (mhp (mO m [] []) c, N), 0, 0) (Q_areMasks m c N t)
  refine T_ld 1 (.int (i32 1)) rfl (fun _ => rfl) ?_
  refine T_sto 2 [(2, .int (i32 1)), (0, .ref 189), (1, .int (i32 t))] rfl (fun _ => rfl) ?_
  refine T_ld 3 (.int (i32 0)) rfl (fun _ => rfl) ?_
  refine T_sto 4 [(3, .int (i32 0)), (2, .int (i32 1)), (0, .ref 189), (1, .int (i32 t))] rfl (fun _ => rfl) ?_
  have e12 : 0 ≤ m.2 51 t ∧ m.2 51 t ≤ 4 := hT.2.1 51 t
  have L4_3 : ∀ (n11 : Nat) (v1 : Int) (v2 : Int), (R32 v1) → (R32 v2) → (0 ≤ v1) → (v1 ≤ 1) → (0 ≤ v2) → (v2 ≤ (m.2 51) t) → ((m.2 51) t) - v2 < (n11 : Int) → TT w D pm_314 (4, [(0, .ref 189), (1, .int (i32 t)), (2, .int (i32 v1)), (3, .int (i32 v2))], [], (mhp (mO m [] []) c, N), 0, 0) (Q_areMasks m c N t) := by
    intro n11
    induction n11 with
    | zero =>
      intro v1 v2 q8 q9 ic4 ic5 ic6 ic7 hmu
      obtain ⟨q8a, q8b⟩ := id q8
      obtain ⟨q9a, q9b⟩ := id q9
      exfalso
      omega
    | succ n11 ih =>
      intro v1 v2 q8 q9 ic4 ic5 ic6 ic7 hmu
      obtain ⟨q8a, q8b⟩ := id q8
      obtain ⟨q9a, q9b⟩ := id q9
      have ih13 := ih
      refine T_ld 5 (.int (i32 v2)) rfl (fun _ => rfl) ?_
      refine T_gf 9 (.ref 221) rfl rfl rfl rfl rfl rfl ?_
      refine T_ld 10 (.int (i32 t)) rfl (fun _ => rfl) ?_
      refine T_iald 11 51 (m.2 51) rfl rfl rfl (by omega) (show t < (8 : Int) by omega) rfl ?_
      have e14 : 0 ≤ m.2 51 t ∧ m.2 51 t ≤ 4 := hT.2.1 51 t
      refine T_icmp 114 14 rfl rfl rfl (r32 (by omega) (by omega)) (r32 (by omega) (by omega)) (fun (h15 : (m.2 51) t ≤ v2) => ?_) (fun (h15 : ¬ ((m.2 51) t ≤ v2)) => ?_)
      · skip
        refine T_ld 115 (.int (i32 v1)) rfl (fun _ => rfl) ?_
        refine T_retb rfl rfl (by omega) ?_
        exact ⟨v1, ⟨by omega, by omega⟩, rfl⟩
      · skip
        refine T_gf 18 (.ref 272) rfl rfl rfl rfl rfl rfl ?_
        refine T_ld 19 (.int (i32 4)) rfl (fun _ => rfl) ?_
        refine T_ld 20 (.int (i32 t)) rfl (fun _ => rfl) ?_
        refine T_imul 21 rfl rfl ?_
        refine T_ld 22 (.int (i32 v2)) rfl (fun _ => rfl) ?_
        refine T_iadd 23 rfl rfl ?_
        refine T_iald 24 112 (m.2 112) rfl rfl rfl (by omega) (show ((4 * t) + v2) < (32 : Int) by omega) rfl ?_
        have e16 : 0 ≤ m.2 112 ((4 * t) + v2) ∧ m.2 112 ((4 * t) + v2) ≤ 1024 := hT.2.1 112 ((4 * t) + v2)
        refine T_sto 26 [(4, .int (i32 ((m.2 112) ((4 * t) + v2)))), (0, .ref 189), (1, .int (i32 t)), (2, .int (i32 v1)), (3, .int (i32 v2))] rfl (fun _ => rfl) ?_
        refine T_gf 30 (.ref 310) rfl rfl rfl rfl rfl rfl ?_
        refine T_ld 31 (.int (i32 v2)) rfl (fun _ => rfl) ?_
        refine T_lald 32 161 (m.2 161) rfl rfl rfl (by omega) (show v2 < (164 : Int) by omega) rfl ?_
        have e17 : (-9223372036854775808) ≤ m.2 161 v2 ∧ m.2 161 v2 ≤ 9223372036854775807 := hT.2.1 161 v2
        refine T_ld 35 (.long (i64 (-1))) rfl (fun _ => rfl) ?_
        refine T_lhv 36 _ rfl (fun _ => rfl) (fun z18 h19 => ?_)
        obtain ⟨h19a, h19b⟩ := h19
        refine T_ld 38 (.int (i32 ((m.2 112) ((4 * t) + v2)))) rfl (fun _ => rfl) ?_
        refine T_call 41 315 [.long (i64 z18), .int (i32 ((m.2 112) ((4 * t) + v2)))] [] rfl (fun _ => rfl) rfl (c_cut w (mO m [] []) c N D (by omega) hT z18 ((m.2 112) ((4 * t) + v2)) (r64 (by omega) (by omega)) (r32 (by omega) (by omega))) (fun rr20 k21 => ?_)
        obtain ⟨x22, g23, rfl⟩ := k21
        refine ⟨_, _, rfl, ?_⟩
        refine T_ns (st' := [.long (i64 x22)]) rfl ?_
        obtain ⟨g23a, g23b⟩ := g23
        clear h19a h19b
        refine T_sto 43 [(5, .long (i64 x22)), (4, .int (i32 ((m.2 112) ((4 * t) + v2)))), (0, .ref 189), (1, .int (i32 t)), (2, .int (i32 v1)), (3, .int (i32 v2))] rfl (fun _ => rfl) ?_
        refine T_gf 47 (.ref 273) rfl rfl rfl rfl rfl rfl ?_
        refine T_ld 48 (.int (i32 4)) rfl (fun _ => rfl) ?_
        refine T_ld 49 (.int (i32 t)) rfl (fun _ => rfl) ?_
        refine T_imul 50 rfl rfl ?_
        refine T_ld 51 (.int (i32 v2)) rfl (fun _ => rfl) ?_
        refine T_iadd 52 rfl rfl ?_
        refine T_iald 53 113 (m.2 113) rfl rfl rfl (by omega) (show ((4 * t) + v2) < (32 : Int) by omega) rfl ?_
        have e24 : 0 ≤ m.2 113 ((4 * t) + v2) ∧ m.2 113 ((4 * t) + v2) ≤ 330 := hT.2.1 113 ((4 * t) + v2)
        refine T_sto 55 [(7, .int (i32 ((m.2 113) ((4 * t) + v2)))), (5, .long (i64 x22)), (4, .int (i32 ((m.2 112) ((4 * t) + v2)))), (0, .ref 189), (1, .int (i32 t)), (2, .int (i32 v1)), (3, .int (i32 v2))] rfl (fun _ => rfl) ?_
        refine T_ld 56 (.int (i32 v1)) rfl (fun _ => rfl) ?_
        refine T_if 106 59 rfl rfl rfl (r32 (by omega) (by omega)) (fun (h25 : v1 = 0) => ?_) (fun (h25 : ¬ (v1 = 0)) => ?_)
        · skip
          refine T_ld 107 (.int (i32 0)) rfl (fun _ => rfl) ?_
          refine T_sto 108 [(2, .int (i32 0)), (7, .int (i32 ((m.2 113) ((4 * t) + v2)))), (5, .long (i64 x22)), (4, .int (i32 ((m.2 112) ((4 * t) + v2)))), (0, .ref 189), (1, .int (i32 t)), (3, .int (i32 v2))] rfl (fun _ => rfl) ?_
          refine T_iinc 111 [(3, .int (i32 (v2 + 1))), (2, .int (i32 0)), (7, .int (i32 ((m.2 113) ((4 * t) + v2)))), (5, .long (i64 x22)), (4, .int (i32 ((m.2 112) ((4 * t) + v2)))), (0, .ref 189), (1, .int (i32 t))] rfl rfl (by decide) rfl rfl ?_
          refine T_goto 4 rfl (fun _ => rfl) ?_
          refine Tm_lv (a := [(0, .ref 189), (1, .int (i32 t)), (2, .int (i32 0)), (3, .int (i32 (v2 + 1)))]) rfl rfl ⟨rfl, rfl, rfl, rfl, trivial⟩ ?_
          exact ih13 0 (v2 + 1) ⟨by decide, by decide⟩ (r32 (by omega) (by omega)) (show 0 ≤ (0 : Int) by omega) (show (0 : Int) ≤ 1 by omega) (show 0 ≤ (v2 + 1) by omega) (show (v2 + 1) ≤ (m.2 51) t by omega) (show ((m.2 51) t) - (v2 + 1) < (n11 : Int) by omega)
        · skip
          refine T_ld 61 (.int (i32 ((m.2 113) ((4 * t) + v2)))) rfl (fun _ => rfl) ?_
          refine T_ld 64 (.int (i32 314)) rfl (fun _ => rfl) ?_
          refine T_icmp 102 67 rfl rfl rfl (r32 (by omega) (by omega)) ⟨by decide, by decide⟩ (fun (h26 : (m.2 113) ((4 * t) + v2) = 314) => ?_) (fun (h26 : ¬ ((m.2 113) ((4 * t) + v2) = 314)) => ?_)
          · skip
            refine T_ld 103 (.int (i32 1)) rfl (fun _ => rfl) ?_
            refine T_goto 107 rfl (fun _ => rfl) ?_
            refine T_sto 108 [(2, .int (i32 1)), (7, .int (i32 ((m.2 113) ((4 * t) + v2)))), (5, .long (i64 x22)), (4, .int (i32 ((m.2 112) ((4 * t) + v2)))), (0, .ref 189), (1, .int (i32 t)), (3, .int (i32 v2))] rfl (fun _ => rfl) ?_
            refine T_iinc 111 [(3, .int (i32 (v2 + 1))), (2, .int (i32 1)), (7, .int (i32 ((m.2 113) ((4 * t) + v2)))), (5, .long (i64 x22)), (4, .int (i32 ((m.2 112) ((4 * t) + v2)))), (0, .ref 189), (1, .int (i32 t))] rfl rfl (by decide) rfl rfl ?_
            refine T_goto 4 rfl (fun _ => rfl) ?_
            refine Tm_lv (a := [(0, .ref 189), (1, .int (i32 t)), (2, .int (i32 1)), (3, .int (i32 (v2 + 1)))]) rfl rfl ⟨rfl, rfl, rfl, rfl, trivial⟩ ?_
            exact ih13 1 (v2 + 1) ⟨by decide, by decide⟩ (r32 (by omega) (by omega)) (show 0 ≤ (1 : Int) by omega) (show (1 : Int) ≤ 1 by omega) (show 0 ≤ (v2 + 1) by omega) (show (v2 + 1) ≤ (m.2 51) t by omega) (show ((m.2 51) t) - (v2 + 1) < (n11 : Int) by omega)
          · skip
            refine T_ld 69 (.int (i32 ((m.2 113) ((4 * t) + v2)))) rfl (fun _ => rfl) ?_
            refine T_ld 72 (.int (i32 312)) rfl (fun _ => rfl) ?_
            refine T_icmp 82 75 rfl rfl rfl (r32 (by omega) (by omega)) ⟨by decide, by decide⟩ (fun (h27 : (m.2 113) ((4 * t) + v2) ≠ 312) => ?_) (fun (h27 : ¬ ((m.2 113) ((4 * t) + v2) ≠ 312)) => ?_)
            · skip
              refine T_ld 84 (.int (i32 ((m.2 113) ((4 * t) + v2)))) rfl (fun _ => rfl) ?_
              refine T_ld 87 (.int (i32 313)) rfl (fun _ => rfl) ?_
              refine T_icmp 106 90 rfl rfl rfl (r32 (by omega) (by omega)) ⟨by decide, by decide⟩ (fun (h28 : (m.2 113) ((4 * t) + v2) ≠ 313) => ?_) (fun (h28 : ¬ ((m.2 113) ((4 * t) + v2) ≠ 313)) => ?_)
              · skip
                refine T_ld 107 (.int (i32 0)) rfl (fun _ => rfl) ?_
                refine T_sto 108 [(2, .int (i32 0)), (7, .int (i32 ((m.2 113) ((4 * t) + v2)))), (5, .long (i64 x22)), (4, .int (i32 ((m.2 112) ((4 * t) + v2)))), (0, .ref 189), (1, .int (i32 t)), (3, .int (i32 v2))] rfl (fun _ => rfl) ?_
                refine T_iinc 111 [(3, .int (i32 (v2 + 1))), (2, .int (i32 0)), (7, .int (i32 ((m.2 113) ((4 * t) + v2)))), (5, .long (i64 x22)), (4, .int (i32 ((m.2 112) ((4 * t) + v2)))), (0, .ref 189), (1, .int (i32 t))] rfl rfl (by decide) rfl rfl ?_
                refine T_goto 4 rfl (fun _ => rfl) ?_
                refine Tm_lv (a := [(0, .ref 189), (1, .int (i32 t)), (2, .int (i32 0)), (3, .int (i32 (v2 + 1)))]) rfl rfl ⟨rfl, rfl, rfl, rfl, trivial⟩ ?_
                exact ih13 0 (v2 + 1) ⟨by decide, by decide⟩ (r32 (by omega) (by omega)) (show 0 ≤ (0 : Int) by omega) (show (0 : Int) ≤ 1 by omega) (show 0 ≤ (v2 + 1) by omega) (show (v2 + 1) ≤ (m.2 51) t by omega) (show ((m.2 51) t) - (v2 + 1) < (n11 : Int) by omega)
              · skip
                refine T_ld 92 (.long (i64 x22)) rfl (fun _ => rfl) ?_
                refine T_ld 94 (.long (i64 x22)) rfl (fun _ => rfl) ?_
                refine T_ld 95 (.long (i64 1)) rfl (fun _ => rfl) ?_
                refine T_ladd 96 rfl rfl ?_
                refine T_lnm (fun z29 h30 => ?_)
                obtain ⟨h30a, h30b⟩ := h30
                refine T_lhv 97 _ rfl (fun _ => rfl) (fun z31 h32 => ?_)
                obtain ⟨h32a, h32b⟩ := h32
                refine T_ld 98 (.long (i64 0)) rfl (fun _ => rfl) ?_
                refine T_lcmp 99 rfl rfl (r64 (by omega) (by omega)) ⟨by decide, by decide⟩ (fun z33 h34 => ?_)
                obtain ⟨h34a, h34b, h34c, h34d, h34e⟩ := h34
                refine T_if 106 102 rfl rfl rfl (r32 (by omega) (by omega)) (fun (h35 : z33 ≠ 0) => ?_) (fun (h35 : ¬ (z33 ≠ 0)) => ?_)
                · skip
                  have hl36 : z31 ≠ 0 := by omega
                  refine T_ld 107 (.int (i32 0)) rfl (fun _ => rfl) ?_
                  refine T_sto 108 [(2, .int (i32 0)), (7, .int (i32 ((m.2 113) ((4 * t) + v2)))), (5, .long (i64 x22)), (4, .int (i32 ((m.2 112) ((4 * t) + v2)))), (0, .ref 189), (1, .int (i32 t)), (3, .int (i32 v2))] rfl (fun _ => rfl) ?_
                  refine T_iinc 111 [(3, .int (i32 (v2 + 1))), (2, .int (i32 0)), (7, .int (i32 ((m.2 113) ((4 * t) + v2)))), (5, .long (i64 x22)), (4, .int (i32 ((m.2 112) ((4 * t) + v2)))), (0, .ref 189), (1, .int (i32 t))] rfl rfl (by decide) rfl rfl ?_
                  refine T_goto 4 rfl (fun _ => rfl) ?_
                  refine Tm_lv (a := [(0, .ref 189), (1, .int (i32 t)), (2, .int (i32 0)), (3, .int (i32 (v2 + 1)))]) rfl rfl ⟨rfl, rfl, rfl, rfl, trivial⟩ ?_
                  exact ih13 0 (v2 + 1) ⟨by decide, by decide⟩ (r32 (by omega) (by omega)) (show 0 ≤ (0 : Int) by omega) (show (0 : Int) ≤ 1 by omega) (show 0 ≤ (v2 + 1) by omega) (show (v2 + 1) ≤ (m.2 51) t by omega) (show ((m.2 51) t) - (v2 + 1) < (n11 : Int) by omega)
                · skip
                  have hl37 : z31 = 0 := by omega
                  refine T_ld 103 (.int (i32 1)) rfl (fun _ => rfl) ?_
                  refine T_goto 107 rfl (fun _ => rfl) ?_
                  refine T_sto 108 [(2, .int (i32 1)), (7, .int (i32 ((m.2 113) ((4 * t) + v2)))), (5, .long (i64 x22)), (4, .int (i32 ((m.2 112) ((4 * t) + v2)))), (0, .ref 189), (1, .int (i32 t)), (3, .int (i32 v2))] rfl (fun _ => rfl) ?_
                  refine T_iinc 111 [(3, .int (i32 (v2 + 1))), (2, .int (i32 1)), (7, .int (i32 ((m.2 113) ((4 * t) + v2)))), (5, .long (i64 x22)), (4, .int (i32 ((m.2 112) ((4 * t) + v2)))), (0, .ref 189), (1, .int (i32 t))] rfl rfl (by decide) rfl rfl ?_
                  refine T_goto 4 rfl (fun _ => rfl) ?_
                  refine Tm_lv (a := [(0, .ref 189), (1, .int (i32 t)), (2, .int (i32 1)), (3, .int (i32 (v2 + 1)))]) rfl rfl ⟨rfl, rfl, rfl, rfl, trivial⟩ ?_
                  exact ih13 1 (v2 + 1) ⟨by decide, by decide⟩ (r32 (by omega) (by omega)) (show 0 ≤ (1 : Int) by omega) (show (1 : Int) ≤ 1 by omega) (show 0 ≤ (v2 + 1) by omega) (show (v2 + 1) ≤ (m.2 51) t by omega) (show ((m.2 51) t) - (v2 + 1) < (n11 : Int) by omega)
            · skip
              refine T_ld 77 (.long (i64 x22)) rfl (fun _ => rfl) ?_
              refine T_ld 78 (.long (i64 0)) rfl (fun _ => rfl) ?_
              refine T_lcmp 79 rfl rfl (r64 (by omega) (by omega)) ⟨by decide, by decide⟩ (fun z38 h39 => ?_)
              obtain ⟨h39a, h39b, h39c, h39d, h39e⟩ := h39
              refine T_if 102 82 rfl rfl rfl (r32 (by omega) (by omega)) (fun (h40 : z38 = 0) => ?_) (fun (h40 : ¬ (z38 = 0)) => ?_)
              · skip
                have hl41 : x22 = 0 := by omega
                refine T_ld 103 (.int (i32 1)) rfl (fun _ => rfl) ?_
                refine T_goto 107 rfl (fun _ => rfl) ?_
                refine T_sto 108 [(2, .int (i32 1)), (7, .int (i32 ((m.2 113) ((4 * t) + v2)))), (5, .long (i64 x22)), (4, .int (i32 ((m.2 112) ((4 * t) + v2)))), (0, .ref 189), (1, .int (i32 t)), (3, .int (i32 v2))] rfl (fun _ => rfl) ?_
                refine T_iinc 111 [(3, .int (i32 (v2 + 1))), (2, .int (i32 1)), (7, .int (i32 ((m.2 113) ((4 * t) + v2)))), (5, .long (i64 x22)), (4, .int (i32 ((m.2 112) ((4 * t) + v2)))), (0, .ref 189), (1, .int (i32 t))] rfl rfl (by decide) rfl rfl ?_
                refine T_goto 4 rfl (fun _ => rfl) ?_
                refine Tm_lv (a := [(0, .ref 189), (1, .int (i32 t)), (2, .int (i32 1)), (3, .int (i32 (v2 + 1)))]) rfl rfl ⟨rfl, rfl, rfl, rfl, trivial⟩ ?_
                exact ih13 1 (v2 + 1) ⟨by decide, by decide⟩ (r32 (by omega) (by omega)) (show 0 ≤ (1 : Int) by omega) (show (1 : Int) ≤ 1 by omega) (show 0 ≤ (v2 + 1) by omega) (show (v2 + 1) ≤ (m.2 51) t by omega) (show ((m.2 51) t) - (v2 + 1) < (n11 : Int) by omega)
              · skip
                have hl42 : x22 ≠ 0 := by omega
                refine T_ld 84 (.int (i32 ((m.2 113) ((4 * t) + v2)))) rfl (fun _ => rfl) ?_
                refine T_ld 87 (.int (i32 313)) rfl (fun _ => rfl) ?_
                refine T_icmp 106 90 rfl rfl rfl (r32 (by omega) (by omega)) ⟨by decide, by decide⟩ (fun (h43 : (m.2 113) ((4 * t) + v2) ≠ 313) => ?_) (fun (h43 : ¬ ((m.2 113) ((4 * t) + v2) ≠ 313)) => by exfalso; omega)
                refine T_ld 107 (.int (i32 0)) rfl (fun _ => rfl) ?_
                refine T_sto 108 [(2, .int (i32 0)), (7, .int (i32 ((m.2 113) ((4 * t) + v2)))), (5, .long (i64 x22)), (4, .int (i32 ((m.2 112) ((4 * t) + v2)))), (0, .ref 189), (1, .int (i32 t)), (3, .int (i32 v2))] rfl (fun _ => rfl) ?_
                refine T_iinc 111 [(3, .int (i32 (v2 + 1))), (2, .int (i32 0)), (7, .int (i32 ((m.2 113) ((4 * t) + v2)))), (5, .long (i64 x22)), (4, .int (i32 ((m.2 112) ((4 * t) + v2)))), (0, .ref 189), (1, .int (i32 t))] rfl rfl (by decide) rfl rfl ?_
                refine T_goto 4 rfl (fun _ => rfl) ?_
                refine Tm_lv (a := [(0, .ref 189), (1, .int (i32 t)), (2, .int (i32 0)), (3, .int (i32 (v2 + 1)))]) rfl rfl ⟨rfl, rfl, rfl, rfl, trivial⟩ ?_
                exact ih13 0 (v2 + 1) ⟨by decide, by decide⟩ (r32 (by omega) (by omega)) (show 0 ≤ (0 : Int) by omega) (show (0 : Int) ≤ 1 by omega) (show 0 ≤ (v2 + 1) by omega) (show (v2 + 1) ≤ (m.2 51) t by omega) (show ((m.2 51) t) - (v2 + 1) < (n11 : Int) by omega)
  refine Tm_lv (a := [(0, .ref 189), (1, .int (i32 t)), (2, .int (i32 1)), (3, .int (i32 0))]) rfl rfl ⟨rfl, rfl, rfl, rfl, trivial⟩ ?_
  exact L4_3 ((((m.2 51) t) - (0 : Int) : Int) + 1).toNat 1 0 ⟨by decide, by decide⟩ ⟨by decide, by decide⟩ (show 0 ≤ (1 : Int) by omega) (show (1 : Int) ≤ 1 by omega) (show 0 ≤ (0 : Int) by omega) (show (0 : Int) ≤ (m.2 51) t by omega) (show ((m.2 51) t) - (0 : Int) < ((((((m.2 51) t) - (0 : Int) : Int) + 1).toNat : Nat) : Int) by omega)
def Q_slot (m : mR) (c : Nat → Option am_C) (N : Nat) (t : Int) (e : Int) : ag_Re af_T → Prop := fun R => ∃ (r : Int), (0 ≤ r ∧ r ≤ 768) ∧ (r = 96 * t + e) ∧ R = (.inl (some (.int (i32 r))), (mhp m c, N), 0, 0)
set_option maxHeartbeats 3000000 in
theorem c_slot (w : wX) (m : mR) (c : Nat → Option am_C) (N D : Nat) (hD : 1 ≤ D) (hT : Ty m) (t : Int) (e : Int) (qt : R32 t) (qe : R32 e) (p0 : 0 ≤ t ∧ t ≤ 7) (p1 : 0 ≤ e ∧ e ≤ 96) : TC w D 319 [.ref 189, .int (i32 t), .int (i32 e)] (mhp m c, N) (Q_slot m c N t e) := by
  obtain ⟨D, rfl⟩ : ∃ k, D = k + 1 := ⟨D - 1, by omega⟩
  obtain ⟨qta, qtb⟩ := id qt
  obtain ⟨qea, qeb⟩ := id qe
  refine Tc_of rfl ?_
  show TT w D pm_319 (0, [(0, .ref 189), (1, .int (i32 t)), (2, .int (i32 e))], [], (mhp (mO m [] []) c, N), 0, 0) (Q_slot m c N t e)
  refine T_ld 2 (.int (i32 96)) rfl (fun _ => rfl) ?_
  refine T_ld 3 (.int (i32 t)) rfl (fun _ => rfl) ?_
  refine T_imul 4 rfl rfl ?_
  refine T_ld 5 (.int (i32 e)) rfl (fun _ => rfl) ?_
  refine T_iadd 6 rfl rfl ?_
  refine T_ret rfl (fun _ => rfl) ?_
  exact ⟨(96 * t) + e, ⟨by omega, by omega⟩, (show ((96 * t) + e) = 96 * t + e by omega), rfl⟩
def Q_findSame (m : mR) (c : Nat → Option am_C) (N : Nat) (t : Int) : ag_Re af_T → Prop := fun R => ∃ (r : Int), ((-1) ≤ r ∧ r ≤ 95) ∧ (r < (m.2 139) t) ∧ R = (.inl (some (.int (i32 r))), (mhp m c, N), 0, 0)
set_option maxHeartbeats 3000000 in
theorem c_findSame (w : wX) (m : mR) (c : Nat → Option am_C) (N D : Nat) (hD : 2 ≤ D) (hT : Ty m) (t : Int) (qt : R32 t) (p0 : 0 ≤ t ∧ t ≤ 7) : TC w D 318 [.ref 189, .int (i32 t)] (mhp m c, N) (Q_findSame m c N t) := by
  obtain ⟨D, rfl⟩ : ∃ k, D = k + 1 := ⟨D - 1, by omega⟩
  obtain ⟨qta, qtb⟩ := id qt
  refine Tc_of rfl ?_
  show TT w D pm_318 (0, [(0, .ref 189), (1, .int (i32 t))], [], (mhp (mO m [] []) c, N), 0, 0) (Q_findSame m c N t)
  refine T_ld 1 (.int (i32 (-1))) rfl (fun _ => rfl) ?_
  refine T_sto 2 [(2, .int (i32 (-1))), (0, .ref 189), (1, .int (i32 t))] rfl (fun _ => rfl) ?_
  refine T_ld 3 (.int (i32 0)) rfl (fun _ => rfl) ?_
  refine T_sto 4 [(3, .int (i32 0)), (2, .int (i32 (-1))), (0, .ref 189), (1, .int (i32 t))] rfl (fun _ => rfl) ?_
  have e12 : 0 ≤ m.2 139 t ∧ m.2 139 t ≤ 96 := hT.2.1 139 t
  have L4_3 : ∀ (n11 : Nat) (v1 : Int) (v2 : Int), (R32 v1) → (R32 v2) → ((-1) ≤ v1) → (0 ≤ v2) → (v2 ≤ (m.2 139) t) → ((-1) ≤ v1 ∧ v1 < v2) → ((m.2 139) t) - v2 < (n11 : Int) → TT w D pm_318 (4, [(0, .ref 189), (1, .int (i32 t)), (2, .int (i32 v1)), (3, .int (i32 v2))], [], (mhp (mO m [] []) c, N), 0, 0) (Q_findSame m c N t) := by
    intro n11
    induction n11 with
    | zero =>
      intro v1 v2 q8 q9 ic4 ic5 ic6 ic7 hmu
      obtain ⟨q8a, q8b⟩ := id q8
      obtain ⟨q9a, q9b⟩ := id q9
      exfalso
      omega
    | succ n11 ih =>
      intro v1 v2 q8 q9 ic4 ic5 ic6 ic7 hmu
      obtain ⟨q8a, q8b⟩ := id q8
      obtain ⟨q9a, q9b⟩ := id q9
      have ih13 := ih
      refine T_ld 5 (.int (i32 v2)) rfl (fun _ => rfl) ?_
      refine T_gf 9 (.ref 293) rfl rfl rfl rfl rfl rfl ?_
      refine T_ld 10 (.int (i32 t)) rfl (fun _ => rfl) ?_
      refine T_iald 11 139 (m.2 139) rfl rfl rfl (by omega) (show t < (8 : Int) by omega) rfl ?_
      have e14 : 0 ≤ m.2 139 t ∧ m.2 139 t ≤ 96 := hT.2.1 139 t
      refine T_icmp 140 14 rfl rfl rfl (r32 (by omega) (by omega)) (r32 (by omega) (by omega)) (fun (h15 : (m.2 139) t ≤ v2) => ?_) (fun (h15 : ¬ ((m.2 139) t ≤ v2)) => ?_)
      · skip
        refine T_ld 141 (.int (i32 v1)) rfl (fun _ => rfl) ?_
        refine T_ret rfl (fun _ => rfl) ?_
        exact ⟨v1, ⟨by omega, by omega⟩, (show v1 < (m.2 139) t by omega), rfl⟩
      · skip
        refine T_ld 15 (.int (i32 1)) rfl (fun _ => rfl) ?_
        refine T_sto 17 [(4, .int (i32 1)), (0, .ref 189), (1, .int (i32 t)), (2, .int (i32 v1)), (3, .int (i32 v2))] rfl (fun _ => rfl) ?_
        refine T_ld 18 (.int (i32 0)) rfl (fun _ => rfl) ?_
        refine T_sto 20 [(5, .int (i32 0)), (4, .int (i32 1)), (0, .ref 189), (1, .int (i32 t)), (2, .int (i32 v1)), (3, .int (i32 v2))] rfl (fun _ => rfl) ?_
        have e27 : 0 ≤ m.2 51 t ∧ m.2 51 t ≤ 4 := hT.2.1 51 t
        have L20_18 : ∀ (n26 : Nat) (v16 : Int) (v17 : Int), (R32 v16) → (R32 v17) → (0 ≤ v16) → (v16 ≤ 1) → (0 ≤ v17) → (v17 ≤ (m.2 51) t) → ((m.2 51) t) - v17 < (n26 : Int) → TT w D pm_318 (20, [(0, .ref 189), (1, .int (i32 t)), (2, .int (i32 v1)), (3, .int (i32 v2)), (4, .int (i32 v16)), (5, .int (i32 v17))], [], (mhp (mO m [] []) c, N), 0, 0) (Q_findSame m c N t) := by
          intro n26
          induction n26 with
          | zero =>
            intro v16 v17 q23 q24 ic19 ic20 ic21 ic22 hmu
            obtain ⟨q23a, q23b⟩ := id q23
            obtain ⟨q24a, q24b⟩ := id q24
            exfalso
            omega
          | succ n26 ih =>
            intro v16 v17 q23 q24 ic19 ic20 ic21 ic22 hmu
            obtain ⟨q23a, q23b⟩ := id q23
            obtain ⟨q24a, q24b⟩ := id q24
            have ih28 := ih
            refine T_ld 22 (.int (i32 v17)) rfl (fun _ => rfl) ?_
            refine T_gf 26 (.ref 221) rfl rfl rfl rfl rfl rfl ?_
            refine T_ld 27 (.int (i32 t)) rfl (fun _ => rfl) ?_
            refine T_iald 28 51 (m.2 51) rfl rfl rfl (by omega) (show t < (8 : Int) by omega) rfl ?_
            have e29 : 0 ≤ m.2 51 t ∧ m.2 51 t ≤ 4 := hT.2.1 51 t
            refine T_icmp 123 31 rfl rfl rfl (r32 (by omega) (by omega)) (r32 (by omega) (by omega)) (fun (h30 : (m.2 51) t ≤ v17) => ?_) (fun (h30 : ¬ ((m.2 51) t ≤ v17)) => ?_)
            · skip
              refine T_ld 125 (.int (i32 v16)) rfl (fun _ => rfl) ?_
              refine T_if 132 128 rfl rfl rfl (r32 (by omega) (by omega)) (fun (h31 : v16 = 0) => ?_) (fun (h31 : ¬ (v16 = 0)) => ?_)
              · skip
                refine T_ld 133 (.int (i32 v1)) rfl (fun _ => rfl) ?_
                refine T_sto 134 [(2, .int (i32 v1)), (0, .ref 189), (1, .int (i32 t)), (3, .int (i32 v2)), (4, .int (i32 v16)), (5, .int (i32 v17))] rfl (fun _ => rfl) ?_
                refine T_iinc 137 [(3, .int (i32 (v2 + 1))), (2, .int (i32 v1)), (0, .ref 189), (1, .int (i32 t)), (4, .int (i32 v16)), (5, .int (i32 v17))] rfl rfl (by decide) rfl rfl ?_
                refine T_goto 4 rfl (fun _ => rfl) ?_
                refine Tm_lv (a := [(0, .ref 189), (1, .int (i32 t)), (2, .int (i32 v1)), (3, .int (i32 (v2 + 1)))]) rfl rfl ⟨rfl, rfl, rfl, rfl, trivial⟩ ?_
                exact ih13 v1 (v2 + 1) (r32 (by omega) (by omega)) (r32 (by omega) (by omega)) (show (-1) ≤ v1 by omega) (show 0 ≤ (v2 + 1) by omega) (show (v2 + 1) ≤ (m.2 139) t by omega) (show (-1) ≤ v1 ∧ v1 < (v2 + 1) by omega) (show ((m.2 139) t) - (v2 + 1) < (n11 : Int) by omega)
              · skip
                refine T_ld 129 (.int (i32 v2)) rfl (fun _ => rfl) ?_
                refine T_goto 133 rfl (fun _ => rfl) ?_
                refine T_sto 134 [(2, .int (i32 v2)), (0, .ref 189), (1, .int (i32 t)), (3, .int (i32 v2)), (4, .int (i32 v16)), (5, .int (i32 v17))] rfl (fun _ => rfl) ?_
                refine T_iinc 137 [(3, .int (i32 (v2 + 1))), (2, .int (i32 v2)), (0, .ref 189), (1, .int (i32 t)), (4, .int (i32 v16)), (5, .int (i32 v17))] rfl rfl (by decide) rfl rfl ?_
                refine T_goto 4 rfl (fun _ => rfl) ?_
                refine Tm_lv (a := [(0, .ref 189), (1, .int (i32 t)), (2, .int (i32 v2)), (3, .int (i32 (v2 + 1)))]) rfl rfl ⟨rfl, rfl, rfl, rfl, trivial⟩ ?_
                exact ih13 v2 (v2 + 1) (r32 (by omega) (by omega)) (r32 (by omega) (by omega)) (show (-1) ≤ v2 by omega) (show 0 ≤ (v2 + 1) by omega) (show (v2 + 1) ≤ (m.2 139) t by omega) (show (-1) ≤ v2 ∧ v2 < (v2 + 1) by omega) (show ((m.2 139) t) - (v2 + 1) < (n11 : Int) by omega)
            · skip
              refine T_ld 32 (.int (i32 4)) rfl (fun _ => rfl) ?_
              refine T_ld 33 (.ref 189) rfl (fun _ => rfl) ?_
              refine T_ld 34 (.int (i32 t)) rfl (fun _ => rfl) ?_
              refine T_ld 35 (.int (i32 v2)) rfl (fun _ => rfl) ?_
              refine T_call 38 319 [.ref 189, .int (i32 t), .int (i32 v2)] [.int (i32 4)] rfl (fun _ => rfl) rfl (c_slot w (mO m [] []) c N D (by omega) hT t v2 (r32 (by omega) (by omega)) (r32 (by omega) (by omega)) (show 0 ≤ t ∧ t ≤ 7 by omega) (show 0 ≤ v2 ∧ v2 ≤ 96 by omega)) (fun rr32 k33 => ?_)
              obtain ⟨sl, g34, h35, rfl⟩ := k33
              refine ⟨_, _, rfl, ?_⟩
              refine T_ns (st' := [.int (i32 sl), .int (i32 4)]) rfl ?_
              obtain ⟨g34a, g34b⟩ := g34
              replace h35 : sl = 96 * t + v2 := h35
              have hSl := h35
              refine T_imul 39 rfl rfl ?_
              refine T_ld 41 (.int (i32 v17)) rfl (fun _ => rfl) ?_
              refine T_iadd 42 rfl rfl ?_
              refine T_sto 44 [(6, .int (i32 ((4 * sl) + v17))), (0, .ref 189), (1, .int (i32 t)), (2, .int (i32 v1)), (3, .int (i32 v2)), (4, .int (i32 v16)), (5, .int (i32 v17))] rfl (fun _ => rfl) ?_
              refine T_gf 48 (.ref 272) rfl rfl rfl rfl rfl rfl ?_
              refine T_ld 49 (.int (i32 4)) rfl (fun _ => rfl) ?_
              refine T_ld 50 (.int (i32 t)) rfl (fun _ => rfl) ?_
              refine T_imul 51 rfl rfl ?_
              refine T_ld 53 (.int (i32 v17)) rfl (fun _ => rfl) ?_
              refine T_iadd 54 rfl rfl ?_
              refine T_iald 55 112 (m.2 112) rfl rfl rfl (by omega) (show ((4 * t) + v17) < (32 : Int) by omega) rfl ?_
              have e36 : 0 ≤ m.2 112 ((4 * t) + v17) ∧ m.2 112 ((4 * t) + v17) ≤ 1024 := hT.2.1 112 ((4 * t) + v17)
              refine T_sto 57 [(7, .int (i32 ((m.2 112) ((4 * t) + v17)))), (6, .int (i32 ((4 * sl) + v17))), (0, .ref 189), (1, .int (i32 t)), (2, .int (i32 v1)), (3, .int (i32 v2)), (4, .int (i32 v16)), (5, .int (i32 v17))] rfl (fun _ => rfl) ?_
              refine T_gf 61 (.ref 310) rfl rfl rfl rfl rfl rfl ?_
              refine T_ld 63 (.int (i32 v17)) rfl (fun _ => rfl) ?_
              refine T_lald 64 161 (m.2 161) rfl rfl rfl (by omega) (show v17 < (164 : Int) by omega) rfl ?_
              have e37 : (-9223372036854775808) ≤ m.2 161 v17 ∧ m.2 161 v17 ≤ 9223372036854775807 := hT.2.1 161 v17
              refine T_ld 66 (.int (i32 ((m.2 112) ((4 * t) + v17)))) rfl (fun _ => rfl) ?_
              refine T_call 69 315 [.long (i64 ((m.2 161) v17)), .int (i32 ((m.2 112) ((4 * t) + v17)))] [] rfl (fun _ => rfl) rfl (c_cut w (mO m [] []) c N D (by omega) hT ((m.2 161) v17) ((m.2 112) ((4 * t) + v17)) (r64 (by omega) (by omega)) (r32 (by omega) (by omega))) (fun rr38 k39 => ?_)
              obtain ⟨x40, g41, rfl⟩ := k39
              refine ⟨_, _, rfl, ?_⟩
              refine T_ns (st' := [.long (i64 x40)]) rfl ?_
              obtain ⟨g41a, g41b⟩ := g41
              refine T_sto 71 [(8, .long (i64 x40)), (7, .int (i32 ((m.2 112) ((4 * t) + v17)))), (6, .int (i32 ((4 * sl) + v17))), (0, .ref 189), (1, .int (i32 t)), (2, .int (i32 v1)), (3, .int (i32 v2)), (4, .int (i32 v16)), (5, .int (i32 v17))] rfl (fun _ => rfl) ?_
              refine T_ld 73 (.int (i32 v16)) rfl (fun _ => rfl) ?_
              refine T_if 114 76 rfl rfl rfl (r32 (by omega) (by omega)) (fun (h42 : v16 = 0) => ?_) (fun (h42 : ¬ (v16 = 0)) => ?_)
              · skip
                refine T_ld 115 (.int (i32 0)) rfl (fun _ => rfl) ?_
                refine T_sto 117 [(4, .int (i32 0)), (8, .long (i64 x40)), (7, .int (i32 ((m.2 112) ((4 * t) + v17)))), (6, .int (i32 ((4 * sl) + v17))), (0, .ref 189), (1, .int (i32 t)), (2, .int (i32 v1)), (3, .int (i32 v2)), (5, .int (i32 v17))] rfl (fun _ => rfl) ?_
                refine T_iinc 120 [(5, .int (i32 (v17 + 1))), (4, .int (i32 0)), (8, .long (i64 x40)), (7, .int (i32 ((m.2 112) ((4 * t) + v17)))), (6, .int (i32 ((4 * sl) + v17))), (0, .ref 189), (1, .int (i32 t)), (2, .int (i32 v1)), (3, .int (i32 v2))] rfl rfl (by decide) rfl rfl ?_
                refine T_goto 20 rfl (fun _ => rfl) ?_
                refine Tm_lv (a := [(0, .ref 189), (1, .int (i32 t)), (2, .int (i32 v1)), (3, .int (i32 v2)), (4, .int (i32 0)), (5, .int (i32 (v17 + 1)))]) rfl rfl ⟨rfl, rfl, rfl, rfl, rfl, rfl, trivial⟩ ?_
                exact ih28 0 (v17 + 1) ⟨by decide, by decide⟩ (r32 (by omega) (by omega)) (show 0 ≤ (0 : Int) by omega) (show (0 : Int) ≤ 1 by omega) (show 0 ≤ (v17 + 1) by omega) (show (v17 + 1) ≤ (m.2 51) t by omega) (show ((m.2 51) t) - (v17 + 1) < (n26 : Int) by omega)
              · skip
                refine T_gf 80 (.ref 297) rfl rfl rfl rfl rfl rfl ?_
                refine T_ld 82 (.int (i32 ((4 * sl) + v17))) rfl (fun _ => rfl) ?_
                refine T_lald 83 143 (m.2 143) rfl rfl rfl (by omega) (show ((4 * sl) + v17) < (3072 : Int) by omega) rfl ?_
                have e43 : (-9223372036854775808) ≤ m.2 143 ((4 * sl) + v17) ∧ m.2 143 ((4 * sl) + v17) ≤ 9223372036854775807 := hT.2.1 143 ((4 * sl) + v17)
                refine T_ld 85 (.long (i64 x40)) rfl (fun _ => rfl) ?_
                refine T_lcmp 86 rfl rfl (r64 (by omega) (by omega)) (r64 (by omega) (by omega)) (fun z44 h45 => ?_)
                obtain ⟨h45a, h45b, h45c, h45d, h45e⟩ := h45
                refine T_if 114 89 rfl rfl rfl (r32 (by omega) (by omega)) (fun (h46 : z44 ≠ 0) => ?_) (fun (h46 : ¬ (z44 ≠ 0)) => ?_)
                · skip
                  have hl47 : (m.2 143) ((4 * sl) + v17) ≠ x40 := by omega
                  refine T_ld 115 (.int (i32 0)) rfl (fun _ => rfl) ?_
                  refine T_sto 117 [(4, .int (i32 0)), (8, .long (i64 x40)), (7, .int (i32 ((m.2 112) ((4 * t) + v17)))), (6, .int (i32 ((4 * sl) + v17))), (0, .ref 189), (1, .int (i32 t)), (2, .int (i32 v1)), (3, .int (i32 v2)), (5, .int (i32 v17))] rfl (fun _ => rfl) ?_
                  refine T_iinc 120 [(5, .int (i32 (v17 + 1))), (4, .int (i32 0)), (8, .long (i64 x40)), (7, .int (i32 ((m.2 112) ((4 * t) + v17)))), (6, .int (i32 ((4 * sl) + v17))), (0, .ref 189), (1, .int (i32 t)), (2, .int (i32 v1)), (3, .int (i32 v2))] rfl rfl (by decide) rfl rfl ?_
                  refine T_goto 20 rfl (fun _ => rfl) ?_
                  refine Tm_lv (a := [(0, .ref 189), (1, .int (i32 t)), (2, .int (i32 v1)), (3, .int (i32 v2)), (4, .int (i32 0)), (5, .int (i32 (v17 + 1)))]) rfl rfl ⟨rfl, rfl, rfl, rfl, rfl, rfl, trivial⟩ ?_
                  exact ih28 0 (v17 + 1) ⟨by decide, by decide⟩ (r32 (by omega) (by omega)) (show 0 ≤ (0 : Int) by omega) (show (0 : Int) ≤ 1 by omega) (show 0 ≤ (v17 + 1) by omega) (show (v17 + 1) ≤ (m.2 51) t by omega) (show ((m.2 51) t) - (v17 + 1) < (n26 : Int) by omega)
                · skip
                  have hl48 : (m.2 143) ((4 * sl) + v17) = x40 := by omega
                  refine T_gf 93 (.ref 296) rfl rfl rfl rfl rfl rfl ?_
                  refine T_ld 95 (.int (i32 ((4 * sl) + v17))) rfl (fun _ => rfl) ?_
                  refine T_lald 96 142 (m.2 142) rfl rfl rfl (by omega) (show ((4 * sl) + v17) < (3072 : Int) by omega) rfl ?_
                  have e49 : (-9223372036854775808) ≤ m.2 142 ((4 * sl) + v17) ∧ m.2 142 ((4 * sl) + v17) ≤ 9223372036854775807 := hT.2.1 142 ((4 * sl) + v17)
                  refine T_gf 100 (.ref 309) rfl rfl rfl rfl rfl rfl ?_
                  refine T_ld 102 (.int (i32 v17)) rfl (fun _ => rfl) ?_
                  refine T_lald 103 160 (m.2 160) rfl rfl rfl (by omega) (show v17 < (164 : Int) by omega) rfl ?_
                  have e50 : (-9223372036854775808) ≤ m.2 160 v17 ∧ m.2 160 v17 ≤ 9223372036854775807 := hT.2.1 160 v17
                  refine T_ld 105 (.long (i64 x40)) rfl (fun _ => rfl) ?_
                  refine T_lhv 106 _ rfl (fun _ => rfl) (fun z51 h52 => ?_)
                  obtain ⟨h52a, h52b⟩ := h52
                  refine T_lcmp 107 rfl rfl (r64 (by omega) (by omega)) (r64 (by omega) (by omega)) (fun z53 h54 => ?_)
                  obtain ⟨h54a, h54b, h54c, h54d, h54e⟩ := h54
                  refine T_if 114 110 rfl rfl rfl (r32 (by omega) (by omega)) (fun (h55 : z53 ≠ 0) => ?_) (fun (h55 : ¬ (z53 ≠ 0)) => ?_)
                  · skip
                    have hl56 : (m.2 142) ((4 * sl) + v17) ≠ z51 := by omega
                    refine T_ld 115 (.int (i32 0)) rfl (fun _ => rfl) ?_
                    refine T_sto 117 [(4, .int (i32 0)), (8, .long (i64 x40)), (7, .int (i32 ((m.2 112) ((4 * t) + v17)))), (6, .int (i32 ((4 * sl) + v17))), (0, .ref 189), (1, .int (i32 t)), (2, .int (i32 v1)), (3, .int (i32 v2)), (5, .int (i32 v17))] rfl (fun _ => rfl) ?_
                    refine T_iinc 120 [(5, .int (i32 (v17 + 1))), (4, .int (i32 0)), (8, .long (i64 x40)), (7, .int (i32 ((m.2 112) ((4 * t) + v17)))), (6, .int (i32 ((4 * sl) + v17))), (0, .ref 189), (1, .int (i32 t)), (2, .int (i32 v1)), (3, .int (i32 v2))] rfl rfl (by decide) rfl rfl ?_
                    refine T_goto 20 rfl (fun _ => rfl) ?_
                    refine Tm_lv (a := [(0, .ref 189), (1, .int (i32 t)), (2, .int (i32 v1)), (3, .int (i32 v2)), (4, .int (i32 0)), (5, .int (i32 (v17 + 1)))]) rfl rfl ⟨rfl, rfl, rfl, rfl, rfl, rfl, trivial⟩ ?_
                    exact ih28 0 (v17 + 1) ⟨by decide, by decide⟩ (r32 (by omega) (by omega)) (show 0 ≤ (0 : Int) by omega) (show (0 : Int) ≤ 1 by omega) (show 0 ≤ (v17 + 1) by omega) (show (v17 + 1) ≤ (m.2 51) t by omega) (show ((m.2 51) t) - (v17 + 1) < (n26 : Int) by omega)
                  · skip
                    have hl57 : (m.2 142) ((4 * sl) + v17) = z51 := by omega
                    refine T_ld 111 (.int (i32 1)) rfl (fun _ => rfl) ?_
                    refine T_goto 115 rfl (fun _ => rfl) ?_
                    refine T_sto 117 [(4, .int (i32 1)), (8, .long (i64 x40)), (7, .int (i32 ((m.2 112) ((4 * t) + v17)))), (6, .int (i32 ((4 * sl) + v17))), (0, .ref 189), (1, .int (i32 t)), (2, .int (i32 v1)), (3, .int (i32 v2)), (5, .int (i32 v17))] rfl (fun _ => rfl) ?_
                    refine T_iinc 120 [(5, .int (i32 (v17 + 1))), (4, .int (i32 1)), (8, .long (i64 x40)), (7, .int (i32 ((m.2 112) ((4 * t) + v17)))), (6, .int (i32 ((4 * sl) + v17))), (0, .ref 189), (1, .int (i32 t)), (2, .int (i32 v1)), (3, .int (i32 v2))] rfl rfl (by decide) rfl rfl ?_
                    refine T_goto 20 rfl (fun _ => rfl) ?_
                    refine Tm_lv (a := [(0, .ref 189), (1, .int (i32 t)), (2, .int (i32 v1)), (3, .int (i32 v2)), (4, .int (i32 1)), (5, .int (i32 (v17 + 1)))]) rfl rfl ⟨rfl, rfl, rfl, rfl, rfl, rfl, trivial⟩ ?_
                    exact ih28 1 (v17 + 1) ⟨by decide, by decide⟩ (r32 (by omega) (by omega)) (show 0 ≤ (1 : Int) by omega) (show (1 : Int) ≤ 1 by omega) (show 0 ≤ (v17 + 1) by omega) (show (v17 + 1) ≤ (m.2 51) t by omega) (show ((m.2 51) t) - (v17 + 1) < (n26 : Int) by omega)
        refine Tm_lv (a := [(0, .ref 189), (1, .int (i32 t)), (2, .int (i32 v1)), (3, .int (i32 v2)), (4, .int (i32 1)), (5, .int (i32 0))]) rfl rfl ⟨rfl, rfl, rfl, rfl, rfl, rfl, trivial⟩ ?_
        exact L20_18 ((((m.2 51) t) - (0 : Int) : Int) + 1).toNat 1 0 ⟨by decide, by decide⟩ ⟨by decide, by decide⟩ (show 0 ≤ (1 : Int) by omega) (show (1 : Int) ≤ 1 by omega) (show 0 ≤ (0 : Int) by omega) (show (0 : Int) ≤ (m.2 51) t by omega) (show ((m.2 51) t) - (0 : Int) < ((((((m.2 51) t) - (0 : Int) : Int) + 1).toNat : Nat) : Int) by omega)
  refine Tm_lv (a := [(0, .ref 189), (1, .int (i32 t)), (2, .int (i32 (-1))), (3, .int (i32 0))]) rfl rfl ⟨rfl, rfl, rfl, rfl, trivial⟩ ?_
  exact L4_3 ((((m.2 139) t) - (0 : Int) : Int) + 1).toNat (-1) 0 ⟨by decide, by decide⟩ ⟨by decide, by decide⟩ (show (-1) ≤ (-1 : Int) by omega) (show 0 ≤ (0 : Int) by omega) (show (0 : Int) ≤ (m.2 139) t by omega) (show (-1) ≤ (-1 : Int) ∧ (-1 : Int) < (0 : Int) by omega) (show ((m.2 139) t) - (0 : Int) < ((((((m.2 139) t) - (0 : Int) : Int) + 1).toNat : Nat) : Int) by omega)
def Q_isOf (m : mR) (c : Nat → Option am_C) (N : Nat) (t : Int) (a : Int) : ag_Re af_T → Prop := fun R => ∃ (r : Int), (0 ≤ r ∧ r ≤ 1) ∧ (r = 1 → 0 ≤ a ∧ a ≤ 15 ∧ a < (m.1 25)) ∧ R = (.inl (some (.int (i32 r))), (mhp m c, N), 0, 0)
set_option maxHeartbeats 3000000 in
theorem c_isOf (w : wX) (m : mR) (c : Nat → Option am_C) (N D : Nat) (hD : 1 ≤ D) (hT : Ty m) (t : Int) (a : Int) (qt : R32 t) (qa : R32 a) (p0 : 0 ≤ t ∧ t ≤ 7) (p1 : t < (m.1 26)) (pTb : TbP (m.2 65) (m.1 28) (m.1 25) (m.1 26) (m.2 51) (m.2 110) (m.2 111) (m.2 57) (m.2 53) (m.2 114) (m.2 58) (m.2 54)) : TC w D 317 [.ref 189, .int (i32 t), .int (i32 a)] (mhp m c, N) (Q_isOf m c N t a) := by
  obtain ⟨D, rfl⟩ : ∃ k, D = k + 1 := ⟨D - 1, by omega⟩
  obtain ⟨qta, qtb⟩ := id qt
  obtain ⟨qaa, qab⟩ := id qa
  have f25 : 0 ≤ m.1 25 ∧ m.1 25 ≤ 16 := hT.1 25
  have f28 : 0 ≤ m.1 28 ∧ m.1 28 ≤ 800 := hT.1 28
  have f26 : 0 ≤ m.1 26 ∧ m.1 26 ≤ 8 := hT.1 26
  refine Tc_of rfl ?_
  show TT w D pm_317 (0, [(0, .ref 189), (1, .int (i32 t)), (2, .int (i32 a))], [], (mhp (mO m [] []) c, N), 0, 0) (Q_isOf m c N t a)
  have htb := (pTb t (by omega) (by omega)).2.2.1
  refine T_ld 1 (.int (i32 0)) rfl (fun _ => rfl) ?_
  refine T_sto 2 [(3, .int (i32 0)), (0, .ref 189), (1, .int (i32 t)), (2, .int (i32 a))] rfl (fun _ => rfl) ?_
  refine T_ld 4 (.int (i32 8)) rfl (fun _ => rfl) ?_
  refine T_ld 5 (.int (i32 t)) rfl (fun _ => rfl) ?_
  refine T_imul 6 rfl rfl ?_
  refine T_sto 8 [(4, .int (i32 (8 * t))), (3, .int (i32 0)), (0, .ref 189), (1, .int (i32 t)), (2, .int (i32 a))] rfl (fun _ => rfl) ?_
  have e14 : 0 ≤ m.2 53 t ∧ m.2 53 t ≤ 8 := hT.2.1 53 t
  have L8_3 : ∀ (n13 : Nat) (v1 : Int) (v2 : Int), (R32 v1) → (R32 v2) → (0 ≤ v1) → (v1 ≤ 1) → (0 ≤ v2) → (v2 ≤ (8 * t) + ((m.2 53) t)) → (8 * t ≤ v2) → (v1 = 0 ∨ (v1 = 1 ∧ 0 ≤ a ∧ a ≤ 15 ∧ a < (m.1 25))) → ((8 * t) + ((m.2 53) t)) - v2 < (n13 : Int) → TT w D pm_317 (8, [(0, .ref 189), (1, .int (i32 t)), (2, .int (i32 a)), (3, .int (i32 v1)), (4, .int (i32 v2))], [], (mhp (mO m [] []) c, N), 0, 0) (Q_isOf m c N t a) := by
    intro n13
    induction n13 with
    | zero =>
      intro v1 v2 q10 q11 ic4 ic5 ic6 ic7 ic8 ic9 hmu
      obtain ⟨q10a, q10b⟩ := id q10
      obtain ⟨q11a, q11b⟩ := id q11
      exfalso
      omega
    | succ n13 ih =>
      intro v1 v2 q10 q11 ic4 ic5 ic6 ic7 ic8 ic9 hmu
      obtain ⟨q10a, q10b⟩ := id q10
      obtain ⟨q11a, q11b⟩ := id q11
      have ih15 := ih
      refine T_ld 10 (.int (i32 v2)) rfl (fun _ => rfl) ?_
      refine T_ld 12 (.int (i32 8)) rfl (fun _ => rfl) ?_
      refine T_ld 13 (.int (i32 t)) rfl (fun _ => rfl) ?_
      refine T_imul 14 rfl rfl ?_
      refine T_gf 18 (.ref 223) rfl rfl rfl rfl rfl rfl ?_
      refine T_ld 19 (.int (i32 t)) rfl (fun _ => rfl) ?_
      refine T_iald 20 53 (m.2 53) rfl rfl rfl (by omega) (show t < (8 : Int) by omega) rfl ?_
      have e16 : 0 ≤ m.2 53 t ∧ m.2 53 t ≤ 8 := hT.2.1 53 t
      refine T_iadd 21 rfl rfl ?_
      refine T_icmp 51 24 rfl rfl rfl (r32 (by omega) (by omega)) (r32 (by omega) (by omega)) (fun (h17 : (8 * t) + ((m.2 53) t) ≤ v2) => ?_) (fun (h17 : ¬ ((8 * t) + ((m.2 53) t) ≤ v2)) => ?_)
      · skip
        refine T_ld 52 (.int (i32 v1)) rfl (fun _ => rfl) ?_
        refine T_retb rfl rfl (by omega) ?_
        exact ⟨v1, ⟨by omega, by omega⟩, (show v1 = 1 → 0 ≤ a ∧ a ≤ 15 ∧ a < (m.1 25) by omega), rfl⟩
      · skip
        refine T_ld 25 (.int (i32 v1)) rfl (fun _ => rfl) ?_
        refine T_if 39 28 rfl rfl rfl (r32 (by omega) (by omega)) (fun (h18 : v1 ≠ 0) => ?_) (fun (h18 : ¬ (v1 ≠ 0)) => ?_)
        · skip
          refine T_ld 40 (.int (i32 1)) rfl (fun _ => rfl) ?_
          refine T_goto 44 rfl (fun _ => rfl) ?_
          refine T_sto 45 [(3, .int (i32 1)), (0, .ref 189), (1, .int (i32 t)), (2, .int (i32 a)), (4, .int (i32 v2))] rfl (fun _ => rfl) ?_
          refine T_iinc 48 [(4, .int (i32 (v2 + 1))), (3, .int (i32 1)), (0, .ref 189), (1, .int (i32 t)), (2, .int (i32 a))] rfl rfl (by decide) rfl rfl ?_
          refine T_goto 8 rfl (fun _ => rfl) ?_
          refine Tm_lv (a := [(0, .ref 189), (1, .int (i32 t)), (2, .int (i32 a)), (3, .int (i32 1)), (4, .int (i32 (v2 + 1)))]) rfl rfl ⟨rfl, rfl, rfl, rfl, rfl, trivial⟩ ?_
          exact ih15 1 (v2 + 1) ⟨by decide, by decide⟩ (r32 (by omega) (by omega)) (show 0 ≤ (1 : Int) by omega) (show (1 : Int) ≤ 1 by omega) (show 0 ≤ (v2 + 1) by omega) (show (v2 + 1) ≤ (8 * t) + ((m.2 53) t) by omega) (show 8 * t ≤ (v2 + 1) by omega) (show (1 : Int) = 0 ∨ ((1 : Int) = 1 ∧ 0 ≤ a ∧ a ≤ 15 ∧ a < (m.1 25)) by omega) (show ((8 * t) + ((m.2 53) t)) - (v2 + 1) < (n13 : Int) by omega)
        · skip
          have hl := htb v2 (by omega) (by omega)
          refine T_gf 32 (.ref 274) rfl rfl rfl rfl rfl rfl ?_
          refine T_ld 34 (.int (i32 v2)) rfl (fun _ => rfl) ?_
          refine T_iald 35 114 (m.2 114) rfl rfl rfl (by omega) (show v2 < (64 : Int) by omega) rfl ?_
          have e19 : 0 ≤ m.2 114 v2 ∧ m.2 114 v2 ≤ 15 := hT.2.1 114 v2
          refine T_ld 36 (.int (i32 a)) rfl (fun _ => rfl) ?_
          refine T_icmp 43 39 rfl rfl rfl (r32 (by omega) (by omega)) (r32 (by omega) (by omega)) (fun (h20 : (m.2 114) v2 ≠ a) => ?_) (fun (h20 : ¬ ((m.2 114) v2 ≠ a)) => ?_)
          · skip
            refine T_ld 44 (.int (i32 0)) rfl (fun _ => rfl) ?_
            refine T_sto 45 [(3, .int (i32 0)), (0, .ref 189), (1, .int (i32 t)), (2, .int (i32 a)), (4, .int (i32 v2))] rfl (fun _ => rfl) ?_
            refine T_iinc 48 [(4, .int (i32 (v2 + 1))), (3, .int (i32 0)), (0, .ref 189), (1, .int (i32 t)), (2, .int (i32 a))] rfl rfl (by decide) rfl rfl ?_
            refine T_goto 8 rfl (fun _ => rfl) ?_
            refine Tm_lv (a := [(0, .ref 189), (1, .int (i32 t)), (2, .int (i32 a)), (3, .int (i32 0)), (4, .int (i32 (v2 + 1)))]) rfl rfl ⟨rfl, rfl, rfl, rfl, rfl, trivial⟩ ?_
            exact ih15 0 (v2 + 1) ⟨by decide, by decide⟩ (r32 (by omega) (by omega)) (show 0 ≤ (0 : Int) by omega) (show (0 : Int) ≤ 1 by omega) (show 0 ≤ (v2 + 1) by omega) (show (v2 + 1) ≤ (8 * t) + ((m.2 53) t) by omega) (show 8 * t ≤ (v2 + 1) by omega) (show (0 : Int) = 0 ∨ ((0 : Int) = 1 ∧ 0 ≤ a ∧ a ≤ 15 ∧ a < (m.1 25)) by omega) (show ((8 * t) + ((m.2 53) t)) - (v2 + 1) < (n13 : Int) by omega)
          · skip
            refine T_ld 40 (.int (i32 1)) rfl (fun _ => rfl) ?_
            refine T_goto 44 rfl (fun _ => rfl) ?_
            refine T_sto 45 [(3, .int (i32 1)), (0, .ref 189), (1, .int (i32 t)), (2, .int (i32 a)), (4, .int (i32 v2))] rfl (fun _ => rfl) ?_
            refine T_iinc 48 [(4, .int (i32 (v2 + 1))), (3, .int (i32 1)), (0, .ref 189), (1, .int (i32 t)), (2, .int (i32 a))] rfl rfl (by decide) rfl rfl ?_
            refine T_goto 8 rfl (fun _ => rfl) ?_
            refine Tm_lv (a := [(0, .ref 189), (1, .int (i32 t)), (2, .int (i32 a)), (3, .int (i32 1)), (4, .int (i32 (v2 + 1)))]) rfl rfl ⟨rfl, rfl, rfl, rfl, rfl, trivial⟩ ?_
            exact ih15 1 (v2 + 1) ⟨by decide, by decide⟩ (r32 (by omega) (by omega)) (show 0 ≤ (1 : Int) by omega) (show (1 : Int) ≤ 1 by omega) (show 0 ≤ (v2 + 1) by omega) (show (v2 + 1) ≤ (8 * t) + ((m.2 53) t) by omega) (show 8 * t ≤ (v2 + 1) by omega) (show (1 : Int) = 0 ∨ ((1 : Int) = 1 ∧ 0 ≤ a ∧ a ≤ 15 ∧ a < (m.1 25)) by omega) (show ((8 * t) + ((m.2 53) t)) - (v2 + 1) < (n13 : Int) by omega)
  refine Tm_lv (a := [(0, .ref 189), (1, .int (i32 t)), (2, .int (i32 a)), (3, .int (i32 0)), (4, .int (i32 (8 * t)))]) rfl rfl ⟨rfl, rfl, rfl, rfl, rfl, trivial⟩ ?_
  exact L8_3 ((((8 * t) + ((m.2 53) t)) - (8 * t) : Int) + 1).toNat 0 (8 * t) ⟨by decide, by decide⟩ (r32 (by omega) (by omega)) (show 0 ≤ (0 : Int) by omega) (show (0 : Int) ≤ 1 by omega) (show 0 ≤ (8 * t) by omega) (show (8 * t) ≤ (8 * t) + ((m.2 53) t) by omega) (show 8 * t ≤ (8 * t) by omega) (show (0 : Int) = 0 ∨ ((0 : Int) = 1 ∧ 0 ≤ a ∧ a ≤ 15 ∧ a < (m.1 25)) by omega) (show ((8 * t) + ((m.2 53) t)) - (8 * t) < ((((((8 * t) + ((m.2 53) t)) - (8 * t) : Int) + 1).toNat : Nat) : Int) by omega)
def Q_bucket (m : mR) (c : Nat → Option am_C) (N : Nat) (t : Int) (e : Int) : ag_Re af_T → Prop := fun R => ∃ (r : Int), (0 ≤ r ∧ r ≤ 15) ∧ R = (.inl (some (.int (i32 r))), (mhp m c, N), 0, 0)
set_option maxHeartbeats 3000000 in
theorem c_bucket (w : wX) (m : mR) (c : Nat → Option am_C) (N D : Nat) (hD : 2 ≤ D) (hT : Ty m) (t : Int) (e : Int) (qt : R32 t) (qe : R32 e) (p0 : 0 ≤ t ∧ t ≤ 7) (p1 : 0 ≤ e ∧ e ≤ 95) (p2 : 1 ≤ (m.2 54) t ∧ (m.2 54) t ≤ 16) : TC w D 322 [.ref 189, .int (i32 t), .int (i32 e)] (mhp m c, N) (Q_bucket m c N t e) := by
  obtain ⟨D, rfl⟩ : ∃ k, D = k + 1 := ⟨D - 1, by omega⟩
  obtain ⟨qta, qtb⟩ := id qt
  obtain ⟨qea, qeb⟩ := id qe
  refine Tc_of rfl ?_
  show TT w D pm_322 (0, [(0, .ref 189), (1, .int (i32 t)), (2, .int (i32 e))], [], (mhp (mO m [] []) c, N), 0, 0) (Q_bucket m c N t e)
  refine T_ld 1 (.long (i64 0)) rfl (fun _ => rfl) ?_
  refine T_sto 2 [(3, .long (i64 0)), (0, .ref 189), (1, .int (i32 t)), (2, .int (i32 e))] rfl (fun _ => rfl) ?_
  refine T_ld 3 (.int (i32 0)) rfl (fun _ => rfl) ?_
  refine T_sto 5 [(5, .int (i32 0)), (3, .long (i64 0)), (0, .ref 189), (1, .int (i32 t)), (2, .int (i32 e))] rfl (fun _ => rfl) ?_
  have e10 : 0 ≤ m.2 51 t ∧ m.2 51 t ≤ 4 := hT.2.1 51 t
  have L5_3 : ∀ (n9 : Nat) (v1 : Int) (v2 : Int), (R64 v1) → (R32 v2) → (0 ≤ v2) → (v2 ≤ (m.2 51) t) → ((m.2 51) t) - v2 < (n9 : Int) → TT w D pm_322 (5, [(0, .ref 189), (1, .int (i32 t)), (2, .int (i32 e)), (3, .long (i64 v1)), (5, .int (i32 v2))], [], (mhp (mO m [] []) c, N), 0, 0) (Q_bucket m c N t e) := by
    intro n9
    induction n9 with
    | zero =>
      intro v1 v2 q6 q7 ic4 ic5 hmu
      obtain ⟨q6a, q6b⟩ := id q6
      obtain ⟨q7a, q7b⟩ := id q7
      exfalso
      omega
    | succ n9 ih =>
      intro v1 v2 q6 q7 ic4 ic5 hmu
      obtain ⟨q6a, q6b⟩ := id q6
      obtain ⟨q7a, q7b⟩ := id q7
      have ih11 := ih
      refine T_ld 7 (.int (i32 v2)) rfl (fun _ => rfl) ?_
      refine T_gf 11 (.ref 221) rfl rfl rfl rfl rfl rfl ?_
      refine T_ld 12 (.int (i32 t)) rfl (fun _ => rfl) ?_
      refine T_iald 13 51 (m.2 51) rfl rfl rfl (by omega) (show t < (8 : Int) by omega) rfl ?_
      have e12 : 0 ≤ m.2 51 t ∧ m.2 51 t ≤ 4 := hT.2.1 51 t
      refine T_icmp 61 16 rfl rfl rfl (r32 (by omega) (by omega)) (r32 (by omega) (by omega)) (fun (h13 : (m.2 51) t ≤ v2) => ?_) (fun (h13 : ¬ ((m.2 51) t ≤ v2)) => ?_)
      · skip
        refine T_ld 62 (.long (i64 v1)) rfl (fun _ => rfl) ?_
        refine T_ld 63 (.long (i64 v1)) rfl (fun _ => rfl) ?_
        refine T_ld 65 (.int (i32 20)) rfl (fun _ => rfl) ?_
        refine T_lhv 66 _ rfl (fun _ => rfl) (fun z14 h15 => ?_)
        obtain ⟨h15a, h15b⟩ := h15
        refine T_lhv 67 _ rfl (fun _ => rfl) (fun z16 h17 => ?_)
        obtain ⟨h17a, h17b⟩ := h17
        refine T_ld 68 (.long (i64 v1)) rfl (fun _ => rfl) ?_
        refine T_ld 70 (.int (i32 7)) rfl (fun _ => rfl) ?_
        refine T_lhv 71 _ rfl (fun _ => rfl) (fun z18 h19 => ?_)
        obtain ⟨h19a, h19b⟩ := h19
        refine T_lhv 72 _ rfl (fun _ => rfl) (fun z20 h21 => ?_)
        obtain ⟨h21a, h21b⟩ := h21
        refine T_l2i 73 rfl rfl ?_
        refine T_gf 77 (.ref 224) rfl rfl rfl rfl rfl rfl ?_
        refine T_ld 78 (.int (i32 t)) rfl (fun _ => rfl) ?_
        refine T_iald 79 54 (m.2 54) rfl rfl rfl (by omega) (show t < (8 : Int) by omega) rfl ?_
        have e22 : 0 ≤ m.2 54 t ∧ m.2 54 t ≤ 32 := hT.2.1 54 t
        refine T_ld 80 (.int (i32 1)) rfl (fun _ => rfl) ?_
        refine T_isub 81 rfl rfl ?_
        refine T_iand 82 rfl rfl (by omega) (by omega) (fun z23 h24 => ?_)
        refine T_ret rfl (fun _ => rfl) ?_
        exact ⟨z23, ⟨by omega, by omega⟩, rfl⟩
      · skip
        refine T_gf 20 (.ref 296) rfl rfl rfl rfl rfl rfl ?_
        refine T_ld 21 (.int (i32 4)) rfl (fun _ => rfl) ?_
        refine T_ld 22 (.ref 189) rfl (fun _ => rfl) ?_
        refine T_ld 23 (.int (i32 t)) rfl (fun _ => rfl) ?_
        refine T_ld 24 (.int (i32 e)) rfl (fun _ => rfl) ?_
        refine T_call 27 319 [.ref 189, .int (i32 t), .int (i32 e)] [.int (i32 4), .ref 296] rfl (fun _ => rfl) rfl (c_slot w (mO m [] []) c N D (by omega) hT t e (r32 (by omega) (by omega)) (r32 (by omega) (by omega)) (show 0 ≤ t ∧ t ≤ 7 by omega) (show 0 ≤ e ∧ e ≤ 96 by omega)) (fun rr25 k26 => ?_)
        obtain ⟨sl, g27, h28, rfl⟩ := k26
        refine ⟨_, _, rfl, ?_⟩
        refine T_ns (st' := [.int (i32 sl), .int (i32 4), .ref 296]) rfl ?_
        obtain ⟨g27a, g27b⟩ := g27
        replace h28 : sl = 96 * t + e := h28
        have hSl := h28
        refine T_imul 28 rfl rfl ?_
        refine T_ld 30 (.int (i32 v2)) rfl (fun _ => rfl) ?_
        refine T_iadd 31 rfl rfl ?_
        refine T_lald 32 142 (m.2 142) rfl rfl rfl (by omega) (show ((4 * sl) + v2) < (3072 : Int) by omega) rfl ?_
        have e29 : (-9223372036854775808) ≤ m.2 142 ((4 * sl) + v2) ∧ m.2 142 ((4 * sl) + v2) ≤ 9223372036854775807 := hT.2.1 142 ((4 * sl) + v2)
        refine T_sto 34 [(6, .long (i64 ((m.2 142) ((4 * sl) + v2)))), (0, .ref 189), (1, .int (i32 t)), (2, .int (i32 e)), (3, .long (i64 v1)), (5, .int (i32 v2))] rfl (fun _ => rfl) ?_
        refine T_ld 37 (.long (i64 31)) rfl (fun _ => rfl) ?_
        refine T_ld 38 (.long (i64 v1)) rfl (fun _ => rfl) ?_
        refine T_lmul 39 rfl rfl ?_
        refine T_lnm (fun z30 h31 => ?_)
        obtain ⟨h31a, h31b⟩ := h31
        refine T_ld 41 (.long (i64 ((m.2 142) ((4 * sl) + v2)))) rfl (fun _ => rfl) ?_
        refine T_ld 43 (.long (i64 ((m.2 142) ((4 * sl) + v2)))) rfl (fun _ => rfl) ?_
        refine T_ld 45 (.int (i32 32)) rfl (fun _ => rfl) ?_
        refine T_lhv 46 _ rfl (fun _ => rfl) (fun z32 h33 => ?_)
        obtain ⟨h33a, h33b⟩ := h33
        refine T_lhv 47 _ rfl (fun _ => rfl) (fun z34 h35 => ?_)
        obtain ⟨h35a, h35b⟩ := h35
        refine T_ld 49 (.long (i64 ((m.2 142) ((4 * sl) + v2)))) rfl (fun _ => rfl) ?_
        refine T_ld 51 (.int (i32 17)) rfl (fun _ => rfl) ?_
        refine T_lhv 52 _ rfl (fun _ => rfl) (fun z36 h37 => ?_)
        obtain ⟨h37a, h37b⟩ := h37
        refine T_lhv 53 _ rfl (fun _ => rfl) (fun z38 h39 => ?_)
        obtain ⟨h39a, h39b⟩ := h39
        refine T_ladd 54 rfl rfl ?_
        refine T_lnm (fun z40 h41 => ?_)
        obtain ⟨h41a, h41b⟩ := h41
        refine T_sto 55 [(3, .long (i64 z40)), (6, .long (i64 ((m.2 142) ((4 * sl) + v2)))), (0, .ref 189), (1, .int (i32 t)), (2, .int (i32 e)), (5, .int (i32 v2))] rfl (fun _ => rfl) ?_
        refine T_iinc 58 [(5, .int (i32 (v2 + 1))), (3, .long (i64 z40)), (6, .long (i64 ((m.2 142) ((4 * sl) + v2)))), (0, .ref 189), (1, .int (i32 t)), (2, .int (i32 e))] rfl rfl (by decide) rfl rfl ?_
        refine T_goto 5 rfl (fun _ => rfl) ?_
        refine Tm_lv (a := [(0, .ref 189), (1, .int (i32 t)), (2, .int (i32 e)), (3, .long (i64 z40)), (5, .int (i32 (v2 + 1)))]) rfl rfl ⟨rfl, rfl, rfl, rfl, rfl, trivial⟩ ?_
        exact ih11 z40 (v2 + 1) (r64 (by omega) (by omega)) (r32 (by omega) (by omega)) (show 0 ≤ (v2 + 1) by omega) (show (v2 + 1) ≤ (m.2 51) t by omega) (show ((m.2 51) t) - (v2 + 1) < (n9 : Int) by omega)
  refine Tm_lv (a := [(0, .ref 189), (1, .int (i32 t)), (2, .int (i32 e)), (3, .long (i64 0)), (5, .int (i32 0))]) rfl rfl ⟨rfl, rfl, rfl, rfl, rfl, trivial⟩ ?_
  exact L5_3 ((((m.2 51) t) - (0 : Int) : Int) + 1).toNat 0 0 ⟨by decide, by decide⟩ ⟨by decide, by decide⟩ (show 0 ≤ (0 : Int) by omega) (show (0 : Int) ≤ (m.2 51) t by omega) (show ((m.2 51) t) - (0 : Int) < ((((((m.2 51) t) - (0 : Int) : Int) + 1).toNat : Nat) : Int) by omega)
def fF_above : List Nat := []
def fA_above : List Nat := [170]
def Q_above (m : mR) (c : Nat → Option am_C) (N : Nat) (t : Int) : ag_Re af_T → Prop := fun R => ∃ (M : mR) (r : Int), Ty M ∧ fr fF_above fA_above m M ∧ (0 ≤ r ∧ r ≤ 96) ∧ ((m.2 58) t = 1 → (m.2 139) t ≤ 16 * (m.2 55) t + r) ∧ R = (.inl (some (.int (i32 r))), (mhp M c, N), 0, 0)
set_option maxHeartbeats 3000000 in
theorem c_above (w : wX) (m : mR) (c : Nat → Option am_C) (N D : Nat) (hD : 3 ≤ D) (hT : Ty m) (t : Int) (qt : R32 t) (p0 : 0 ≤ t ∧ t ≤ 7) (p1 : t < (m.1 26)) (pTb : TbP (m.2 65) (m.1 28) (m.1 25) (m.1 26) (m.2 51) (m.2 110) (m.2 111) (m.2 57) (m.2 53) (m.2 114) (m.2 58) (m.2 54)) : TC w D 321 [.ref 189, .int (i32 t)] (mhp m c, N) (Q_above m c N t) := by
  obtain ⟨D, rfl⟩ : ∃ k, D = k + 1 := ⟨D - 1, by omega⟩
  obtain ⟨qta, qtb⟩ := id qt
  have f25 : 0 ≤ m.1 25 ∧ m.1 25 ≤ 16 := hT.1 25
  have f28 : 0 ≤ m.1 28 ∧ m.1 28 ≤ 800 := hT.1 28
  have f26 : 0 ≤ m.1 26 ∧ m.1 26 ≤ 8 := hT.1 26
  refine Tc_of rfl ?_
  show TT w D pm_321 (0, [(0, .ref 189), (1, .int (i32 t))], [], (mhp (mO m [] []) c, N), 0, 0) (Q_above m c N t)
  obtain ⟨hb1, hb2, hb3, hb4, hb5⟩ := pTb t (by omega) (by omega)
  have hmw : 0 ≤ (m.2 55) t ∧ (m.2 55) t ≤ 4 := hT.2.1 55 t
  have hem : 0 ≤ (m.2 139) t ∧ (m.2 139) t ≤ 96 := hT.2.1 139 t
  refine T_gf 4 (.ref 228) rfl rfl rfl rfl rfl rfl ?_
  refine T_ld 5 (.int (i32 t)) rfl (fun _ => rfl) ?_
  refine T_bald 6 58 (m.2 58) rfl rfl rfl (by omega) (show t < (8 : Int) by omega) rfl ?_
  have e1 : 0 ≤ m.2 58 t ∧ m.2 58 t ≤ 1 := hT.2.1 58 t
  refine T_if 11 9 rfl rfl rfl (r32 (by omega) (by omega)) (fun (h2 : (m.2 58) t ≠ 0) => ?_) (fun (h2 : ¬ ((m.2 58) t ≠ 0)) => ?_)
  · skip
    have hrm := hb4 (by omega)
    refine T_ld 12 (.int (i32 0)) rfl (fun _ => rfl) ?_
    refine T_sto 13 [(2, .int (i32 0)), (0, .ref 189), (1, .int (i32 t))] rfl (fun _ => rfl) ?_
    have L13_5 : ∀ (n12 : Nat) (v3 : Int) (m4 : mR), (R32 v3) → Ty m4 → fr [] [170] (mO m [] []) m4 → (0 ≤ v3) → (v3 ≤ 16) → (∀ j, 0 ≤ j → j < v3 → (m4.2 170) j = 0) → 16 - v3 < (n12 : Int) → TT w D pm_321 (13, [(0, .ref 189), (1, .int (i32 t)), (2, .int (i32 v3))], [], (mhp (mO m4 [] []) c, N), 0, 0) (Q_above m c N t) := by
      intro n12
      induction n12 with
      | zero =>
        intro v3 m4 q9 Tm4 Fm4 ic6 ic7 ic8 hmu
        obtain ⟨q9a, q9b⟩ := id q9
        have hz := ic8
        exfalso
        omega
      | succ n12 ih =>
        intro v3 m4 q9 Tm4 Fm4 ic6 ic7 ic8 hmu
        obtain ⟨q9a, q9b⟩ := id q9
        have hz := ic8
        have ih13 := ih
        refine T_ld 14 (.int (i32 v3)) rfl (fun _ => rfl) ?_
        refine T_ld 16 (.int (i32 16)) rfl (fun _ => rfl) ?_
        refine T_icmp 32 19 rfl rfl rfl (r32 (by omega) (by omega)) ⟨by decide, by decide⟩ (fun (h14 : (16 : Int) ≤ v3) => ?_) (fun (h14 : ¬ ((16 : Int) ≤ v3)) => ?_)
        · skip
          have hmz := mn_z (f := (m4.2 170)) (W := (m.2 55) t) (n := 16) hmw.1 (fun j a b => hz j a (by omega))
          refine T_ld 33 (.int (i32 0)) rfl (fun _ => rfl) ?_
          refine T_sto 34 [(2, .int (i32 0)), (0, .ref 189), (1, .int (i32 t))] rfl (fun _ => rfl) ?_
          refine T_ld 35 (.int (i32 0)) rfl (fun _ => rfl) ?_
          refine T_sto 36 [(3, .int (i32 0)), (2, .int (i32 0)), (0, .ref 189), (1, .int (i32 t))] rfl (fun _ => rfl) ?_
          have e30 : 0 ≤ m.2 139 t ∧ m.2 139 t ≤ 96 := hT.2.1 139 t
          have L36_18 : ∀ (n29 : Nat) (v15 : Int) (v16 : Int) (m17 : mR), (R32 v15) → (R32 v16) → Ty m17 → fr [] [170] (mO m4 [] []) m17 → (0 ≤ v15) → (0 ≤ v16) → (v16 ≤ (m.2 139) t) → (0 ≤ v15 ∧ v15 ≤ v16) → (v16 ≤ v15 + mn (m17.2 170) ((m.2 55) t) 16) → (∀ j, 0 ≤ j → j < 16 → (m17.2 170) j ≤ v16) → ((m.2 139) t) - v16 < (n29 : Int) → TT w D pm_321 (36, [(0, .ref 189), (1, .int (i32 t)), (2, .int (i32 v15)), (3, .int (i32 v16))], [], (mhp (mO m17 [] []) c, N), 0, 0) (Q_above m c N t) := by
            intro n29
            induction n29 with
            | zero =>
              intro v15 v16 m17 q25 q26 Tm17 Fm17 ic19 ic20 ic21 ic22 ic23 ic24 hmu
              obtain ⟨q25a, q25b⟩ := id q25
              obtain ⟨q26a, q26b⟩ := id q26
              have hib := ic24
              exfalso
              omega
            | succ n29 ih =>
              intro v15 v16 m17 q25 q26 Tm17 Fm17 ic19 ic20 ic21 ic22 ic23 ic24 hmu
              obtain ⟨q25a, q25b⟩ := id q25
              obtain ⟨q26a, q26b⟩ := id q26
              have hib := ic24
              have ih31 := ih
              refine T_ld 37 (.int (i32 v16)) rfl (fun _ => rfl) ?_
              refine T_gf 41 (.ref 293) rfl rfl rfl rfl rfl rfl ?_
              refine T_ld 42 (.int (i32 t)) rfl (fun _ => rfl) ?_
              refine T_iald 43 139 (m.2 139) rfl rfl rfl (by omega) (show t < (8 : Int) by omega) (show (m17.2 139) = (m.2 139) from ((fr2 Fm17 139 rfl).trans (fr2 Fm4 139 rfl))) ?_
              have e32 : 0 ≤ m.2 139 t ∧ m.2 139 t ≤ 96 := hT.2.1 139 t
              refine T_icmp 95 46 rfl rfl rfl (r32 (by omega) (by omega)) (r32 (by omega) (by omega)) (fun (h33 : (m.2 139) t ≤ v16) => ?_) (fun (h33 : ¬ ((m.2 139) t ≤ v16)) => ?_)
              · skip
                have hml := mn_le16 (f := (m17.2 170)) (W := (m.2 55) t)
                refine T_ld 96 (.int (i32 v15)) rfl (fun _ => rfl) ?_
                refine T_ret rfl (fun _ => rfl) ?_
                exact ⟨(mO m17 [] []), v15, Tm17, (fr_m (fr_s Fm17 (fr_m (fr_s Fm4 (fr_m fr_0 rfl rfl) rfl rfl) rfl rfl) rfl rfl) rfl rfl), ⟨by omega, by omega⟩, (show (m.2 58) t = 1 → (m.2 139) t ≤ 16 * (m.2 55) t + v15 by omega), rfl⟩
              · skip
                refine T_ld 47 (.ref 189) rfl (fun _ => rfl) ?_
                refine T_ld 48 (.int (i32 t)) rfl (fun _ => rfl) ?_
                refine T_ld 49 (.int (i32 v16)) rfl (fun _ => rfl) ?_
                refine T_call 52 322 [.ref 189, .int (i32 t), .int (i32 v16)] [] rfl (fun _ => rfl) rfl (c_bucket w (mO m17 [] []) c N D (by omega) Tm17 t v16 (r32 (by omega) (by omega)) (r32 (by omega) (by omega)) (show 0 ≤ t ∧ t ≤ 7 by omega) (show 0 ≤ v16 ∧ v16 ≤ 95 by omega) (show 1 ≤ (m17.2 54) t ∧ (m17.2 54) t ≤ 16 by rewrite [(show (m17.2 54) = (m.2 54) from ((fr2 Fm17 54 rfl).trans (fr2 Fm4 54 rfl)))]; omega)) (fun rr34 k35 => ?_)
                obtain ⟨bu, g36, rfl⟩ := k35
                refine ⟨_, _, rfl, ?_⟩
                refine T_ns (st' := [.int (i32 bu)]) rfl ?_
                obtain ⟨g36a, g36b⟩ := g36
                refine T_sto 54 [(4, .int (i32 bu)), (0, .ref 189), (1, .int (i32 t)), (2, .int (i32 v15)), (3, .int (i32 v16))] rfl (fun _ => rfl) ?_
                have hib4 := hib bu (by omega) (by omega)
                have hmu := mn_u (f := (m17.2 170)) (W := (m.2 55) t) (b := bu) (by omega) (by omega)
                refine T_gf 58 (.ref 319) rfl rfl rfl rfl rfl rfl ?_
                refine T_ld 60 (.int (i32 bu)) rfl (fun _ => rfl) ?_
                refine T_dup2 61 rfl (fun _ => rfl) ?_
                refine T_iald 62 170 (m17.2 170) rfl rfl rfl (by omega) (show bu < (16 : Int) by omega) rfl ?_
                have e37 : 0 ≤ (m17.2 170) bu ∧ (m17.2 170) bu ≤ 96 := (Tm17.2.1 170) bu
                refine T_ld 63 (.int (i32 1)) rfl (fun _ => rfl) ?_
                refine T_iadd 64 rfl rfl ?_
                have G38 : ∀ j, 0 ≤ (upI (m17.2 170) bu (((m17.2 170) bu) + 1)) j ∧ (upI (m17.2 170) bu (((m17.2 170) bu) + 1)) j ≤ 96 := upI_rg (Tm17.2.1 170) ⟨by omega, by omega⟩
                refine T_iast (a' := [(170, upI (m17.2 170) bu (((m17.2 170) bu) + 1))]) 65 170 (m17.2 170) rfl rfl rfl (by omega) (show bu < (16 : Int) by omega) rfl rfl ?_
                refine T_ld 66 (.int (i32 v15)) rfl (fun _ => rfl) ?_
                refine T_gf 70 (.ref 319) rfl rfl rfl rfl rfl rfl ?_
                refine T_ld 72 (.int (i32 bu)) rfl (fun _ => rfl) ?_
                refine T_iald 73 170 (upI (m17.2 170) bu (((m17.2 170) bu) + 1)) rfl rfl rfl (by omega) (show bu < (16 : Int) by omega) rfl ?_
                refine T_cast (((m17.2 170) bu) + 1) upI_s ?_
                refine T_gf 77 (.ref 225) rfl rfl rfl rfl rfl rfl ?_
                refine T_ld 78 (.int (i32 t)) rfl (fun _ => rfl) ?_
                refine T_iald 79 55 (m.2 55) rfl rfl rfl (by omega) (show t < (8 : Int) by omega) (show (m17.2 55) = (m.2 55) from ((fr2 Fm17 55 rfl).trans (fr2 Fm4 55 rfl))) ?_
                have e39 : 0 ≤ m.2 55 t ∧ m.2 55 t ≤ 4 := hT.2.1 55 t
                refine T_icmp 86 82 rfl rfl rfl (r32 (by omega) (by omega)) (r32 (by omega) (by omega)) (fun (h40 : (((m17.2 170) bu) + 1) ≤ (m.2 55) t) => ?_) (fun (h40 : ¬ ((((m17.2 170) bu) + 1) ≤ (m.2 55) t)) => ?_)
                · skip
                  refine T_ld 87 (.int (i32 0)) rfl (fun _ => rfl) ?_
                  refine T_iadd 88 rfl rfl ?_
                  refine T_sto 89 [(2, .int (i32 (v15 + 0))), (4, .int (i32 bu)), (0, .ref 189), (1, .int (i32 t)), (3, .int (i32 v16))] rfl (fun _ => rfl) ?_
                  refine T_iinc 92 [(3, .int (i32 (v16 + 1))), (2, .int (i32 (v15 + 0))), (4, .int (i32 bu)), (0, .ref 189), (1, .int (i32 t))] rfl rfl (by decide) rfl rfl ?_
                  refine T_goto 36 rfl (fun _ => rfl) ?_
                  refine Tm_lv (a := [(0, .ref 189), (1, .int (i32 t)), (2, .int (i32 (v15 + 0))), (3, .int (i32 (v16 + 1)))]) rfl rfl ⟨rfl, rfl, rfl, rfl, trivial⟩ ?_
                  exact ih31 (v15 + 0) (v16 + 1) (mO m17 [] [(170, upI (m17.2 170) bu (((m17.2 170) bu) + 1))]) (r32 (by omega) (by omega)) (r32 (by omega) (by omega)) (Ty_mO Tm17 rfl rfl trivial ⟨G38, trivial⟩) (fr_m (fr_s Fm17 (fr_m fr_0 rfl rfl) rfl rfl) rfl rfl) (show 0 ≤ (v15 + 0) by omega) (show 0 ≤ (v16 + 1) by omega) (show (v16 + 1) ≤ (m.2 139) t by omega) (show 0 ≤ (v15 + 0) ∧ (v15 + 0) ≤ (v16 + 1) by omega) (show (v16 + 1) ≤ (v15 + 0) + mn (upI (m17.2 170) bu (((m17.2 170) bu) + 1)) ((m.2 55) t) 16 by omega) (show ∀ j, 0 ≤ j → j < 16 → (upI (m17.2 170) bu (((m17.2 170) bu) + 1)) j ≤ (v16 + 1) by first | (intro j a b; rw [hz j a (by omega)]; omega) | (intro j a b; have h1 := hib j a b; have h2 := hib bu (by omega) (by omega); unfold upI; split <;> omega)) (show ((m.2 139) t) - (v16 + 1) < (n29 : Int) by omega)
                · skip
                  refine T_ld 83 (.int (i32 1)) rfl (fun _ => rfl) ?_
                  refine T_goto 87 rfl (fun _ => rfl) ?_
                  refine T_iadd 88 rfl rfl ?_
                  refine T_sto 89 [(2, .int (i32 (v15 + 1))), (4, .int (i32 bu)), (0, .ref 189), (1, .int (i32 t)), (3, .int (i32 v16))] rfl (fun _ => rfl) ?_
                  refine T_iinc 92 [(3, .int (i32 (v16 + 1))), (2, .int (i32 (v15 + 1))), (4, .int (i32 bu)), (0, .ref 189), (1, .int (i32 t))] rfl rfl (by decide) rfl rfl ?_
                  refine T_goto 36 rfl (fun _ => rfl) ?_
                  refine Tm_lv (a := [(0, .ref 189), (1, .int (i32 t)), (2, .int (i32 (v15 + 1))), (3, .int (i32 (v16 + 1)))]) rfl rfl ⟨rfl, rfl, rfl, rfl, trivial⟩ ?_
                  exact ih31 (v15 + 1) (v16 + 1) (mO m17 [] [(170, upI (m17.2 170) bu (((m17.2 170) bu) + 1))]) (r32 (by omega) (by omega)) (r32 (by omega) (by omega)) (Ty_mO Tm17 rfl rfl trivial ⟨G38, trivial⟩) (fr_m (fr_s Fm17 (fr_m fr_0 rfl rfl) rfl rfl) rfl rfl) (show 0 ≤ (v15 + 1) by omega) (show 0 ≤ (v16 + 1) by omega) (show (v16 + 1) ≤ (m.2 139) t by omega) (show 0 ≤ (v15 + 1) ∧ (v15 + 1) ≤ (v16 + 1) by omega) (show (v16 + 1) ≤ (v15 + 1) + mn (upI (m17.2 170) bu (((m17.2 170) bu) + 1)) ((m.2 55) t) 16 by omega) (show ∀ j, 0 ≤ j → j < 16 → (upI (m17.2 170) bu (((m17.2 170) bu) + 1)) j ≤ (v16 + 1) by first | (intro j a b; rw [hz j a (by omega)]; omega) | (intro j a b; have h1 := hib j a b; have h2 := hib bu (by omega) (by omega); unfold upI; split <;> omega)) (show ((m.2 139) t) - (v16 + 1) < (n29 : Int) by omega)
          refine Tm_lv (a := [(0, .ref 189), (1, .int (i32 t)), (2, .int (i32 0)), (3, .int (i32 0))]) rfl rfl ⟨rfl, rfl, rfl, rfl, trivial⟩ ?_
          exact L36_18 ((((m.2 139) t) - (0 : Int) : Int) + 1).toNat 0 0 (mO m4 [] []) ⟨by decide, by decide⟩ ⟨by decide, by decide⟩ Tm4 (fr_m fr_0 rfl rfl) (show 0 ≤ (0 : Int) by omega) (show 0 ≤ (0 : Int) by omega) (show (0 : Int) ≤ (m.2 139) t by omega) (show 0 ≤ (0 : Int) ∧ (0 : Int) ≤ (0 : Int) by omega) (show (0 : Int) ≤ (0 : Int) + mn (m4.2 170) ((m.2 55) t) 16 by omega) (show ∀ j, 0 ≤ j → j < 16 → (m4.2 170) j ≤ (0 : Int) by first | (intro j a b; rw [hz j a (by omega)]; omega) | (intro j a b; have h1 := hib j a b; have h2 := hib NOLOCAL (by omega) (by omega); unfold upI; split <;> omega)) (show ((m.2 139) t) - (0 : Int) < ((((((m.2 139) t) - (0 : Int) : Int) + 1).toNat : Nat) : Int) by omega)
        · skip
          refine T_gf 23 (.ref 319) rfl rfl rfl rfl rfl rfl ?_
          refine T_ld 24 (.int (i32 v3)) rfl (fun _ => rfl) ?_
          refine T_ld 25 (.int (i32 0)) rfl (fun _ => rfl) ?_
          have G41 : ∀ j, 0 ≤ (upI (m4.2 170) v3 0) j ∧ (upI (m4.2 170) v3 0) j ≤ 96 := upI_rg (Tm4.2.1 170) ⟨by omega, by omega⟩
          refine T_iast (a' := [(170, upI (m4.2 170) v3 0)]) 26 170 (m4.2 170) rfl rfl rfl (by omega) (show v3 < (16 : Int) by omega) rfl rfl ?_
          refine T_iinc 29 [(2, .int (i32 (v3 + 1))), (0, .ref 189), (1, .int (i32 t))] rfl rfl (by decide) rfl rfl ?_
          refine T_goto 13 rfl (fun _ => rfl) ?_
          refine Tm_lv (a := [(0, .ref 189), (1, .int (i32 t)), (2, .int (i32 (v3 + 1)))]) rfl rfl ⟨rfl, rfl, rfl, trivial⟩ ?_
          exact ih13 (v3 + 1) (mO m4 [] [(170, upI (m4.2 170) v3 0)]) (r32 (by omega) (by omega)) (Ty_mO Tm4 rfl rfl trivial ⟨G41, trivial⟩) (fr_m (fr_s Fm4 (fr_m fr_0 rfl rfl) rfl rfl) rfl rfl) (show 0 ≤ (v3 + 1) by omega) (show (v3 + 1) ≤ 16 by omega) (show ∀ j, 0 ≤ j → j < (v3 + 1) → (upI (m4.2 170) v3 0) j = 0 by first | (intro j a b; omega) | (intro j a b; by_cases e : j = v3; (rw [e, upI_s]); (rw [upI_n e]; exact hz j a (by omega)))) (show 16 - (v3 + 1) < (n12 : Int) by omega)
    refine Tm_lv (a := [(0, .ref 189), (1, .int (i32 t)), (2, .int (i32 0))]) rfl rfl ⟨rfl, rfl, rfl, trivial⟩ ?_
    exact L13_5 ((16 - (0 : Int) : Int) + 1).toNat 0 (mO m [] []) ⟨by decide, by decide⟩ hT (fr_m fr_0 rfl rfl) (show 0 ≤ (0 : Int) by omega) (show (0 : Int) ≤ 16 by omega) (show ∀ j, 0 ≤ j → j < (0 : Int) → (m.2 170) j = 0 by first | (intro j a b; omega) | (intro j a b; by_cases e : j = v3; (rw [e, upI_s]); (rw [upI_n e]; exact hz j a (by omega)))) (show 16 - (0 : Int) < ((((16 - (0 : Int) : Int) + 1).toNat : Nat) : Int) by omega)
  · skip
    refine T_ld 10 (.int (i32 0)) rfl (fun _ => rfl) ?_
    refine T_ret rfl (fun _ => rfl) ?_
    exact ⟨(mO m [] []), 0, hT, (fr_m fr_0 rfl rfl), ⟨by omega, by omega⟩, (show (m.2 58) t = 1 → (m.2 139) t ≤ 16 * (m.2 55) t + (0 : Int) by omega), rfl⟩
def fF_putAction : List Nat := []
def fA_putAction : List Nat := [141, 144]
def Q_putAction (m : mR) (c : Nat → Option am_C) (N : Nat) (t : Int) (e : Int) : ag_Re af_T → Prop := fun R => ∃ (M : mR), Ty M ∧ fr fF_putAction fA_putAction m M ∧ ((M.2 141) = upI (m.2 141) (96 * t + e) ((m.2 158) 0)) ∧ R = (.inl (none), (mhp M c, N), 0, 0)
set_option maxHeartbeats 3000000 in
theorem c_putAction (w : wX) (m : mR) (c : Nat → Option am_C) (N D : Nat) (hD : 2 ≤ D) (hT : Ty m) (t : Int) (e : Int) (qt : R32 t) (qe : R32 e) (p0 : 0 ≤ t ∧ t ≤ 7) (p1 : 0 ≤ e ∧ e ≤ 95) (p2 : 0 ≤ (m.2 158) 0 ∧ (m.2 158) 0 ≤ 15) : TC w D 320 [.ref 189, .int (i32 t), .int (i32 e)] (mhp m c, N) (Q_putAction m c N t e) := by
  obtain ⟨D, rfl⟩ : ∃ k, D = k + 1 := ⟨D - 1, by omega⟩
  obtain ⟨qta, qtb⟩ := id qt
  obtain ⟨qea, qeb⟩ := id qe
  refine Tc_of rfl ?_
  show TT w D pm_320 (0, [(0, .ref 189), (1, .int (i32 t)), (2, .int (i32 e))], [], (mhp (mO m [] []) c, N), 0, 0) (Q_putAction m c N t e)
  refine T_gf 4 (.ref 307) rfl rfl rfl rfl rfl rfl ?_
  refine T_ld 5 (.int (i32 0)) rfl (fun _ => rfl) ?_
  refine T_iald 6 158 (m.2 158) rfl rfl rfl (by omega) (show 0 < (41 : Int) by omega) rfl ?_
  have e1 : (-2147483648) ≤ m.2 158 0 ∧ m.2 158 0 ≤ 2147483647 := hT.2.1 158 0
  refine T_sto 7 [(3, .int (i32 ((m.2 158) 0))), (0, .ref 189), (1, .int (i32 t)), (2, .int (i32 e))] rfl (fun _ => rfl) ?_
  refine T_gf 11 (.ref 295) rfl rfl rfl rfl rfl rfl ?_
  refine T_ld 12 (.ref 189) rfl (fun _ => rfl) ?_
  refine T_ld 13 (.int (i32 t)) rfl (fun _ => rfl) ?_
  refine T_ld 14 (.int (i32 e)) rfl (fun _ => rfl) ?_
  refine T_call 17 319 [.ref 189, .int (i32 t), .int (i32 e)] [.ref 295] rfl (fun _ => rfl) rfl (c_slot w (mO m [] []) c N D (by omega) hT t e (r32 (by omega) (by omega)) (r32 (by omega) (by omega)) (show 0 ≤ t ∧ t ≤ 7 by omega) (show 0 ≤ e ∧ e ≤ 96 by omega)) (fun rr2 k3 => ?_)
  obtain ⟨sl, g4, h5, rfl⟩ := k3
  refine ⟨_, _, rfl, ?_⟩
  refine T_ns (st' := [.int (i32 sl), .ref 295]) rfl ?_
  obtain ⟨g4a, g4b⟩ := g4
  replace h5 : sl = 96 * t + e := h5
  have hSl := h5
  have hSl1 := hSl
  refine T_ld 18 (.int (i32 ((m.2 158) 0))) rfl (fun _ => rfl) ?_
  have G6 : ∀ j, 0 ≤ (upI (m.2 141) sl ((m.2 158) 0)) j ∧ (upI (m.2 141) sl ((m.2 158) 0)) j ≤ 15 := upI_rg (hT.2.1 141) ⟨by omega, by omega⟩
  refine T_iast (a' := [(141, upI (m.2 141) sl ((m.2 158) 0))]) 19 141 (m.2 141) rfl rfl rfl (by omega) (show sl < (768 : Int) by omega) rfl rfl ?_
  refine T_ld 20 (.int (i32 0)) rfl (fun _ => rfl) ?_
  refine T_sto 22 [(4, .int (i32 0)), (3, .int (i32 ((m.2 158) 0))), (0, .ref 189), (1, .int (i32 t)), (2, .int (i32 e))] rfl (fun _ => rfl) ?_
  refine T_fl (Ty_mO hT rfl rfl trivial ⟨G6, trivial⟩) (fun m7 Tm7 Fm7 => ?_)
  have L22_10 : ∀ (n16 : Nat) (v8 : Int) (m9 : mR), (R32 v8) → Ty m9 → fr [] [144] (mO m7 [] []) m9 → (0 ≤ v8) → (v8 ≤ 4) → 4 - v8 < (n16 : Int) → TT w D pm_320 (22, [(0, .ref 189), (1, .int (i32 t)), (2, .int (i32 e)), (3, .int (i32 ((m.2 158) 0))), (4, .int (i32 v8))], [], (mhp (mO m9 [] []) c, N), 0, 0) (Q_putAction m c N t e) := by
    intro n16
    induction n16 with
    | zero =>
      intro v8 m9 q13 Tm9 Fm9 ic11 ic12 hmu
      obtain ⟨q13a, q13b⟩ := id q13
      exfalso
      omega
    | succ n16 ih =>
      intro v8 m9 q13 Tm9 Fm9 ic11 ic12 hmu
      obtain ⟨q13a, q13b⟩ := id q13
      have ih17 := ih
      refine T_ld 24 (.int (i32 v8)) rfl (fun _ => rfl) ?_
      refine T_ld 25 (.int (i32 4)) rfl (fun _ => rfl) ?_
      refine T_icmp 86 28 rfl rfl rfl (r32 (by omega) (by omega)) ⟨by decide, by decide⟩ (fun (h18 : (4 : Int) ≤ v8) => ?_) (fun (h18 : ¬ ((4 : Int) ≤ v8)) => ?_)
      · skip
        refine T_ret rfl (fun _ => rfl) ?_
        exact ⟨(mO m9 [] []), Tm9, (fr_m (fr_s Fm9 (fr_m (fr_s Fm7 (fr_m fr_0 rfl rfl) rfl rfl) rfl rfl) rfl rfl) rfl rfl), (show (m9.2 141) = upI (m.2 141) (96 * t + e) ((m.2 158) 0) by rewrite [(show (m9.2 141) = (upI (m.2 141) sl ((m.2 158) 0)) from ((fr2 Fm9 141 rfl).trans (fr2 Fm7 141 rfl)))]; first | (rw [hSl1]) | (exfalso; omega)), rfl⟩
      · skip
        refine T_gf 32 (.ref 298) rfl rfl rfl rfl rfl rfl ?_
        refine T_ld 33 (.int (i32 4)) rfl (fun _ => rfl) ?_
        refine T_ld 34 (.ref 189) rfl (fun _ => rfl) ?_
        refine T_ld 35 (.int (i32 t)) rfl (fun _ => rfl) ?_
        refine T_ld 36 (.int (i32 e)) rfl (fun _ => rfl) ?_
        refine T_call 39 319 [.ref 189, .int (i32 t), .int (i32 e)] [.int (i32 4), .ref 298] rfl (fun _ => rfl) rfl (c_slot w (mO m9 [] []) c N D (by omega) Tm9 t e (r32 (by omega) (by omega)) (r32 (by omega) (by omega)) (show 0 ≤ t ∧ t ≤ 7 by omega) (show 0 ≤ e ∧ e ≤ 96 by omega)) (fun rr19 k20 => ?_)
        obtain ⟨sl21, g22, h23, rfl⟩ := k20
        refine ⟨_, _, rfl, ?_⟩
        refine T_ns (st' := [.int (i32 sl21), .int (i32 4), .ref 298]) rfl ?_
        obtain ⟨g22a, g22b⟩ := g22
        replace h23 : sl21 = 96 * t + e := h23
        have hSl := h23
        refine T_imul 40 rfl rfl ?_
        refine T_ld 42 (.int (i32 v8)) rfl (fun _ => rfl) ?_
        refine T_iadd 43 rfl rfl ?_
        refine T_ld 45 (.int (i32 v8)) rfl (fun _ => rfl) ?_
        refine T_gf 49 (.ref 216) rfl rfl rfl rfl rfl rfl ?_
        refine T_ld 50 (.int (i32 ((m.2 158) 0))) rfl (fun _ => rfl) ?_
        refine T_iald 51 46 (m.2 46) rfl rfl rfl (by omega) (show ((m.2 158) 0) < (16 : Int) by omega) (show (m9.2 46) = (m.2 46) from ((fr2 Fm9 46 rfl).trans (fr2 Fm7 46 rfl))) ?_
        have e24 : 0 ≤ m.2 46 ((m.2 158) 0) ∧ m.2 46 ((m.2 158) 0) ≤ 4 := hT.2.1 46 ((m.2 158) 0)
        refine T_icmp 78 54 rfl rfl rfl (r32 (by omega) (by omega)) (r32 (by omega) (by omega)) (fun (h25 : (m.2 46) ((m.2 158) 0) ≤ v8) => ?_) (fun (h25 : ¬ ((m.2 46) ((m.2 158) 0) ≤ v8)) => ?_)
        · skip
          refine T_ld 79 (.long (i64 0)) rfl (fun _ => rfl) ?_
          have G26 : ∀ j, (-9223372036854775808) ≤ (upI (m9.2 144) ((4 * sl21) + v8) 0) j ∧ (upI (m9.2 144) ((4 * sl21) + v8) 0) j ≤ 9223372036854775807 := upI_rg (Tm9.2.1 144) ⟨by omega, by omega⟩
          refine T_last (a' := [(144, upI (m9.2 144) ((4 * sl21) + v8) 0)]) 80 144 (m9.2 144) rfl rfl rfl (by omega) (show ((4 * sl21) + v8) < (3072 : Int) by omega) rfl rfl ?_
          refine T_iinc 83 [(4, .int (i32 (v8 + 1))), (0, .ref 189), (1, .int (i32 t)), (2, .int (i32 e)), (3, .int (i32 ((m.2 158) 0)))] rfl rfl (by decide) rfl rfl ?_
          refine T_goto 22 rfl (fun _ => rfl) ?_
          refine Tm_lv (a := [(0, .ref 189), (1, .int (i32 t)), (2, .int (i32 e)), (3, .int (i32 ((m.2 158) 0))), (4, .int (i32 (v8 + 1)))]) rfl rfl ⟨rfl, rfl, rfl, rfl, rfl, trivial⟩ ?_
          exact ih17 (v8 + 1) (mO m9 [] [(144, upI (m9.2 144) ((4 * sl21) + v8) 0)]) (r32 (by omega) (by omega)) (Ty_mO Tm9 rfl rfl trivial ⟨G26, trivial⟩) (fr_m (fr_s Fm9 (fr_m fr_0 rfl rfl) rfl rfl) rfl rfl) (show 0 ≤ (v8 + 1) by omega) (show (v8 + 1) ≤ 4 by omega) (show 4 - (v8 + 1) < (n16 : Int) by omega)
        · skip
          refine T_gf 58 (.ref 311) rfl rfl rfl rfl rfl rfl ?_
          refine T_ld 60 (.int (i32 v8)) rfl (fun _ => rfl) ?_
          refine T_lald 61 162 (m.2 162) rfl rfl rfl (by omega) (show v8 < (164 : Int) by omega) (show (m9.2 162) = (m.2 162) from ((fr2 Fm9 162 rfl).trans (fr2 Fm7 162 rfl))) ?_
          have e27 : (-9223372036854775808) ≤ m.2 162 v8 ∧ m.2 162 v8 ≤ 9223372036854775807 := hT.2.1 162 v8
          refine T_gf 65 (.ref 219) rfl rfl rfl rfl rfl rfl ?_
          refine T_ld 66 (.int (i32 4)) rfl (fun _ => rfl) ?_
          refine T_ld 67 (.int (i32 ((m.2 158) 0))) rfl (fun _ => rfl) ?_
          refine T_imul 68 rfl rfl ?_
          refine T_ld 70 (.int (i32 v8)) rfl (fun _ => rfl) ?_
          refine T_iadd 71 rfl rfl ?_
          refine T_iald 72 49 (m.2 49) rfl rfl rfl (by omega) (show ((4 * ((m.2 158) 0)) + v8) < (64 : Int) by omega) (show (m9.2 49) = (m.2 49) from ((fr2 Fm9 49 rfl).trans (fr2 Fm7 49 rfl))) ?_
          have e28 : 0 ≤ m.2 49 ((4 * ((m.2 158) 0)) + v8) ∧ m.2 49 ((4 * ((m.2 158) 0)) + v8) ≤ 64 := hT.2.1 49 ((4 * ((m.2 158) 0)) + v8)
          refine T_call 75 315 [.long (i64 ((m.2 162) v8)), .int (i32 ((m.2 49) ((4 * ((m.2 158) 0)) + v8)))] [.int (i32 ((4 * sl21) + v8)), .ref 298] rfl (fun _ => rfl) rfl (c_cut w (mO m9 [] []) c N D (by omega) Tm9 ((m.2 162) v8) ((m.2 49) ((4 * ((m.2 158) 0)) + v8)) (r64 (by omega) (by omega)) (r32 (by omega) (by omega))) (fun rr29 k30 => ?_)
          obtain ⟨x31, g32, rfl⟩ := k30
          refine ⟨_, _, rfl, ?_⟩
          refine T_ns (st' := [.long (i64 x31), .int (i32 ((4 * sl21) + v8)), .ref 298]) rfl ?_
          obtain ⟨g32a, g32b⟩ := g32
          refine T_goto 79 rfl (fun _ => rfl) ?_
          have G33 : ∀ j, (-9223372036854775808) ≤ (upI (m9.2 144) ((4 * sl21) + v8) x31) j ∧ (upI (m9.2 144) ((4 * sl21) + v8) x31) j ≤ 9223372036854775807 := upI_rg (Tm9.2.1 144) ⟨by omega, by omega⟩
          refine T_last (a' := [(144, upI (m9.2 144) ((4 * sl21) + v8) x31)]) 80 144 (m9.2 144) rfl rfl rfl (by omega) (show ((4 * sl21) + v8) < (3072 : Int) by omega) rfl rfl ?_
          refine T_iinc 83 [(4, .int (i32 (v8 + 1))), (0, .ref 189), (1, .int (i32 t)), (2, .int (i32 e)), (3, .int (i32 ((m.2 158) 0)))] rfl rfl (by decide) rfl rfl ?_
          refine T_goto 22 rfl (fun _ => rfl) ?_
          refine Tm_lv (a := [(0, .ref 189), (1, .int (i32 t)), (2, .int (i32 e)), (3, .int (i32 ((m.2 158) 0))), (4, .int (i32 (v8 + 1)))]) rfl rfl ⟨rfl, rfl, rfl, rfl, rfl, trivial⟩ ?_
          exact ih17 (v8 + 1) (mO m9 [] [(144, upI (m9.2 144) ((4 * sl21) + v8) x31)]) (r32 (by omega) (by omega)) (Ty_mO Tm9 rfl rfl trivial ⟨G33, trivial⟩) (fr_m (fr_s Fm9 (fr_m fr_0 rfl rfl) rfl rfl) rfl rfl) (show 0 ≤ (v8 + 1) by omega) (show (v8 + 1) ≤ 4 by omega) (show 4 - (v8 + 1) < (n16 : Int) by omega)
  refine Tm_lv (a := [(0, .ref 189), (1, .int (i32 t)), (2, .int (i32 e)), (3, .int (i32 ((m.2 158) 0))), (4, .int (i32 0))]) rfl rfl ⟨rfl, rfl, rfl, rfl, rfl, trivial⟩ ?_
  exact L22_10 ((4 - (0 : Int) : Int) + 1).toNat 0 (mO m7 [] []) ⟨by decide, by decide⟩ Tm7 (fr_m fr_0 rfl rfl) (show 0 ≤ (0 : Int) by omega) (show (0 : Int) ≤ 4 by omega) (show 4 - (0 : Int) < ((((4 - (0 : Int) : Int) + 1).toNat : Nat) : Int) by omega)
def fF_entryComes : List Nat := []
def fA_entryComes : List Nat := [139, 140, 141, 142, 143, 144, 170]
def Q_entryComes (m : mR) (c : Nat → Option am_C) (N : Nat) (t : Int) : ag_Re af_T → Prop := fun R => ∃ (M : mR) (r : Int), Ty M ∧ fr fF_entryComes fA_entryComes m M ∧ (0 ≤ r ∧ r ≤ 1) ∧ (EMp (m.1 26) (M.2 139) (m.2 58) (m.2 54)) ∧ (EAp (m.1 25) (M.2 139) (M.2 141)) ∧ R = (.inl (some (.int (i32 r))), (mhp M c, N), 0, 0)
set_option maxHeartbeats 3000000 in
theorem c_entryComes (w : wX) (m : mR) (c : Nat → Option am_C) (N D : Nat) (hD : 4 ≤ D) (hT : Ty m) (t : Int) (qt : R32 t) (p0 : 0 ≤ t ∧ t ≤ 7) (p1 : t < (m.1 26)) (pTb : TbP (m.2 65) (m.1 28) (m.1 25) (m.1 26) (m.2 51) (m.2 110) (m.2 111) (m.2 57) (m.2 53) (m.2 114) (m.2 58) (m.2 54)) (hEMp : EMp (m.1 26) (m.2 139) (m.2 58) (m.2 54)) (hEAp : EAp (m.1 25) (m.2 139) (m.2 141)) : TC w D 316 [.ref 189, .int (i32 t)] (mhp m c, N) (Q_entryComes m c N t) := by
  obtain ⟨D, rfl⟩ : ∃ k, D = k + 1 := ⟨D - 1, by omega⟩
  obtain ⟨qta, qtb⟩ := id qt
  have f25 : 0 ≤ m.1 25 ∧ m.1 25 ≤ 16 := hT.1 25
  have f28 : 0 ≤ m.1 28 ∧ m.1 28 ≤ 800 := hT.1 28
  have f26 : 0 ≤ m.1 26 ∧ m.1 26 ≤ 8 := hT.1 26
  refine Tc_of rfl ?_
  show TT w D pm_316 (0, [(0, .ref 189), (1, .int (i32 t))], [], (mhp (mO m [] []) c, N), 0, 0) (Q_entryComes m c N t)
  have hm2 := hEMp t (by omega) (by omega)
  have hem : 0 ≤ (m.2 139) t ∧ (m.2 139) t ≤ 96 := hT.2.1 139 t
  have hrr : 0 ≤ (m.2 54) t ∧ (m.2 54) t ≤ 32 := hT.2.1 54 t
  have hst : 0 ≤ (m.2 56) t ∧ (m.2 56) t ≤ 8 := hT.2.1 56 t
  have hww : 0 ≤ (m.2 55) t ∧ (m.2 55) t ≤ 4 := hT.2.1 55 t
  have hxx : 0 ≤ (m.2 58) t ∧ (m.2 58) t ≤ 1 := hT.2.1 58 t
  refine T_ld 1 (.ref 189) rfl (fun _ => rfl) ?_
  refine T_ld 2 (.int (i32 t)) rfl (fun _ => rfl) ?_
  refine T_gf 6 (.ref 307) rfl rfl rfl rfl rfl rfl ?_
  refine T_ld 7 (.int (i32 0)) rfl (fun _ => rfl) ?_
  refine T_iald 8 158 (m.2 158) rfl rfl rfl (by omega) (show 0 < (41 : Int) by omega) rfl ?_
  have e1 : (-2147483648) ≤ m.2 158 0 ∧ m.2 158 0 ≤ 2147483647 := hT.2.1 158 0
  refine T_call 11 317 [.ref 189, .int (i32 t), .int (i32 ((m.2 158) 0))] [] rfl (fun _ => rfl) rfl (c_isOf w (mO m [] []) c N D (by omega) hT t ((m.2 158) 0) (r32 (by omega) (by omega)) (r32 (by omega) (by omega)) (show 0 ≤ t ∧ t ≤ 7 by omega) (show t < (m.1 26) by omega) (show TbP (m.2 65) (m.1 28) (m.1 25) (m.1 26) (m.2 51) (m.2 110) (m.2 111) (m.2 57) (m.2 53) (m.2 114) (m.2 58) (m.2 54) by exact pTb)) (fun rr2 k3 => ?_)
  obtain ⟨x4, g5, h6, rfl⟩ := k3
  refine ⟨_, _, rfl, ?_⟩
  refine T_ns (st' := [.int (i32 x4)]) rfl ?_
  obtain ⟨g5a, g5b⟩ := g5
  replace h6 : x4 = 1 → 0 ≤ ((m.2 158) 0) ∧ ((m.2 158) 0) ≤ 15 ∧ ((m.2 158) 0) < (m.1 25) := h6
  refine T_if 46 14 rfl rfl rfl (r32 (by omega) (by omega)) (fun (h7 : x4 = 0) => ?_) (fun (h7 : ¬ (x4 = 0)) => ?_)
  · skip
    refine T_ld 47 (.int (i32 0)) rfl (fun _ => rfl) ?_
    refine T_ret rfl (fun _ => rfl) ?_
    exact ⟨(mO m [] []), 0, hT, (fr_m fr_0 rfl rfl), ⟨by omega, by omega⟩, (show EMp (m.1 26) (m.2 139) (m.2 58) (m.2 54) by first | (first | exact hEMp | exact EMp_up hEMp (by omega) (by omega) | exact EMp_up2 hEMp (by omega) (fun h => by omega)) | (exfalso; omega)), (show EAp (m.1 25) (m.2 139) (m.2 141) by first | (first | exact hEAp | (rw [hPq]; exact EAp_add hEAp (by omega)) | (rw [hPq]; exact EAp_many (EAp_add hEAp (by omega)) (by rw [upI_s]; omega))) | (exfalso; omega)), rfl⟩
  · skip
    refine T_ld 15 (.ref 189) rfl (fun _ => rfl) ?_
    refine T_ld 16 (.int (i32 t)) rfl (fun _ => rfl) ?_
    refine T_call 19 318 [.ref 189, .int (i32 t)] [] rfl (fun _ => rfl) rfl (c_findSame w (mO m [] []) c N D (by omega) hT t (r32 (by omega) (by omega)) (show 0 ≤ t ∧ t ≤ 7 by omega)) (fun rr8 k9 => ?_)
    obtain ⟨fs, g10, h11, rfl⟩ := k9
    refine ⟨_, _, rfl, ?_⟩
    refine T_ns (st' := [.int (i32 fs)]) rfl ?_
    obtain ⟨g10a, g10b⟩ := g10
    replace h11 : fs < (m.2 139) t := h11
    refine T_if 46 22 rfl rfl rfl (r32 (by omega) (by omega)) (fun (h12 : (0 : Int) ≤ fs) => ?_) (fun (h12 : ¬ ((0 : Int) ≤ fs)) => ?_)
    · skip
      refine T_ld 47 (.int (i32 0)) rfl (fun _ => rfl) ?_
      refine T_ret rfl (fun _ => rfl) ?_
      exact ⟨(mO m [] []), 0, hT, (fr_m fr_0 rfl rfl), ⟨by omega, by omega⟩, (show EMp (m.1 26) (m.2 139) (m.2 58) (m.2 54) by first | (first | exact hEMp | exact EMp_up hEMp (by omega) (by omega) | exact EMp_up2 hEMp (by omega) (fun h => by omega)) | (exfalso; omega)), (show EAp (m.1 25) (m.2 139) (m.2 141) by first | (first | exact hEAp | (rw [hPq]; exact EAp_add hEAp (by omega)) | (rw [hPq]; exact EAp_many (EAp_add hEAp (by omega)) (by rw [upI_s]; omega))) | (exfalso; omega)), rfl⟩
    · skip
      refine T_gf 26 (.ref 228) rfl rfl rfl rfl rfl rfl ?_
      refine T_ld 27 (.int (i32 t)) rfl (fun _ => rfl) ?_
      refine T_bald 28 58 (m.2 58) rfl rfl rfl (by omega) (show t < (8 : Int) by omega) rfl ?_
      have e13 : 0 ≤ m.2 58 t ∧ m.2 58 t ≤ 1 := hT.2.1 58 t
      refine T_if 48 31 rfl rfl rfl (r32 (by omega) (by omega)) (fun (h14 : (m.2 58) t ≠ 0) => ?_) (fun (h14 : ¬ ((m.2 58) t ≠ 0)) => ?_)
      · skip
        refine T_gf 52 (.ref 293) rfl rfl rfl rfl rfl rfl ?_
        refine T_ld 53 (.int (i32 t)) rfl (fun _ => rfl) ?_
        refine T_iald 54 139 (m.2 139) rfl rfl rfl (by omega) (show t < (8 : Int) by omega) rfl ?_
        have e15 : 0 ≤ (m.2 139) t ∧ (m.2 139) t ≤ 96 := (hT.2.1 139) t
        refine T_sto 55 [(2, .int (i32 ((m.2 139) t))), (0, .ref 189), (1, .int (i32 t))] rfl (fun _ => rfl) ?_
        refine T_ld 56 (.int (i32 0)) rfl (fun _ => rfl) ?_
        refine T_sto 57 [(3, .int (i32 0)), (2, .int (i32 ((m.2 139) t))), (0, .ref 189), (1, .int (i32 t))] rfl (fun _ => rfl) ?_
        have e25 : 0 ≤ m.2 51 t ∧ m.2 51 t ≤ 4 := hT.2.1 51 t
        have L57_18 : ∀ (n24 : Nat) (v16 : Int) (m17 : mR), (R32 v16) → Ty m17 → fr [] [142, 143] (mO m [] []) m17 → (0 ≤ v16) → (v16 ≤ (m.2 51) t) → ((m.2 51) t) - v16 < (n24 : Int) → TT w D pm_316 (57, [(0, .ref 189), (1, .int (i32 t)), (2, .int (i32 ((m.2 139) t))), (3, .int (i32 v16))], [], (mhp (mO m17 [] []) c, N), 0, 0) (Q_entryComes m c N t) := by
          intro n24
          induction n24 with
          | zero =>
            intro v16 m17 q21 Tm17 Fm17 ic19 ic20 hmu
            obtain ⟨q21a, q21b⟩ := id q21
            exfalso
            omega
          | succ n24 ih =>
            intro v16 m17 q21 Tm17 Fm17 ic19 ic20 hmu
            obtain ⟨q21a, q21b⟩ := id q21
            have ih26 := ih
            refine T_ld 58 (.int (i32 v16)) rfl (fun _ => rfl) ?_
            refine T_gf 62 (.ref 221) rfl rfl rfl rfl rfl rfl ?_
            refine T_ld 63 (.int (i32 t)) rfl (fun _ => rfl) ?_
            refine T_iald 64 51 (m.2 51) rfl rfl rfl (by omega) (show t < (8 : Int) by omega) (show (m17.2 51) = (m.2 51) from (fr2 Fm17 51 rfl)) ?_
            have e27 : 0 ≤ m.2 51 t ∧ m.2 51 t ≤ 4 := hT.2.1 51 t
            refine T_icmp 132 67 rfl rfl rfl (r32 (by omega) (by omega)) (r32 (by omega) (by omega)) (fun (h28 : (m.2 51) t ≤ v16) => ?_) (fun (h28 : ¬ ((m.2 51) t ≤ v16)) => ?_)
            · skip
              refine T_gf 136 (.ref 294) rfl rfl rfl rfl rfl rfl ?_
              refine T_ld 137 (.ref 189) rfl (fun _ => rfl) ?_
              refine T_ld 138 (.int (i32 t)) rfl (fun _ => rfl) ?_
              refine T_ld 139 (.int (i32 ((m.2 139) t))) rfl (fun _ => rfl) ?_
              refine T_call 142 319 [.ref 189, .int (i32 t), .int (i32 ((m.2 139) t))] [.ref 294] rfl (fun _ => rfl) rfl (c_slot w (mO m17 [] []) c N D (by omega) Tm17 t ((m.2 139) t) (r32 (by omega) (by omega)) (r32 (by omega) (by omega)) (show 0 ≤ t ∧ t ≤ 7 by omega) (show 0 ≤ ((m.2 139) t) ∧ ((m.2 139) t) ≤ 96 by omega)) (fun rr29 k30 => ?_)
              obtain ⟨sl, g31, h32, rfl⟩ := k30
              refine ⟨_, _, rfl, ?_⟩
              refine T_ns (st' := [.int (i32 sl), .ref 294]) rfl ?_
              obtain ⟨g31a, g31b⟩ := g31
              replace h32 : sl = 96 * t + ((m.2 139) t) := h32
              have hSl := h32
              refine T_gf 146 (.ref 306) rfl rfl rfl rfl rfl rfl ?_
              refine T_ld 147 (.int (i32 0)) rfl (fun _ => rfl) ?_
              refine T_iald 148 157 (m.2 157) rfl rfl rfl (by omega) (show 0 < (41 : Int) by omega) (show (m17.2 157) = (m.2 157) from (fr2 Fm17 157 rfl)) ?_
              have e33 : (-2147483648) ≤ m.2 157 0 ∧ m.2 157 0 ≤ 2147483647 := hT.2.1 157 0
              have G34 : ∀ j, (-2147483648) ≤ (upI (m.2 140) sl ((m.2 157) 0)) j ∧ (upI (m.2 140) sl ((m.2 157) 0)) j ≤ 2147483647 := upI_rg (hT.2.1 140) ⟨by omega, by omega⟩
              refine T_iast (a' := [(140, upI (m.2 140) sl ((m.2 157) 0))]) 149 140 (m.2 140) rfl rfl rfl (by omega) (show sl < (768 : Int) by omega) (show (m17.2 140) = (m.2 140) from (fr2 Fm17 140 rfl)) rfl ?_
              refine T_ld 150 (.ref 189) rfl (fun _ => rfl) ?_
              refine T_ld 151 (.int (i32 t)) rfl (fun _ => rfl) ?_
              refine T_ld 152 (.int (i32 ((m.2 139) t))) rfl (fun _ => rfl) ?_
              refine T_call 155 320 [.ref 189, .int (i32 t), .int (i32 ((m.2 139) t))] [] rfl (fun _ => rfl) rfl (c_putAction w (mO m17 [] [(140, upI (m.2 140) sl ((m.2 157) 0))]) c N D (by omega) (Ty_mO Tm17 rfl rfl trivial ⟨G34, trivial⟩) t ((m.2 139) t) (r32 (by omega) (by omega)) (r32 (by omega) (by omega)) (show 0 ≤ t ∧ t ≤ 7 by omega) (show 0 ≤ ((m.2 139) t) ∧ ((m.2 139) t) ≤ 95 by omega) (show 0 ≤ (m17.2 158) 0 ∧ (m17.2 158) 0 ≤ 15 by rewrite [(show (m17.2 158) = (m.2 158) from (fr2 Fm17 158 rfl))]; omega)) (fun rr35 k36 => ?_)
              obtain ⟨m37, Tm37, Fm37, h38, rfl⟩ := k36
              refine ⟨_, _, rfl, ?_⟩
              refine T_nb (st' := []) rfl ?_
              replace h38 : (m37.2 141) = upI (m17.2 141) (96 * t + ((m.2 139) t)) ((m17.2 158) 0) := h38
              rewrite [(show (m17.2 141) = (m.2 141) from (fr2 Fm17 141 rfl)), (show (m17.2 158) = (m.2 158) from (fr2 Fm17 158 rfl))] at h38
              have hPq := h38
              refine T_gf 159 (.ref 293) rfl rfl rfl rfl rfl rfl ?_
              refine T_ld 160 (.int (i32 t)) rfl (fun _ => rfl) ?_
              refine T_dup2 161 rfl (fun _ => rfl) ?_
              refine T_iald 162 139 (m.2 139) rfl rfl rfl (by omega) (show t < (8 : Int) by omega) (show (m37.2 139) = (m.2 139) from ((fr2 Fm37 139 rfl).trans (fr2 Fm17 139 rfl))) ?_
              have e39 : 0 ≤ (m.2 139) t ∧ (m.2 139) t ≤ 96 := (hT.2.1 139) t
              refine T_ld 163 (.int (i32 1)) rfl (fun _ => rfl) ?_
              refine T_iadd 164 rfl rfl ?_
              have G40 : ∀ j, 0 ≤ (upI (m.2 139) t (((m.2 139) t) + 1)) j ∧ (upI (m.2 139) t (((m.2 139) t) + 1)) j ≤ 96 := upI_rg (hT.2.1 139) ⟨by omega, by omega⟩
              refine T_iast (a' := [(139, upI (m.2 139) t (((m.2 139) t) + 1))]) 165 139 (m.2 139) rfl rfl rfl (by omega) (show t < (8 : Int) by omega) (show (m37.2 139) = (m.2 139) from ((fr2 Fm37 139 rfl).trans (fr2 Fm17 139 rfl))) rfl ?_
              refine T_gf 169 (.ref 228) rfl rfl rfl rfl rfl rfl ?_
              refine T_ld 170 (.int (i32 t)) rfl (fun _ => rfl) ?_
              refine T_bald 171 58 (m.2 58) rfl rfl rfl (by omega) (show t < (8 : Int) by omega) (show (m37.2 58) = (m.2 58) from ((fr2 Fm37 58 rfl).trans (fr2 Fm17 58 rfl))) ?_
              have e41 : 0 ≤ m.2 58 t ∧ m.2 58 t ≤ 1 := hT.2.1 58 t
              refine T_if 188 174 rfl rfl rfl (r32 (by omega) (by omega)) (fun (h42 : (m.2 58) t = 0) => by exfalso; omega) (fun (h42 : ¬ ((m.2 58) t = 0)) => ?_)
              refine T_ld 175 (.ref 189) rfl (fun _ => rfl) ?_
              refine T_ld 176 (.int (i32 t)) rfl (fun _ => rfl) ?_
              refine T_call 179 321 [.ref 189, .int (i32 t)] [] rfl (fun _ => rfl) rfl (c_above w (mO m37 [] [(139, upI (m.2 139) t (((m.2 139) t) + 1))]) c N D (by omega) (Ty_mO Tm37 rfl rfl trivial ⟨G40, trivial⟩) t (r32 (by omega) (by omega)) (show 0 ≤ t ∧ t ≤ 7 by omega) (show t < (m37.1 26) by rewrite [(show (m37.1 26) = (m.1 26) from ((fr1 Fm37 26 rfl).trans (fr1 Fm17 26 rfl)))]; omega) (show TbP (m37.2 65) (m37.1 28) (m37.1 25) (m37.1 26) (m37.2 51) (m37.2 110) (m37.2 111) (m37.2 57) (m37.2 53) (m37.2 114) (m37.2 58) (m37.2 54) by rewrite [(show (m37.2 65) = (m.2 65) from ((fr2 Fm37 65 rfl).trans (fr2 Fm17 65 rfl))), (show (m37.1 28) = (m.1 28) from ((fr1 Fm37 28 rfl).trans (fr1 Fm17 28 rfl))), (show (m37.1 25) = (m.1 25) from ((fr1 Fm37 25 rfl).trans (fr1 Fm17 25 rfl))), (show (m37.1 26) = (m.1 26) from ((fr1 Fm37 26 rfl).trans (fr1 Fm17 26 rfl))), (show (m37.2 51) = (m.2 51) from ((fr2 Fm37 51 rfl).trans (fr2 Fm17 51 rfl))), (show (m37.2 110) = (m.2 110) from ((fr2 Fm37 110 rfl).trans (fr2 Fm17 110 rfl))), (show (m37.2 111) = (m.2 111) from ((fr2 Fm37 111 rfl).trans (fr2 Fm17 111 rfl))), (show (m37.2 57) = (m.2 57) from ((fr2 Fm37 57 rfl).trans (fr2 Fm17 57 rfl))), (show (m37.2 53) = (m.2 53) from ((fr2 Fm37 53 rfl).trans (fr2 Fm17 53 rfl))), (show (m37.2 114) = (m.2 114) from ((fr2 Fm37 114 rfl).trans (fr2 Fm17 114 rfl))), (show (m37.2 58) = (m.2 58) from ((fr2 Fm37 58 rfl).trans (fr2 Fm17 58 rfl))), (show (m37.2 54) = (m.2 54) from ((fr2 Fm37 54 rfl).trans (fr2 Fm17 54 rfl)))]; exact pTb)) (fun rr43 k44 => ?_)
              obtain ⟨m45, ab, Tm45, Fm45, g46, h47, rfl⟩ := k44
              refine ⟨_, _, rfl, ?_⟩
              refine T_nb (st' := [.int (i32 ab)]) rfl ?_
              obtain ⟨g46a, g46b⟩ := g46
              replace h47 : (m37.2 58) t = 1 → (upI (m.2 139) t (((m.2 139) t) + 1)) t ≤ 16 * (m37.2 55) t + ab := h47
              rewrite [(show (m37.2 58) = (m.2 58) from ((fr2 Fm37 58 rfl).trans (fr2 Fm17 58 rfl))), (show (m37.2 55) = (m.2 55) from ((fr2 Fm37 55 rfl).trans (fr2 Fm17 55 rfl)))] at h47
              have hup : upI (m.2 139) t ((m.2 139) t + 1) t = (m.2 139) t + 1 := upI_s
              refine T_gf 183 (.ref 226) rfl rfl rfl rfl rfl rfl ?_
              refine T_ld 184 (.int (i32 t)) rfl (fun _ => rfl) ?_
              refine T_iald 185 56 (m.2 56) rfl rfl rfl (by omega) (show t < (8 : Int) by omega) (show (m45.2 56) = (m.2 56) from ((fr2 Fm45 56 rfl).trans ((fr2 Fm37 56 rfl).trans (fr2 Fm17 56 rfl)))) ?_
              have e48 : 0 ≤ m.2 56 t ∧ m.2 56 t ≤ 8 := hT.2.1 56 t
              refine T_icmp 190 188 rfl rfl rfl (r32 (by omega) (by omega)) (r32 (by omega) (by omega)) (fun (h49 : (m.2 56) t < ab) => ?_) (fun (h49 : ¬ ((m.2 56) t < ab)) => ?_)
              · skip
                refine T_gf 194 (.ref 293) rfl rfl rfl rfl rfl rfl ?_
                refine T_ld 195 (.int (i32 t)) rfl (fun _ => rfl) ?_
                refine T_dup2 196 rfl (fun _ => rfl) ?_
                refine T_iald 197 139 (upI (m.2 139) t (((m.2 139) t) + 1)) rfl rfl rfl (by omega) (show t < (8 : Int) by omega) (show (m45.2 139) = (upI (m.2 139) t (((m.2 139) t) + 1)) from (fr2 Fm45 139 rfl)) ?_
                refine T_cast (((m.2 139) t) + 1) upI_s ?_
                refine T_ld 198 (.int (i32 1)) rfl (fun _ => rfl) ?_
                refine T_isub 199 rfl rfl ?_
                have G50 : ∀ j, 0 ≤ (upI (upI (m.2 139) t (((m.2 139) t) + 1)) t ((((m.2 139) t) + 1) - 1)) j ∧ (upI (upI (m.2 139) t (((m.2 139) t) + 1)) t ((((m.2 139) t) + 1) - 1)) j ≤ 96 := upI_rg G40 ⟨by omega, by omega⟩
                refine T_iast (a' := [(139, upI (upI (m.2 139) t (((m.2 139) t) + 1)) t ((((m.2 139) t) + 1) - 1))]) 200 139 (upI (m.2 139) t (((m.2 139) t) + 1)) rfl rfl rfl (by omega) (show t < (8 : Int) by omega) (show (m45.2 139) = (upI (m.2 139) t (((m.2 139) t) + 1)) from (fr2 Fm45 139 rfl)) rfl ?_
                refine T_ld 201 (.int (i32 0)) rfl (fun _ => rfl) ?_
                refine T_ret rfl (fun _ => rfl) ?_
                exact ⟨(mO m45 [] [(139, upI (upI (m.2 139) t (((m.2 139) t) + 1)) t ((((m.2 139) t) + 1) - 1))]), 0, (Ty_mO Tm45 rfl rfl trivial ⟨G50, trivial⟩), (fr_m (fr_s Fm45 (fr_m (fr_s Fm37 (fr_m (fr_s Fm17 (fr_m fr_0 rfl rfl) rfl rfl) rfl rfl) rfl rfl) rfl rfl) rfl rfl) rfl rfl), ⟨by omega, by omega⟩, (show EMp (m.1 26) (upI (upI (m.2 139) t (((m.2 139) t) + 1)) t ((((m.2 139) t) + 1) - 1)) (m.2 58) (m.2 54) by first | (first | exact hEMp | exact EMp_up hEMp (by omega) (by omega) | exact EMp_up2 hEMp (by omega) (fun h => by omega)) | (exfalso; omega)), (show EAp (m.1 25) (upI (upI (m.2 139) t (((m.2 139) t) + 1)) t ((((m.2 139) t) + 1) - 1)) (m45.2 141) by rewrite [(show (m45.2 141) = (m37.2 141) from (fr2 Fm45 141 rfl))]; first | (first | exact hEAp | (rw [hPq]; exact EAp_add hEAp (by omega)) | (rw [hPq]; exact EAp_many (EAp_add hEAp (by omega)) (by rw [upI_s]; omega))) | (exfalso; omega)), rfl⟩
              · skip
                refine T_ld 189 (.int (i32 1)) rfl (fun _ => rfl) ?_
                refine T_ret rfl (fun _ => rfl) ?_
                exact ⟨(mO m45 [] []), 1, Tm45, (fr_m (fr_s Fm45 (fr_m (fr_s Fm37 (fr_m (fr_s Fm17 (fr_m fr_0 rfl rfl) rfl rfl) rfl rfl) rfl rfl) rfl rfl) rfl rfl) rfl rfl), ⟨by omega, by omega⟩, (show EMp (m.1 26) (m45.2 139) (m.2 58) (m.2 54) by rewrite [(show (m45.2 139) = (upI (m.2 139) t (((m.2 139) t) + 1)) from (fr2 Fm45 139 rfl))]; first | (first | exact hEMp | exact EMp_up hEMp (by omega) (by omega) | exact EMp_up2 hEMp (by omega) (fun h => by omega)) | (exfalso; omega)), (show EAp (m.1 25) (m45.2 139) (m45.2 141) by rewrite [(show (m45.2 139) = (upI (m.2 139) t (((m.2 139) t) + 1)) from (fr2 Fm45 139 rfl)), (show (m45.2 141) = (m37.2 141) from (fr2 Fm45 141 rfl))]; first | (first | exact hEAp | (rw [hPq]; exact EAp_add hEAp (by omega)) | (rw [hPq]; exact EAp_many (EAp_add hEAp (by omega)) (by rw [upI_s]; omega))) | (exfalso; omega)), rfl⟩
            · skip
              refine T_ld 68 (.int (i32 4)) rfl (fun _ => rfl) ?_
              refine T_ld 69 (.ref 189) rfl (fun _ => rfl) ?_
              refine T_ld 70 (.int (i32 t)) rfl (fun _ => rfl) ?_
              refine T_ld 71 (.int (i32 ((m.2 139) t))) rfl (fun _ => rfl) ?_
              refine T_call 74 319 [.ref 189, .int (i32 t), .int (i32 ((m.2 139) t))] [.int (i32 4)] rfl (fun _ => rfl) rfl (c_slot w (mO m17 [] []) c N D (by omega) Tm17 t ((m.2 139) t) (r32 (by omega) (by omega)) (r32 (by omega) (by omega)) (show 0 ≤ t ∧ t ≤ 7 by omega) (show 0 ≤ ((m.2 139) t) ∧ ((m.2 139) t) ≤ 96 by omega)) (fun rr51 k52 => ?_)
              obtain ⟨sl, g53, h54, rfl⟩ := k52
              refine ⟨_, _, rfl, ?_⟩
              refine T_ns (st' := [.int (i32 sl), .int (i32 4)]) rfl ?_
              obtain ⟨g53a, g53b⟩ := g53
              replace h54 : sl = 96 * t + ((m.2 139) t) := h54
              have hSl := h54
              refine T_imul 75 rfl rfl ?_
              refine T_ld 76 (.int (i32 v16)) rfl (fun _ => rfl) ?_
              refine T_iadd 77 rfl rfl ?_
              refine T_sto 79 [(4, .int (i32 ((4 * sl) + v16))), (0, .ref 189), (1, .int (i32 t)), (2, .int (i32 ((m.2 139) t))), (3, .int (i32 v16))] rfl (fun _ => rfl) ?_
              refine T_gf 83 (.ref 297) rfl rfl rfl rfl rfl rfl ?_
              refine T_ld 85 (.int (i32 ((4 * sl) + v16))) rfl (fun _ => rfl) ?_
              refine T_gf 89 (.ref 310) rfl rfl rfl rfl rfl rfl ?_
              refine T_ld 90 (.int (i32 v16)) rfl (fun _ => rfl) ?_
              refine T_lald 91 161 (m.2 161) rfl rfl rfl (by omega) (show v16 < (164 : Int) by omega) (show (m17.2 161) = (m.2 161) from (fr2 Fm17 161 rfl)) ?_
              have e55 : (-9223372036854775808) ≤ m.2 161 v16 ∧ m.2 161 v16 ≤ 9223372036854775807 := hT.2.1 161 v16
              refine T_gf 95 (.ref 272) rfl rfl rfl rfl rfl rfl ?_
              refine T_ld 96 (.int (i32 4)) rfl (fun _ => rfl) ?_
              refine T_ld 97 (.int (i32 t)) rfl (fun _ => rfl) ?_
              refine T_imul 98 rfl rfl ?_
              refine T_ld 99 (.int (i32 v16)) rfl (fun _ => rfl) ?_
              refine T_iadd 100 rfl rfl ?_
              refine T_iald 101 112 (m.2 112) rfl rfl rfl (by omega) (show ((4 * t) + v16) < (32 : Int) by omega) (show (m17.2 112) = (m.2 112) from (fr2 Fm17 112 rfl)) ?_
              have e56 : 0 ≤ m.2 112 ((4 * t) + v16) ∧ m.2 112 ((4 * t) + v16) ≤ 1024 := hT.2.1 112 ((4 * t) + v16)
              refine T_call 104 315 [.long (i64 ((m.2 161) v16)), .int (i32 ((m.2 112) ((4 * t) + v16)))] [.int (i32 ((4 * sl) + v16)), .ref 297] rfl (fun _ => rfl) rfl (c_cut w (mO m17 [] []) c N D (by omega) Tm17 ((m.2 161) v16) ((m.2 112) ((4 * t) + v16)) (r64 (by omega) (by omega)) (r32 (by omega) (by omega))) (fun rr57 k58 => ?_)
              obtain ⟨x59, g60, rfl⟩ := k58
              refine ⟨_, _, rfl, ?_⟩
              refine T_ns (st' := [.long (i64 x59), .int (i32 ((4 * sl) + v16)), .ref 297]) rfl ?_
              obtain ⟨g60a, g60b⟩ := g60
              have G61 : ∀ j, (-9223372036854775808) ≤ (upI (m17.2 143) ((4 * sl) + v16) x59) j ∧ (upI (m17.2 143) ((4 * sl) + v16) x59) j ≤ 9223372036854775807 := upI_rg (Tm17.2.1 143) ⟨by omega, by omega⟩
              refine T_last (a' := [(143, upI (m17.2 143) ((4 * sl) + v16) x59)]) 105 143 (m17.2 143) rfl rfl rfl (by omega) (show ((4 * sl) + v16) < (3072 : Int) by omega) rfl rfl ?_
              refine T_gf 109 (.ref 296) rfl rfl rfl rfl rfl rfl ?_
              refine T_ld 111 (.int (i32 ((4 * sl) + v16))) rfl (fun _ => rfl) ?_
              refine T_gf 115 (.ref 309) rfl rfl rfl rfl rfl rfl ?_
              refine T_ld 116 (.int (i32 v16)) rfl (fun _ => rfl) ?_
              refine T_lald 117 160 (m.2 160) rfl rfl rfl (by omega) (show v16 < (164 : Int) by omega) (show (m17.2 160) = (m.2 160) from (fr2 Fm17 160 rfl)) ?_
              have e62 : (-9223372036854775808) ≤ m.2 160 v16 ∧ m.2 160 v16 ≤ 9223372036854775807 := hT.2.1 160 v16
              refine T_gf 121 (.ref 297) rfl rfl rfl rfl rfl rfl ?_
              refine T_ld 123 (.int (i32 ((4 * sl) + v16))) rfl (fun _ => rfl) ?_
              refine T_lald 124 143 (upI (m17.2 143) ((4 * sl) + v16) x59) rfl rfl rfl (by omega) (show ((4 * sl) + v16) < (3072 : Int) by omega) rfl ?_
              have e63 : (-9223372036854775808) ≤ (upI (m17.2 143) ((4 * sl) + v16) x59) ((4 * sl) + v16) ∧ (upI (m17.2 143) ((4 * sl) + v16) x59) ((4 * sl) + v16) ≤ 9223372036854775807 := G61 ((4 * sl) + v16)
              refine T_lhv 125 _ rfl (fun _ => rfl) (fun z64 h65 => ?_)
              obtain ⟨h65a, h65b⟩ := h65
              have G66 : ∀ j, (-9223372036854775808) ≤ (upI (m17.2 142) ((4 * sl) + v16) z64) j ∧ (upI (m17.2 142) ((4 * sl) + v16) z64) j ≤ 9223372036854775807 := upI_rg (Tm17.2.1 142) ⟨by omega, by omega⟩
              refine T_last (a' := [(142, upI (m17.2 142) ((4 * sl) + v16) z64), (143, upI (m17.2 143) ((4 * sl) + v16) x59)]) 126 142 (m17.2 142) rfl rfl rfl (by omega) (show ((4 * sl) + v16) < (3072 : Int) by omega) rfl rfl ?_
              refine T_iinc 129 [(3, .int (i32 (v16 + 1))), (4, .int (i32 ((4 * sl) + v16))), (0, .ref 189), (1, .int (i32 t)), (2, .int (i32 ((m.2 139) t)))] rfl rfl (by decide) rfl rfl ?_
              refine T_goto 57 rfl (fun _ => rfl) ?_
              refine Tm_lv (a := [(0, .ref 189), (1, .int (i32 t)), (2, .int (i32 ((m.2 139) t))), (3, .int (i32 (v16 + 1)))]) rfl rfl ⟨rfl, rfl, rfl, rfl, trivial⟩ ?_
              exact ih26 (v16 + 1) (mO m17 [] [(142, upI (m17.2 142) ((4 * sl) + v16) z64), (143, upI (m17.2 143) ((4 * sl) + v16) x59)]) (r32 (by omega) (by omega)) (Ty_mO Tm17 rfl rfl trivial ⟨G66, G61, trivial⟩) (fr_m (fr_s Fm17 (fr_m fr_0 rfl rfl) rfl rfl) rfl rfl) (show 0 ≤ (v16 + 1) by omega) (show (v16 + 1) ≤ (m.2 51) t by omega) (show ((m.2 51) t) - (v16 + 1) < (n24 : Int) by omega)
        refine Tm_lv (a := [(0, .ref 189), (1, .int (i32 t)), (2, .int (i32 ((m.2 139) t))), (3, .int (i32 0))]) rfl rfl ⟨rfl, rfl, rfl, rfl, trivial⟩ ?_
        exact L57_18 ((((m.2 51) t) - (0 : Int) : Int) + 1).toNat 0 (mO m [] []) ⟨by decide, by decide⟩ hT (fr_m fr_0 rfl rfl) (show 0 ≤ (0 : Int) by omega) (show (0 : Int) ≤ (m.2 51) t by omega) (show ((m.2 51) t) - (0 : Int) < ((((((m.2 51) t) - (0 : Int) : Int) + 1).toNat : Nat) : Int) by omega)
      · skip
        refine T_gf 35 (.ref 293) rfl rfl rfl rfl rfl rfl ?_
        refine T_ld 36 (.int (i32 t)) rfl (fun _ => rfl) ?_
        refine T_iald 37 139 (m.2 139) rfl rfl rfl (by omega) (show t < (8 : Int) by omega) rfl ?_
        have e67 : 0 ≤ (m.2 139) t ∧ (m.2 139) t ≤ 96 := (hT.2.1 139) t
        refine T_gf 41 (.ref 224) rfl rfl rfl rfl rfl rfl ?_
        refine T_ld 42 (.int (i32 t)) rfl (fun _ => rfl) ?_
        refine T_iald 43 54 (m.2 54) rfl rfl rfl (by omega) (show t < (8 : Int) by omega) rfl ?_
        have e68 : 0 ≤ m.2 54 t ∧ m.2 54 t ≤ 32 := hT.2.1 54 t
        refine T_icmp 48 46 rfl rfl rfl (r32 (by omega) (by omega)) (r32 (by omega) (by omega)) (fun (h69 : (m.2 139) t ≠ (m.2 54) t) => ?_) (fun (h69 : ¬ ((m.2 139) t ≠ (m.2 54) t)) => ?_)
        · skip
          refine T_gf 52 (.ref 293) rfl rfl rfl rfl rfl rfl ?_
          refine T_ld 53 (.int (i32 t)) rfl (fun _ => rfl) ?_
          refine T_iald 54 139 (m.2 139) rfl rfl rfl (by omega) (show t < (8 : Int) by omega) rfl ?_
          have e70 : 0 ≤ (m.2 139) t ∧ (m.2 139) t ≤ 96 := (hT.2.1 139) t
          refine T_sto 55 [(2, .int (i32 ((m.2 139) t))), (0, .ref 189), (1, .int (i32 t))] rfl (fun _ => rfl) ?_
          refine T_ld 56 (.int (i32 0)) rfl (fun _ => rfl) ?_
          refine T_sto 57 [(3, .int (i32 0)), (2, .int (i32 ((m.2 139) t))), (0, .ref 189), (1, .int (i32 t))] rfl (fun _ => rfl) ?_
          have e80 : 0 ≤ m.2 51 t ∧ m.2 51 t ≤ 4 := hT.2.1 51 t
          have L57_73 : ∀ (n79 : Nat) (v71 : Int) (m72 : mR), (R32 v71) → Ty m72 → fr [] [142, 143] (mO m [] []) m72 → (0 ≤ v71) → (v71 ≤ (m.2 51) t) → ((m.2 51) t) - v71 < (n79 : Int) → TT w D pm_316 (57, [(0, .ref 189), (1, .int (i32 t)), (2, .int (i32 ((m.2 139) t))), (3, .int (i32 v71))], [], (mhp (mO m72 [] []) c, N), 0, 0) (Q_entryComes m c N t) := by
            intro n79
            induction n79 with
            | zero =>
              intro v71 m72 q76 Tm72 Fm72 ic74 ic75 hmu
              obtain ⟨q76a, q76b⟩ := id q76
              exfalso
              omega
            | succ n79 ih =>
              intro v71 m72 q76 Tm72 Fm72 ic74 ic75 hmu
              obtain ⟨q76a, q76b⟩ := id q76
              have ih81 := ih
              refine T_ld 58 (.int (i32 v71)) rfl (fun _ => rfl) ?_
              refine T_gf 62 (.ref 221) rfl rfl rfl rfl rfl rfl ?_
              refine T_ld 63 (.int (i32 t)) rfl (fun _ => rfl) ?_
              refine T_iald 64 51 (m.2 51) rfl rfl rfl (by omega) (show t < (8 : Int) by omega) (show (m72.2 51) = (m.2 51) from (fr2 Fm72 51 rfl)) ?_
              have e82 : 0 ≤ m.2 51 t ∧ m.2 51 t ≤ 4 := hT.2.1 51 t
              refine T_icmp 132 67 rfl rfl rfl (r32 (by omega) (by omega)) (r32 (by omega) (by omega)) (fun (h83 : (m.2 51) t ≤ v71) => ?_) (fun (h83 : ¬ ((m.2 51) t ≤ v71)) => ?_)
              · skip
                refine T_gf 136 (.ref 294) rfl rfl rfl rfl rfl rfl ?_
                refine T_ld 137 (.ref 189) rfl (fun _ => rfl) ?_
                refine T_ld 138 (.int (i32 t)) rfl (fun _ => rfl) ?_
                refine T_ld 139 (.int (i32 ((m.2 139) t))) rfl (fun _ => rfl) ?_
                refine T_call 142 319 [.ref 189, .int (i32 t), .int (i32 ((m.2 139) t))] [.ref 294] rfl (fun _ => rfl) rfl (c_slot w (mO m72 [] []) c N D (by omega) Tm72 t ((m.2 139) t) (r32 (by omega) (by omega)) (r32 (by omega) (by omega)) (show 0 ≤ t ∧ t ≤ 7 by omega) (show 0 ≤ ((m.2 139) t) ∧ ((m.2 139) t) ≤ 96 by omega)) (fun rr84 k85 => ?_)
                obtain ⟨sl, g86, h87, rfl⟩ := k85
                refine ⟨_, _, rfl, ?_⟩
                refine T_ns (st' := [.int (i32 sl), .ref 294]) rfl ?_
                obtain ⟨g86a, g86b⟩ := g86
                replace h87 : sl = 96 * t + ((m.2 139) t) := h87
                have hSl := h87
                refine T_gf 146 (.ref 306) rfl rfl rfl rfl rfl rfl ?_
                refine T_ld 147 (.int (i32 0)) rfl (fun _ => rfl) ?_
                refine T_iald 148 157 (m.2 157) rfl rfl rfl (by omega) (show 0 < (41 : Int) by omega) (show (m72.2 157) = (m.2 157) from (fr2 Fm72 157 rfl)) ?_
                have e88 : (-2147483648) ≤ m.2 157 0 ∧ m.2 157 0 ≤ 2147483647 := hT.2.1 157 0
                have G89 : ∀ j, (-2147483648) ≤ (upI (m.2 140) sl ((m.2 157) 0)) j ∧ (upI (m.2 140) sl ((m.2 157) 0)) j ≤ 2147483647 := upI_rg (hT.2.1 140) ⟨by omega, by omega⟩
                refine T_iast (a' := [(140, upI (m.2 140) sl ((m.2 157) 0))]) 149 140 (m.2 140) rfl rfl rfl (by omega) (show sl < (768 : Int) by omega) (show (m72.2 140) = (m.2 140) from (fr2 Fm72 140 rfl)) rfl ?_
                refine T_ld 150 (.ref 189) rfl (fun _ => rfl) ?_
                refine T_ld 151 (.int (i32 t)) rfl (fun _ => rfl) ?_
                refine T_ld 152 (.int (i32 ((m.2 139) t))) rfl (fun _ => rfl) ?_
                refine T_call 155 320 [.ref 189, .int (i32 t), .int (i32 ((m.2 139) t))] [] rfl (fun _ => rfl) rfl (c_putAction w (mO m72 [] [(140, upI (m.2 140) sl ((m.2 157) 0))]) c N D (by omega) (Ty_mO Tm72 rfl rfl trivial ⟨G89, trivial⟩) t ((m.2 139) t) (r32 (by omega) (by omega)) (r32 (by omega) (by omega)) (show 0 ≤ t ∧ t ≤ 7 by omega) (show 0 ≤ ((m.2 139) t) ∧ ((m.2 139) t) ≤ 95 by omega) (show 0 ≤ (m72.2 158) 0 ∧ (m72.2 158) 0 ≤ 15 by rewrite [(show (m72.2 158) = (m.2 158) from (fr2 Fm72 158 rfl))]; omega)) (fun rr90 k91 => ?_)
                obtain ⟨m92, Tm92, Fm92, h93, rfl⟩ := k91
                refine ⟨_, _, rfl, ?_⟩
                refine T_nb (st' := []) rfl ?_
                replace h93 : (m92.2 141) = upI (m72.2 141) (96 * t + ((m.2 139) t)) ((m72.2 158) 0) := h93
                rewrite [(show (m72.2 141) = (m.2 141) from (fr2 Fm72 141 rfl)), (show (m72.2 158) = (m.2 158) from (fr2 Fm72 158 rfl))] at h93
                have hPq := h93
                refine T_gf 159 (.ref 293) rfl rfl rfl rfl rfl rfl ?_
                refine T_ld 160 (.int (i32 t)) rfl (fun _ => rfl) ?_
                refine T_dup2 161 rfl (fun _ => rfl) ?_
                refine T_iald 162 139 (m.2 139) rfl rfl rfl (by omega) (show t < (8 : Int) by omega) (show (m92.2 139) = (m.2 139) from ((fr2 Fm92 139 rfl).trans (fr2 Fm72 139 rfl))) ?_
                have e94 : 0 ≤ (m.2 139) t ∧ (m.2 139) t ≤ 96 := (hT.2.1 139) t
                refine T_ld 163 (.int (i32 1)) rfl (fun _ => rfl) ?_
                refine T_iadd 164 rfl rfl ?_
                have G95 : ∀ j, 0 ≤ (upI (m.2 139) t (((m.2 139) t) + 1)) j ∧ (upI (m.2 139) t (((m.2 139) t) + 1)) j ≤ 96 := upI_rg (hT.2.1 139) ⟨by omega, by omega⟩
                refine T_iast (a' := [(139, upI (m.2 139) t (((m.2 139) t) + 1))]) 165 139 (m.2 139) rfl rfl rfl (by omega) (show t < (8 : Int) by omega) (show (m92.2 139) = (m.2 139) from ((fr2 Fm92 139 rfl).trans (fr2 Fm72 139 rfl))) rfl ?_
                refine T_gf 169 (.ref 228) rfl rfl rfl rfl rfl rfl ?_
                refine T_ld 170 (.int (i32 t)) rfl (fun _ => rfl) ?_
                refine T_bald 171 58 (m.2 58) rfl rfl rfl (by omega) (show t < (8 : Int) by omega) (show (m92.2 58) = (m.2 58) from ((fr2 Fm92 58 rfl).trans (fr2 Fm72 58 rfl))) ?_
                have e96 : 0 ≤ m.2 58 t ∧ m.2 58 t ≤ 1 := hT.2.1 58 t
                refine T_if 188 174 rfl rfl rfl (r32 (by omega) (by omega)) (fun (h97 : (m.2 58) t = 0) => ?_) (fun (h97 : ¬ ((m.2 58) t = 0)) => by exfalso; omega)
                refine T_ld 189 (.int (i32 1)) rfl (fun _ => rfl) ?_
                refine T_ret rfl (fun _ => rfl) ?_
                exact ⟨(mO m92 [] [(139, upI (m.2 139) t (((m.2 139) t) + 1))]), 1, (Ty_mO Tm92 rfl rfl trivial ⟨G95, trivial⟩), (fr_m (fr_s Fm92 (fr_m (fr_s Fm72 (fr_m fr_0 rfl rfl) rfl rfl) rfl rfl) rfl rfl) rfl rfl), ⟨by omega, by omega⟩, (show EMp (m.1 26) (upI (m.2 139) t (((m.2 139) t) + 1)) (m.2 58) (m.2 54) by first | (first | exact hEMp | exact EMp_up hEMp (by omega) (by omega) | exact EMp_up2 hEMp (by omega) (fun h => by omega)) | (exfalso; omega)), (show EAp (m.1 25) (upI (m.2 139) t (((m.2 139) t) + 1)) (m92.2 141) by first | (first | exact hEAp | (rw [hPq]; exact EAp_add hEAp (by omega)) | (rw [hPq]; exact EAp_many (EAp_add hEAp (by omega)) (by rw [upI_s]; omega))) | (exfalso; omega)), rfl⟩
              · skip
                refine T_ld 68 (.int (i32 4)) rfl (fun _ => rfl) ?_
                refine T_ld 69 (.ref 189) rfl (fun _ => rfl) ?_
                refine T_ld 70 (.int (i32 t)) rfl (fun _ => rfl) ?_
                refine T_ld 71 (.int (i32 ((m.2 139) t))) rfl (fun _ => rfl) ?_
                refine T_call 74 319 [.ref 189, .int (i32 t), .int (i32 ((m.2 139) t))] [.int (i32 4)] rfl (fun _ => rfl) rfl (c_slot w (mO m72 [] []) c N D (by omega) Tm72 t ((m.2 139) t) (r32 (by omega) (by omega)) (r32 (by omega) (by omega)) (show 0 ≤ t ∧ t ≤ 7 by omega) (show 0 ≤ ((m.2 139) t) ∧ ((m.2 139) t) ≤ 96 by omega)) (fun rr98 k99 => ?_)
                obtain ⟨sl, g100, h101, rfl⟩ := k99
                refine ⟨_, _, rfl, ?_⟩
                refine T_ns (st' := [.int (i32 sl), .int (i32 4)]) rfl ?_
                obtain ⟨g100a, g100b⟩ := g100
                replace h101 : sl = 96 * t + ((m.2 139) t) := h101
                have hSl := h101
                refine T_imul 75 rfl rfl ?_
                refine T_ld 76 (.int (i32 v71)) rfl (fun _ => rfl) ?_
                refine T_iadd 77 rfl rfl ?_
                refine T_sto 79 [(4, .int (i32 ((4 * sl) + v71))), (0, .ref 189), (1, .int (i32 t)), (2, .int (i32 ((m.2 139) t))), (3, .int (i32 v71))] rfl (fun _ => rfl) ?_
                refine T_gf 83 (.ref 297) rfl rfl rfl rfl rfl rfl ?_
                refine T_ld 85 (.int (i32 ((4 * sl) + v71))) rfl (fun _ => rfl) ?_
                refine T_gf 89 (.ref 310) rfl rfl rfl rfl rfl rfl ?_
                refine T_ld 90 (.int (i32 v71)) rfl (fun _ => rfl) ?_
                refine T_lald 91 161 (m.2 161) rfl rfl rfl (by omega) (show v71 < (164 : Int) by omega) (show (m72.2 161) = (m.2 161) from (fr2 Fm72 161 rfl)) ?_
                have e102 : (-9223372036854775808) ≤ m.2 161 v71 ∧ m.2 161 v71 ≤ 9223372036854775807 := hT.2.1 161 v71
                refine T_gf 95 (.ref 272) rfl rfl rfl rfl rfl rfl ?_
                refine T_ld 96 (.int (i32 4)) rfl (fun _ => rfl) ?_
                refine T_ld 97 (.int (i32 t)) rfl (fun _ => rfl) ?_
                refine T_imul 98 rfl rfl ?_
                refine T_ld 99 (.int (i32 v71)) rfl (fun _ => rfl) ?_
                refine T_iadd 100 rfl rfl ?_
                refine T_iald 101 112 (m.2 112) rfl rfl rfl (by omega) (show ((4 * t) + v71) < (32 : Int) by omega) (show (m72.2 112) = (m.2 112) from (fr2 Fm72 112 rfl)) ?_
                have e103 : 0 ≤ m.2 112 ((4 * t) + v71) ∧ m.2 112 ((4 * t) + v71) ≤ 1024 := hT.2.1 112 ((4 * t) + v71)
                refine T_call 104 315 [.long (i64 ((m.2 161) v71)), .int (i32 ((m.2 112) ((4 * t) + v71)))] [.int (i32 ((4 * sl) + v71)), .ref 297] rfl (fun _ => rfl) rfl (c_cut w (mO m72 [] []) c N D (by omega) Tm72 ((m.2 161) v71) ((m.2 112) ((4 * t) + v71)) (r64 (by omega) (by omega)) (r32 (by omega) (by omega))) (fun rr104 k105 => ?_)
                obtain ⟨x106, g107, rfl⟩ := k105
                refine ⟨_, _, rfl, ?_⟩
                refine T_ns (st' := [.long (i64 x106), .int (i32 ((4 * sl) + v71)), .ref 297]) rfl ?_
                obtain ⟨g107a, g107b⟩ := g107
                have G108 : ∀ j, (-9223372036854775808) ≤ (upI (m72.2 143) ((4 * sl) + v71) x106) j ∧ (upI (m72.2 143) ((4 * sl) + v71) x106) j ≤ 9223372036854775807 := upI_rg (Tm72.2.1 143) ⟨by omega, by omega⟩
                refine T_last (a' := [(143, upI (m72.2 143) ((4 * sl) + v71) x106)]) 105 143 (m72.2 143) rfl rfl rfl (by omega) (show ((4 * sl) + v71) < (3072 : Int) by omega) rfl rfl ?_
                refine T_gf 109 (.ref 296) rfl rfl rfl rfl rfl rfl ?_
                refine T_ld 111 (.int (i32 ((4 * sl) + v71))) rfl (fun _ => rfl) ?_
                refine T_gf 115 (.ref 309) rfl rfl rfl rfl rfl rfl ?_
                refine T_ld 116 (.int (i32 v71)) rfl (fun _ => rfl) ?_
                refine T_lald 117 160 (m.2 160) rfl rfl rfl (by omega) (show v71 < (164 : Int) by omega) (show (m72.2 160) = (m.2 160) from (fr2 Fm72 160 rfl)) ?_
                have e109 : (-9223372036854775808) ≤ m.2 160 v71 ∧ m.2 160 v71 ≤ 9223372036854775807 := hT.2.1 160 v71
                refine T_gf 121 (.ref 297) rfl rfl rfl rfl rfl rfl ?_
                refine T_ld 123 (.int (i32 ((4 * sl) + v71))) rfl (fun _ => rfl) ?_
                refine T_lald 124 143 (upI (m72.2 143) ((4 * sl) + v71) x106) rfl rfl rfl (by omega) (show ((4 * sl) + v71) < (3072 : Int) by omega) rfl ?_
                have e110 : (-9223372036854775808) ≤ (upI (m72.2 143) ((4 * sl) + v71) x106) ((4 * sl) + v71) ∧ (upI (m72.2 143) ((4 * sl) + v71) x106) ((4 * sl) + v71) ≤ 9223372036854775807 := G108 ((4 * sl) + v71)
                refine T_lhv 125 _ rfl (fun _ => rfl) (fun z111 h112 => ?_)
                obtain ⟨h112a, h112b⟩ := h112
                have G113 : ∀ j, (-9223372036854775808) ≤ (upI (m72.2 142) ((4 * sl) + v71) z111) j ∧ (upI (m72.2 142) ((4 * sl) + v71) z111) j ≤ 9223372036854775807 := upI_rg (Tm72.2.1 142) ⟨by omega, by omega⟩
                refine T_last (a' := [(142, upI (m72.2 142) ((4 * sl) + v71) z111), (143, upI (m72.2 143) ((4 * sl) + v71) x106)]) 126 142 (m72.2 142) rfl rfl rfl (by omega) (show ((4 * sl) + v71) < (3072 : Int) by omega) rfl rfl ?_
                refine T_iinc 129 [(3, .int (i32 (v71 + 1))), (4, .int (i32 ((4 * sl) + v71))), (0, .ref 189), (1, .int (i32 t)), (2, .int (i32 ((m.2 139) t)))] rfl rfl (by decide) rfl rfl ?_
                refine T_goto 57 rfl (fun _ => rfl) ?_
                refine Tm_lv (a := [(0, .ref 189), (1, .int (i32 t)), (2, .int (i32 ((m.2 139) t))), (3, .int (i32 (v71 + 1)))]) rfl rfl ⟨rfl, rfl, rfl, rfl, trivial⟩ ?_
                exact ih81 (v71 + 1) (mO m72 [] [(142, upI (m72.2 142) ((4 * sl) + v71) z111), (143, upI (m72.2 143) ((4 * sl) + v71) x106)]) (r32 (by omega) (by omega)) (Ty_mO Tm72 rfl rfl trivial ⟨G113, G108, trivial⟩) (fr_m (fr_s Fm72 (fr_m fr_0 rfl rfl) rfl rfl) rfl rfl) (show 0 ≤ (v71 + 1) by omega) (show (v71 + 1) ≤ (m.2 51) t by omega) (show ((m.2 51) t) - (v71 + 1) < (n79 : Int) by omega)
          refine Tm_lv (a := [(0, .ref 189), (1, .int (i32 t)), (2, .int (i32 ((m.2 139) t))), (3, .int (i32 0))]) rfl rfl ⟨rfl, rfl, rfl, rfl, trivial⟩ ?_
          exact L57_73 ((((m.2 51) t) - (0 : Int) : Int) + 1).toNat 0 (mO m [] []) ⟨by decide, by decide⟩ hT (fr_m fr_0 rfl rfl) (show 0 ≤ (0 : Int) by omega) (show (0 : Int) ≤ (m.2 51) t by omega) (show ((m.2 51) t) - (0 : Int) < ((((((m.2 51) t) - (0 : Int) : Int) + 1).toNat : Nat) : Int) by omega)
        · skip
          refine T_ld 47 (.int (i32 0)) rfl (fun _ => rfl) ?_
          refine T_ret rfl (fun _ => rfl) ?_
          exact ⟨(mO m [] []), 0, hT, (fr_m fr_0 rfl rfl), ⟨by omega, by omega⟩, (show EMp (m.1 26) (m.2 139) (m.2 58) (m.2 54) by first | (first | exact hEMp | exact EMp_up hEMp (by omega) (by omega) | exact EMp_up2 hEMp (by omega) (fun h => by omega)) | (exfalso; omega)), (show EAp (m.1 25) (m.2 139) (m.2 141) by first | (first | exact hEAp | (rw [hPq]; exact EAp_add hEAp (by omega)) | (rw [hPq]; exact EAp_many (EAp_add hEAp (by omega)) (by rw [upI_s]; omega))) | (exfalso; omega)), rfl⟩
def fF_entryChanges : List Nat := []
def fA_entryChanges : List Nat := [141, 144]
def Q_entryChanges (m : mR) (c : Nat → Option am_C) (N : Nat) (t : Int) : ag_Re af_T → Prop := fun R => ∃ (M : mR) (r : Int), Ty M ∧ fr fF_entryChanges fA_entryChanges m M ∧ (0 ≤ r ∧ r ≤ 1) ∧ (EMp (m.1 26) (m.2 139) (m.2 58) (m.2 54)) ∧ (EAp (m.1 25) (m.2 139) (M.2 141)) ∧ R = (.inl (some (.int (i32 r))), (mhp M c, N), 0, 0)
set_option maxHeartbeats 3000000 in
theorem c_entryChanges (w : wX) (m : mR) (c : Nat → Option am_C) (N D : Nat) (hD : 3 ≤ D) (hT : Ty m) (t : Int) (qt : R32 t) (p0 : 0 ≤ t ∧ t ≤ 7) (p1 : t < (m.1 26)) (pTb : TbP (m.2 65) (m.1 28) (m.1 25) (m.1 26) (m.2 51) (m.2 110) (m.2 111) (m.2 57) (m.2 53) (m.2 114) (m.2 58) (m.2 54)) (hEMp : EMp (m.1 26) (m.2 139) (m.2 58) (m.2 54)) (hEAp : EAp (m.1 25) (m.2 139) (m.2 141)) : TC w D 323 [.ref 189, .int (i32 t)] (mhp m c, N) (Q_entryChanges m c N t) := by
  obtain ⟨D, rfl⟩ : ∃ k, D = k + 1 := ⟨D - 1, by omega⟩
  obtain ⟨qta, qtb⟩ := id qt
  have f25 : 0 ≤ m.1 25 ∧ m.1 25 ≤ 16 := hT.1 25
  have f28 : 0 ≤ m.1 28 ∧ m.1 28 ≤ 800 := hT.1 28
  have f26 : 0 ≤ m.1 26 ∧ m.1 26 ≤ 8 := hT.1 26
  refine Tc_of rfl ?_
  show TT w D pm_323 (0, [(0, .ref 189), (1, .int (i32 t))], [], (mhp (mO m [] []) c, N), 0, 0) (Q_entryChanges m c N t)
  refine T_ld 1 (.ref 189) rfl (fun _ => rfl) ?_
  refine T_ld 2 (.int (i32 t)) rfl (fun _ => rfl) ?_
  refine T_call 5 318 [.ref 189, .int (i32 t)] [] rfl (fun _ => rfl) rfl (c_findSame w (mO m [] []) c N D (by omega) hT t (r32 (by omega) (by omega)) (show 0 ≤ t ∧ t ≤ 7 by omega)) (fun rr1 k2 => ?_)
  obtain ⟨fs, g3, h4, rfl⟩ := k2
  refine ⟨_, _, rfl, ?_⟩
  refine T_ns (st' := [.int (i32 fs)]) rfl ?_
  obtain ⟨g3a, g3b⟩ := g3
  replace h4 : fs < (m.2 139) t := h4
  refine T_sto 6 [(2, .int (i32 fs)), (0, .ref 189), (1, .int (i32 t))] rfl (fun _ => rfl) ?_
  refine T_ld 7 (.int (i32 fs)) rfl (fun _ => rfl) ?_
  refine T_if 24 10 rfl rfl rfl (r32 (by omega) (by omega)) (fun (h5 : fs < 0) => ?_) (fun (h5 : ¬ (fs < 0)) => ?_)
  · skip
    refine T_ld 25 (.int (i32 0)) rfl (fun _ => rfl) ?_
    refine T_ret rfl (fun _ => rfl) ?_
    exact ⟨(mO m [] []), 0, hT, (fr_m fr_0 rfl rfl), ⟨by omega, by omega⟩, (show EMp (m.1 26) (m.2 139) (m.2 58) (m.2 54) by first | (exact hEMp) | (exfalso; omega)), (show EAp (m.1 25) (m.2 139) (m.2 141) by first | (first | exact hEAp | (rw [hPq]; exact EAp_put hEAp (by omega))) | (exfalso; omega)), rfl⟩
  · skip
    refine T_ld 11 (.ref 189) rfl (fun _ => rfl) ?_
    refine T_ld 12 (.int (i32 t)) rfl (fun _ => rfl) ?_
    refine T_gf 16 (.ref 307) rfl rfl rfl rfl rfl rfl ?_
    refine T_ld 17 (.int (i32 0)) rfl (fun _ => rfl) ?_
    refine T_iald 18 158 (m.2 158) rfl rfl rfl (by omega) (show 0 < (41 : Int) by omega) rfl ?_
    have e6 : (-2147483648) ≤ m.2 158 0 ∧ m.2 158 0 ≤ 2147483647 := hT.2.1 158 0
    refine T_call 21 317 [.ref 189, .int (i32 t), .int (i32 ((m.2 158) 0))] [] rfl (fun _ => rfl) rfl (c_isOf w (mO m [] []) c N D (by omega) hT t ((m.2 158) 0) (r32 (by omega) (by omega)) (r32 (by omega) (by omega)) (show 0 ≤ t ∧ t ≤ 7 by omega) (show t < (m.1 26) by omega) (show TbP (m.2 65) (m.1 28) (m.1 25) (m.1 26) (m.2 51) (m.2 110) (m.2 111) (m.2 57) (m.2 53) (m.2 114) (m.2 58) (m.2 54) by exact pTb)) (fun rr7 k8 => ?_)
    obtain ⟨x9, g10, h11, rfl⟩ := k8
    refine ⟨_, _, rfl, ?_⟩
    refine T_ns (st' := [.int (i32 x9)]) rfl ?_
    obtain ⟨g10a, g10b⟩ := g10
    replace h11 : x9 = 1 → 0 ≤ ((m.2 158) 0) ∧ ((m.2 158) 0) ≤ 15 ∧ ((m.2 158) 0) < (m.1 25) := h11
    refine T_if 26 24 rfl rfl rfl (r32 (by omega) (by omega)) (fun (h12 : x9 ≠ 0) => ?_) (fun (h12 : ¬ (x9 ≠ 0)) => ?_)
    · skip
      refine T_ld 27 (.ref 189) rfl (fun _ => rfl) ?_
      refine T_ld 28 (.int (i32 t)) rfl (fun _ => rfl) ?_
      refine T_ld 29 (.int (i32 fs)) rfl (fun _ => rfl) ?_
      refine T_call 32 320 [.ref 189, .int (i32 t), .int (i32 fs)] [] rfl (fun _ => rfl) rfl (c_putAction w (mO m [] []) c N D (by omega) hT t fs (r32 (by omega) (by omega)) (r32 (by omega) (by omega)) (show 0 ≤ t ∧ t ≤ 7 by omega) (show 0 ≤ fs ∧ fs ≤ 95 by omega) (show 0 ≤ (m.2 158) 0 ∧ (m.2 158) 0 ≤ 15 by omega)) (fun rr13 k14 => ?_)
      obtain ⟨m15, Tm15, Fm15, h16, rfl⟩ := k14
      refine ⟨_, _, rfl, ?_⟩
      refine T_nb (st' := []) rfl ?_
      replace h16 : (m15.2 141) = upI (m.2 141) (96 * t + fs) ((m.2 158) 0) := h16
      have hPq := h16
      refine T_ld 33 (.int (i32 1)) rfl (fun _ => rfl) ?_
      refine T_ret rfl (fun _ => rfl) ?_
      exact ⟨(mO m15 [] []), 1, Tm15, (fr_m (fr_s Fm15 (fr_m fr_0 rfl rfl) rfl rfl) rfl rfl), ⟨by omega, by omega⟩, (show EMp (m.1 26) (m.2 139) (m.2 58) (m.2 54) by first | (exact hEMp) | (exfalso; omega)), (show EAp (m.1 25) (m.2 139) (m15.2 141) by first | (first | exact hEAp | (rw [hPq]; exact EAp_put hEAp (by omega))) | (exfalso; omega)), rfl⟩
    · skip
      refine T_ld 25 (.int (i32 0)) rfl (fun _ => rfl) ?_
      refine T_ret rfl (fun _ => rfl) ?_
      exact ⟨(mO m [] []), 0, hT, (fr_m fr_0 rfl rfl), ⟨by omega, by omega⟩, (show EMp (m.1 26) (m.2 139) (m.2 58) (m.2 54) by first | (exact hEMp) | (exfalso; omega)), (show EAp (m.1 25) (m.2 139) (m.2 141) by first | (first | exact hEAp | (rw [hPq]; exact EAp_put hEAp (by omega))) | (exfalso; omega)), rfl⟩
def fF_entryGoes : List Nat := []
def fA_entryGoes : List Nat := [139, 140, 141, 142, 143, 144]
def Q_entryGoes (m : mR) (c : Nat → Option am_C) (N : Nat) (t : Int) : ag_Re af_T → Prop := fun R => ∃ (M : mR) (r : Int), Ty M ∧ fr fF_entryGoes fA_entryGoes m M ∧ (0 ≤ r ∧ r ≤ 1) ∧ (EMp (m.1 26) (M.2 139) (m.2 58) (m.2 54)) ∧ (EAp (m.1 25) (M.2 139) (M.2 141)) ∧ R = (.inl (some (.int (i32 r))), (mhp M c, N), 0, 0)
set_option maxHeartbeats 3000000 in
theorem c_entryGoes (w : wX) (m : mR) (c : Nat → Option am_C) (N D : Nat) (hD : 3 ≤ D) (hT : Ty m) (t : Int) (qt : R32 t) (p0 : 0 ≤ t ∧ t ≤ 7) (p1 : t < (m.1 26)) (pTb : TbP (m.2 65) (m.1 28) (m.1 25) (m.1 26) (m.2 51) (m.2 110) (m.2 111) (m.2 57) (m.2 53) (m.2 114) (m.2 58) (m.2 54)) (hEMp : EMp (m.1 26) (m.2 139) (m.2 58) (m.2 54)) (hEAp : EAp (m.1 25) (m.2 139) (m.2 141)) : TC w D 324 [.ref 189, .int (i32 t)] (mhp m c, N) (Q_entryGoes m c N t) := by
  obtain ⟨D, rfl⟩ : ∃ k, D = k + 1 := ⟨D - 1, by omega⟩
  obtain ⟨qta, qtb⟩ := id qt
  have f25 : 0 ≤ m.1 25 ∧ m.1 25 ≤ 16 := hT.1 25
  have f28 : 0 ≤ m.1 28 ∧ m.1 28 ≤ 800 := hT.1 28
  have f26 : 0 ≤ m.1 26 ∧ m.1 26 ≤ 8 := hT.1 26
  refine Tc_of rfl ?_
  show TT w D pm_324 (0, [(0, .ref 189), (1, .int (i32 t))], [], (mhp (mO m [] []) c, N), 0, 0) (Q_entryGoes m c N t)
  have hm2 := hEMp t (by omega) (by omega)
  refine T_ld 1 (.ref 189) rfl (fun _ => rfl) ?_
  refine T_ld 2 (.int (i32 t)) rfl (fun _ => rfl) ?_
  refine T_call 5 318 [.ref 189, .int (i32 t)] [] rfl (fun _ => rfl) rfl (c_findSame w (mO m [] []) c N D (by omega) hT t (r32 (by omega) (by omega)) (show 0 ≤ t ∧ t ≤ 7 by omega)) (fun rr1 k2 => ?_)
  obtain ⟨fs, g3, h4, rfl⟩ := k2
  refine ⟨_, _, rfl, ?_⟩
  refine T_ns (st' := [.int (i32 fs)]) rfl ?_
  obtain ⟨g3a, g3b⟩ := g3
  replace h4 : fs < (m.2 139) t := h4
  refine T_sto 6 [(2, .int (i32 fs)), (0, .ref 189), (1, .int (i32 t))] rfl (fun _ => rfl) ?_
  refine T_ld 7 (.int (i32 fs)) rfl (fun _ => rfl) ?_
  refine T_if 12 10 rfl rfl rfl (r32 (by omega) (by omega)) (fun (h5 : (0 : Int) ≤ fs) => ?_) (fun (h5 : ¬ ((0 : Int) ≤ fs)) => ?_)
  · skip
    refine T_gf 16 (.ref 293) rfl rfl rfl rfl rfl rfl ?_
    refine T_ld 17 (.int (i32 t)) rfl (fun _ => rfl) ?_
    refine T_dup2 18 rfl (fun _ => rfl) ?_
    refine T_iald 19 139 (m.2 139) rfl rfl rfl (by omega) (show t < (8 : Int) by omega) rfl ?_
    have e6 : 0 ≤ (m.2 139) t ∧ (m.2 139) t ≤ 96 := (hT.2.1 139) t
    refine T_ld 20 (.int (i32 1)) rfl (fun _ => rfl) ?_
    refine T_isub 21 rfl rfl ?_
    have G7 : ∀ j, 0 ≤ (upI (m.2 139) t (((m.2 139) t) - 1)) j ∧ (upI (m.2 139) t (((m.2 139) t) - 1)) j ≤ 96 := upI_rg (hT.2.1 139) ⟨by omega, by omega⟩
    refine T_iast (a' := [(139, upI (m.2 139) t (((m.2 139) t) - 1))]) 22 139 (m.2 139) rfl rfl rfl (by omega) (show t < (8 : Int) by omega) rfl rfl ?_
    have hup : upI (m.2 139) t ((m.2 139) t - 1) t = (m.2 139) t - 1 := upI_s
    refine T_ld 23 (.int (i32 fs)) rfl (fun _ => rfl) ?_
    refine T_sto 24 [(3, .int (i32 fs)), (2, .int (i32 fs)), (0, .ref 189), (1, .int (i32 t))] rfl (fun _ => rfl) ?_
    refine T_fl (Ty_mO hT rfl rfl trivial ⟨G7, trivial⟩) (fun m8 Tm8 Fm8 => ?_)
    have L24_11 : ∀ (n19 : Nat) (v9 : Int) (m10 : mR), (R32 v9) → Ty m10 → fr [] [140, 141, 142, 143, 144] (mO m8 [] []) m10 → (0 ≤ v9) → (v9 ≤ (((m.2 139) t) - 1)) → (0 ≤ v9 ∧ v9 ≤ 95) → (EAp (m.1 25) (m.2 139) (m10.2 141)) → (((m.2 139) t) - 1) - v9 < (n19 : Int) → TT w D pm_324 (24, [(0, .ref 189), (1, .int (i32 t)), (2, .int (i32 fs)), (3, .int (i32 v9))], [], (mhp (mO m10 [] []) c, N), 0, 0) (Q_entryGoes m c N t) := by
      intro n19
      induction n19 with
      | zero =>
        intro v9 m10 q16 Tm10 Fm10 ic12 ic13 ic14 ic15 hmu
        obtain ⟨q16a, q16b⟩ := id q16
        have hEAp := ic15
        exfalso
        omega
      | succ n19 ih =>
        intro v9 m10 q16 Tm10 Fm10 ic12 ic13 ic14 ic15 hmu
        obtain ⟨q16a, q16b⟩ := id q16
        have hEAp := ic15
        have ih20 := ih
        refine T_ld 25 (.int (i32 v9)) rfl (fun _ => rfl) ?_
        refine T_gf 29 (.ref 293) rfl rfl rfl rfl rfl rfl ?_
        refine T_ld 30 (.int (i32 t)) rfl (fun _ => rfl) ?_
        refine T_iald 31 139 (upI (m.2 139) t (((m.2 139) t) - 1)) rfl rfl rfl (by omega) (show t < (8 : Int) by omega) (show (m10.2 139) = (upI (m.2 139) t (((m.2 139) t) - 1)) from ((fr2 Fm10 139 rfl).trans (fr2 Fm8 139 rfl))) ?_
        refine T_cast (((m.2 139) t) - 1) upI_s ?_
        refine T_icmp 151 34 rfl rfl rfl (r32 (by omega) (by omega)) (r32 (by omega) (by omega)) (fun (h21 : (((m.2 139) t) - 1) ≤ v9) => ?_) (fun (h21 : ¬ ((((m.2 139) t) - 1) ≤ v9)) => ?_)
        · skip
          refine T_ld 152 (.int (i32 1)) rfl (fun _ => rfl) ?_
          refine T_ret rfl (fun _ => rfl) ?_
          exact ⟨(mO m10 [] []), 1, Tm10, (fr_m (fr_s Fm10 (fr_m (fr_s Fm8 (fr_m fr_0 rfl rfl) rfl rfl) rfl rfl) rfl rfl) rfl rfl), ⟨by omega, by omega⟩, (show EMp (m.1 26) (m10.2 139) (m.2 58) (m.2 54) by rewrite [(show (m10.2 139) = (upI (m.2 139) t (((m.2 139) t) - 1)) from ((fr2 Fm10 139 rfl).trans (fr2 Fm8 139 rfl)))]; first | (first | exact hEMp | exact EMp_up hEMp (by omega) (fun h => by have := hm2.2 h; omega)) | (exfalso; omega)), (show EAp (m.1 25) (m10.2 139) (m10.2 141) by rewrite [(show (m10.2 139) = (upI (m.2 139) t (((m.2 139) t) - 1)) from ((fr2 Fm10 139 rfl).trans (fr2 Fm8 139 rfl)))]; first | (first | exact hEAp | exact EAp_many hEAp (by omega)) | (exfalso; omega)), rfl⟩
        · skip
          refine T_ld 35 (.ref 189) rfl (fun _ => rfl) ?_
          refine T_ld 36 (.int (i32 t)) rfl (fun _ => rfl) ?_
          refine T_ld 37 (.int (i32 v9)) rfl (fun _ => rfl) ?_
          refine T_call 40 319 [.ref 189, .int (i32 t), .int (i32 v9)] [] rfl (fun _ => rfl) rfl (c_slot w (mO m10 [] []) c N D (by omega) Tm10 t v9 (r32 (by omega) (by omega)) (r32 (by omega) (by omega)) (show 0 ≤ t ∧ t ≤ 7 by omega) (show 0 ≤ v9 ∧ v9 ≤ 96 by omega)) (fun rr22 k23 => ?_)
          obtain ⟨sl, g24, h25, rfl⟩ := k23
          refine ⟨_, _, rfl, ?_⟩
          refine T_ns (st' := [.int (i32 sl)]) rfl ?_
          obtain ⟨g24a, g24b⟩ := g24
          replace h25 : sl = 96 * t + v9 := h25
          have hSl := h25
          refine T_sto 42 [(4, .int (i32 sl)), (0, .ref 189), (1, .int (i32 t)), (2, .int (i32 fs)), (3, .int (i32 v9))] rfl (fun _ => rfl) ?_
          have hea := hEAp t (v9 + 1) (by omega) (by omega) (by omega) (by omega) (by omega)
          refine T_gf 46 (.ref 294) rfl rfl rfl rfl rfl rfl ?_
          refine T_ld 48 (.int (i32 sl)) rfl (fun _ => rfl) ?_
          refine T_gf 52 (.ref 294) rfl rfl rfl rfl rfl rfl ?_
          refine T_ld 54 (.int (i32 sl)) rfl (fun _ => rfl) ?_
          refine T_ld 55 (.int (i32 1)) rfl (fun _ => rfl) ?_
          refine T_iadd 56 rfl rfl ?_
          refine T_iald 57 140 (m10.2 140) rfl rfl rfl (by omega) (show (sl + 1) < (768 : Int) by omega) rfl ?_
          have e26 : (-2147483648) ≤ (m10.2 140) (sl + 1) ∧ (m10.2 140) (sl + 1) ≤ 2147483647 := (Tm10.2.1 140) (sl + 1)
          have G27 : ∀ j, (-2147483648) ≤ (upI (m10.2 140) sl ((m10.2 140) (sl + 1))) j ∧ (upI (m10.2 140) sl ((m10.2 140) (sl + 1))) j ≤ 2147483647 := upI_rg (Tm10.2.1 140) ⟨by omega, by omega⟩
          refine T_iast (a' := [(140, upI (m10.2 140) sl ((m10.2 140) (sl + 1)))]) 58 140 (m10.2 140) rfl rfl rfl (by omega) (show sl < (768 : Int) by omega) rfl rfl ?_
          refine T_gf 62 (.ref 295) rfl rfl rfl rfl rfl rfl ?_
          refine T_ld 64 (.int (i32 sl)) rfl (fun _ => rfl) ?_
          refine T_gf 68 (.ref 295) rfl rfl rfl rfl rfl rfl ?_
          refine T_ld 70 (.int (i32 sl)) rfl (fun _ => rfl) ?_
          refine T_ld 71 (.int (i32 1)) rfl (fun _ => rfl) ?_
          refine T_iadd 72 rfl rfl ?_
          refine T_iald 73 141 (m10.2 141) rfl rfl rfl (by omega) (show (sl + 1) < (768 : Int) by omega) rfl ?_
          have e28 : 0 ≤ (m10.2 141) (sl + 1) ∧ (m10.2 141) (sl + 1) ≤ 15 := (Tm10.2.1 141) (sl + 1)
          have G29 : ∀ j, 0 ≤ (upI (m10.2 141) sl ((m10.2 141) (sl + 1))) j ∧ (upI (m10.2 141) sl ((m10.2 141) (sl + 1))) j ≤ 15 := upI_rg (Tm10.2.1 141) ⟨by omega, by omega⟩
          refine T_iast (a' := [(140, upI (m10.2 140) sl ((m10.2 140) (sl + 1))), (141, upI (m10.2 141) sl ((m10.2 141) (sl + 1)))]) 74 141 (m10.2 141) rfl rfl rfl (by omega) (show sl < (768 : Int) by omega) rfl rfl ?_
          have hEA2 : EAp (m.1 25) (m.2 139) (upI (m10.2 141) sl ((m10.2 141) (sl + 1))) := EAp_sl hSl hEAp hea
          refine T_ld 75 (.int (i32 4)) rfl (fun _ => rfl) ?_
          refine T_ld 77 (.int (i32 sl)) rfl (fun _ => rfl) ?_
          refine T_imul 78 rfl rfl ?_
          refine T_sto 80 [(5, .int (i32 (4 * sl))), (4, .int (i32 sl)), (0, .ref 189), (1, .int (i32 t)), (2, .int (i32 fs)), (3, .int (i32 v9))] rfl (fun _ => rfl) ?_
          refine T_fl (Ty_mO Tm10 rfl rfl trivial ⟨G27, G29, trivial⟩) (fun m30 Tm30 Fm30 => ?_)
          have L80_33 : ∀ (n40 : Nat) (v31 : Int) (m32 : mR), (R32 v31) → Ty m32 → fr [] [142, 143, 144] (mO m30 [] []) m32 → (0 ≤ v31) → (v31 ≤ (4 * sl) + 4) → (4 * sl ≤ v31 ∧ v31 ≤ 4 * sl + 4) → ((4 * sl) + 4) - v31 < (n40 : Int) → TT w D pm_324 (80, [(0, .ref 189), (1, .int (i32 t)), (2, .int (i32 fs)), (3, .int (i32 v9)), (4, .int (i32 sl)), (5, .int (i32 v31))], [], (mhp (mO m32 [] []) c, N), 0, 0) (Q_entryGoes m c N t) := by
            intro n40
            induction n40 with
            | zero =>
              intro v31 m32 q37 Tm32 Fm32 ic34 ic35 ic36 hmu
              obtain ⟨q37a, q37b⟩ := id q37
              exfalso
              omega
            | succ n40 ih =>
              intro v31 m32 q37 Tm32 Fm32 ic34 ic35 ic36 hmu
              obtain ⟨q37a, q37b⟩ := id q37
              have ih41 := ih
              refine T_ld 82 (.int (i32 v31)) rfl (fun _ => rfl) ?_
              refine T_ld 83 (.int (i32 4)) rfl (fun _ => rfl) ?_
              refine T_ld 85 (.int (i32 sl)) rfl (fun _ => rfl) ?_
              refine T_imul 86 rfl rfl ?_
              refine T_ld 87 (.int (i32 4)) rfl (fun _ => rfl) ?_
              refine T_iadd 88 rfl rfl ?_
              refine T_icmp 145 91 rfl rfl rfl (r32 (by omega) (by omega)) (r32 (by omega) (by omega)) (fun (h42 : (4 * sl) + 4 ≤ v31) => ?_) (fun (h42 : ¬ ((4 * sl) + 4 ≤ v31)) => ?_)
              · skip
                refine T_iinc 148 [(3, .int (i32 (v9 + 1))), (0, .ref 189), (1, .int (i32 t)), (2, .int (i32 fs)), (4, .int (i32 sl)), (5, .int (i32 v31))] rfl rfl (by decide) rfl rfl ?_
                refine T_goto 24 rfl (fun _ => rfl) ?_
                refine Tm_lv (a := [(0, .ref 189), (1, .int (i32 t)), (2, .int (i32 fs)), (3, .int (i32 (v9 + 1)))]) rfl rfl ⟨rfl, rfl, rfl, rfl, trivial⟩ ?_
                exact ih20 (v9 + 1) (mO m32 [] []) (r32 (by omega) (by omega)) Tm32 (fr_m (fr_s Fm32 (fr_m (fr_s Fm30 (fr_m (fr_s Fm10 (fr_m fr_0 rfl rfl) rfl rfl) rfl rfl) rfl rfl) rfl rfl) rfl rfl) rfl rfl) (show 0 ≤ (v9 + 1) by omega) (show (v9 + 1) ≤ (((m.2 139) t) - 1) by omega) (show 0 ≤ (v9 + 1) ∧ (v9 + 1) ≤ 95 by omega) (show EAp (m.1 25) (m.2 139) (m32.2 141) by rewrite [(show (m32.2 141) = (upI (m10.2 141) sl ((m10.2 141) (sl + 1))) from ((fr2 Fm32 141 rfl).trans (fr2 Fm30 141 rfl)))]; first | exact hEAp | exact hEA2) (show (((m.2 139) t) - 1) - (v9 + 1) < (n19 : Int) by omega)
              · skip
                refine T_gf 95 (.ref 296) rfl rfl rfl rfl rfl rfl ?_
                refine T_ld 97 (.int (i32 v31)) rfl (fun _ => rfl) ?_
                refine T_gf 101 (.ref 296) rfl rfl rfl rfl rfl rfl ?_
                refine T_ld 103 (.int (i32 v31)) rfl (fun _ => rfl) ?_
                refine T_ld 104 (.int (i32 4)) rfl (fun _ => rfl) ?_
                refine T_iadd 105 rfl rfl ?_
                refine T_lald 106 142 (m32.2 142) rfl rfl rfl (by omega) (show (v31 + 4) < (3072 : Int) by omega) rfl ?_
                have e43 : (-9223372036854775808) ≤ (m32.2 142) (v31 + 4) ∧ (m32.2 142) (v31 + 4) ≤ 9223372036854775807 := (Tm32.2.1 142) (v31 + 4)
                have G44 : ∀ j, (-9223372036854775808) ≤ (upI (m32.2 142) v31 ((m32.2 142) (v31 + 4))) j ∧ (upI (m32.2 142) v31 ((m32.2 142) (v31 + 4))) j ≤ 9223372036854775807 := upI_rg (Tm32.2.1 142) ⟨by omega, by omega⟩
                refine T_last (a' := [(142, upI (m32.2 142) v31 ((m32.2 142) (v31 + 4)))]) 107 142 (m32.2 142) rfl rfl rfl (by omega) (show v31 < (3072 : Int) by omega) rfl rfl ?_
                refine T_gf 111 (.ref 297) rfl rfl rfl rfl rfl rfl ?_
                refine T_ld 113 (.int (i32 v31)) rfl (fun _ => rfl) ?_
                refine T_gf 117 (.ref 297) rfl rfl rfl rfl rfl rfl ?_
                refine T_ld 119 (.int (i32 v31)) rfl (fun _ => rfl) ?_
                refine T_ld 120 (.int (i32 4)) rfl (fun _ => rfl) ?_
                refine T_iadd 121 rfl rfl ?_
                refine T_lald 122 143 (m32.2 143) rfl rfl rfl (by omega) (show (v31 + 4) < (3072 : Int) by omega) rfl ?_
                have e45 : (-9223372036854775808) ≤ (m32.2 143) (v31 + 4) ∧ (m32.2 143) (v31 + 4) ≤ 9223372036854775807 := (Tm32.2.1 143) (v31 + 4)
                have G46 : ∀ j, (-9223372036854775808) ≤ (upI (m32.2 143) v31 ((m32.2 143) (v31 + 4))) j ∧ (upI (m32.2 143) v31 ((m32.2 143) (v31 + 4))) j ≤ 9223372036854775807 := upI_rg (Tm32.2.1 143) ⟨by omega, by omega⟩
                refine T_last (a' := [(142, upI (m32.2 142) v31 ((m32.2 142) (v31 + 4))), (143, upI (m32.2 143) v31 ((m32.2 143) (v31 + 4)))]) 123 143 (m32.2 143) rfl rfl rfl (by omega) (show v31 < (3072 : Int) by omega) rfl rfl ?_
                refine T_gf 127 (.ref 298) rfl rfl rfl rfl rfl rfl ?_
                refine T_ld 129 (.int (i32 v31)) rfl (fun _ => rfl) ?_
                refine T_gf 133 (.ref 298) rfl rfl rfl rfl rfl rfl ?_
                refine T_ld 135 (.int (i32 v31)) rfl (fun _ => rfl) ?_
                refine T_ld 136 (.int (i32 4)) rfl (fun _ => rfl) ?_
                refine T_iadd 137 rfl rfl ?_
                refine T_lald 138 144 (m32.2 144) rfl rfl rfl (by omega) (show (v31 + 4) < (3072 : Int) by omega) rfl ?_
                have e47 : (-9223372036854775808) ≤ (m32.2 144) (v31 + 4) ∧ (m32.2 144) (v31 + 4) ≤ 9223372036854775807 := (Tm32.2.1 144) (v31 + 4)
                have G48 : ∀ j, (-9223372036854775808) ≤ (upI (m32.2 144) v31 ((m32.2 144) (v31 + 4))) j ∧ (upI (m32.2 144) v31 ((m32.2 144) (v31 + 4))) j ≤ 9223372036854775807 := upI_rg (Tm32.2.1 144) ⟨by omega, by omega⟩
                refine T_last (a' := [(142, upI (m32.2 142) v31 ((m32.2 142) (v31 + 4))), (143, upI (m32.2 143) v31 ((m32.2 143) (v31 + 4))), (144, upI (m32.2 144) v31 ((m32.2 144) (v31 + 4)))]) 139 144 (m32.2 144) rfl rfl rfl (by omega) (show v31 < (3072 : Int) by omega) rfl rfl ?_
                refine T_iinc 142 [(5, .int (i32 (v31 + 1))), (0, .ref 189), (1, .int (i32 t)), (2, .int (i32 fs)), (3, .int (i32 v9)), (4, .int (i32 sl))] rfl rfl (by decide) rfl rfl ?_
                refine T_goto 80 rfl (fun _ => rfl) ?_
                refine Tm_lv (a := [(0, .ref 189), (1, .int (i32 t)), (2, .int (i32 fs)), (3, .int (i32 v9)), (4, .int (i32 sl)), (5, .int (i32 (v31 + 1)))]) rfl rfl ⟨rfl, rfl, rfl, rfl, rfl, rfl, trivial⟩ ?_
                exact ih41 (v31 + 1) (mO m32 [] [(142, upI (m32.2 142) v31 ((m32.2 142) (v31 + 4))), (143, upI (m32.2 143) v31 ((m32.2 143) (v31 + 4))), (144, upI (m32.2 144) v31 ((m32.2 144) (v31 + 4)))]) (r32 (by omega) (by omega)) (Ty_mO Tm32 rfl rfl trivial ⟨G44, G46, G48, trivial⟩) (fr_m (fr_s Fm32 (fr_m fr_0 rfl rfl) rfl rfl) rfl rfl) (show 0 ≤ (v31 + 1) by omega) (show (v31 + 1) ≤ (4 * sl) + 4 by omega) (show 4 * sl ≤ (v31 + 1) ∧ (v31 + 1) ≤ 4 * sl + 4 by omega) (show ((4 * sl) + 4) - (v31 + 1) < (n40 : Int) by omega)
          refine Tm_lv (a := [(0, .ref 189), (1, .int (i32 t)), (2, .int (i32 fs)), (3, .int (i32 v9)), (4, .int (i32 sl)), (5, .int (i32 (4 * sl)))]) rfl rfl ⟨rfl, rfl, rfl, rfl, rfl, rfl, trivial⟩ ?_
          exact L80_33 ((((4 * sl) + 4) - (4 * sl) : Int) + 1).toNat (4 * sl) (mO m30 [] []) (r32 (by omega) (by omega)) Tm30 (fr_m fr_0 rfl rfl) (show 0 ≤ (4 * sl) by omega) (show (4 * sl) ≤ (4 * sl) + 4 by omega) (show 4 * sl ≤ (4 * sl) ∧ (4 * sl) ≤ 4 * sl + 4 by omega) (show ((4 * sl) + 4) - (4 * sl) < ((((((4 * sl) + 4) - (4 * sl) : Int) + 1).toNat : Nat) : Int) by omega)
    refine Tm_lv (a := [(0, .ref 189), (1, .int (i32 t)), (2, .int (i32 fs)), (3, .int (i32 fs))]) rfl rfl ⟨rfl, rfl, rfl, rfl, trivial⟩ ?_
    exact L24_11 (((((m.2 139) t) - 1) - fs : Int) + 1).toNat fs (mO m8 [] []) (r32 (by omega) (by omega)) Tm8 (fr_m fr_0 rfl rfl) (show 0 ≤ fs by omega) (show fs ≤ (((m.2 139) t) - 1) by omega) (show 0 ≤ fs ∧ fs ≤ 95 by omega) (show EAp (m.1 25) (m.2 139) (m8.2 141) by rewrite [(show (m8.2 141) = (m.2 141) from (fr2 Fm8 141 rfl))]; first | exact hEAp | exact hEA2) (show (((m.2 139) t) - 1) - fs < (((((((m.2 139) t) - 1) - fs : Int) + 1).toNat : Nat) : Int) by omega)
  · skip
    refine T_ld 11 (.int (i32 0)) rfl (fun _ => rfl) ?_
    refine T_ret rfl (fun _ => rfl) ?_
    exact ⟨(mO m [] []), 0, hT, (fr_m fr_0 rfl rfl), ⟨by omega, by omega⟩, (show EMp (m.1 26) (m.2 139) (m.2 58) (m.2 54) by first | (first | exact hEMp | exact EMp_up hEMp (by omega) (fun h => by have := hm2.2 h; omega)) | (exfalso; omega)), (show EAp (m.1 25) (m.2 139) (m.2 141) by first | (first | exact hEAp | exact EAp_many hEAp (by omega)) | (exfalso; omega)), rfl⟩
