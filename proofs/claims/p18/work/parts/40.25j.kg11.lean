def Q_tb_match (m : mR) (c : Nat → Option am_C) (N : Nat) (t : Int) (k : Int) : ag_Re af_T → Prop := fun R => (∃ (r : Int), ((-1) ≤ r ∧ r ≤ 71) ∧ (r < (m.2 78) t) ∧ R = (.inl (some (.int (i32 r))), (khp m c, N), 0, 0))
set_option maxHeartbeats 3000000 in
theorem c_tb_match (w : wX) (m : mR) (c : Nat → Option am_C) (N D : Nat) (hD : 2 ≤ D) (hT : KTy m) (t : Int) (k : Int) (qt : R32 t) (qk : R32 k) (p0 : 0 ≤ t ∧ t ≤ 7) (pOKk : OKr m k) : TC w D 196 [.ref (tbr t), .ref (obq (m.2 107) k + (3 + 1))] (khp m c, N) (Q_tb_match m c N t k) := by
  obtain ⟨D, rfl⟩ : ∃ k, D = k + 1 := ⟨D - 1, by omega⟩
  obtain ⟨qta, qtb⟩ := id qt
  obtain ⟨qka, qkb⟩ := id qk
  refine Tc_of rfl ?_
  rw [show (khp m c, N) = (khp (mO m [] []) c, N) from by rw [mO_nil m]]
  show TT w D pm_196 (0, [(0, .ref (tbr t)), (1, .ref (obq (m.2 107) k + (3 + 1)))], [], (khp (mO m [] []) c, N), 0, 0) (Q_tb_match m c N t k)
  have hh0 : 0 ≤ (m.2 78) t ∧ (m.2 78) t ≤ 72 := hT.2.1 78 t
  refine T_ld 1 (.int (i32 (-1))) rfl (fun _ => rfl) ?_
  refine T_sto 2 [(2, .int (i32 (-1))), (0, .ref (tbr t)), (1, .ref (obq (m.2 107) k + (3 + 1)))] rfl (fun _ => rfl) ?_
  refine T_ld 3 (.int (i32 0)) rfl (fun _ => rfl) ?_
  refine T_sto 4 [(3, .int (i32 0)), (2, .int (i32 (-1))), (0, .ref (tbr t)), (1, .ref (obq (m.2 107) k + (3 + 1)))] rfl (fun _ => rfl) ?_
  refine T_ld 5 (.int (i32 0)) rfl (fun _ => rfl) ?_
  refine T_sto 7 [(4, .int (i32 0)), (3, .int (i32 0)), (2, .int (i32 (-1))), (0, .ref (tbr t)), (1, .ref (obq (m.2 107) k + (3 + 1)))] rfl (fun _ => rfl) ?_
  have L7_4 : ∀ (n16 : Nat) (v1 : Int) (v2 : Int) (v3 : Int), (R32 v1) → (R32 v2) → (R32 v3) → ((-1) ≤ v1) → (0 ≤ v2) → (0 ≤ v3) → (0 ≤ v3 ∧ v3 ≤ 72) → ((-1) ≤ v1 ∧ v1 < v3) → (v1 < (m.2 78) t) → (0 ≤ v2 ∧ v2 ≤ 508) → 80 - v3 < (n16 : Int) → TT w D pm_196 (7, [(0, .ref (tbr t)), (1, .ref (obq (m.2 107) k + (3 + 1))), (2, .int (i32 v1)), (3, .int (i32 v2)), (4, .int (i32 v3))], [], (khp (mO m [] []) c, N), 0, 0) (Q_tb_match m c N t k) := by
    intro n16
    induction n16 with
    | zero =>
      intro v1 v2 v3 q12 q13 q14 ic5 ic6 ic7 ic8 ic9 ic10 ic11 hmu
      obtain ⟨q12a, q12b⟩ := id q12
      obtain ⟨q13a, q13b⟩ := id q13
      obtain ⟨q14a, q14b⟩ := id q14
      exfalso
      omega
    | succ n16 ih =>
      intro v1 v2 v3 q12 q13 q14 ic5 ic6 ic7 ic8 ic9 ic10 ic11 hmu
      obtain ⟨q12a, q12b⟩ := id q12
      obtain ⟨q13a, q13b⟩ := id q13
      obtain ⟨q14a, q14b⟩ := id q14
      have ih17 := ih
      refine T_ld 9 (.int (i32 v3)) rfl (fun _ => rfl) ?_
      refine T_ld 10 (.ref (tbr t)) rfl (fun _ => rfl) ?_
      refine K_gfi 13 78 (m.2 78) rfl rfl (by omega) (by omega) rfl rfl ?_
      have e18 : 0 ≤ m.2 78 t ∧ m.2 78 t ≤ 72 := hT.2.1 78 t
      refine T_icmp 190 16 rfl rfl rfl (r32 (by omega) (by omega)) (r32 (by omega) (by omega)) (fun (h19 : (m.2 78) t ≤ v3) => ?_) (fun (h19 : ¬ ((m.2 78) t ≤ v3)) => ?_)
      · skip
        refine T_ld 191 (.int (i32 v1)) rfl (fun _ => rfl) ?_
        refine T_ret rfl (fun _ => rfl) ?_
        exact ⟨v1, ⟨by omega, by omega⟩, (show v1 < (m.2 78) t by omega), rfl⟩
      · skip
        refine T_ld 17 (.int (i32 1)) rfl (fun _ => rfl) ?_
        refine T_sto 19 [(5, .int (i32 1)), (0, .ref (tbr t)), (1, .ref (obq (m.2 107) k + (3 + 1))), (2, .int (i32 v1)), (3, .int (i32 v2)), (4, .int (i32 v3))] rfl (fun _ => rfl) ?_
        refine T_ld 20 (.int (i32 0)) rfl (fun _ => rfl) ?_
        refine T_sto 22 [(6, .int (i32 0)), (5, .int (i32 1)), (0, .ref (tbr t)), (1, .ref (obq (m.2 107) k + (3 + 1))), (2, .int (i32 v1)), (3, .int (i32 v2)), (4, .int (i32 v3))] rfl (fun _ => rfl) ?_
        refine T_ld 23 (.int (i32 0)) rfl (fun _ => rfl) ?_
        refine T_sto 25 [(7, .int (i32 0)), (6, .int (i32 0)), (5, .int (i32 1)), (0, .ref (tbr t)), (1, .ref (obq (m.2 107) k + (3 + 1))), (2, .int (i32 v1)), (3, .int (i32 v2)), (4, .int (i32 v3))] rfl (fun _ => rfl) ?_
        have L25_23 : ∀ (n35 : Nat) (v20 : Int) (v21 : Int) (v22 : Int), (R32 v20) → (R32 v21) → (R32 v22) → (0 ≤ v20) → (v20 ≤ 1) → (0 ≤ v21) → (0 ≤ v22) → (0 ≤ v20 ∧ v20 ≤ 1) → (0 ≤ v22 ∧ v22 ≤ 4) → (0 ≤ v21 ∧ v21 ≤ 127 * v22) → 10 - v22 < (n35 : Int) → TT w D pm_196 (25, [(0, .ref (tbr t)), (1, .ref (obq (m.2 107) k + (3 + 1))), (2, .int (i32 v1)), (3, .int (i32 v2)), (4, .int (i32 v3)), (5, .int (i32 v20)), (6, .int (i32 v21)), (7, .int (i32 v22))], [], (khp (mO m [] []) c, N), 0, 0) (Q_tb_match m c N t k) := by
          intro n35
          induction n35 with
          | zero =>
            intro v20 v21 v22 q31 q32 q33 ic24 ic25 ic26 ic27 ic28 ic29 ic30 hmu
            obtain ⟨q31a, q31b⟩ := id q31
            obtain ⟨q32a, q32b⟩ := id q32
            obtain ⟨q33a, q33b⟩ := id q33
            exfalso
            omega
          | succ n35 ih =>
            intro v20 v21 v22 q31 q32 q33 ic24 ic25 ic26 ic27 ic28 ic29 ic30 hmu
            obtain ⟨q31a, q31b⟩ := id q31
            obtain ⟨q32a, q32b⟩ := id q32
            obtain ⟨q33a, q33b⟩ := id q33
            have ih36 := ih
            refine T_ld 27 (.int (i32 v22)) rfl (fun _ => rfl) ?_
            refine T_ld 28 (.ref (tbr t)) rfl (fun _ => rfl) ?_
            refine K_gfi 31 72 (m.2 72) rfl rfl (by omega) (by omega) rfl rfl ?_
            have e37 : 0 ≤ m.2 72 t ∧ m.2 72 t ≤ 4 := hT.2.1 72 t
            refine T_icmp 116 34 rfl rfl rfl (r32 (by omega) (by omega)) (r32 (by omega) (by omega)) (fun (h38 : (m.2 72) t ≤ v22) => ?_) (fun (h38 : ¬ ((m.2 72) t ≤ v22)) => ?_)
            · skip
              refine T_ld 117 (.int (i32 v1)) rfl (fun _ => rfl) ?_
              refine T_ld 118 (.int (i32 (-1))) rfl (fun _ => rfl) ?_
              refine T_icmp 127 121 rfl rfl rfl (r32 (by omega) (by omega)) ⟨by decide, by decide⟩ (fun (h39 : v1 = (-1)) => ?_) (fun (h39 : ¬ (v1 = (-1))) => ?_)
              · skip
                refine T_ld 128 (.int (i32 1)) rfl (fun _ => rfl) ?_
                refine T_goto 132 rfl (fun _ => rfl) ?_
                refine T_sto 134 [(7, .int (i32 1)), (0, .ref (tbr t)), (1, .ref (obq (m.2 107) k + (3 + 1))), (2, .int (i32 v1)), (3, .int (i32 v2)), (4, .int (i32 v3)), (5, .int (i32 v20)), (6, .int (i32 v21))] rfl (fun _ => rfl) ?_
                refine T_ld 136 (.int (i32 1)) rfl (fun _ => rfl) ?_
                refine T_if 161 139 rfl rfl rfl ⟨by decide, by decide⟩ (fun _ => ?_) (fun h40 => absurd (show (1 : Int) ≠ 0 by decide) h40)
                refine T_ld 162 (.int (i32 1)) rfl (fun _ => rfl) ?_
                refine T_goto 166 rfl (fun _ => rfl) ?_
                refine T_sto 168 [(8, .int (i32 1)), (7, .int (i32 1)), (0, .ref (tbr t)), (1, .ref (obq (m.2 107) k + (3 + 1))), (2, .int (i32 v1)), (3, .int (i32 v2)), (4, .int (i32 v3)), (5, .int (i32 v20)), (6, .int (i32 v21))] rfl (fun _ => rfl) ?_
                refine T_ld 170 (.int (i32 v20)) rfl (fun _ => rfl) ?_
                refine T_if 184 173 rfl rfl rfl (r32 (by omega) (by omega)) (fun (h41 : v20 = 0) => ?_) (fun (h41 : ¬ (v20 = 0)) => ?_)
                · skip
                  refine T_iinc 187 [(4, .int (i32 (v3 + 1))), (8, .int (i32 1)), (7, .int (i32 1)), (0, .ref (tbr t)), (1, .ref (obq (m.2 107) k + (3 + 1))), (2, .int (i32 v1)), (3, .int (i32 v2)), (5, .int (i32 v20)), (6, .int (i32 v21))] rfl rfl (by decide) rfl rfl ?_
                  refine T_goto 7 rfl (fun _ => rfl) ?_
                  refine Tm_lv (a := [(0, .ref (tbr t)), (1, .ref (obq (m.2 107) k + (3 + 1))), (2, .int (i32 v1)), (3, .int (i32 v2)), (4, .int (i32 (v3 + 1)))]) rfl rfl ⟨rfl, rfl, rfl, rfl, rfl, trivial⟩ ?_
                  exact ih17 v1 v2 (v3 + 1) (r32 (by omega) (by omega)) (r32 (by omega) (by omega)) (r32 (by omega) (by omega)) (show (-1) ≤ v1 by omega) (show 0 ≤ v2 by omega) (show 0 ≤ (v3 + 1) by omega) (show 0 ≤ (v3 + 1) ∧ (v3 + 1) ≤ 72 by omega) (show (-1) ≤ v1 ∧ v1 < (v3 + 1) by omega) (show v1 < (m.2 78) t by omega) (show 0 ≤ v2 ∧ v2 ≤ 508 by omega) (show 80 - (v3 + 1) < (n16 : Int) by omega)
                · skip
                  refine T_ld 175 (.int (i32 1)) rfl (fun _ => rfl) ?_
                  refine T_if 184 178 rfl rfl rfl ⟨by decide, by decide⟩ (fun h42 => absurd (show (1 : Int) = 0 from h42) (by decide)) (fun _ => ?_)
                  refine T_ld 180 (.int (i32 v3)) rfl (fun _ => rfl) ?_
                  refine T_sto 181 [(2, .int (i32 v3)), (8, .int (i32 1)), (7, .int (i32 1)), (0, .ref (tbr t)), (1, .ref (obq (m.2 107) k + (3 + 1))), (3, .int (i32 v2)), (4, .int (i32 v3)), (5, .int (i32 v20)), (6, .int (i32 v21))] rfl (fun _ => rfl) ?_
                  refine T_ld 183 (.int (i32 v21)) rfl (fun _ => rfl) ?_
                  refine T_sto 184 [(3, .int (i32 v21)), (2, .int (i32 v3)), (8, .int (i32 1)), (7, .int (i32 1)), (0, .ref (tbr t)), (1, .ref (obq (m.2 107) k + (3 + 1))), (4, .int (i32 v3)), (5, .int (i32 v20)), (6, .int (i32 v21))] rfl (fun _ => rfl) ?_
                  refine T_iinc 187 [(4, .int (i32 (v3 + 1))), (3, .int (i32 v21)), (2, .int (i32 v3)), (8, .int (i32 1)), (7, .int (i32 1)), (0, .ref (tbr t)), (1, .ref (obq (m.2 107) k + (3 + 1))), (5, .int (i32 v20)), (6, .int (i32 v21))] rfl rfl (by decide) rfl rfl ?_
                  refine T_goto 7 rfl (fun _ => rfl) ?_
                  refine Tm_lv (a := [(0, .ref (tbr t)), (1, .ref (obq (m.2 107) k + (3 + 1))), (2, .int (i32 v3)), (3, .int (i32 v21)), (4, .int (i32 (v3 + 1)))]) rfl rfl ⟨rfl, rfl, rfl, rfl, rfl, trivial⟩ ?_
                  exact ih17 v3 v21 (v3 + 1) (r32 (by omega) (by omega)) (r32 (by omega) (by omega)) (r32 (by omega) (by omega)) (show (-1) ≤ v3 by omega) (show 0 ≤ v21 by omega) (show 0 ≤ (v3 + 1) by omega) (show 0 ≤ (v3 + 1) ∧ (v3 + 1) ≤ 72 by omega) (show (-1) ≤ v3 ∧ v3 < (v3 + 1) by omega) (show v3 < (m.2 78) t by omega) (show 0 ≤ v21 ∧ v21 ≤ 508 by omega) (show 80 - (v3 + 1) < (n16 : Int) by omega)
              · skip
                refine T_ld 123 (.int (i32 v21)) rfl (fun _ => rfl) ?_
                refine T_ld 124 (.int (i32 v2)) rfl (fun _ => rfl) ?_
                refine T_icmp 131 127 rfl rfl rfl (r32 (by omega) (by omega)) (r32 (by omega) (by omega)) (fun (h43 : v21 ≤ v2) => ?_) (fun (h43 : ¬ (v21 ≤ v2)) => ?_)
                · skip
                  refine T_ld 132 (.int (i32 0)) rfl (fun _ => rfl) ?_
                  refine T_sto 134 [(7, .int (i32 0)), (0, .ref (tbr t)), (1, .ref (obq (m.2 107) k + (3 + 1))), (2, .int (i32 v1)), (3, .int (i32 v2)), (4, .int (i32 v3)), (5, .int (i32 v20)), (6, .int (i32 v21))] rfl (fun _ => rfl) ?_
                  refine T_ld 136 (.int (i32 0)) rfl (fun _ => rfl) ?_
                  refine T_if 161 139 rfl rfl rfl ⟨by decide, by decide⟩ (fun h44 => absurd (show (0 : Int) ≠ 0 from h44) (by decide)) (fun _ => ?_)
                  refine T_ld 141 (.int (i32 v21)) rfl (fun _ => rfl) ?_
                  refine T_ld 142 (.int (i32 v2)) rfl (fun _ => rfl) ?_
                  refine T_icmp 165 145 rfl rfl rfl (r32 (by omega) (by omega)) (r32 (by omega) (by omega)) (fun (h45 : v21 ≠ v2) => ?_) (fun (h45 : ¬ (v21 ≠ v2)) => ?_)
                  · skip
                    refine T_ld 166 (.int (i32 0)) rfl (fun _ => rfl) ?_
                    refine T_sto 168 [(8, .int (i32 0)), (7, .int (i32 0)), (0, .ref (tbr t)), (1, .ref (obq (m.2 107) k + (3 + 1))), (2, .int (i32 v1)), (3, .int (i32 v2)), (4, .int (i32 v3)), (5, .int (i32 v20)), (6, .int (i32 v21))] rfl (fun _ => rfl) ?_
                    refine T_ld 170 (.int (i32 v20)) rfl (fun _ => rfl) ?_
                    refine T_if 184 173 rfl rfl rfl (r32 (by omega) (by omega)) (fun (h46 : v20 = 0) => ?_) (fun (h46 : ¬ (v20 = 0)) => ?_)
                    · skip
                      refine T_iinc 187 [(4, .int (i32 (v3 + 1))), (8, .int (i32 0)), (7, .int (i32 0)), (0, .ref (tbr t)), (1, .ref (obq (m.2 107) k + (3 + 1))), (2, .int (i32 v1)), (3, .int (i32 v2)), (5, .int (i32 v20)), (6, .int (i32 v21))] rfl rfl (by decide) rfl rfl ?_
                      refine T_goto 7 rfl (fun _ => rfl) ?_
                      refine Tm_lv (a := [(0, .ref (tbr t)), (1, .ref (obq (m.2 107) k + (3 + 1))), (2, .int (i32 v1)), (3, .int (i32 v2)), (4, .int (i32 (v3 + 1)))]) rfl rfl ⟨rfl, rfl, rfl, rfl, rfl, trivial⟩ ?_
                      exact ih17 v1 v2 (v3 + 1) (r32 (by omega) (by omega)) (r32 (by omega) (by omega)) (r32 (by omega) (by omega)) (show (-1) ≤ v1 by omega) (show 0 ≤ v2 by omega) (show 0 ≤ (v3 + 1) by omega) (show 0 ≤ (v3 + 1) ∧ (v3 + 1) ≤ 72 by omega) (show (-1) ≤ v1 ∧ v1 < (v3 + 1) by omega) (show v1 < (m.2 78) t by omega) (show 0 ≤ v2 ∧ v2 ≤ 508 by omega) (show 80 - (v3 + 1) < (n16 : Int) by omega)
                    · skip
                      refine T_ld 175 (.int (i32 0)) rfl (fun _ => rfl) ?_
                      refine T_if 184 178 rfl rfl rfl ⟨by decide, by decide⟩ (fun _ => ?_) (fun h47 => absurd (show (0 : Int) = 0 by decide) h47)
                      refine T_iinc 187 [(4, .int (i32 (v3 + 1))), (8, .int (i32 0)), (7, .int (i32 0)), (0, .ref (tbr t)), (1, .ref (obq (m.2 107) k + (3 + 1))), (2, .int (i32 v1)), (3, .int (i32 v2)), (5, .int (i32 v20)), (6, .int (i32 v21))] rfl rfl (by decide) rfl rfl ?_
                      refine T_goto 7 rfl (fun _ => rfl) ?_
                      refine Tm_lv (a := [(0, .ref (tbr t)), (1, .ref (obq (m.2 107) k + (3 + 1))), (2, .int (i32 v1)), (3, .int (i32 v2)), (4, .int (i32 (v3 + 1)))]) rfl rfl ⟨rfl, rfl, rfl, rfl, rfl, trivial⟩ ?_
                      exact ih17 v1 v2 (v3 + 1) (r32 (by omega) (by omega)) (r32 (by omega) (by omega)) (r32 (by omega) (by omega)) (show (-1) ≤ v1 by omega) (show 0 ≤ v2 by omega) (show 0 ≤ (v3 + 1) by omega) (show 0 ≤ (v3 + 1) ∧ (v3 + 1) ≤ 72 by omega) (show (-1) ≤ v1 ∧ v1 < (v3 + 1) by omega) (show v1 < (m.2 78) t by omega) (show 0 ≤ v2 ∧ v2 ≤ 508 by omega) (show 80 - (v3 + 1) < (n16 : Int) by omega)
                  · skip
                    refine T_ld 146 (.ref (tbr t)) rfl (fun _ => rfl) ?_
                    refine K_gfr 149 rfl rfl (by omega) (by omega) rfl ?_
                    refine T_ld 151 (.int (i32 v3)) rfl (fun _ => rfl) ?_
                    refine K_ialt 152 9 (m.2 88) rfl rfl rfl (by omega) (by omega) (by omega) (show v3 < (72 : Int) by omega) rfl ?_
                    have e48 : (-2147483648) ≤ m.2 88 (65536 * t + v3) ∧ m.2 88 (65536 * t + v3) ≤ 2147483647 := hT.2.1 88 (65536 * t + v3)
                    refine T_ld 153 (.ref (tbr t)) rfl (fun _ => rfl) ?_
                    refine K_gfr 156 rfl rfl (by omega) (by omega) rfl ?_
                    refine T_ld 157 (.int (i32 v1)) rfl (fun _ => rfl) ?_
                    refine K_ialt 158 9 (m.2 88) rfl rfl rfl (by omega) (by omega) (by omega) (show v1 < (72 : Int) by omega) rfl ?_
                    have e49 : (-2147483648) ≤ m.2 88 (65536 * t + v1) ∧ m.2 88 (65536 * t + v1) ≤ 2147483647 := hT.2.1 88 (65536 * t + v1)
                    refine T_icmp 165 161 rfl rfl rfl (r32 (by omega) (by omega)) (r32 (by omega) (by omega)) (fun (h50 : (m.2 88) (65536 * t + v3) ≤ (m.2 88) (65536 * t + v1)) => ?_) (fun (h50 : ¬ ((m.2 88) (65536 * t + v3) ≤ (m.2 88) (65536 * t + v1))) => ?_)
                    · skip
                      refine T_ld 166 (.int (i32 0)) rfl (fun _ => rfl) ?_
                      refine T_sto 168 [(8, .int (i32 0)), (7, .int (i32 0)), (0, .ref (tbr t)), (1, .ref (obq (m.2 107) k + (3 + 1))), (2, .int (i32 v1)), (3, .int (i32 v2)), (4, .int (i32 v3)), (5, .int (i32 v20)), (6, .int (i32 v21))] rfl (fun _ => rfl) ?_
                      refine T_ld 170 (.int (i32 v20)) rfl (fun _ => rfl) ?_
                      refine T_if 184 173 rfl rfl rfl (r32 (by omega) (by omega)) (fun (h51 : v20 = 0) => ?_) (fun (h51 : ¬ (v20 = 0)) => ?_)
                      · skip
                        refine T_iinc 187 [(4, .int (i32 (v3 + 1))), (8, .int (i32 0)), (7, .int (i32 0)), (0, .ref (tbr t)), (1, .ref (obq (m.2 107) k + (3 + 1))), (2, .int (i32 v1)), (3, .int (i32 v2)), (5, .int (i32 v20)), (6, .int (i32 v21))] rfl rfl (by decide) rfl rfl ?_
                        refine T_goto 7 rfl (fun _ => rfl) ?_
                        refine Tm_lv (a := [(0, .ref (tbr t)), (1, .ref (obq (m.2 107) k + (3 + 1))), (2, .int (i32 v1)), (3, .int (i32 v2)), (4, .int (i32 (v3 + 1)))]) rfl rfl ⟨rfl, rfl, rfl, rfl, rfl, trivial⟩ ?_
                        exact ih17 v1 v2 (v3 + 1) (r32 (by omega) (by omega)) (r32 (by omega) (by omega)) (r32 (by omega) (by omega)) (show (-1) ≤ v1 by omega) (show 0 ≤ v2 by omega) (show 0 ≤ (v3 + 1) by omega) (show 0 ≤ (v3 + 1) ∧ (v3 + 1) ≤ 72 by omega) (show (-1) ≤ v1 ∧ v1 < (v3 + 1) by omega) (show v1 < (m.2 78) t by omega) (show 0 ≤ v2 ∧ v2 ≤ 508 by omega) (show 80 - (v3 + 1) < (n16 : Int) by omega)
                      · skip
                        refine T_ld 175 (.int (i32 0)) rfl (fun _ => rfl) ?_
                        refine T_if 184 178 rfl rfl rfl ⟨by decide, by decide⟩ (fun _ => ?_) (fun h52 => absurd (show (0 : Int) = 0 by decide) h52)
                        refine T_iinc 187 [(4, .int (i32 (v3 + 1))), (8, .int (i32 0)), (7, .int (i32 0)), (0, .ref (tbr t)), (1, .ref (obq (m.2 107) k + (3 + 1))), (2, .int (i32 v1)), (3, .int (i32 v2)), (5, .int (i32 v20)), (6, .int (i32 v21))] rfl rfl (by decide) rfl rfl ?_
                        refine T_goto 7 rfl (fun _ => rfl) ?_
                        refine Tm_lv (a := [(0, .ref (tbr t)), (1, .ref (obq (m.2 107) k + (3 + 1))), (2, .int (i32 v1)), (3, .int (i32 v2)), (4, .int (i32 (v3 + 1)))]) rfl rfl ⟨rfl, rfl, rfl, rfl, rfl, trivial⟩ ?_
                        exact ih17 v1 v2 (v3 + 1) (r32 (by omega) (by omega)) (r32 (by omega) (by omega)) (r32 (by omega) (by omega)) (show (-1) ≤ v1 by omega) (show 0 ≤ v2 by omega) (show 0 ≤ (v3 + 1) by omega) (show 0 ≤ (v3 + 1) ∧ (v3 + 1) ≤ 72 by omega) (show (-1) ≤ v1 ∧ v1 < (v3 + 1) by omega) (show v1 < (m.2 78) t by omega) (show 0 ≤ v2 ∧ v2 ≤ 508 by omega) (show 80 - (v3 + 1) < (n16 : Int) by omega)
                    · skip
                      refine T_ld 162 (.int (i32 1)) rfl (fun _ => rfl) ?_
                      refine T_goto 166 rfl (fun _ => rfl) ?_
                      refine T_sto 168 [(8, .int (i32 1)), (7, .int (i32 0)), (0, .ref (tbr t)), (1, .ref (obq (m.2 107) k + (3 + 1))), (2, .int (i32 v1)), (3, .int (i32 v2)), (4, .int (i32 v3)), (5, .int (i32 v20)), (6, .int (i32 v21))] rfl (fun _ => rfl) ?_
                      refine T_ld 170 (.int (i32 v20)) rfl (fun _ => rfl) ?_
                      refine T_if 184 173 rfl rfl rfl (r32 (by omega) (by omega)) (fun (h53 : v20 = 0) => ?_) (fun (h53 : ¬ (v20 = 0)) => ?_)
                      · skip
                        refine T_iinc 187 [(4, .int (i32 (v3 + 1))), (8, .int (i32 1)), (7, .int (i32 0)), (0, .ref (tbr t)), (1, .ref (obq (m.2 107) k + (3 + 1))), (2, .int (i32 v1)), (3, .int (i32 v2)), (5, .int (i32 v20)), (6, .int (i32 v21))] rfl rfl (by decide) rfl rfl ?_
                        refine T_goto 7 rfl (fun _ => rfl) ?_
                        refine Tm_lv (a := [(0, .ref (tbr t)), (1, .ref (obq (m.2 107) k + (3 + 1))), (2, .int (i32 v1)), (3, .int (i32 v2)), (4, .int (i32 (v3 + 1)))]) rfl rfl ⟨rfl, rfl, rfl, rfl, rfl, trivial⟩ ?_
                        exact ih17 v1 v2 (v3 + 1) (r32 (by omega) (by omega)) (r32 (by omega) (by omega)) (r32 (by omega) (by omega)) (show (-1) ≤ v1 by omega) (show 0 ≤ v2 by omega) (show 0 ≤ (v3 + 1) by omega) (show 0 ≤ (v3 + 1) ∧ (v3 + 1) ≤ 72 by omega) (show (-1) ≤ v1 ∧ v1 < (v3 + 1) by omega) (show v1 < (m.2 78) t by omega) (show 0 ≤ v2 ∧ v2 ≤ 508 by omega) (show 80 - (v3 + 1) < (n16 : Int) by omega)
                      · skip
                        refine T_ld 175 (.int (i32 1)) rfl (fun _ => rfl) ?_
                        refine T_if 184 178 rfl rfl rfl ⟨by decide, by decide⟩ (fun h54 => absurd (show (1 : Int) = 0 from h54) (by decide)) (fun _ => ?_)
                        refine T_ld 180 (.int (i32 v3)) rfl (fun _ => rfl) ?_
                        refine T_sto 181 [(2, .int (i32 v3)), (8, .int (i32 1)), (7, .int (i32 0)), (0, .ref (tbr t)), (1, .ref (obq (m.2 107) k + (3 + 1))), (3, .int (i32 v2)), (4, .int (i32 v3)), (5, .int (i32 v20)), (6, .int (i32 v21))] rfl (fun _ => rfl) ?_
                        refine T_ld 183 (.int (i32 v21)) rfl (fun _ => rfl) ?_
                        refine T_sto 184 [(3, .int (i32 v21)), (2, .int (i32 v3)), (8, .int (i32 1)), (7, .int (i32 0)), (0, .ref (tbr t)), (1, .ref (obq (m.2 107) k + (3 + 1))), (4, .int (i32 v3)), (5, .int (i32 v20)), (6, .int (i32 v21))] rfl (fun _ => rfl) ?_
                        refine T_iinc 187 [(4, .int (i32 (v3 + 1))), (3, .int (i32 v21)), (2, .int (i32 v3)), (8, .int (i32 1)), (7, .int (i32 0)), (0, .ref (tbr t)), (1, .ref (obq (m.2 107) k + (3 + 1))), (5, .int (i32 v20)), (6, .int (i32 v21))] rfl rfl (by decide) rfl rfl ?_
                        refine T_goto 7 rfl (fun _ => rfl) ?_
                        refine Tm_lv (a := [(0, .ref (tbr t)), (1, .ref (obq (m.2 107) k + (3 + 1))), (2, .int (i32 v3)), (3, .int (i32 v21)), (4, .int (i32 (v3 + 1)))]) rfl rfl ⟨rfl, rfl, rfl, rfl, rfl, trivial⟩ ?_
                        exact ih17 v3 v21 (v3 + 1) (r32 (by omega) (by omega)) (r32 (by omega) (by omega)) (r32 (by omega) (by omega)) (show (-1) ≤ v3 by omega) (show 0 ≤ v21 by omega) (show 0 ≤ (v3 + 1) by omega) (show 0 ≤ (v3 + 1) ∧ (v3 + 1) ≤ 72 by omega) (show (-1) ≤ v3 ∧ v3 < (v3 + 1) by omega) (show v3 < (m.2 78) t by omega) (show 0 ≤ v21 ∧ v21 ≤ 508 by omega) (show 80 - (v3 + 1) < (n16 : Int) by omega)
                · skip
                  refine T_ld 128 (.int (i32 1)) rfl (fun _ => rfl) ?_
                  refine T_goto 132 rfl (fun _ => rfl) ?_
                  refine T_sto 134 [(7, .int (i32 1)), (0, .ref (tbr t)), (1, .ref (obq (m.2 107) k + (3 + 1))), (2, .int (i32 v1)), (3, .int (i32 v2)), (4, .int (i32 v3)), (5, .int (i32 v20)), (6, .int (i32 v21))] rfl (fun _ => rfl) ?_
                  refine T_ld 136 (.int (i32 1)) rfl (fun _ => rfl) ?_
                  refine T_if 161 139 rfl rfl rfl ⟨by decide, by decide⟩ (fun _ => ?_) (fun h55 => absurd (show (1 : Int) ≠ 0 by decide) h55)
                  refine T_ld 162 (.int (i32 1)) rfl (fun _ => rfl) ?_
                  refine T_goto 166 rfl (fun _ => rfl) ?_
                  refine T_sto 168 [(8, .int (i32 1)), (7, .int (i32 1)), (0, .ref (tbr t)), (1, .ref (obq (m.2 107) k + (3 + 1))), (2, .int (i32 v1)), (3, .int (i32 v2)), (4, .int (i32 v3)), (5, .int (i32 v20)), (6, .int (i32 v21))] rfl (fun _ => rfl) ?_
                  refine T_ld 170 (.int (i32 v20)) rfl (fun _ => rfl) ?_
                  refine T_if 184 173 rfl rfl rfl (r32 (by omega) (by omega)) (fun (h56 : v20 = 0) => ?_) (fun (h56 : ¬ (v20 = 0)) => ?_)
                  · skip
                    refine T_iinc 187 [(4, .int (i32 (v3 + 1))), (8, .int (i32 1)), (7, .int (i32 1)), (0, .ref (tbr t)), (1, .ref (obq (m.2 107) k + (3 + 1))), (2, .int (i32 v1)), (3, .int (i32 v2)), (5, .int (i32 v20)), (6, .int (i32 v21))] rfl rfl (by decide) rfl rfl ?_
                    refine T_goto 7 rfl (fun _ => rfl) ?_
                    refine Tm_lv (a := [(0, .ref (tbr t)), (1, .ref (obq (m.2 107) k + (3 + 1))), (2, .int (i32 v1)), (3, .int (i32 v2)), (4, .int (i32 (v3 + 1)))]) rfl rfl ⟨rfl, rfl, rfl, rfl, rfl, trivial⟩ ?_
                    exact ih17 v1 v2 (v3 + 1) (r32 (by omega) (by omega)) (r32 (by omega) (by omega)) (r32 (by omega) (by omega)) (show (-1) ≤ v1 by omega) (show 0 ≤ v2 by omega) (show 0 ≤ (v3 + 1) by omega) (show 0 ≤ (v3 + 1) ∧ (v3 + 1) ≤ 72 by omega) (show (-1) ≤ v1 ∧ v1 < (v3 + 1) by omega) (show v1 < (m.2 78) t by omega) (show 0 ≤ v2 ∧ v2 ≤ 508 by omega) (show 80 - (v3 + 1) < (n16 : Int) by omega)
                  · skip
                    refine T_ld 175 (.int (i32 1)) rfl (fun _ => rfl) ?_
                    refine T_if 184 178 rfl rfl rfl ⟨by decide, by decide⟩ (fun h57 => absurd (show (1 : Int) = 0 from h57) (by decide)) (fun _ => ?_)
                    refine T_ld 180 (.int (i32 v3)) rfl (fun _ => rfl) ?_
                    refine T_sto 181 [(2, .int (i32 v3)), (8, .int (i32 1)), (7, .int (i32 1)), (0, .ref (tbr t)), (1, .ref (obq (m.2 107) k + (3 + 1))), (3, .int (i32 v2)), (4, .int (i32 v3)), (5, .int (i32 v20)), (6, .int (i32 v21))] rfl (fun _ => rfl) ?_
                    refine T_ld 183 (.int (i32 v21)) rfl (fun _ => rfl) ?_
                    refine T_sto 184 [(3, .int (i32 v21)), (2, .int (i32 v3)), (8, .int (i32 1)), (7, .int (i32 1)), (0, .ref (tbr t)), (1, .ref (obq (m.2 107) k + (3 + 1))), (4, .int (i32 v3)), (5, .int (i32 v20)), (6, .int (i32 v21))] rfl (fun _ => rfl) ?_
                    refine T_iinc 187 [(4, .int (i32 (v3 + 1))), (3, .int (i32 v21)), (2, .int (i32 v3)), (8, .int (i32 1)), (7, .int (i32 1)), (0, .ref (tbr t)), (1, .ref (obq (m.2 107) k + (3 + 1))), (5, .int (i32 v20)), (6, .int (i32 v21))] rfl rfl (by decide) rfl rfl ?_
                    refine T_goto 7 rfl (fun _ => rfl) ?_
                    refine Tm_lv (a := [(0, .ref (tbr t)), (1, .ref (obq (m.2 107) k + (3 + 1))), (2, .int (i32 v3)), (3, .int (i32 v21)), (4, .int (i32 (v3 + 1)))]) rfl rfl ⟨rfl, rfl, rfl, rfl, rfl, trivial⟩ ?_
                    exact ih17 v3 v21 (v3 + 1) (r32 (by omega) (by omega)) (r32 (by omega) (by omega)) (r32 (by omega) (by omega)) (show (-1) ≤ v3 by omega) (show 0 ≤ v21 by omega) (show 0 ≤ (v3 + 1) by omega) (show 0 ≤ (v3 + 1) ∧ (v3 + 1) ≤ 72 by omega) (show (-1) ≤ v3 ∧ v3 < (v3 + 1) by omega) (show v3 < (m.2 78) t by omega) (show 0 ≤ v21 ∧ v21 ≤ 508 by omega) (show 80 - (v3 + 1) < (n16 : Int) by omega)
            · skip
              refine T_ld 36 (.int (i32 v3)) rfl (fun _ => rfl) ?_
              refine T_ld 37 (.int (i32 4)) rfl (fun _ => rfl) ?_
              refine T_imul 38 rfl rfl ?_
              refine T_ld 40 (.int (i32 v22)) rfl (fun _ => rfl) ?_
              refine T_iadd 41 rfl rfl ?_
              refine T_sto 43 [(8, .int (i32 ((v3 * 4) + v22))), (0, .ref (tbr t)), (1, .ref (obq (m.2 107) k + (3 + 1))), (2, .int (i32 v1)), (3, .int (i32 v2)), (4, .int (i32 v3)), (5, .int (i32 v20)), (6, .int (i32 v21)), (7, .int (i32 v22))] rfl (fun _ => rfl) ?_
              refine T_ld 45 (.int (i32 v20)) rfl (fun _ => rfl) ?_
              refine T_ld 46 (.ref (obq (m.2 107) k + (3 + 1))) rfl (fun _ => rfl) ?_
              refine T_ld 48 (.int (i32 v22)) rfl (fun _ => rfl) ?_
              refine K_lalo 49 3 (m.2 103) rfl rfl rfl pOKk rfl (by omega) (show v22 < (4 : Int) by omega) rfl ?_
              have e58 : (-9223372036854775808) ≤ m.2 103 (65536 * k + v22) ∧ m.2 103 (65536 * k + v22) ≤ 9223372036854775807 := hT.2.1 103 (65536 * k + v22)
              refine T_ld 50 (.ref (tbr t)) rfl (fun _ => rfl) ?_
              refine K_gfr 53 rfl rfl (by omega) (by omega) rfl ?_
              refine T_ld 55 (.int (i32 ((v3 * 4) + v22))) rfl (fun _ => rfl) ?_
              refine K_lalt 56 6 (m.2 85) rfl rfl rfl (by omega) (by omega) (by omega) (show ((v3 * 4) + v22) < (288 : Int) by omega) rfl ?_
              have e59 : (-9223372036854775808) ≤ m.2 85 (65536 * t + ((v3 * 4) + v22)) ∧ m.2 85 (65536 * t + ((v3 * 4) + v22)) ≤ 9223372036854775807 := hT.2.1 85 (65536 * t + ((v3 * 4) + v22))
              refine T_lhv 57 _ rfl (fun _ => rfl) (fun z60 h61 => ?_)
              obtain ⟨h61a, h61b⟩ := h61
              refine T_ld 58 (.ref (tbr t)) rfl (fun _ => rfl) ?_
              refine K_gfr 61 rfl rfl (by omega) (by omega) rfl ?_
              refine T_ld 63 (.int (i32 ((v3 * 4) + v22))) rfl (fun _ => rfl) ?_
              refine K_lalt 64 7 (m.2 86) rfl rfl rfl (by omega) (by omega) (by omega) (show ((v3 * 4) + v22) < (288 : Int) by omega) rfl ?_
              have e62 : (-9223372036854775808) ≤ m.2 86 (65536 * t + ((v3 * 4) + v22)) ∧ m.2 86 (65536 * t + ((v3 * 4) + v22)) ≤ 9223372036854775807 := hT.2.1 86 (65536 * t + ((v3 * 4) + v22))
              refine T_lhv 65 _ rfl (fun _ => rfl) (fun z63 h64 => ?_)
              obtain ⟨h64a, h64b⟩ := h64
              refine T_ld 66 (.long (i64 0)) rfl (fun _ => rfl) ?_
              refine T_lcmp 67 rfl rfl (r64 (by omega) (by omega)) ⟨by decide, by decide⟩ (fun z65 h66 => ?_)
              obtain ⟨h66a, h66b, h66c, h66d, h66e⟩ := h66
              refine T_if 74 70 rfl rfl rfl (r32 (by omega) (by omega)) (fun (h67 : z65 ≠ 0) => ?_) (fun (h67 : ¬ (z65 ≠ 0)) => ?_)
              · skip
                have hl68 : z63 ≠ 0 := by omega
                refine T_ld 75 (.int (i32 0)) rfl (fun _ => rfl) ?_
                refine T_iand 76 rfl rfl (by decide) (by decide) (fun z69 h70 => ?_)
                refine T_sto 78 [(5, .int (i32 z69)), (8, .int (i32 ((v3 * 4) + v22))), (0, .ref (tbr t)), (1, .ref (obq (m.2 107) k + (3 + 1))), (2, .int (i32 v1)), (3, .int (i32 v2)), (4, .int (i32 v3)), (6, .int (i32 v21)), (7, .int (i32 v22))] rfl (fun _ => rfl) ?_
                refine T_ld 80 (.int (i32 v21)) rfl (fun _ => rfl) ?_
                refine T_ld 81 (.ref (tbr t)) rfl (fun _ => rfl) ?_
                refine K_gfr 84 rfl rfl (by omega) (by omega) rfl ?_
                refine T_ld 86 (.int (i32 v22)) rfl (fun _ => rfl) ?_
                refine K_ialt 87 2 (m.2 81) rfl rfl rfl (by omega) (by omega) (by omega) (show v22 < (4 : Int) by omega) rfl ?_
                have e71 : 0 ≤ m.2 81 (65536 * t + v22) ∧ m.2 81 (65536 * t + v22) ≤ 330 := hT.2.1 81 (65536 * t + v22)
                refine T_ld 90 (.int (i32 313)) rfl (fun _ => rfl) ?_
                refine T_icmp 106 93 rfl rfl rfl (r32 (by omega) (by omega)) ⟨by decide, by decide⟩ (fun (h72 : (m.2 81) (65536 * t + v22) ≠ 313) => ?_) (fun (h72 : ¬ ((m.2 81) (65536 * t + v22) ≠ 313)) => ?_)
                · skip
                  refine T_ld 107 (.int (i32 0)) rfl (fun _ => rfl) ?_
                  refine T_iadd 108 rfl rfl ?_
                  refine T_sto 110 [(6, .int (i32 (v21 + 0))), (5, .int (i32 z69)), (8, .int (i32 ((v3 * 4) + v22))), (0, .ref (tbr t)), (1, .ref (obq (m.2 107) k + (3 + 1))), (2, .int (i32 v1)), (3, .int (i32 v2)), (4, .int (i32 v3)), (7, .int (i32 v22))] rfl (fun _ => rfl) ?_
                  refine T_iinc 113 [(7, .int (i32 (v22 + 1))), (6, .int (i32 (v21 + 0))), (5, .int (i32 z69)), (8, .int (i32 ((v3 * 4) + v22))), (0, .ref (tbr t)), (1, .ref (obq (m.2 107) k + (3 + 1))), (2, .int (i32 v1)), (3, .int (i32 v2)), (4, .int (i32 v3))] rfl rfl (by decide) rfl rfl ?_
                  refine T_goto 25 rfl (fun _ => rfl) ?_
                  refine Tm_lv (a := [(0, .ref (tbr t)), (1, .ref (obq (m.2 107) k + (3 + 1))), (2, .int (i32 v1)), (3, .int (i32 v2)), (4, .int (i32 v3)), (5, .int (i32 z69)), (6, .int (i32 (v21 + 0))), (7, .int (i32 (v22 + 1)))]) rfl rfl ⟨rfl, rfl, rfl, rfl, rfl, rfl, rfl, rfl, trivial⟩ ?_
                  exact ih36 z69 (v21 + 0) (v22 + 1) (r32 (by omega) (by omega)) (r32 (by omega) (by omega)) (r32 (by omega) (by omega)) (show 0 ≤ z69 by omega) (show z69 ≤ 1 by omega) (show 0 ≤ (v21 + 0) by omega) (show 0 ≤ (v22 + 1) by omega) (show 0 ≤ z69 ∧ z69 ≤ 1 by omega) (show 0 ≤ (v22 + 1) ∧ (v22 + 1) ≤ 4 by omega) (show 0 ≤ (v21 + 0) ∧ (v21 + 0) ≤ 127 * (v22 + 1) by omega) (show 10 - (v22 + 1) < (n35 : Int) by omega)
                · skip
                  refine T_ld 94 (.ref (tbr t)) rfl (fun _ => rfl) ?_
                  refine K_gfr 97 rfl rfl (by omega) (by omega) rfl ?_
                  refine T_ld 99 (.int (i32 ((v3 * 4) + v22))) rfl (fun _ => rfl) ?_
                  refine K_lalt 100 7 (m.2 86) rfl rfl rfl (by omega) (by omega) (by omega) (show ((v3 * 4) + v22) < (288 : Int) by omega) rfl ?_
                  have e73 : (-9223372036854775808) ≤ m.2 86 (65536 * t + ((v3 * 4) + v22)) ∧ m.2 86 (65536 * t + ((v3 * 4) + v22)) ≤ 9223372036854775807 := hT.2.1 86 (65536 * t + ((v3 * 4) + v22))
                  refine T_callx 103 197 [.long (i64 ((m.2 86) (65536 * t + ((v3 * 4) + v22))))] [.int (i32 v21)] rfl (fun _ => rfl) rfl rfl (c_Long_bitCount w (mO m [] []) c N D (by omega) hT ((m.2 86) (65536 * t + ((v3 * 4) + v22))) (r64 (by omega) (by omega))) (fun rr74 k75 => ?_)
                  obtain ⟨x76, g77, rfl⟩ := k75
                  refine Or.inl ⟨_, _, _, _, rfl, ?_⟩
                  refine T_ns (st' := [.int (i32 x76), .int (i32 v21)]) rfl ?_
                  obtain ⟨g77a, g77b⟩ := g77
                  refine T_goto 107 rfl (fun _ => rfl) ?_
                  refine T_iadd 108 rfl rfl ?_
                  refine T_sto 110 [(6, .int (i32 (v21 + x76))), (5, .int (i32 z69)), (8, .int (i32 ((v3 * 4) + v22))), (0, .ref (tbr t)), (1, .ref (obq (m.2 107) k + (3 + 1))), (2, .int (i32 v1)), (3, .int (i32 v2)), (4, .int (i32 v3)), (7, .int (i32 v22))] rfl (fun _ => rfl) ?_
                  refine T_iinc 113 [(7, .int (i32 (v22 + 1))), (6, .int (i32 (v21 + x76))), (5, .int (i32 z69)), (8, .int (i32 ((v3 * 4) + v22))), (0, .ref (tbr t)), (1, .ref (obq (m.2 107) k + (3 + 1))), (2, .int (i32 v1)), (3, .int (i32 v2)), (4, .int (i32 v3))] rfl rfl (by decide) rfl rfl ?_
                  refine T_goto 25 rfl (fun _ => rfl) ?_
                  refine Tm_lv (a := [(0, .ref (tbr t)), (1, .ref (obq (m.2 107) k + (3 + 1))), (2, .int (i32 v1)), (3, .int (i32 v2)), (4, .int (i32 v3)), (5, .int (i32 z69)), (6, .int (i32 (v21 + x76))), (7, .int (i32 (v22 + 1)))]) rfl rfl ⟨rfl, rfl, rfl, rfl, rfl, rfl, rfl, rfl, trivial⟩ ?_
                  exact ih36 z69 (v21 + x76) (v22 + 1) (r32 (by omega) (by omega)) (r32 (by omega) (by omega)) (r32 (by omega) (by omega)) (show 0 ≤ z69 by omega) (show z69 ≤ 1 by omega) (show 0 ≤ (v21 + x76) by omega) (show 0 ≤ (v22 + 1) by omega) (show 0 ≤ z69 ∧ z69 ≤ 1 by omega) (show 0 ≤ (v22 + 1) ∧ (v22 + 1) ≤ 4 by omega) (show 0 ≤ (v21 + x76) ∧ (v21 + x76) ≤ 127 * (v22 + 1) by omega) (show 10 - (v22 + 1) < (n35 : Int) by omega)
              · skip
                have hl78 : z63 = 0 := by omega
                refine T_ld 71 (.int (i32 1)) rfl (fun _ => rfl) ?_
                refine T_goto 75 rfl (fun _ => rfl) ?_
                refine T_iand 76 rfl rfl (by decide) (by decide) (fun z79 h80 => ?_)
                refine T_sto 78 [(5, .int (i32 z79)), (8, .int (i32 ((v3 * 4) + v22))), (0, .ref (tbr t)), (1, .ref (obq (m.2 107) k + (3 + 1))), (2, .int (i32 v1)), (3, .int (i32 v2)), (4, .int (i32 v3)), (6, .int (i32 v21)), (7, .int (i32 v22))] rfl (fun _ => rfl) ?_
                refine T_ld 80 (.int (i32 v21)) rfl (fun _ => rfl) ?_
                refine T_ld 81 (.ref (tbr t)) rfl (fun _ => rfl) ?_
                refine K_gfr 84 rfl rfl (by omega) (by omega) rfl ?_
                refine T_ld 86 (.int (i32 v22)) rfl (fun _ => rfl) ?_
                refine K_ialt 87 2 (m.2 81) rfl rfl rfl (by omega) (by omega) (by omega) (show v22 < (4 : Int) by omega) rfl ?_
                have e81 : 0 ≤ m.2 81 (65536 * t + v22) ∧ m.2 81 (65536 * t + v22) ≤ 330 := hT.2.1 81 (65536 * t + v22)
                refine T_ld 90 (.int (i32 313)) rfl (fun _ => rfl) ?_
                refine T_icmp 106 93 rfl rfl rfl (r32 (by omega) (by omega)) ⟨by decide, by decide⟩ (fun (h82 : (m.2 81) (65536 * t + v22) ≠ 313) => ?_) (fun (h82 : ¬ ((m.2 81) (65536 * t + v22) ≠ 313)) => ?_)
                · skip
                  refine T_ld 107 (.int (i32 0)) rfl (fun _ => rfl) ?_
                  refine T_iadd 108 rfl rfl ?_
                  refine T_sto 110 [(6, .int (i32 (v21 + 0))), (5, .int (i32 z79)), (8, .int (i32 ((v3 * 4) + v22))), (0, .ref (tbr t)), (1, .ref (obq (m.2 107) k + (3 + 1))), (2, .int (i32 v1)), (3, .int (i32 v2)), (4, .int (i32 v3)), (7, .int (i32 v22))] rfl (fun _ => rfl) ?_
                  refine T_iinc 113 [(7, .int (i32 (v22 + 1))), (6, .int (i32 (v21 + 0))), (5, .int (i32 z79)), (8, .int (i32 ((v3 * 4) + v22))), (0, .ref (tbr t)), (1, .ref (obq (m.2 107) k + (3 + 1))), (2, .int (i32 v1)), (3, .int (i32 v2)), (4, .int (i32 v3))] rfl rfl (by decide) rfl rfl ?_
                  refine T_goto 25 rfl (fun _ => rfl) ?_
                  refine Tm_lv (a := [(0, .ref (tbr t)), (1, .ref (obq (m.2 107) k + (3 + 1))), (2, .int (i32 v1)), (3, .int (i32 v2)), (4, .int (i32 v3)), (5, .int (i32 z79)), (6, .int (i32 (v21 + 0))), (7, .int (i32 (v22 + 1)))]) rfl rfl ⟨rfl, rfl, rfl, rfl, rfl, rfl, rfl, rfl, trivial⟩ ?_
                  exact ih36 z79 (v21 + 0) (v22 + 1) (r32 (by omega) (by omega)) (r32 (by omega) (by omega)) (r32 (by omega) (by omega)) (show 0 ≤ z79 by omega) (show z79 ≤ 1 by omega) (show 0 ≤ (v21 + 0) by omega) (show 0 ≤ (v22 + 1) by omega) (show 0 ≤ z79 ∧ z79 ≤ 1 by omega) (show 0 ≤ (v22 + 1) ∧ (v22 + 1) ≤ 4 by omega) (show 0 ≤ (v21 + 0) ∧ (v21 + 0) ≤ 127 * (v22 + 1) by omega) (show 10 - (v22 + 1) < (n35 : Int) by omega)
                · skip
                  refine T_ld 94 (.ref (tbr t)) rfl (fun _ => rfl) ?_
                  refine K_gfr 97 rfl rfl (by omega) (by omega) rfl ?_
                  refine T_ld 99 (.int (i32 ((v3 * 4) + v22))) rfl (fun _ => rfl) ?_
                  refine K_lalt 100 7 (m.2 86) rfl rfl rfl (by omega) (by omega) (by omega) (show ((v3 * 4) + v22) < (288 : Int) by omega) rfl ?_
                  have e83 : (-9223372036854775808) ≤ m.2 86 (65536 * t + ((v3 * 4) + v22)) ∧ m.2 86 (65536 * t + ((v3 * 4) + v22)) ≤ 9223372036854775807 := hT.2.1 86 (65536 * t + ((v3 * 4) + v22))
                  refine T_callx 103 197 [.long (i64 ((m.2 86) (65536 * t + ((v3 * 4) + v22))))] [.int (i32 v21)] rfl (fun _ => rfl) rfl rfl (c_Long_bitCount w (mO m [] []) c N D (by omega) hT ((m.2 86) (65536 * t + ((v3 * 4) + v22))) (r64 (by omega) (by omega))) (fun rr84 k85 => ?_)
                  obtain ⟨x86, g87, rfl⟩ := k85
                  refine Or.inl ⟨_, _, _, _, rfl, ?_⟩
                  refine T_ns (st' := [.int (i32 x86), .int (i32 v21)]) rfl ?_
                  obtain ⟨g87a, g87b⟩ := g87
                  refine T_goto 107 rfl (fun _ => rfl) ?_
                  refine T_iadd 108 rfl rfl ?_
                  refine T_sto 110 [(6, .int (i32 (v21 + x86))), (5, .int (i32 z79)), (8, .int (i32 ((v3 * 4) + v22))), (0, .ref (tbr t)), (1, .ref (obq (m.2 107) k + (3 + 1))), (2, .int (i32 v1)), (3, .int (i32 v2)), (4, .int (i32 v3)), (7, .int (i32 v22))] rfl (fun _ => rfl) ?_
                  refine T_iinc 113 [(7, .int (i32 (v22 + 1))), (6, .int (i32 (v21 + x86))), (5, .int (i32 z79)), (8, .int (i32 ((v3 * 4) + v22))), (0, .ref (tbr t)), (1, .ref (obq (m.2 107) k + (3 + 1))), (2, .int (i32 v1)), (3, .int (i32 v2)), (4, .int (i32 v3))] rfl rfl (by decide) rfl rfl ?_
                  refine T_goto 25 rfl (fun _ => rfl) ?_
                  refine Tm_lv (a := [(0, .ref (tbr t)), (1, .ref (obq (m.2 107) k + (3 + 1))), (2, .int (i32 v1)), (3, .int (i32 v2)), (4, .int (i32 v3)), (5, .int (i32 z79)), (6, .int (i32 (v21 + x86))), (7, .int (i32 (v22 + 1)))]) rfl rfl ⟨rfl, rfl, rfl, rfl, rfl, rfl, rfl, rfl, trivial⟩ ?_
                  exact ih36 z79 (v21 + x86) (v22 + 1) (r32 (by omega) (by omega)) (r32 (by omega) (by omega)) (r32 (by omega) (by omega)) (show 0 ≤ z79 by omega) (show z79 ≤ 1 by omega) (show 0 ≤ (v21 + x86) by omega) (show 0 ≤ (v22 + 1) by omega) (show 0 ≤ z79 ∧ z79 ≤ 1 by omega) (show 0 ≤ (v22 + 1) ∧ (v22 + 1) ≤ 4 by omega) (show 0 ≤ (v21 + x86) ∧ (v21 + x86) ≤ 127 * (v22 + 1) by omega) (show 10 - (v22 + 1) < (n35 : Int) by omega)
        refine Tm_lv (a := [(0, .ref (tbr t)), (1, .ref (obq (m.2 107) k + (3 + 1))), (2, .int (i32 v1)), (3, .int (i32 v2)), (4, .int (i32 v3)), (5, .int (i32 1)), (6, .int (i32 0)), (7, .int (i32 0))]) rfl rfl ⟨rfl, rfl, rfl, rfl, rfl, rfl, rfl, rfl, trivial⟩ ?_
        exact L25_23 ((10 - (0 : Int) : Int) + 1).toNat 1 0 0 ⟨by decide, by decide⟩ ⟨by decide, by decide⟩ ⟨by decide, by decide⟩ (show 0 ≤ (1 : Int) by omega) (show (1 : Int) ≤ 1 by omega) (show 0 ≤ (0 : Int) by omega) (show 0 ≤ (0 : Int) by omega) (show 0 ≤ (1 : Int) ∧ (1 : Int) ≤ 1 by omega) (show 0 ≤ (0 : Int) ∧ (0 : Int) ≤ 4 by omega) (show 0 ≤ (0 : Int) ∧ (0 : Int) ≤ 127 * (0 : Int) by omega) (show 10 - (0 : Int) < ((((10 - (0 : Int) : Int) + 1).toNat : Nat) : Int) by omega)
  refine Tm_lv (a := [(0, .ref (tbr t)), (1, .ref (obq (m.2 107) k + (3 + 1))), (2, .int (i32 (-1))), (3, .int (i32 0)), (4, .int (i32 0))]) rfl rfl ⟨rfl, rfl, rfl, rfl, rfl, trivial⟩ ?_
  exact L7_4 ((80 - (0 : Int) : Int) + 1).toNat (-1) 0 0 ⟨by decide, by decide⟩ ⟨by decide, by decide⟩ ⟨by decide, by decide⟩ (show (-1) ≤ (-1 : Int) by omega) (show 0 ≤ (0 : Int) by omega) (show 0 ≤ (0 : Int) by omega) (show 0 ≤ (0 : Int) ∧ (0 : Int) ≤ 72 by omega) (show (-1) ≤ (-1 : Int) ∧ (-1 : Int) < (0 : Int) by omega) (show (-1 : Int) < (m.2 78) t by omega) (show 0 ≤ (0 : Int) ∧ (0 : Int) ≤ 508 by omega) (show 80 - (0 : Int) < ((((80 - (0 : Int) : Int) + 1).toNat : Nat) : Int) by omega)
def fF_tb_cutKeys : List Nat := []
def fA_tb_cutKeys : List Nat := [103, 104]
def Q_tb_cutKeys (m : mR) (c : Nat → Option am_C) (N : Nat) (t : Int) (a : Int) (b : Int) : ag_Re af_T → Prop := fun R => (∃ (M : mR) (r : Int), KTy M ∧ fr fF_tb_cutKeys fA_tb_cutKeys m M ∧ (0 ≤ r ∧ r ≤ 1) ∧ R = (.inl (some (.int (i32 r))), (khp M c, N), 0, 0))
set_option maxHeartbeats 3000000 in
theorem c_tb_cutKeys (w : wX) (m : mR) (c : Nat → Option am_C) (N D : Nat) (hD : 2 ≤ D) (hT : KTy m) (t : Int) (a : Int) (b : Int) (qt : R32 t) (qa : R32 a) (qb : R32 b) (p0 : 0 ≤ t ∧ t ≤ 7) (pOKa : OKr m a) (pOKb : OKr m b) : TC w D 188 [.ref (tbr t), .ref (obq (m.2 107) a + (3 + 1)), .ref (obq (m.2 107) b + (4 + 1))] (khp m c, N) (Q_tb_cutKeys m c N t a b) := by
  obtain ⟨D, rfl⟩ : ∃ k, D = k + 1 := ⟨D - 1, by omega⟩
  obtain ⟨qta, qtb⟩ := id qt
  obtain ⟨qaa, qab⟩ := id qa
  obtain ⟨qba, qbb⟩ := id qb
  refine Tc_of rfl ?_
  rw [show (khp m c, N) = (khp (mO m [] []) c, N) from by rw [mO_nil m]]
  show TT w D pm_188 (0, [(0, .ref (tbr t)), (1, .ref (obq (m.2 107) a + (3 + 1))), (2, .ref (obq (m.2 107) b + (4 + 1)))], [], (khp (mO m [] []) c, N), 0, 0) (Q_tb_cutKeys m c N t a b)
  refine T_ld 1 (.int (i32 1)) rfl (fun _ => rfl) ?_
  refine T_sto 2 [(3, .int (i32 1)), (0, .ref (tbr t)), (1, .ref (obq (m.2 107) a + (3 + 1))), (2, .ref (obq (m.2 107) b + (4 + 1)))] rfl (fun _ => rfl) ?_
  refine T_ld 3 (.int (i32 0)) rfl (fun _ => rfl) ?_
  refine T_sto 5 [(4, .int (i32 0)), (3, .int (i32 1)), (0, .ref (tbr t)), (1, .ref (obq (m.2 107) a + (3 + 1))), (2, .ref (obq (m.2 107) b + (4 + 1)))] rfl (fun _ => rfl) ?_
  have L5_4 : ∀ (n14 : Nat) (v1 : Int) (v2 : Int) (m3 : mR), (R32 v1) → (R32 v2) → KTy m3 → fr [] [103, 104] (mO m [] []) m3 → (0 ≤ v1) → (v1 ≤ 1) → (0 ≤ v2) → (0 ≤ v1 ∧ v1 ≤ 1) → (0 ≤ v2 ∧ v2 ≤ 4) → 10 - v2 < (n14 : Int) → TT w D pm_188 (5, [(0, .ref (tbr t)), (1, .ref (obq (m.2 107) a + (3 + 1))), (2, .ref (obq (m.2 107) b + (4 + 1))), (3, .int (i32 v1)), (4, .int (i32 v2))], [], (khp (mO m3 [] []) c, N), 0, 0) (Q_tb_cutKeys m c N t a b) := by
    intro n14
    induction n14 with
    | zero =>
      intro v1 v2 m3 q10 q11 Tm3 Fm3 ic5 ic6 ic7 ic8 ic9 hmu
      obtain ⟨q10a, q10b⟩ := id q10
      obtain ⟨q11a, q11b⟩ := id q11
      exfalso
      omega
    | succ n14 ih =>
      intro v1 v2 m3 q10 q11 Tm3 Fm3 ic5 ic6 ic7 ic8 ic9 hmu
      obtain ⟨q10a, q10b⟩ := id q10
      obtain ⟨q11a, q11b⟩ := id q11
      have ih15 := ih
      refine T_ld 7 (.int (i32 v2)) rfl (fun _ => rfl) ?_
      refine T_ld 8 (.ref (tbr t)) rfl (fun _ => rfl) ?_
      refine K_gfi 11 72 (m.2 72) rfl rfl (by omega) (by omega) (show (m3.2 72) = (m.2 72) from (fr2 Fm3 72 rfl)) rfl ?_
      have e16 : 0 ≤ m.2 72 t ∧ m.2 72 t ≤ 4 := hT.2.1 72 t
      refine T_icmp 122 14 rfl rfl rfl (r32 (by omega) (by omega)) (r32 (by omega) (by omega)) (fun (h17 : (m.2 72) t ≤ v2) => ?_) (fun (h17 : ¬ ((m.2 72) t ≤ v2)) => ?_)
      · skip
        refine T_ld 123 (.int (i32 v1)) rfl (fun _ => rfl) ?_
        refine T_retb rfl rfl (by omega) ?_
        exact ⟨(mO m3 [] []), v1, Tm3, (fr_m (fr_s Fm3 (fr_m fr_0 rfl rfl) rfl rfl) rfl rfl), ⟨by omega, by omega⟩, rfl⟩
      · skip
        refine T_ld 15 (.ref (tbr t)) rfl (fun _ => rfl) ?_
        refine K_gfr 18 rfl rfl (by omega) (by omega) rfl ?_
        refine T_ld 20 (.int (i32 v2)) rfl (fun _ => rfl) ?_
        refine K_ialt 21 3 (m.2 82) rfl rfl rfl (by omega) (by omega) (by omega) (show v2 < (4 : Int) by omega) (show (m3.2 82) = (m.2 82) from (fr2 Fm3 82 rfl)) ?_
        have e18 : 0 ≤ m.2 82 (65536 * t + v2) ∧ m.2 82 (65536 * t + v2) ≤ 64 := hT.2.1 82 (65536 * t + v2)
        refine T_callx 24 116 [.int (i32 ((m.2 82) (65536 * t + v2)))] [] rfl (fun _ => rfl) rfl rfl (c_pw_ones w (mO m3 [] []) c N D (by omega) Tm3 ((m.2 82) (65536 * t + v2)) (r32 (by omega) (by omega))) (fun rr19 k20 => ?_)
        obtain ⟨x21, g22, rfl⟩ := k20
        refine Or.inl ⟨_, _, _, _, rfl, ?_⟩
        refine T_ns (st' := [.long (i64 x21)]) rfl ?_
        obtain ⟨g22a, g22b⟩ := g22
        refine T_sto 26 [(5, .long (i64 x21)), (0, .ref (tbr t)), (1, .ref (obq (m.2 107) a + (3 + 1))), (2, .ref (obq (m.2 107) b + (4 + 1))), (3, .int (i32 v1)), (4, .int (i32 v2))] rfl (fun _ => rfl) ?_
        refine T_ld 27 (.ref (obq (m.2 107) b + (4 + 1))) rfl (fun _ => rfl) ?_
        refine T_ld 29 (.int (i32 v2)) rfl (fun _ => rfl) ?_
        refine T_dup2 30 rfl (fun _ => rfl) ?_
        refine K_lalo 31 4 (m3.2 104) rfl rfl rfl (OKr_c (show (m3.2 107) = (m.2 107) from (fr2 Fm3 107 rfl)) (show (m3.2 108) = (m.2 108) from (fr2 Fm3 108 rfl)) pOKb) (congrArg (fun f : Int → Int => (f b).toNat) (show (m3.2 107) = (m.2 107) from (fr2 Fm3 107 rfl))) (by omega) (show v2 < (4 : Int) by omega) rfl ?_
        have e23 : (-9223372036854775808) ≤ (m3.2 104) (65536 * b + v2) ∧ (m3.2 104) (65536 * b + v2) ≤ 9223372036854775807 := (Tm3.2.1 104) (65536 * b + v2)
        refine T_ld 33 (.long (i64 x21)) rfl (fun _ => rfl) ?_
        refine T_lhv 34 _ rfl (fun _ => rfl) (fun z24 h25 => ?_)
        obtain ⟨h25a, h25b⟩ := h25
        have G26 : ∀ j, (-9223372036854775808) ≤ (upI (m3.2 104) (65536 * b + v2) z24) j ∧ (upI (m3.2 104) (65536 * b + v2) z24) j ≤ 9223372036854775807 := upI_rg (Tm3.2.1 104) ⟨by omega, by omega⟩
        refine K_lasto (a' := [(104, upI (m3.2 104) (65536 * b + v2) z24)]) 35 4 (m3.2 104) rfl rfl rfl (OKr_c (show (m3.2 107) = (m.2 107) from (fr2 Fm3 107 rfl)) (show (m3.2 108) = (m.2 108) from (fr2 Fm3 108 rfl)) pOKb) (show KTy (mO m3 [] []) from Tm3).2.2.1 (congrArg (fun f : Int → Int => (f b).toNat) (show (m3.2 107) = (m.2 107) from (fr2 Fm3 107 rfl))) (by omega) (show v2 < (4 : Int) by omega) rfl rfl ?_
        refine T_ld 36 (.ref (obq (m.2 107) a + (3 + 1))) rfl (fun _ => rfl) ?_
        refine T_ld 38 (.int (i32 v2)) rfl (fun _ => rfl) ?_
        refine T_dup2 39 rfl (fun _ => rfl) ?_
        refine K_lalo 40 3 (m3.2 103) rfl rfl rfl (OKr_c (show (m3.2 107) = (m.2 107) from (fr2 Fm3 107 rfl)) (show (m3.2 108) = (m.2 108) from (fr2 Fm3 108 rfl)) pOKa) (congrArg (fun f : Int → Int => (f a).toNat) (show (m3.2 107) = (m.2 107) from (fr2 Fm3 107 rfl))) (by omega) (show v2 < (4 : Int) by omega) rfl ?_
        have e27 : (-9223372036854775808) ≤ (m3.2 103) (65536 * a + v2) ∧ (m3.2 103) (65536 * a + v2) ≤ 9223372036854775807 := (Tm3.2.1 103) (65536 * a + v2)
        refine T_ld 41 (.ref (obq (m.2 107) b + (4 + 1))) rfl (fun _ => rfl) ?_
        refine T_ld 43 (.int (i32 v2)) rfl (fun _ => rfl) ?_
        refine K_lalo 44 4 (upI (m3.2 104) (65536 * b + v2) z24) rfl rfl rfl (OKr_c (show (m3.2 107) = (m.2 107) from (fr2 Fm3 107 rfl)) (show (m3.2 108) = (m.2 108) from (fr2 Fm3 108 rfl)) pOKb) (congrArg (fun f : Int → Int => (f b).toNat) (show (m3.2 107) = (m.2 107) from (fr2 Fm3 107 rfl))) (by omega) (show v2 < (4 : Int) by omega) rfl ?_
        have e28 : (-9223372036854775808) ≤ (upI (m3.2 104) (65536 * b + v2) z24) (65536 * b + v2) ∧ (upI (m3.2 104) (65536 * b + v2) z24) (65536 * b + v2) ≤ 9223372036854775807 := G26 (65536 * b + v2)
        refine T_lhv 45 _ rfl (fun _ => rfl) (fun z29 h30 => ?_)
        obtain ⟨h30a, h30b⟩ := h30
        have G31 : ∀ j, (-9223372036854775808) ≤ (upI (m3.2 103) (65536 * a + v2) z29) j ∧ (upI (m3.2 103) (65536 * a + v2) z29) j ≤ 9223372036854775807 := upI_rg (Tm3.2.1 103) ⟨by omega, by omega⟩
        refine K_lasto (a' := [(103, upI (m3.2 103) (65536 * a + v2) z29), (104, upI (m3.2 104) (65536 * b + v2) z24)]) 46 3 (m3.2 103) rfl rfl rfl (OKr_c (show (m3.2 107) = (m.2 107) from (fr2 Fm3 107 rfl)) (show (m3.2 108) = (m.2 108) from (fr2 Fm3 108 rfl)) pOKa) (show KTy (mO m3 [] [(104, upI (m3.2 104) (65536 * b + v2) z24)]) from (KTy_mO Tm3 rfl rfl trivial ⟨G26, trivial⟩)).2.2.1 (congrArg (fun f : Int → Int => (f a).toNat) (show (m3.2 107) = (m.2 107) from (fr2 Fm3 107 rfl))) (by omega) (show v2 < (4 : Int) by omega) rfl rfl ?_
        refine T_ld 47 (.ref (obq (m.2 107) b + (4 + 1))) rfl (fun _ => rfl) ?_
        refine T_ld 49 (.int (i32 v2)) rfl (fun _ => rfl) ?_
        refine K_lalo 50 4 (upI (m3.2 104) (65536 * b + v2) z24) rfl rfl rfl (OKr_c (show (m3.2 107) = (m.2 107) from (fr2 Fm3 107 rfl)) (show (m3.2 108) = (m.2 108) from (fr2 Fm3 108 rfl)) pOKb) (congrArg (fun f : Int → Int => (f b).toNat) (show (m3.2 107) = (m.2 107) from (fr2 Fm3 107 rfl))) (by omega) (show v2 < (4 : Int) by omega) rfl ?_
        have e32 : (-9223372036854775808) ≤ (upI (m3.2 104) (65536 * b + v2) z24) (65536 * b + v2) ∧ (upI (m3.2 104) (65536 * b + v2) z24) (65536 * b + v2) ≤ 9223372036854775807 := G26 (65536 * b + v2)
        refine T_ld 52 (.long (i64 x21)) rfl (fun _ => rfl) ?_
        refine T_lhv 53 _ rfl (fun _ => rfl) (fun z33 h34 => ?_)
        obtain ⟨h34a, h34b⟩ := h34
        refine T_sto 55 [(7, .long (i64 z33)), (5, .long (i64 x21)), (0, .ref (tbr t)), (1, .ref (obq (m.2 107) a + (3 + 1))), (2, .ref (obq (m.2 107) b + (4 + 1))), (3, .int (i32 v1)), (4, .int (i32 v2))] rfl (fun _ => rfl) ?_
        refine T_ld 56 (.int (i32 v1)) rfl (fun _ => rfl) ?_
        refine T_ld 57 (.ref (tbr t)) rfl (fun _ => rfl) ?_
        refine K_gfr 60 rfl rfl (by omega) (by omega) rfl ?_
        refine T_ld 62 (.int (i32 v2)) rfl (fun _ => rfl) ?_
        refine K_ialt 63 2 (m.2 81) rfl rfl rfl (by omega) (by omega) (by omega) (show v2 < (4 : Int) by omega) (show (m3.2 81) = (m.2 81) from (fr2 Fm3 81 rfl)) ?_
        have e35 : 0 ≤ m.2 81 (65536 * t + v2) ∧ m.2 81 (65536 * t + v2) ≤ 330 := hT.2.1 81 (65536 * t + v2)
        refine T_ld 66 (.int (i32 312)) rfl (fun _ => rfl) ?_
        refine T_icmp 76 69 rfl rfl rfl (r32 (by omega) (by omega)) ⟨by decide, by decide⟩ (fun (h36 : (m.2 81) (65536 * t + v2) ≠ 312) => ?_) (fun (h36 : ¬ ((m.2 81) (65536 * t + v2) ≠ 312)) => ?_)
        · skip
          refine T_ld 77 (.int (i32 1)) rfl (fun _ => rfl) ?_
          refine T_goto 81 rfl (fun _ => rfl) ?_
          refine T_iand 82 rfl rfl (by decide) (by decide) (fun z37 h38 => ?_)
          refine T_sto 83 [(3, .int (i32 z37)), (7, .long (i64 z33)), (5, .long (i64 x21)), (0, .ref (tbr t)), (1, .ref (obq (m.2 107) a + (3 + 1))), (2, .ref (obq (m.2 107) b + (4 + 1))), (4, .int (i32 v2))] rfl (fun _ => rfl) ?_
          refine T_ld 84 (.int (i32 z37)) rfl (fun _ => rfl) ?_
          refine T_ld 85 (.ref (tbr t)) rfl (fun _ => rfl) ?_
          refine K_gfr 88 rfl rfl (by omega) (by omega) rfl ?_
          refine T_ld 90 (.int (i32 v2)) rfl (fun _ => rfl) ?_
          refine K_ialt 91 2 (m.2 81) rfl rfl rfl (by omega) (by omega) (by omega) (show v2 < (4 : Int) by omega) (show (m3.2 81) = (m.2 81) from (fr2 Fm3 81 rfl)) ?_
          have e39 : 0 ≤ m.2 81 (65536 * t + v2) ∧ m.2 81 (65536 * t + v2) ≤ 330 := hT.2.1 81 (65536 * t + v2)
          refine T_ld 94 (.int (i32 313)) rfl (fun _ => rfl) ?_
          refine T_icmp 109 97 rfl rfl rfl (r32 (by omega) (by omega)) ⟨by decide, by decide⟩ (fun (h40 : (m.2 81) (65536 * t + v2) ≠ 313) => ?_) (fun (h40 : ¬ ((m.2 81) (65536 * t + v2) ≠ 313)) => ?_)
          · skip
            refine T_ld 110 (.int (i32 1)) rfl (fun _ => rfl) ?_
            refine T_goto 114 rfl (fun _ => rfl) ?_
            refine T_iand 115 rfl rfl (by decide) (by decide) (fun z41 h42 => ?_)
            refine T_sto 116 [(3, .int (i32 z41)), (7, .long (i64 z33)), (5, .long (i64 x21)), (0, .ref (tbr t)), (1, .ref (obq (m.2 107) a + (3 + 1))), (2, .ref (obq (m.2 107) b + (4 + 1))), (4, .int (i32 v2))] rfl (fun _ => rfl) ?_
            refine T_iinc 119 [(4, .int (i32 (v2 + 1))), (3, .int (i32 z41)), (7, .long (i64 z33)), (5, .long (i64 x21)), (0, .ref (tbr t)), (1, .ref (obq (m.2 107) a + (3 + 1))), (2, .ref (obq (m.2 107) b + (4 + 1)))] rfl rfl (by decide) rfl rfl ?_
            refine T_goto 5 rfl (fun _ => rfl) ?_
            refine Tm_lv (a := [(0, .ref (tbr t)), (1, .ref (obq (m.2 107) a + (3 + 1))), (2, .ref (obq (m.2 107) b + (4 + 1))), (3, .int (i32 z41)), (4, .int (i32 (v2 + 1)))]) rfl rfl ⟨rfl, rfl, rfl, rfl, rfl, trivial⟩ ?_
            exact ih15 z41 (v2 + 1) (mO m3 [] [(103, upI (m3.2 103) (65536 * a + v2) z29), (104, upI (m3.2 104) (65536 * b + v2) z24)]) (r32 (by omega) (by omega)) (r32 (by omega) (by omega)) (KTy_mO Tm3 rfl rfl trivial ⟨G31, G26, trivial⟩) (fr_m (fr_s Fm3 (fr_m fr_0 rfl rfl) rfl rfl) rfl rfl) (show 0 ≤ z41 by omega) (show z41 ≤ 1 by omega) (show 0 ≤ (v2 + 1) by omega) (show 0 ≤ z41 ∧ z41 ≤ 1 by omega) (show 0 ≤ (v2 + 1) ∧ (v2 + 1) ≤ 4 by omega) (show 10 - (v2 + 1) < (n14 : Int) by omega)
          · skip
            refine T_ld 99 (.long (i64 z33)) rfl (fun _ => rfl) ?_
            refine T_ld 101 (.long (i64 z33)) rfl (fun _ => rfl) ?_
            refine T_ld 102 (.long (i64 1)) rfl (fun _ => rfl) ?_
            refine T_ladd 103 rfl rfl ?_
            refine T_lnm (fun z43 h44 => ?_)
            obtain ⟨h44a, h44b⟩ := h44
            refine T_lhv 104 _ rfl (fun _ => rfl) (fun z45 h46 => ?_)
            obtain ⟨h46a, h46b⟩ := h46
            refine T_ld 105 (.long (i64 0)) rfl (fun _ => rfl) ?_
            refine T_lcmp 106 rfl rfl (r64 (by omega) (by omega)) ⟨by decide, by decide⟩ (fun z47 h48 => ?_)
            obtain ⟨h48a, h48b, h48c, h48d, h48e⟩ := h48
            refine T_if 113 109 rfl rfl rfl (r32 (by omega) (by omega)) (fun (h49 : z47 ≠ 0) => ?_) (fun (h49 : ¬ (z47 ≠ 0)) => ?_)
            · skip
              have hl50 : z45 ≠ 0 := by omega
              refine T_ld 114 (.int (i32 0)) rfl (fun _ => rfl) ?_
              refine T_iand 115 rfl rfl (by decide) (by decide) (fun z51 h52 => ?_)
              refine T_sto 116 [(3, .int (i32 z51)), (7, .long (i64 z33)), (5, .long (i64 x21)), (0, .ref (tbr t)), (1, .ref (obq (m.2 107) a + (3 + 1))), (2, .ref (obq (m.2 107) b + (4 + 1))), (4, .int (i32 v2))] rfl (fun _ => rfl) ?_
              refine T_iinc 119 [(4, .int (i32 (v2 + 1))), (3, .int (i32 z51)), (7, .long (i64 z33)), (5, .long (i64 x21)), (0, .ref (tbr t)), (1, .ref (obq (m.2 107) a + (3 + 1))), (2, .ref (obq (m.2 107) b + (4 + 1)))] rfl rfl (by decide) rfl rfl ?_
              refine T_goto 5 rfl (fun _ => rfl) ?_
              refine Tm_lv (a := [(0, .ref (tbr t)), (1, .ref (obq (m.2 107) a + (3 + 1))), (2, .ref (obq (m.2 107) b + (4 + 1))), (3, .int (i32 z51)), (4, .int (i32 (v2 + 1)))]) rfl rfl ⟨rfl, rfl, rfl, rfl, rfl, trivial⟩ ?_
              exact ih15 z51 (v2 + 1) (mO m3 [] [(103, upI (m3.2 103) (65536 * a + v2) z29), (104, upI (m3.2 104) (65536 * b + v2) z24)]) (r32 (by omega) (by omega)) (r32 (by omega) (by omega)) (KTy_mO Tm3 rfl rfl trivial ⟨G31, G26, trivial⟩) (fr_m (fr_s Fm3 (fr_m fr_0 rfl rfl) rfl rfl) rfl rfl) (show 0 ≤ z51 by omega) (show z51 ≤ 1 by omega) (show 0 ≤ (v2 + 1) by omega) (show 0 ≤ z51 ∧ z51 ≤ 1 by omega) (show 0 ≤ (v2 + 1) ∧ (v2 + 1) ≤ 4 by omega) (show 10 - (v2 + 1) < (n14 : Int) by omega)
            · skip
              have hl53 : z45 = 0 := by omega
              refine T_ld 110 (.int (i32 1)) rfl (fun _ => rfl) ?_
              refine T_goto 114 rfl (fun _ => rfl) ?_
              refine T_iand 115 rfl rfl (by decide) (by decide) (fun z54 h55 => ?_)
              refine T_sto 116 [(3, .int (i32 z54)), (7, .long (i64 z33)), (5, .long (i64 x21)), (0, .ref (tbr t)), (1, .ref (obq (m.2 107) a + (3 + 1))), (2, .ref (obq (m.2 107) b + (4 + 1))), (4, .int (i32 v2))] rfl (fun _ => rfl) ?_
              refine T_iinc 119 [(4, .int (i32 (v2 + 1))), (3, .int (i32 z54)), (7, .long (i64 z33)), (5, .long (i64 x21)), (0, .ref (tbr t)), (1, .ref (obq (m.2 107) a + (3 + 1))), (2, .ref (obq (m.2 107) b + (4 + 1)))] rfl rfl (by decide) rfl rfl ?_
              refine T_goto 5 rfl (fun _ => rfl) ?_
              refine Tm_lv (a := [(0, .ref (tbr t)), (1, .ref (obq (m.2 107) a + (3 + 1))), (2, .ref (obq (m.2 107) b + (4 + 1))), (3, .int (i32 z54)), (4, .int (i32 (v2 + 1)))]) rfl rfl ⟨rfl, rfl, rfl, rfl, rfl, trivial⟩ ?_
              exact ih15 z54 (v2 + 1) (mO m3 [] [(103, upI (m3.2 103) (65536 * a + v2) z29), (104, upI (m3.2 104) (65536 * b + v2) z24)]) (r32 (by omega) (by omega)) (r32 (by omega) (by omega)) (KTy_mO Tm3 rfl rfl trivial ⟨G31, G26, trivial⟩) (fr_m (fr_s Fm3 (fr_m fr_0 rfl rfl) rfl rfl) rfl rfl) (show 0 ≤ z54 by omega) (show z54 ≤ 1 by omega) (show 0 ≤ (v2 + 1) by omega) (show 0 ≤ z54 ∧ z54 ≤ 1 by omega) (show 0 ≤ (v2 + 1) ∧ (v2 + 1) ≤ 4 by omega) (show 10 - (v2 + 1) < (n14 : Int) by omega)
        · skip
          refine T_ld 71 (.long (i64 z33)) rfl (fun _ => rfl) ?_
          refine T_ld 72 (.long (i64 0)) rfl (fun _ => rfl) ?_
          refine T_lcmp 73 rfl rfl (r64 (by omega) (by omega)) ⟨by decide, by decide⟩ (fun z56 h57 => ?_)
          obtain ⟨h57a, h57b, h57c, h57d, h57e⟩ := h57
          refine T_if 80 76 rfl rfl rfl (r32 (by omega) (by omega)) (fun (h58 : z56 ≠ 0) => ?_) (fun (h58 : ¬ (z56 ≠ 0)) => ?_)
          · skip
            have hl59 : z33 ≠ 0 := by omega
            refine T_ld 81 (.int (i32 0)) rfl (fun _ => rfl) ?_
            refine T_iand 82 rfl rfl (by decide) (by decide) (fun z60 h61 => ?_)
            refine T_sto 83 [(3, .int (i32 z60)), (7, .long (i64 z33)), (5, .long (i64 x21)), (0, .ref (tbr t)), (1, .ref (obq (m.2 107) a + (3 + 1))), (2, .ref (obq (m.2 107) b + (4 + 1))), (4, .int (i32 v2))] rfl (fun _ => rfl) ?_
            refine T_ld 84 (.int (i32 z60)) rfl (fun _ => rfl) ?_
            refine T_ld 85 (.ref (tbr t)) rfl (fun _ => rfl) ?_
            refine K_gfr 88 rfl rfl (by omega) (by omega) rfl ?_
            refine T_ld 90 (.int (i32 v2)) rfl (fun _ => rfl) ?_
            refine K_ialt 91 2 (m.2 81) rfl rfl rfl (by omega) (by omega) (by omega) (show v2 < (4 : Int) by omega) (show (m3.2 81) = (m.2 81) from (fr2 Fm3 81 rfl)) ?_
            have e62 : 0 ≤ m.2 81 (65536 * t + v2) ∧ m.2 81 (65536 * t + v2) ≤ 330 := hT.2.1 81 (65536 * t + v2)
            refine T_ld 94 (.int (i32 313)) rfl (fun _ => rfl) ?_
            refine T_icmp 109 97 rfl rfl rfl (r32 (by omega) (by omega)) ⟨by decide, by decide⟩ (fun (h63 : (m.2 81) (65536 * t + v2) ≠ 313) => ?_) (fun (h63 : ¬ ((m.2 81) (65536 * t + v2) ≠ 313)) => by exfalso; omega)
            refine T_ld 110 (.int (i32 1)) rfl (fun _ => rfl) ?_
            refine T_goto 114 rfl (fun _ => rfl) ?_
            refine T_iand 115 rfl rfl (by decide) (by decide) (fun z64 h65 => ?_)
            refine T_sto 116 [(3, .int (i32 z64)), (7, .long (i64 z33)), (5, .long (i64 x21)), (0, .ref (tbr t)), (1, .ref (obq (m.2 107) a + (3 + 1))), (2, .ref (obq (m.2 107) b + (4 + 1))), (4, .int (i32 v2))] rfl (fun _ => rfl) ?_
            refine T_iinc 119 [(4, .int (i32 (v2 + 1))), (3, .int (i32 z64)), (7, .long (i64 z33)), (5, .long (i64 x21)), (0, .ref (tbr t)), (1, .ref (obq (m.2 107) a + (3 + 1))), (2, .ref (obq (m.2 107) b + (4 + 1)))] rfl rfl (by decide) rfl rfl ?_
            refine T_goto 5 rfl (fun _ => rfl) ?_
            refine Tm_lv (a := [(0, .ref (tbr t)), (1, .ref (obq (m.2 107) a + (3 + 1))), (2, .ref (obq (m.2 107) b + (4 + 1))), (3, .int (i32 z64)), (4, .int (i32 (v2 + 1)))]) rfl rfl ⟨rfl, rfl, rfl, rfl, rfl, trivial⟩ ?_
            exact ih15 z64 (v2 + 1) (mO m3 [] [(103, upI (m3.2 103) (65536 * a + v2) z29), (104, upI (m3.2 104) (65536 * b + v2) z24)]) (r32 (by omega) (by omega)) (r32 (by omega) (by omega)) (KTy_mO Tm3 rfl rfl trivial ⟨G31, G26, trivial⟩) (fr_m (fr_s Fm3 (fr_m fr_0 rfl rfl) rfl rfl) rfl rfl) (show 0 ≤ z64 by omega) (show z64 ≤ 1 by omega) (show 0 ≤ (v2 + 1) by omega) (show 0 ≤ z64 ∧ z64 ≤ 1 by omega) (show 0 ≤ (v2 + 1) ∧ (v2 + 1) ≤ 4 by omega) (show 10 - (v2 + 1) < (n14 : Int) by omega)
          · skip
            have hl66 : z33 = 0 := by omega
            refine T_ld 77 (.int (i32 1)) rfl (fun _ => rfl) ?_
            refine T_goto 81 rfl (fun _ => rfl) ?_
            refine T_iand 82 rfl rfl (by decide) (by decide) (fun z67 h68 => ?_)
            refine T_sto 83 [(3, .int (i32 z67)), (7, .long (i64 z33)), (5, .long (i64 x21)), (0, .ref (tbr t)), (1, .ref (obq (m.2 107) a + (3 + 1))), (2, .ref (obq (m.2 107) b + (4 + 1))), (4, .int (i32 v2))] rfl (fun _ => rfl) ?_
            refine T_ld 84 (.int (i32 z67)) rfl (fun _ => rfl) ?_
            refine T_ld 85 (.ref (tbr t)) rfl (fun _ => rfl) ?_
            refine K_gfr 88 rfl rfl (by omega) (by omega) rfl ?_
            refine T_ld 90 (.int (i32 v2)) rfl (fun _ => rfl) ?_
            refine K_ialt 91 2 (m.2 81) rfl rfl rfl (by omega) (by omega) (by omega) (show v2 < (4 : Int) by omega) (show (m3.2 81) = (m.2 81) from (fr2 Fm3 81 rfl)) ?_
            have e69 : 0 ≤ m.2 81 (65536 * t + v2) ∧ m.2 81 (65536 * t + v2) ≤ 330 := hT.2.1 81 (65536 * t + v2)
            refine T_ld 94 (.int (i32 313)) rfl (fun _ => rfl) ?_
            refine T_icmp 109 97 rfl rfl rfl (r32 (by omega) (by omega)) ⟨by decide, by decide⟩ (fun (h70 : (m.2 81) (65536 * t + v2) ≠ 313) => ?_) (fun (h70 : ¬ ((m.2 81) (65536 * t + v2) ≠ 313)) => by exfalso; omega)
            refine T_ld 110 (.int (i32 1)) rfl (fun _ => rfl) ?_
            refine T_goto 114 rfl (fun _ => rfl) ?_
            refine T_iand 115 rfl rfl (by decide) (by decide) (fun z71 h72 => ?_)
            refine T_sto 116 [(3, .int (i32 z71)), (7, .long (i64 z33)), (5, .long (i64 x21)), (0, .ref (tbr t)), (1, .ref (obq (m.2 107) a + (3 + 1))), (2, .ref (obq (m.2 107) b + (4 + 1))), (4, .int (i32 v2))] rfl (fun _ => rfl) ?_
            refine T_iinc 119 [(4, .int (i32 (v2 + 1))), (3, .int (i32 z71)), (7, .long (i64 z33)), (5, .long (i64 x21)), (0, .ref (tbr t)), (1, .ref (obq (m.2 107) a + (3 + 1))), (2, .ref (obq (m.2 107) b + (4 + 1)))] rfl rfl (by decide) rfl rfl ?_
            refine T_goto 5 rfl (fun _ => rfl) ?_
            refine Tm_lv (a := [(0, .ref (tbr t)), (1, .ref (obq (m.2 107) a + (3 + 1))), (2, .ref (obq (m.2 107) b + (4 + 1))), (3, .int (i32 z71)), (4, .int (i32 (v2 + 1)))]) rfl rfl ⟨rfl, rfl, rfl, rfl, rfl, trivial⟩ ?_
            exact ih15 z71 (v2 + 1) (mO m3 [] [(103, upI (m3.2 103) (65536 * a + v2) z29), (104, upI (m3.2 104) (65536 * b + v2) z24)]) (r32 (by omega) (by omega)) (r32 (by omega) (by omega)) (KTy_mO Tm3 rfl rfl trivial ⟨G31, G26, trivial⟩) (fr_m (fr_s Fm3 (fr_m fr_0 rfl rfl) rfl rfl) rfl rfl) (show 0 ≤ z71 by omega) (show z71 ≤ 1 by omega) (show 0 ≤ (v2 + 1) by omega) (show 0 ≤ z71 ∧ z71 ≤ 1 by omega) (show 0 ≤ (v2 + 1) ∧ (v2 + 1) ≤ 4 by omega) (show 10 - (v2 + 1) < (n14 : Int) by omega)
  refine Tm_lv (a := [(0, .ref (tbr t)), (1, .ref (obq (m.2 107) a + (3 + 1))), (2, .ref (obq (m.2 107) b + (4 + 1))), (3, .int (i32 1)), (4, .int (i32 0))]) rfl rfl ⟨rfl, rfl, rfl, rfl, rfl, trivial⟩ ?_
  exact L5_4 ((10 - (0 : Int) : Int) + 1).toNat 1 0 (mO m [] []) ⟨by decide, by decide⟩ ⟨by decide, by decide⟩ hT (fr_m fr_0 rfl rfl) (show 0 ≤ (1 : Int) by omega) (show (1 : Int) ≤ 1 by omega) (show 0 ≤ (0 : Int) by omega) (show 0 ≤ (1 : Int) ∧ (1 : Int) ≤ 1 by omega) (show 0 ≤ (0 : Int) ∧ (0 : Int) ≤ 4 by omega) (show 10 - (0 : Int) < ((((10 - (0 : Int) : Int) + 1).toNat : Nat) : Int) by omega)
def Q_tb_same (m : mR) (c : Nat → Option am_C) (N : Nat) (t : Int) (a : Int) (b : Int) : ag_Re af_T → Prop := fun R => (∃ (r : Int), ((-1) ≤ r ∧ r ≤ 71) ∧ (r < (m.2 78) t) ∧ R = (.inl (some (.int (i32 r))), (khp m c, N), 0, 0))
set_option maxHeartbeats 3000000 in
theorem c_tb_same (w : wX) (m : mR) (c : Nat → Option am_C) (N D : Nat) (hD : 1 ≤ D) (hT : KTy m) (t : Int) (a : Int) (b : Int) (qt : R32 t) (qa : R32 a) (qb : R32 b) (p0 : 0 ≤ t ∧ t ≤ 7) (pOKa : OKr m a) (pOKb : OKr m b) : TC w D 189 [.ref (tbr t), .ref (obq (m.2 107) a + (3 + 1)), .ref (obq (m.2 107) b + (4 + 1))] (khp m c, N) (Q_tb_same m c N t a b) := by
  obtain ⟨D, rfl⟩ : ∃ k, D = k + 1 := ⟨D - 1, by omega⟩
  obtain ⟨qta, qtb⟩ := id qt
  obtain ⟨qaa, qab⟩ := id qa
  obtain ⟨qba, qbb⟩ := id qb
  refine Tc_of rfl ?_
  rw [show (khp m c, N) = (khp (mO m [] []) c, N) from by rw [mO_nil m]]
  show TT w D pm_189 (0, [(0, .ref (tbr t)), (1, .ref (obq (m.2 107) a + (3 + 1))), (2, .ref (obq (m.2 107) b + (4 + 1)))], [], (khp (mO m [] []) c, N), 0, 0) (Q_tb_same m c N t a b)
  refine T_ld 1 (.int (i32 0)) rfl (fun _ => rfl) ?_
  refine T_sto 2 [(3, .int (i32 0)), (0, .ref (tbr t)), (1, .ref (obq (m.2 107) a + (3 + 1))), (2, .ref (obq (m.2 107) b + (4 + 1)))] rfl (fun _ => rfl) ?_
  have L2_2 : ∀ (n7 : Nat) (v1 : Int), (R32 v1) → (0 ≤ v1) → (0 ≤ v1 ∧ v1 ≤ 72) → 80 - v1 < (n7 : Int) → TT w D pm_189 (2, [(0, .ref (tbr t)), (1, .ref (obq (m.2 107) a + (3 + 1))), (2, .ref (obq (m.2 107) b + (4 + 1))), (3, .int (i32 v1))], [], (khp (mO m [] []) c, N), 0, 0) (Q_tb_same m c N t a b) := by
    intro n7
    induction n7 with
    | zero =>
      intro v1 q5 ic3 ic4 hmu
      obtain ⟨q5a, q5b⟩ := id q5
      exfalso
      omega
    | succ n7 ih =>
      intro v1 q5 ic3 ic4 hmu
      obtain ⟨q5a, q5b⟩ := id q5
      have ih8 := ih
      refine T_ld 3 (.int (i32 v1)) rfl (fun _ => rfl) ?_
      refine T_ld 4 (.ref (tbr t)) rfl (fun _ => rfl) ?_
      refine K_gfi 7 78 (m.2 78) rfl rfl (by omega) (by omega) rfl rfl ?_
      have e9 : 0 ≤ m.2 78 t ∧ m.2 78 t ≤ 72 := hT.2.1 78 t
      refine T_icmp 92 10 rfl rfl rfl (r32 (by omega) (by omega)) (r32 (by omega) (by omega)) (fun (h10 : (m.2 78) t ≤ v1) => ?_) (fun (h10 : ¬ ((m.2 78) t ≤ v1)) => ?_)
      · skip
        refine T_ld 93 (.int (i32 (-1))) rfl (fun _ => rfl) ?_
        refine T_ret rfl (fun _ => rfl) ?_
        exact ⟨(-1), ⟨by omega, by omega⟩, (show (-1 : Int) < (m.2 78) t by omega), rfl⟩
      · skip
        refine T_ld 11 (.int (i32 1)) rfl (fun _ => rfl) ?_
        refine T_sto 13 [(4, .int (i32 1)), (0, .ref (tbr t)), (1, .ref (obq (m.2 107) a + (3 + 1))), (2, .ref (obq (m.2 107) b + (4 + 1))), (3, .int (i32 v1))] rfl (fun _ => rfl) ?_
        refine T_ld 14 (.int (i32 0)) rfl (fun _ => rfl) ?_
        refine T_sto 16 [(5, .int (i32 0)), (4, .int (i32 1)), (0, .ref (tbr t)), (1, .ref (obq (m.2 107) a + (3 + 1))), (2, .ref (obq (m.2 107) b + (4 + 1))), (3, .int (i32 v1))] rfl (fun _ => rfl) ?_
        have L16_13 : ∀ (n22 : Nat) (v11 : Int) (v12 : Int), (R32 v11) → (R32 v12) → (0 ≤ v11) → (v11 ≤ 1) → (0 ≤ v12) → (0 ≤ v11 ∧ v11 ≤ 1) → (0 ≤ v12 ∧ v12 ≤ 4) → 10 - v12 < (n22 : Int) → TT w D pm_189 (16, [(0, .ref (tbr t)), (1, .ref (obq (m.2 107) a + (3 + 1))), (2, .ref (obq (m.2 107) b + (4 + 1))), (3, .int (i32 v1)), (4, .int (i32 v11)), (5, .int (i32 v12))], [], (khp (mO m [] []) c, N), 0, 0) (Q_tb_same m c N t a b) := by
          intro n22
          induction n22 with
          | zero =>
            intro v11 v12 q19 q20 ic14 ic15 ic16 ic17 ic18 hmu
            obtain ⟨q19a, q19b⟩ := id q19
            obtain ⟨q20a, q20b⟩ := id q20
            exfalso
            omega
          | succ n22 ih =>
            intro v11 v12 q19 q20 ic14 ic15 ic16 ic17 ic18 hmu
            obtain ⟨q19a, q19b⟩ := id q19
            obtain ⟨q20a, q20b⟩ := id q20
            have ih23 := ih
            refine T_ld 18 (.int (i32 v12)) rfl (fun _ => rfl) ?_
            refine T_ld 19 (.ref (tbr t)) rfl (fun _ => rfl) ?_
            refine K_gfi 22 72 (m.2 72) rfl rfl (by omega) (by omega) rfl rfl ?_
            have e24 : 0 ≤ m.2 72 t ∧ m.2 72 t ≤ 4 := hT.2.1 72 t
            refine T_icmp 79 25 rfl rfl rfl (r32 (by omega) (by omega)) (r32 (by omega) (by omega)) (fun (h25 : (m.2 72) t ≤ v12) => ?_) (fun (h25 : ¬ ((m.2 72) t ≤ v12)) => ?_)
            · skip
              refine T_ld 81 (.int (i32 v11)) rfl (fun _ => rfl) ?_
              refine T_if 86 84 rfl rfl rfl (r32 (by omega) (by omega)) (fun (h26 : v11 = 0) => ?_) (fun (h26 : ¬ (v11 = 0)) => ?_)
              · skip
                refine T_iinc 89 [(3, .int (i32 (v1 + 1))), (0, .ref (tbr t)), (1, .ref (obq (m.2 107) a + (3 + 1))), (2, .ref (obq (m.2 107) b + (4 + 1))), (4, .int (i32 v11)), (5, .int (i32 v12))] rfl rfl (by decide) rfl rfl ?_
                refine T_goto 2 rfl (fun _ => rfl) ?_
                refine Tm_lv (a := [(0, .ref (tbr t)), (1, .ref (obq (m.2 107) a + (3 + 1))), (2, .ref (obq (m.2 107) b + (4 + 1))), (3, .int (i32 (v1 + 1)))]) rfl rfl ⟨rfl, rfl, rfl, rfl, trivial⟩ ?_
                exact ih8 (v1 + 1) (r32 (by omega) (by omega)) (show 0 ≤ (v1 + 1) by omega) (show 0 ≤ (v1 + 1) ∧ (v1 + 1) ≤ 72 by omega) (show 80 - (v1 + 1) < (n7 : Int) by omega)
              · skip
                refine T_ld 85 (.int (i32 v1)) rfl (fun _ => rfl) ?_
                refine T_ret rfl (fun _ => rfl) ?_
                exact ⟨v1, ⟨by omega, by omega⟩, (show v1 < (m.2 78) t by omega), rfl⟩
            · skip
              refine T_ld 27 (.int (i32 v11)) rfl (fun _ => rfl) ?_
              refine T_ld 28 (.ref (tbr t)) rfl (fun _ => rfl) ?_
              refine K_gfr 31 rfl rfl (by omega) (by omega) rfl ?_
              refine T_ld 32 (.int (i32 v1)) rfl (fun _ => rfl) ?_
              refine T_ld 33 (.int (i32 4)) rfl (fun _ => rfl) ?_
              refine T_imul 34 rfl rfl ?_
              refine T_ld 36 (.int (i32 v12)) rfl (fun _ => rfl) ?_
              refine T_iadd 37 rfl rfl ?_
              refine K_lalt 38 6 (m.2 85) rfl rfl rfl (by omega) (by omega) (by omega) (show ((v1 * 4) + v12) < (288 : Int) by omega) rfl ?_
              have e27 : (-9223372036854775808) ≤ m.2 85 (65536 * t + ((v1 * 4) + v12)) ∧ m.2 85 (65536 * t + ((v1 * 4) + v12)) ≤ 9223372036854775807 := hT.2.1 85 (65536 * t + ((v1 * 4) + v12))
              refine T_ld 39 (.ref (obq (m.2 107) a + (3 + 1))) rfl (fun _ => rfl) ?_
              refine T_ld 41 (.int (i32 v12)) rfl (fun _ => rfl) ?_
              refine K_lalo 42 3 (m.2 103) rfl rfl rfl pOKa rfl (by omega) (show v12 < (4 : Int) by omega) rfl ?_
              have e28 : (-9223372036854775808) ≤ m.2 103 (65536 * a + v12) ∧ m.2 103 (65536 * a + v12) ≤ 9223372036854775807 := hT.2.1 103 (65536 * a + v12)
              refine T_lcmp 43 rfl rfl (r64 (by omega) (by omega)) (r64 (by omega) (by omega)) (fun z29 h30 => ?_)
              obtain ⟨h30a, h30b, h30c, h30d, h30e⟩ := h30
              refine T_if 69 46 rfl rfl rfl (r32 (by omega) (by omega)) (fun (h31 : z29 ≠ 0) => ?_) (fun (h31 : ¬ (z29 ≠ 0)) => ?_)
              · skip
                have hl32 : (m.2 85) (65536 * t + ((v1 * 4) + v12)) ≠ (m.2 103) (65536 * a + v12) := by omega
                refine T_ld 70 (.int (i32 0)) rfl (fun _ => rfl) ?_
                refine T_iand 71 rfl rfl (by decide) (by decide) (fun z33 h34 => ?_)
                refine T_sto 73 [(4, .int (i32 z33)), (0, .ref (tbr t)), (1, .ref (obq (m.2 107) a + (3 + 1))), (2, .ref (obq (m.2 107) b + (4 + 1))), (3, .int (i32 v1)), (5, .int (i32 v12))] rfl (fun _ => rfl) ?_
                refine T_iinc 76 [(5, .int (i32 (v12 + 1))), (4, .int (i32 z33)), (0, .ref (tbr t)), (1, .ref (obq (m.2 107) a + (3 + 1))), (2, .ref (obq (m.2 107) b + (4 + 1))), (3, .int (i32 v1))] rfl rfl (by decide) rfl rfl ?_
                refine T_goto 16 rfl (fun _ => rfl) ?_
                refine Tm_lv (a := [(0, .ref (tbr t)), (1, .ref (obq (m.2 107) a + (3 + 1))), (2, .ref (obq (m.2 107) b + (4 + 1))), (3, .int (i32 v1)), (4, .int (i32 z33)), (5, .int (i32 (v12 + 1)))]) rfl rfl ⟨rfl, rfl, rfl, rfl, rfl, rfl, trivial⟩ ?_
                exact ih23 z33 (v12 + 1) (r32 (by omega) (by omega)) (r32 (by omega) (by omega)) (show 0 ≤ z33 by omega) (show z33 ≤ 1 by omega) (show 0 ≤ (v12 + 1) by omega) (show 0 ≤ z33 ∧ z33 ≤ 1 by omega) (show 0 ≤ (v12 + 1) ∧ (v12 + 1) ≤ 4 by omega) (show 10 - (v12 + 1) < (n22 : Int) by omega)
              · skip
                have hl35 : (m.2 85) (65536 * t + ((v1 * 4) + v12)) = (m.2 103) (65536 * a + v12) := by omega
                refine T_ld 47 (.ref (tbr t)) rfl (fun _ => rfl) ?_
                refine K_gfr 50 rfl rfl (by omega) (by omega) rfl ?_
                refine T_ld 51 (.int (i32 v1)) rfl (fun _ => rfl) ?_
                refine T_ld 52 (.int (i32 4)) rfl (fun _ => rfl) ?_
                refine T_imul 53 rfl rfl ?_
                refine T_ld 55 (.int (i32 v12)) rfl (fun _ => rfl) ?_
                refine T_iadd 56 rfl rfl ?_
                refine K_lalt 57 7 (m.2 86) rfl rfl rfl (by omega) (by omega) (by omega) (show ((v1 * 4) + v12) < (288 : Int) by omega) rfl ?_
                have e36 : (-9223372036854775808) ≤ m.2 86 (65536 * t + ((v1 * 4) + v12)) ∧ m.2 86 (65536 * t + ((v1 * 4) + v12)) ≤ 9223372036854775807 := hT.2.1 86 (65536 * t + ((v1 * 4) + v12))
                refine T_ld 58 (.ref (obq (m.2 107) b + (4 + 1))) rfl (fun _ => rfl) ?_
                refine T_ld 60 (.int (i32 v12)) rfl (fun _ => rfl) ?_
                refine K_lalo 61 4 (m.2 104) rfl rfl rfl pOKb rfl (by omega) (show v12 < (4 : Int) by omega) rfl ?_
                have e37 : (-9223372036854775808) ≤ m.2 104 (65536 * b + v12) ∧ m.2 104 (65536 * b + v12) ≤ 9223372036854775807 := hT.2.1 104 (65536 * b + v12)
                refine T_lcmp 62 rfl rfl (r64 (by omega) (by omega)) (r64 (by omega) (by omega)) (fun z38 h39 => ?_)
                obtain ⟨h39a, h39b, h39c, h39d, h39e⟩ := h39
                refine T_if 69 65 rfl rfl rfl (r32 (by omega) (by omega)) (fun (h40 : z38 ≠ 0) => ?_) (fun (h40 : ¬ (z38 ≠ 0)) => ?_)
                · skip
                  have hl41 : (m.2 86) (65536 * t + ((v1 * 4) + v12)) ≠ (m.2 104) (65536 * b + v12) := by omega
                  refine T_ld 70 (.int (i32 0)) rfl (fun _ => rfl) ?_
                  refine T_iand 71 rfl rfl (by decide) (by decide) (fun z42 h43 => ?_)
                  refine T_sto 73 [(4, .int (i32 z42)), (0, .ref (tbr t)), (1, .ref (obq (m.2 107) a + (3 + 1))), (2, .ref (obq (m.2 107) b + (4 + 1))), (3, .int (i32 v1)), (5, .int (i32 v12))] rfl (fun _ => rfl) ?_
                  refine T_iinc 76 [(5, .int (i32 (v12 + 1))), (4, .int (i32 z42)), (0, .ref (tbr t)), (1, .ref (obq (m.2 107) a + (3 + 1))), (2, .ref (obq (m.2 107) b + (4 + 1))), (3, .int (i32 v1))] rfl rfl (by decide) rfl rfl ?_
                  refine T_goto 16 rfl (fun _ => rfl) ?_
                  refine Tm_lv (a := [(0, .ref (tbr t)), (1, .ref (obq (m.2 107) a + (3 + 1))), (2, .ref (obq (m.2 107) b + (4 + 1))), (3, .int (i32 v1)), (4, .int (i32 z42)), (5, .int (i32 (v12 + 1)))]) rfl rfl ⟨rfl, rfl, rfl, rfl, rfl, rfl, trivial⟩ ?_
                  exact ih23 z42 (v12 + 1) (r32 (by omega) (by omega)) (r32 (by omega) (by omega)) (show 0 ≤ z42 by omega) (show z42 ≤ 1 by omega) (show 0 ≤ (v12 + 1) by omega) (show 0 ≤ z42 ∧ z42 ≤ 1 by omega) (show 0 ≤ (v12 + 1) ∧ (v12 + 1) ≤ 4 by omega) (show 10 - (v12 + 1) < (n22 : Int) by omega)
                · skip
                  have hl44 : (m.2 86) (65536 * t + ((v1 * 4) + v12)) = (m.2 104) (65536 * b + v12) := by omega
                  refine T_ld 66 (.int (i32 1)) rfl (fun _ => rfl) ?_
                  refine T_goto 70 rfl (fun _ => rfl) ?_
                  refine T_iand 71 rfl rfl (by decide) (by decide) (fun z45 h46 => ?_)
                  refine T_sto 73 [(4, .int (i32 z45)), (0, .ref (tbr t)), (1, .ref (obq (m.2 107) a + (3 + 1))), (2, .ref (obq (m.2 107) b + (4 + 1))), (3, .int (i32 v1)), (5, .int (i32 v12))] rfl (fun _ => rfl) ?_
                  refine T_iinc 76 [(5, .int (i32 (v12 + 1))), (4, .int (i32 z45)), (0, .ref (tbr t)), (1, .ref (obq (m.2 107) a + (3 + 1))), (2, .ref (obq (m.2 107) b + (4 + 1))), (3, .int (i32 v1))] rfl rfl (by decide) rfl rfl ?_
                  refine T_goto 16 rfl (fun _ => rfl) ?_
                  refine Tm_lv (a := [(0, .ref (tbr t)), (1, .ref (obq (m.2 107) a + (3 + 1))), (2, .ref (obq (m.2 107) b + (4 + 1))), (3, .int (i32 v1)), (4, .int (i32 z45)), (5, .int (i32 (v12 + 1)))]) rfl rfl ⟨rfl, rfl, rfl, rfl, rfl, rfl, trivial⟩ ?_
                  exact ih23 z45 (v12 + 1) (r32 (by omega) (by omega)) (r32 (by omega) (by omega)) (show 0 ≤ z45 by omega) (show z45 ≤ 1 by omega) (show 0 ≤ (v12 + 1) by omega) (show 0 ≤ z45 ∧ z45 ≤ 1 by omega) (show 0 ≤ (v12 + 1) ∧ (v12 + 1) ≤ 4 by omega) (show 10 - (v12 + 1) < (n22 : Int) by omega)
        refine Tm_lv (a := [(0, .ref (tbr t)), (1, .ref (obq (m.2 107) a + (3 + 1))), (2, .ref (obq (m.2 107) b + (4 + 1))), (3, .int (i32 v1)), (4, .int (i32 1)), (5, .int (i32 0))]) rfl rfl ⟨rfl, rfl, rfl, rfl, rfl, rfl, trivial⟩ ?_
        exact L16_13 ((10 - (0 : Int) : Int) + 1).toNat 1 0 ⟨by decide, by decide⟩ ⟨by decide, by decide⟩ (show 0 ≤ (1 : Int) by omega) (show (1 : Int) ≤ 1 by omega) (show 0 ≤ (0 : Int) by omega) (show 0 ≤ (1 : Int) ∧ (1 : Int) ≤ 1 by omega) (show 0 ≤ (0 : Int) ∧ (0 : Int) ≤ 4 by omega) (show 10 - (0 : Int) < ((((10 - (0 : Int) : Int) + 1).toNat : Nat) : Int) by omega)
  refine Tm_lv (a := [(0, .ref (tbr t)), (1, .ref (obq (m.2 107) a + (3 + 1))), (2, .ref (obq (m.2 107) b + (4 + 1))), (3, .int (i32 0))]) rfl rfl ⟨rfl, rfl, rfl, rfl, trivial⟩ ?_
  exact L2_2 ((80 - (0 : Int) : Int) + 1).toNat 0 ⟨by decide, by decide⟩ (show 0 ≤ (0 : Int) by omega) (show 0 ≤ (0 : Int) ∧ (0 : Int) ≤ 72 by omega) (show 80 - (0 : Int) < ((((80 - (0 : Int) : Int) + 1).toNat : Nat) : Int) by omega)
def fF_tb_append : List Nat := []
def fA_tb_append : List Nat := [78, 85, 86, 88, 90]
def Q_tb_append (m : mR) (c : Nat → Option am_C) (N : Nat) (t : Int) (x : Int) : ag_Re af_T → Prop := fun R => (∃ (M : mR) (r : Int), KTy M ∧ fr fF_tb_append fA_tb_append m M ∧ (0 ≤ r ∧ r ≤ 1) ∧ (∀ v, (M.2 78) v = (m.2 78) v ∨ (v = t ∧ r = 1 ∧ (M.2 78) v = (m.2 78) v + 1)) ∧ (r = 1 → (M.2 78) t = (m.2 78) t + 1) ∧ R = (.inl (some (.int (i32 r))), (khp M c, N), 0, 0))
set_option maxHeartbeats 3000000 in
theorem c_tb_append (w : wX) (m : mR) (c : Nat → Option am_C) (N D : Nat) (hD : 3 ≤ D) (hT : KTy m) (t : Int) (x : Int) (qt : R32 t) (qx : R32 x) (p0 : 0 ≤ t ∧ t ≤ 7) (pOKx : OKr m x) : TC w D 191 [.ref (tbr t), .ref (obq (m.2 107) x)] (khp m c, N) (Q_tb_append m c N t x) := by
  obtain ⟨D, rfl⟩ : ∃ k, D = k + 1 := ⟨D - 1, by omega⟩
  obtain ⟨qta, qtb⟩ := id qt
  obtain ⟨qxa, qxb⟩ := id qx
  refine Tc_of rfl ?_
  rw [show (khp m c, N) = (khp (mO m [] []) c, N) from by rw [mO_nil m]]
  show TT w D pm_191 (0, [(0, .ref (tbr t)), (1, .ref (obq (m.2 107) x))], [], (khp (mO m [] []) c, N), 0, 0) (Q_tb_append m c N t x)
  refine T_ld 1 (.ref (tbr t)) rfl (fun _ => rfl) ?_
  refine K_gfi 4 78 (m.2 78) rfl rfl (by omega) (by omega) rfl rfl ?_
  have e1 : 0 ≤ (m.2 78) t ∧ (m.2 78) t ≤ 72 := (hT.2.1 78) t
  refine T_ld 6 (.int (i32 72)) rfl (fun _ => rfl) ?_
  refine T_icmp 11 9 rfl rfl rfl (r32 (by omega) (by omega)) ⟨by decide, by decide⟩ (fun (h2 : (m.2 78) t < 72) => ?_) (fun (h2 : ¬ ((m.2 78) t < 72)) => ?_)
  · skip
    refine T_ld 12 (.int (i32 0)) rfl (fun _ => rfl) ?_
    refine T_sto 13 [(2, .int (i32 0)), (0, .ref (tbr t)), (1, .ref (obq (m.2 107) x))] rfl (fun _ => rfl) ?_
    have L13_5 : ∀ (n11 : Nat) (v3 : Int) (m4 : mR), (R32 v3) → KTy m4 → fr [] [85, 86] (mO m [] []) m4 → (0 ≤ v3) → (0 ≤ v3 ∧ v3 ≤ 4) → 10 - v3 < (n11 : Int) → TT w D pm_191 (13, [(0, .ref (tbr t)), (1, .ref (obq (m.2 107) x)), (2, .int (i32 v3))], [], (khp (mO m4 [] []) c, N), 0, 0) (Q_tb_append m c N t x) := by
      intro n11
      induction n11 with
      | zero =>
        intro v3 m4 q8 Tm4 Fm4 ic6 ic7 hmu
        obtain ⟨q8a, q8b⟩ := id q8
        exfalso
        omega
      | succ n11 ih =>
        intro v3 m4 q8 Tm4 Fm4 ic6 ic7 hmu
        obtain ⟨q8a, q8b⟩ := id q8
        have ih12 := ih
        refine T_ld 14 (.int (i32 v3)) rfl (fun _ => rfl) ?_
        refine T_ld 15 (.ref (tbr t)) rfl (fun _ => rfl) ?_
        refine K_gfi 18 72 (m.2 72) rfl rfl (by omega) (by omega) (show (m4.2 72) = (m.2 72) from (fr2 Fm4 72 rfl)) rfl ?_
        have e13 : 0 ≤ m.2 72 t ∧ m.2 72 t ≤ 4 := hT.2.1 72 t
        refine T_icmp 65 21 rfl rfl rfl (r32 (by omega) (by omega)) (r32 (by omega) (by omega)) (fun (h14 : (m.2 72) t ≤ v3) => ?_) (fun (h14 : ¬ ((m.2 72) t ≤ v3)) => ?_)
        · skip
          refine T_ld 66 (.ref (tbr t)) rfl (fun _ => rfl) ?_
          refine K_gfr 69 rfl rfl (by omega) (by omega) rfl ?_
          refine T_ld 70 (.ref (tbr t)) rfl (fun _ => rfl) ?_
          refine K_gfi 73 78 (m.2 78) rfl rfl (by omega) (by omega) (show (m4.2 78) = (m.2 78) from (fr2 Fm4 78 rfl)) rfl ?_
          have e15 : 0 ≤ (m.2 78) t ∧ (m.2 78) t ≤ 72 := (hT.2.1 78) t
          refine T_ld 74 (.ref (obq (m.2 107) x)) rfl (fun _ => rfl) ?_
          refine K_goi 77 96 (m.2 96) rfl rfl (OKr_c (show (m4.2 107) = (m.2 107) from (fr2 Fm4 107 rfl)) (show (m4.2 108) = (m.2 108) from (fr2 Fm4 108 rfl)) pOKx) (congrArg (fun f : Int → Int => (f x).toNat) (show (m4.2 107) = (m.2 107) from (fr2 Fm4 107 rfl))) (show (m4.2 96) = (m.2 96) from (fr2 Fm4 96 rfl)) rfl ?_
          have e16 : (-2147483648) ≤ m.2 96 x ∧ m.2 96 x ≤ 2147483647 := hT.2.1 96 x
          have G17 : ∀ j, (-2147483648) ≤ (upI (m.2 88) (65536 * t + ((m.2 78) t)) ((m.2 96) x)) j ∧ (upI (m.2 88) (65536 * t + ((m.2 78) t)) ((m.2 96) x)) j ≤ 2147483647 := upI_rg (hT.2.1 88) ⟨by omega, by omega⟩
          refine K_iastt (a' := [(88, upI (m.2 88) (65536 * t + ((m.2 78) t)) ((m.2 96) x))]) 78 9 (m.2 88) rfl rfl rfl (by omega) (by omega) (by omega) (show ((m.2 78) t) < (72 : Int) by omega) (show (m4.2 88) = (m.2 88) from (fr2 Fm4 88 rfl)) rfl ?_
          refine T_ld 79 (.ref (tbr t)) rfl (fun _ => rfl) ?_
          refine T_callx 82 135 [.ref (tbr t)] [] rfl (inv_vt (args := []) (khp_t0 _ (by omega) (by omega)) rfl rfl rfl) rfl rfl (c_tb_isHashed w (mO m4 [] [(88, upI (m.2 88) (65536 * t + ((m.2 78) t)) ((m.2 96) x))]) c N D (by omega) (KTy_mO Tm4 rfl rfl trivial ⟨G17, trivial⟩) t (r32 (by omega) (by omega)) (show 0 ≤ t ∧ t ≤ 7 by omega)) (fun rr18 k19 => ?_)
          obtain ⟨x20, g21, rfl⟩ := k19
          refine Or.inl ⟨_, _, _, _, rfl, ?_⟩
          refine T_ns (st' := [.int (i32 x20)]) rfl ?_
          obtain ⟨g21a, g21b⟩ := g21
          refine T_if 110 85 rfl rfl rfl (r32 (by omega) (by omega)) (fun (h22 : x20 = 0) => ?_) (fun (h22 : ¬ (x20 = 0)) => ?_)
          · skip
            refine T_ld 111 (.ref (tbr t)) rfl (fun _ => rfl) ?_
            refine K_gfi 114 78 (m.2 78) rfl rfl (by omega) (by omega) (show (m4.2 78) = (m.2 78) from (fr2 Fm4 78 rfl)) rfl ?_
            have e23 : 0 ≤ (m.2 78) t ∧ (m.2 78) t ≤ 72 := (hT.2.1 78) t
            refine T_ld 115 (.ref (tbr t)) rfl (fun _ => rfl) ?_
            refine K_gfi 118 75 (m.2 75) rfl rfl (by omega) (by omega) (show (m4.2 75) = (m.2 75) from (fr2 Fm4 75 rfl)) rfl ?_
            have e24 : 0 ≤ m.2 75 t ∧ m.2 75 t ≤ 32 := hT.2.1 75 t
            refine T_icmp 125 121 rfl rfl rfl (r32 (by omega) (by omega)) (r32 (by omega) (by omega)) (fun (h25 : (m.2 78) t < (m.2 75) t) => ?_) (fun (h25 : ¬ ((m.2 78) t < (m.2 75) t)) => ?_)
            · skip
              refine T_ld 126 (.int (i32 0)) rfl (fun _ => rfl) ?_
              refine T_sto 127 [(2, .int (i32 0)), (0, .ref (tbr t)), (1, .ref (obq (m.2 107) x))] rfl (fun _ => rfl) ?_
              refine T_ld 128 (.ref (tbr t)) rfl (fun _ => rfl) ?_
              refine T_ld 129 (.ref (tbr t)) rfl (fun _ => rfl) ?_
              refine K_gfi 132 78 (m.2 78) rfl rfl (by omega) (by omega) (show (m4.2 78) = (m.2 78) from (fr2 Fm4 78 rfl)) rfl ?_
              have e26 : 0 ≤ (m.2 78) t ∧ (m.2 78) t ≤ 72 := (hT.2.1 78) t
              refine T_ld 133 (.int (i32 0)) rfl (fun _ => rfl) ?_
              refine T_if 140 136 rfl rfl rfl ⟨by decide, by decide⟩ (fun _ => ?_) (fun h27 => absurd (show (0 : Int) = 0 by decide) h27)
              refine T_ld 141 (.int (i32 1)) rfl (fun _ => rfl) ?_
              refine T_iadd 142 rfl rfl ?_
              have G28 : ∀ j, 0 ≤ (upI (m.2 78) t (((m.2 78) t) + 1)) j ∧ (upI (m.2 78) t (((m.2 78) t) + 1)) j ≤ 72 := upI_rg (hT.2.1 78) ⟨by omega, by omega⟩
              refine K_pfi (a' := [(78, upI (m.2 78) t (((m.2 78) t) + 1)), (88, upI (m.2 88) (65536 * t + ((m.2 78) t)) ((m.2 96) x))]) 145 78 (m.2 78) rfl rfl rfl (by omega) (by omega) (show (m4.2 78) = (m.2 78) from (fr2 Fm4 78 rfl)) rfl rfl ?_
              refine T_ld 146 (.int (i32 0)) rfl (fun _ => rfl) ?_
              refine T_if 153 149 rfl rfl rfl ⟨by decide, by decide⟩ (fun h29 => absurd (show (0 : Int) ≠ 0 from h29) (by decide)) (fun _ => ?_)
              refine T_ld 150 (.int (i32 1)) rfl (fun _ => rfl) ?_
              refine T_goto 154 rfl (fun _ => rfl) ?_
              refine T_ret rfl (fun _ => rfl) ?_
              exact ⟨(mO m4 [] [(78, upI (m.2 78) t (((m.2 78) t) + 1)), (88, upI (m.2 88) (65536 * t + ((m.2 78) t)) ((m.2 96) x))]), 1, (KTy_mO Tm4 rfl rfl trivial ⟨G28, G17, trivial⟩), (fr_m (fr_s Fm4 (fr_m fr_0 rfl rfl) rfl rfl) rfl rfl), ⟨by omega, by omega⟩, (show ∀ v, (upI (m.2 78) t (((m.2 78) t) + 1)) v = (m.2 78) v ∨ (v = t ∧ (1 : Int) = 1 ∧ (upI (m.2 78) t (((m.2 78) t) + 1)) v = (m.2 78) v + 1) by first | (intro v; first | exact Or.inl rfl | (by_cases e : v = t; (rw [e, upI_s]; omega); (rw [upI_n e]; exact Or.inl rfl))) | (exfalso; omega)), (show (1 : Int) = 1 → (upI (m.2 78) t (((m.2 78) t) + 1)) t = (m.2 78) t + 1 by first | (first | (intro h9; omega) | (intro _; exact upI_s) | (intro h9; rw [upI_s]; omega)) | (exfalso; omega)), rfl⟩
            · skip
              refine T_ld 122 (.int (i32 1)) rfl (fun _ => rfl) ?_
              refine T_goto 126 rfl (fun _ => rfl) ?_
              refine T_sto 127 [(2, .int (i32 1)), (0, .ref (tbr t)), (1, .ref (obq (m.2 107) x))] rfl (fun _ => rfl) ?_
              refine T_ld 128 (.ref (tbr t)) rfl (fun _ => rfl) ?_
              refine T_ld 129 (.ref (tbr t)) rfl (fun _ => rfl) ?_
              refine K_gfi 132 78 (m.2 78) rfl rfl (by omega) (by omega) (show (m4.2 78) = (m.2 78) from (fr2 Fm4 78 rfl)) rfl ?_
              have e30 : 0 ≤ (m.2 78) t ∧ (m.2 78) t ≤ 72 := (hT.2.1 78) t
              refine T_ld 133 (.int (i32 1)) rfl (fun _ => rfl) ?_
              refine T_if 140 136 rfl rfl rfl ⟨by decide, by decide⟩ (fun h31 => absurd (show (1 : Int) = 0 from h31) (by decide)) (fun _ => ?_)
              refine T_ld 137 (.int (i32 0)) rfl (fun _ => rfl) ?_
              refine T_goto 141 rfl (fun _ => rfl) ?_
              refine T_iadd 142 rfl rfl ?_
              have G32 : ∀ j, 0 ≤ (upI (m.2 78) t (((m.2 78) t) + 0)) j ∧ (upI (m.2 78) t (((m.2 78) t) + 0)) j ≤ 72 := upI_rg (hT.2.1 78) ⟨by omega, by omega⟩
              refine K_pfi (a' := [(78, upI (m.2 78) t (((m.2 78) t) + 0)), (88, upI (m.2 88) (65536 * t + ((m.2 78) t)) ((m.2 96) x))]) 145 78 (m.2 78) rfl rfl rfl (by omega) (by omega) (show (m4.2 78) = (m.2 78) from (fr2 Fm4 78 rfl)) rfl rfl ?_
              refine T_ld 146 (.int (i32 1)) rfl (fun _ => rfl) ?_
              refine T_if 153 149 rfl rfl rfl ⟨by decide, by decide⟩ (fun _ => ?_) (fun h33 => absurd (show (1 : Int) ≠ 0 by decide) h33)
              refine T_ld 154 (.int (i32 0)) rfl (fun _ => rfl) ?_
              refine T_ret rfl (fun _ => rfl) ?_
              exact ⟨(mO m4 [] [(78, upI (m.2 78) t (((m.2 78) t) + 0)), (88, upI (m.2 88) (65536 * t + ((m.2 78) t)) ((m.2 96) x))]), 0, (KTy_mO Tm4 rfl rfl trivial ⟨G32, G17, trivial⟩), (fr_m (fr_s Fm4 (fr_m fr_0 rfl rfl) rfl rfl) rfl rfl), ⟨by omega, by omega⟩, (show ∀ v, (upI (m.2 78) t (((m.2 78) t) + 0)) v = (m.2 78) v ∨ (v = t ∧ (0 : Int) = 1 ∧ (upI (m.2 78) t (((m.2 78) t) + 0)) v = (m.2 78) v + 1) by first | (intro v; first | exact Or.inl rfl | (by_cases e : v = t; (rw [e, upI_s]; omega); (rw [upI_n e]; exact Or.inl rfl))) | (exfalso; omega)), (show (0 : Int) = 1 → (upI (m.2 78) t (((m.2 78) t) + 0)) t = (m.2 78) t + 1 by first | (first | (intro h9; omega) | (intro _; exact upI_s) | (intro h9; rw [upI_s]; omega)) | (exfalso; omega)), rfl⟩
          · skip
            refine T_ld 86 (.ref (tbr t)) rfl (fun _ => rfl) ?_
            refine T_ld 87 (.ref (tbr t)) rfl (fun _ => rfl) ?_
            refine K_gfi 90 78 (m.2 78) rfl rfl (by omega) (by omega) (show (m4.2 78) = (m.2 78) from (fr2 Fm4 78 rfl)) rfl ?_
            have e34 : 0 ≤ (m.2 78) t ∧ (m.2 78) t ≤ 72 := (hT.2.1 78) t
            refine T_ld 91 (.int (i32 1)) rfl (fun _ => rfl) ?_
            refine T_iadd 92 rfl rfl ?_
            refine T_callx 95 192 [.ref (tbr t), .int (i32 (((m.2 78) t) + 1))] [] rfl (inv_vt (args := [.int (i32 (((m.2 78) t) + 1))]) (khp_t0 _ (by omega) (by omega)) rfl rfl rfl) rfl rfl (c_tb_above w (mO m4 [] [(88, upI (m.2 88) (65536 * t + ((m.2 78) t)) ((m.2 96) x))]) c N D (by omega) (KTy_mO Tm4 rfl rfl trivial ⟨G17, trivial⟩) t (((m.2 78) t) + 1) (r32 (by omega) (by omega)) (r32 (by omega) (by omega)) (show 0 ≤ t ∧ t ≤ 7 by omega) (show 0 ≤ (((m.2 78) t) + 1) ∧ (((m.2 78) t) + 1) ≤ 72 by omega)) (fun rr35 k36 => ?_)
            obtain ⟨m37, x38, Tm37, Fm37, g39, rfl⟩ := k36
            refine Or.inl ⟨_, _, _, _, rfl, ?_⟩
            refine K_nb (st' := [.int (i32 x38)]) rfl ?_
            obtain ⟨g39a, g39b⟩ := g39
            refine T_ld 96 (.ref (tbr t)) rfl (fun _ => rfl) ?_
            refine K_gfi 99 77 (m.2 77) rfl rfl (by omega) (by omega) (show (m37.2 77) = (m.2 77) from ((fr2 Fm37 77 rfl).trans (fr2 Fm4 77 rfl))) rfl ?_
            have e40 : 0 ≤ m.2 77 t ∧ m.2 77 t ≤ 8 := hT.2.1 77 t
            refine T_icmp 106 102 rfl rfl rfl (r32 (by omega) (by omega)) (r32 (by omega) (by omega)) (fun (h41 : x38 ≤ (m.2 77) t) => ?_) (fun (h41 : ¬ (x38 ≤ (m.2 77) t)) => ?_)
            · skip
              refine T_ld 107 (.int (i32 0)) rfl (fun _ => rfl) ?_
              refine T_goto 126 rfl (fun _ => rfl) ?_
              refine T_sto 127 [(2, .int (i32 0)), (0, .ref (tbr t)), (1, .ref (obq (m.2 107) x))] rfl (fun _ => rfl) ?_
              refine T_ld 128 (.ref (tbr t)) rfl (fun _ => rfl) ?_
              refine T_ld 129 (.ref (tbr t)) rfl (fun _ => rfl) ?_
              refine K_gfi 132 78 (m.2 78) rfl rfl (by omega) (by omega) (show (m37.2 78) = (m.2 78) from ((fr2 Fm37 78 rfl).trans (fr2 Fm4 78 rfl))) rfl ?_
              have e42 : 0 ≤ (m.2 78) t ∧ (m.2 78) t ≤ 72 := (hT.2.1 78) t
              refine T_ld 133 (.int (i32 0)) rfl (fun _ => rfl) ?_
              refine T_if 140 136 rfl rfl rfl ⟨by decide, by decide⟩ (fun _ => ?_) (fun h43 => absurd (show (0 : Int) = 0 by decide) h43)
              refine T_ld 141 (.int (i32 1)) rfl (fun _ => rfl) ?_
              refine T_iadd 142 rfl rfl ?_
              have G44 : ∀ j, 0 ≤ (upI (m.2 78) t (((m.2 78) t) + 1)) j ∧ (upI (m.2 78) t (((m.2 78) t) + 1)) j ≤ 72 := upI_rg (hT.2.1 78) ⟨by omega, by omega⟩
              refine K_pfi (a' := [(78, upI (m.2 78) t (((m.2 78) t) + 1))]) 145 78 (m.2 78) rfl rfl rfl (by omega) (by omega) (show (m37.2 78) = (m.2 78) from ((fr2 Fm37 78 rfl).trans (fr2 Fm4 78 rfl))) rfl rfl ?_
              refine T_ld 146 (.int (i32 0)) rfl (fun _ => rfl) ?_
              refine T_if 153 149 rfl rfl rfl ⟨by decide, by decide⟩ (fun h45 => absurd (show (0 : Int) ≠ 0 from h45) (by decide)) (fun _ => ?_)
              refine T_ld 150 (.int (i32 1)) rfl (fun _ => rfl) ?_
              refine T_goto 154 rfl (fun _ => rfl) ?_
              refine T_ret rfl (fun _ => rfl) ?_
              exact ⟨(mO m37 [] [(78, upI (m.2 78) t (((m.2 78) t) + 1))]), 1, (KTy_mO Tm37 rfl rfl trivial ⟨G44, trivial⟩), (fr_m (fr_s Fm37 (fr_m (fr_s Fm4 (fr_m fr_0 rfl rfl) rfl rfl) rfl rfl) rfl rfl) rfl rfl), ⟨by omega, by omega⟩, (show ∀ v, (upI (m.2 78) t (((m.2 78) t) + 1)) v = (m.2 78) v ∨ (v = t ∧ (1 : Int) = 1 ∧ (upI (m.2 78) t (((m.2 78) t) + 1)) v = (m.2 78) v + 1) by first | (intro v; first | exact Or.inl rfl | (by_cases e : v = t; (rw [e, upI_s]; omega); (rw [upI_n e]; exact Or.inl rfl))) | (exfalso; omega)), (show (1 : Int) = 1 → (upI (m.2 78) t (((m.2 78) t) + 1)) t = (m.2 78) t + 1 by first | (first | (intro h9; omega) | (intro _; exact upI_s) | (intro h9; rw [upI_s]; omega)) | (exfalso; omega)), rfl⟩
            · skip
              refine T_ld 103 (.int (i32 1)) rfl (fun _ => rfl) ?_
              refine T_goto 126 rfl (fun _ => rfl) ?_
              refine T_sto 127 [(2, .int (i32 1)), (0, .ref (tbr t)), (1, .ref (obq (m.2 107) x))] rfl (fun _ => rfl) ?_
              refine T_ld 128 (.ref (tbr t)) rfl (fun _ => rfl) ?_
              refine T_ld 129 (.ref (tbr t)) rfl (fun _ => rfl) ?_
              refine K_gfi 132 78 (m.2 78) rfl rfl (by omega) (by omega) (show (m37.2 78) = (m.2 78) from ((fr2 Fm37 78 rfl).trans (fr2 Fm4 78 rfl))) rfl ?_
              have e46 : 0 ≤ (m.2 78) t ∧ (m.2 78) t ≤ 72 := (hT.2.1 78) t
              refine T_ld 133 (.int (i32 1)) rfl (fun _ => rfl) ?_
              refine T_if 140 136 rfl rfl rfl ⟨by decide, by decide⟩ (fun h47 => absurd (show (1 : Int) = 0 from h47) (by decide)) (fun _ => ?_)
              refine T_ld 137 (.int (i32 0)) rfl (fun _ => rfl) ?_
              refine T_goto 141 rfl (fun _ => rfl) ?_
              refine T_iadd 142 rfl rfl ?_
              have G48 : ∀ j, 0 ≤ (upI (m.2 78) t (((m.2 78) t) + 0)) j ∧ (upI (m.2 78) t (((m.2 78) t) + 0)) j ≤ 72 := upI_rg (hT.2.1 78) ⟨by omega, by omega⟩
              refine K_pfi (a' := [(78, upI (m.2 78) t (((m.2 78) t) + 0))]) 145 78 (m.2 78) rfl rfl rfl (by omega) (by omega) (show (m37.2 78) = (m.2 78) from ((fr2 Fm37 78 rfl).trans (fr2 Fm4 78 rfl))) rfl rfl ?_
              refine T_ld 146 (.int (i32 1)) rfl (fun _ => rfl) ?_
              refine T_if 153 149 rfl rfl rfl ⟨by decide, by decide⟩ (fun _ => ?_) (fun h49 => absurd (show (1 : Int) ≠ 0 by decide) h49)
              refine T_ld 154 (.int (i32 0)) rfl (fun _ => rfl) ?_
              refine T_ret rfl (fun _ => rfl) ?_
              exact ⟨(mO m37 [] [(78, upI (m.2 78) t (((m.2 78) t) + 0))]), 0, (KTy_mO Tm37 rfl rfl trivial ⟨G48, trivial⟩), (fr_m (fr_s Fm37 (fr_m (fr_s Fm4 (fr_m fr_0 rfl rfl) rfl rfl) rfl rfl) rfl rfl) rfl rfl), ⟨by omega, by omega⟩, (show ∀ v, (upI (m.2 78) t (((m.2 78) t) + 0)) v = (m.2 78) v ∨ (v = t ∧ (0 : Int) = 1 ∧ (upI (m.2 78) t (((m.2 78) t) + 0)) v = (m.2 78) v + 1) by first | (intro v; first | exact Or.inl rfl | (by_cases e : v = t; (rw [e, upI_s]; omega); (rw [upI_n e]; exact Or.inl rfl))) | (exfalso; omega)), (show (0 : Int) = 1 → (upI (m.2 78) t (((m.2 78) t) + 0)) t = (m.2 78) t + 1 by first | (first | (intro h9; omega) | (intro _; exact upI_s) | (intro h9; rw [upI_s]; omega)) | (exfalso; omega)), rfl⟩
        · skip
          refine T_ld 22 (.ref (tbr t)) rfl (fun _ => rfl) ?_
          refine K_gfr 25 rfl rfl (by omega) (by omega) rfl ?_
          refine T_ld 26 (.ref (tbr t)) rfl (fun _ => rfl) ?_
          refine K_gfi 29 78 (m.2 78) rfl rfl (by omega) (by omega) (show (m4.2 78) = (m.2 78) from (fr2 Fm4 78 rfl)) rfl ?_
          have e50 : 0 ≤ (m.2 78) t ∧ (m.2 78) t ≤ 72 := (hT.2.1 78) t
          refine T_ld 30 (.int (i32 4)) rfl (fun _ => rfl) ?_
          refine T_imul 31 rfl rfl ?_
          refine T_ld 32 (.int (i32 v3)) rfl (fun _ => rfl) ?_
          refine T_iadd 33 rfl rfl ?_
          refine T_ld 34 (.ref (obq (m.2 107) x)) rfl (fun _ => rfl) ?_
          refine K_gor 37 rfl rfl (OKr_c (show (m4.2 107) = (m.2 107) from (fr2 Fm4 107 rfl)) (show (m4.2 108) = (m.2 108) from (fr2 Fm4 108 rfl)) pOKx) (congrArg (fun f : Int → Int => (f x).toNat) (show (m4.2 107) = (m.2 107) from (fr2 Fm4 107 rfl))) rfl ?_
          refine T_ld 38 (.int (i32 v3)) rfl (fun _ => rfl) ?_
          refine K_lalo 39 3 (m.2 103) rfl rfl rfl (OKr_c (show (m4.2 107) = (m.2 107) from (fr2 Fm4 107 rfl)) (show (m4.2 108) = (m.2 108) from (fr2 Fm4 108 rfl)) pOKx) (congrArg (fun f : Int → Int => (f x).toNat) (show (m4.2 107) = (m.2 107) from (fr2 Fm4 107 rfl))) (by omega) (show v3 < (4 : Int) by omega) (show (m4.2 103) = (m.2 103) from (fr2 Fm4 103 rfl)) ?_
          have e51 : (-9223372036854775808) ≤ m.2 103 (65536 * x + v3) ∧ m.2 103 (65536 * x + v3) ≤ 9223372036854775807 := hT.2.1 103 (65536 * x + v3)
          have G52 : ∀ j, (-9223372036854775808) ≤ (upI (m4.2 85) (65536 * t + ((((m.2 78) t) * 4) + v3)) ((m.2 103) (65536 * x + v3))) j ∧ (upI (m4.2 85) (65536 * t + ((((m.2 78) t) * 4) + v3)) ((m.2 103) (65536 * x + v3))) j ≤ 9223372036854775807 := upI_rg (Tm4.2.1 85) ⟨by omega, by omega⟩
          refine K_lastt (a' := [(85, upI (m4.2 85) (65536 * t + ((((m.2 78) t) * 4) + v3)) ((m.2 103) (65536 * x + v3)))]) 40 6 (m4.2 85) rfl rfl rfl (by omega) (by omega) (by omega) (show ((((m.2 78) t) * 4) + v3) < (288 : Int) by omega) rfl rfl ?_
          refine T_ld 41 (.ref (tbr t)) rfl (fun _ => rfl) ?_
          refine K_gfr 44 rfl rfl (by omega) (by omega) rfl ?_
          refine T_ld 45 (.ref (tbr t)) rfl (fun _ => rfl) ?_
          refine K_gfi 48 78 (m.2 78) rfl rfl (by omega) (by omega) (show (m4.2 78) = (m.2 78) from (fr2 Fm4 78 rfl)) rfl ?_
          have e53 : 0 ≤ (m.2 78) t ∧ (m.2 78) t ≤ 72 := (hT.2.1 78) t
          refine T_ld 49 (.int (i32 4)) rfl (fun _ => rfl) ?_
          refine T_imul 50 rfl rfl ?_
          refine T_ld 51 (.int (i32 v3)) rfl (fun _ => rfl) ?_
          refine T_iadd 52 rfl rfl ?_
          refine T_ld 53 (.ref (obq (m.2 107) x)) rfl (fun _ => rfl) ?_
          refine K_gor 56 rfl rfl (OKr_c (show (m4.2 107) = (m.2 107) from (fr2 Fm4 107 rfl)) (show (m4.2 108) = (m.2 108) from (fr2 Fm4 108 rfl)) pOKx) (congrArg (fun f : Int → Int => (f x).toNat) (show (m4.2 107) = (m.2 107) from (fr2 Fm4 107 rfl))) rfl ?_
          refine T_ld 57 (.int (i32 v3)) rfl (fun _ => rfl) ?_
          refine K_lalo 58 4 (m.2 104) rfl rfl rfl (OKr_c (show (m4.2 107) = (m.2 107) from (fr2 Fm4 107 rfl)) (show (m4.2 108) = (m.2 108) from (fr2 Fm4 108 rfl)) pOKx) (congrArg (fun f : Int → Int => (f x).toNat) (show (m4.2 107) = (m.2 107) from (fr2 Fm4 107 rfl))) (by omega) (show v3 < (4 : Int) by omega) (show (m4.2 104) = (m.2 104) from (fr2 Fm4 104 rfl)) ?_
          have e54 : (-9223372036854775808) ≤ m.2 104 (65536 * x + v3) ∧ m.2 104 (65536 * x + v3) ≤ 9223372036854775807 := hT.2.1 104 (65536 * x + v3)
          have G55 : ∀ j, (-9223372036854775808) ≤ (upI (m4.2 86) (65536 * t + ((((m.2 78) t) * 4) + v3)) ((m.2 104) (65536 * x + v3))) j ∧ (upI (m4.2 86) (65536 * t + ((((m.2 78) t) * 4) + v3)) ((m.2 104) (65536 * x + v3))) j ≤ 9223372036854775807 := upI_rg (Tm4.2.1 86) ⟨by omega, by omega⟩
          refine K_lastt (a' := [(85, upI (m4.2 85) (65536 * t + ((((m.2 78) t) * 4) + v3)) ((m.2 103) (65536 * x + v3))), (86, upI (m4.2 86) (65536 * t + ((((m.2 78) t) * 4) + v3)) ((m.2 104) (65536 * x + v3)))]) 59 7 (m4.2 86) rfl rfl rfl (by omega) (by omega) (by omega) (show ((((m.2 78) t) * 4) + v3) < (288 : Int) by omega) rfl rfl ?_
          refine T_iinc 62 [(2, .int (i32 (v3 + 1))), (0, .ref (tbr t)), (1, .ref (obq (m.2 107) x))] rfl rfl (by decide) rfl rfl ?_
          refine T_goto 13 rfl (fun _ => rfl) ?_
          refine Tm_lv (a := [(0, .ref (tbr t)), (1, .ref (obq (m.2 107) x)), (2, .int (i32 (v3 + 1)))]) rfl rfl ⟨rfl, rfl, rfl, trivial⟩ ?_
          exact ih12 (v3 + 1) (mO m4 [] [(85, upI (m4.2 85) (65536 * t + ((((m.2 78) t) * 4) + v3)) ((m.2 103) (65536 * x + v3))), (86, upI (m4.2 86) (65536 * t + ((((m.2 78) t) * 4) + v3)) ((m.2 104) (65536 * x + v3)))]) (r32 (by omega) (by omega)) (KTy_mO Tm4 rfl rfl trivial ⟨G52, G55, trivial⟩) (fr_m (fr_s Fm4 (fr_m fr_0 rfl rfl) rfl rfl) rfl rfl) (show 0 ≤ (v3 + 1) by omega) (show 0 ≤ (v3 + 1) ∧ (v3 + 1) ≤ 4 by omega) (show 10 - (v3 + 1) < (n11 : Int) by omega)
    refine Tm_lv (a := [(0, .ref (tbr t)), (1, .ref (obq (m.2 107) x)), (2, .int (i32 0))]) rfl rfl ⟨rfl, rfl, rfl, trivial⟩ ?_
    exact L13_5 ((10 - (0 : Int) : Int) + 1).toNat 0 (mO m [] []) ⟨by decide, by decide⟩ hT (fr_m fr_0 rfl rfl) (show 0 ≤ (0 : Int) by omega) (show 0 ≤ (0 : Int) ∧ (0 : Int) ≤ 4 by omega) (show 10 - (0 : Int) < ((((10 - (0 : Int) : Int) + 1).toNat : Nat) : Int) by omega)
  · skip
    refine T_ld 10 (.int (i32 0)) rfl (fun _ => rfl) ?_
    refine T_ret rfl (fun _ => rfl) ?_
    exact ⟨(mO m [] []), 0, hT, (fr_m fr_0 rfl rfl), ⟨by omega, by omega⟩, (show ∀ v, (m.2 78) v = (m.2 78) v ∨ (v = t ∧ (0 : Int) = 1 ∧ (m.2 78) v = (m.2 78) v + 1) by first | (intro v; first | exact Or.inl rfl | (by_cases e : v = t; (rw [e, upI_s]; omega); (rw [upI_n e]; exact Or.inl rfl))) | (exfalso; omega)), (show (0 : Int) = 1 → (m.2 78) t = (m.2 78) t + 1 by first | (first | (intro h9; omega) | (intro _; exact upI_s) | (intro h9; rw [upI_s]; omega)) | (exfalso; omega)), rfl⟩
def fF_tb_serve : List Nat := []
def fA_tb_serve : List Nat := [78, 85, 86, 87, 88, 89, 90, 103, 104]
def Q_tb_serve (m : mR) (c : Nat → Option am_C) (N : Nat) (t : Int) (x : Int) : ag_Re af_T → Prop := fun R => (∃ (M : mR) (r : Int), KTy M ∧ fr fF_tb_serve fA_tb_serve m M ∧ (0 ≤ r ∧ r ≤ 1) ∧ (TCp (m.1 219) (M.2 78) (M.2 89) (m.1 223)) ∧ R = (.inl (some (.int (i32 r))), (khp M c, N), 0, 0))
set_option maxHeartbeats 3000000 in
theorem c_tb_serve (w : wX) (m : mR) (c : Nat → Option am_C) (N D : Nat) (hD : 4 ≤ D) (hT : KTy m) (t : Int) (x : Int) (qt : R32 t) (qx : R32 x) (p0 : 0 ≤ t ∧ t ≤ 7) (pOKx : OKr m x) (hTL : TLp (m.1 219) (m.2 73) (m.2 83) (m.1 223)) (hTC : TCp (m.1 219) (m.2 78) (m.2 89) (m.1 223)) : TC w D 187 [.ref (tbr t), .ref (obq (m.2 107) x), .ref 45] (khp m c, N) (Q_tb_serve m c N t x) := by
  obtain ⟨D, rfl⟩ : ∃ k, D = k + 1 := ⟨D - 1, by omega⟩
  obtain ⟨qta, qtb⟩ := id qt
  obtain ⟨qxa, qxb⟩ := id qx
  have f219 : 0 ≤ m.1 219 ∧ m.1 219 ≤ 8 := hT.1 219
  have f223 : 0 ≤ m.1 223 ∧ m.1 223 ≤ 16 := hT.1 223
  refine Tc_of rfl ?_
  rw [show (khp m c, N) = (khp (mO m [] []) c, N) from by rw [mO_nil m]]
  show TT w D pm_187 (0, [(0, .ref (tbr t)), (1, .ref (obq (m.2 107) x)), (2, .ref 45)], [], (khp (mO m [] []) c, N), 0, 0) (Q_tb_serve m c N t x)
  refine T_ld 1 (.ref (tbr t)) rfl (fun _ => rfl) ?_
  refine T_ld 2 (.ref (obq (m.2 107) x)) rfl (fun _ => rfl) ?_
  refine K_gor 5 rfl rfl pOKx rfl rfl ?_
  refine T_ld 6 (.ref (obq (m.2 107) x)) rfl (fun _ => rfl) ?_
  refine K_gor 9 rfl rfl pOKx rfl rfl ?_
  refine T_callx 12 188 [.ref (tbr t), .ref (obq (m.2 107) x + (3 + 1)), .ref (obq (m.2 107) x + (4 + 1))] [] rfl (inv_vt (args := [.ref (obq (m.2 107) x + (4 + 1)), .ref (obq (m.2 107) x + (3 + 1))]) (khp_t0 _ (by omega) (by omega)) rfl rfl rfl) rfl rfl (c_tb_cutKeys w (mO m [] []) c N D (by omega) hT t x x (r32 (by omega) (by omega)) (r32 (by omega) (by omega)) (r32 (by omega) (by omega)) (show 0 ≤ t ∧ t ≤ 7 by omega) pOKx pOKx) (fun rr1 k2 => ?_)
  obtain ⟨m3, x4, Tm3, Fm3, g5, rfl⟩ := k2
  refine Or.inl ⟨_, _, _, _, rfl, ?_⟩
  refine K_nb (st' := [.int (i32 x4)]) rfl ?_
  obtain ⟨g5a, g5b⟩ := g5
  refine T_sto 13 [(3, .int (i32 x4)), (0, .ref (tbr t)), (1, .ref (obq (m.2 107) x)), (2, .ref 45)] rfl (fun _ => rfl) ?_
  refine T_ld 14 (.ref (obq (m.2 107) x)) rfl (fun _ => rfl) ?_
  refine K_goi 17 91 (m.2 91) rfl rfl (OKr_c (show (m3.2 107) = (m.2 107) from (fr2 Fm3 107 rfl)) (show (m3.2 108) = (m.2 108) from (fr2 Fm3 108 rfl)) pOKx) (congrArg (fun f : Int → Int => (f x).toNat) (show (m3.2 107) = (m.2 107) from (fr2 Fm3 107 rfl))) (show (m3.2 91) = (m.2 91) from (fr2 Fm3 91 rfl)) rfl ?_
  have e6 : 0 ≤ m.2 91 x ∧ m.2 91 x ≤ 3 := hT.2.1 91 x
  refine T_ld 18 (.int (i32 3)) rfl (fun _ => rfl) ?_
  refine T_icmp 25 21 rfl rfl rfl (r32 (by omega) (by omega)) ⟨by decide, by decide⟩ (fun (h7 : (m.2 91) x ≠ 3) => ?_) (fun (h7 : ¬ ((m.2 91) x ≠ 3)) => ?_)
  · skip
    refine T_ld 26 (.int (i32 0)) rfl (fun _ => rfl) ?_
    refine T_sto 28 [(4, .int (i32 0)), (3, .int (i32 x4)), (0, .ref (tbr t)), (1, .ref (obq (m.2 107) x)), (2, .ref 45)] rfl (fun _ => rfl) ?_
    refine T_ld 29 (.int (i32 x4)) rfl (fun _ => rfl) ?_
    refine T_if 48 32 rfl rfl rfl (r32 (by omega) (by omega)) (fun (h8 : x4 = 0) => ?_) (fun (h8 : ¬ (x4 = 0)) => ?_)
    · skip
      refine T_ld 49 (.int (i32 1)) rfl (fun _ => rfl) ?_
      refine T_ret rfl (fun _ => rfl) ?_
      exact ⟨(mO m3 [] []), 1, Tm3, (fr_m (fr_s Fm3 (fr_m fr_0 rfl rfl) rfl rfl) rfl rfl), ⟨by omega, by omega⟩, (show TCp (m.1 219) (m3.2 78) (m3.2 89) (m.1 223) by rewrite [(show (m3.2 78) = (m.2 78) from (fr2 Fm3 78 rfl)), (show (m3.2 89) = (m.2 89) from (fr2 Fm3 89 rfl))]; first | (exact hTC) | (exfalso; omega)), rfl⟩
    · skip
      refine T_ld 34 (.int (i32 0)) rfl (fun _ => rfl) ?_
      refine T_if 50 37 rfl rfl rfl ⟨by decide, by decide⟩ (fun h9 => absurd (show (0 : Int) ≠ 0 from h9) (by decide)) (fun _ => ?_)
      refine T_ld 38 (.ref (tbr t)) rfl (fun _ => rfl) ?_
      refine T_ld 39 (.ref (obq (m.2 107) x)) rfl (fun _ => rfl) ?_
      refine K_goi 42 97 (m.2 97) rfl rfl (OKr_c (show (m3.2 107) = (m.2 107) from (fr2 Fm3 107 rfl)) (show (m3.2 108) = (m.2 108) from (fr2 Fm3 108 rfl)) pOKx) (congrArg (fun f : Int → Int => (f x).toNat) (show (m3.2 107) = (m.2 107) from (fr2 Fm3 107 rfl))) (show (m3.2 97) = (m.2 97) from (fr2 Fm3 97 rfl)) rfl ?_
      have e10 : (-2147483648) ≤ m.2 97 x ∧ m.2 97 x ≤ 2147483647 := hT.2.1 97 x
      refine T_callx 45 132 [.ref (tbr t), .int (i32 ((m.2 97) x))] [] rfl (inv_vt (args := [.int (i32 ((m.2 97) x))]) (khp_t0 _ (by omega) (by omega)) rfl rfl rfl) rfl rfl (c_tb_lists w (mO m3 [] []) c N D (by omega) Tm3 t ((m.2 97) x) (r32 (by omega) (by omega)) (r32 (by omega) (by omega)) (show 0 ≤ t ∧ t ≤ 7 by omega)) (fun rr11 k12 => ?_)
      obtain ⟨x13, g14, h15, rfl⟩ := k12
      refine Or.inl ⟨_, _, _, _, rfl, ?_⟩
      refine T_ns (st' := [.int (i32 x13)]) rfl ?_
      obtain ⟨g14a, g14b⟩ := g14
      replace h15 : x13 = 1 → LSp t ((m3.2 73) t) ((m.2 97) x) (m3.2 83) := h15
      rewrite [(show (m3.2 73) = (m.2 73) from (fr2 Fm3 73 rfl)), (show (m3.2 83) = (m.2 83) from (fr2 Fm3 83 rfl))] at h15
      have hLS := h15
      refine T_if 50 48 rfl rfl rfl (r32 (by omega) (by omega)) (fun (h16 : x13 ≠ 0) => ?_) (fun (h16 : ¬ (x13 ≠ 0)) => ?_)
      · skip
        refine T_ld 51 (.ref (tbr t)) rfl (fun _ => rfl) ?_
        refine T_ld 52 (.ref (obq (m.2 107) x)) rfl (fun _ => rfl) ?_
        refine K_gor 55 rfl rfl (OKr_c (show (m3.2 107) = (m.2 107) from (fr2 Fm3 107 rfl)) (show (m3.2 108) = (m.2 108) from (fr2 Fm3 108 rfl)) pOKx) (congrArg (fun f : Int → Int => (f x).toNat) (show (m3.2 107) = (m.2 107) from (fr2 Fm3 107 rfl))) rfl ?_
        refine T_ld 56 (.ref (obq (m.2 107) x)) rfl (fun _ => rfl) ?_
        refine K_gor 59 rfl rfl (OKr_c (show (m3.2 107) = (m.2 107) from (fr2 Fm3 107 rfl)) (show (m3.2 108) = (m.2 108) from (fr2 Fm3 108 rfl)) pOKx) (congrArg (fun f : Int → Int => (f x).toNat) (show (m3.2 107) = (m.2 107) from (fr2 Fm3 107 rfl))) rfl ?_
        refine T_callx 62 189 [.ref (tbr t), .ref (obq (m.2 107) x + (3 + 1)), .ref (obq (m.2 107) x + (4 + 1))] [] rfl (inv_vt (args := [.ref (obq (m.2 107) x + (4 + 1)), .ref (obq (m.2 107) x + (3 + 1))]) (khp_t0 _ (by omega) (by omega)) rfl rfl rfl) rfl rfl (TC_cast (fun g9 => [.ref (tbr t), .ref (obq g9 x + (3 + 1)), .ref (obq g9 x + (4 + 1))]) (show (m3.2 107) = (m.2 107) from (fr2 Fm3 107 rfl)) (c_tb_same w (mO m3 [] []) c N D (by omega) Tm3 t x x (r32 (by omega) (by omega)) (r32 (by omega) (by omega)) (r32 (by omega) (by omega)) (show 0 ≤ t ∧ t ≤ 7 by omega) (OKr_c (show (m3.2 107) = (m.2 107) from (fr2 Fm3 107 rfl)) (show (m3.2 108) = (m.2 108) from (fr2 Fm3 108 rfl)) pOKx) (OKr_c (show (m3.2 107) = (m.2 107) from (fr2 Fm3 107 rfl)) (show (m3.2 108) = (m.2 108) from (fr2 Fm3 108 rfl)) pOKx))) (fun rr17 k18 => ?_)
        obtain ⟨sm, g19, h20, rfl⟩ := k18
        refine Or.inl ⟨_, _, _, _, rfl, ?_⟩
        refine T_ns (st' := [.int (i32 sm)]) rfl ?_
        obtain ⟨g19a, g19b⟩ := g19
        replace h20 : sm < (m3.2 78) t := h20
        rewrite [(show (m3.2 78) = (m.2 78) from (fr2 Fm3 78 rfl))] at h20
        refine T_sto 64 [(5, .int (i32 sm)), (4, .int (i32 0)), (3, .int (i32 x4)), (0, .ref (tbr t)), (1, .ref (obq (m.2 107) x)), (2, .ref 45)] rfl (fun _ => rfl) ?_
        refine T_ld 65 (.ref (obq (m.2 107) x)) rfl (fun _ => rfl) ?_
        refine K_goi 68 91 (m.2 91) rfl rfl (OKr_c (show (m3.2 107) = (m.2 107) from (fr2 Fm3 107 rfl)) (show (m3.2 108) = (m.2 108) from (fr2 Fm3 108 rfl)) pOKx) (congrArg (fun f : Int → Int => (f x).toNat) (show (m3.2 107) = (m.2 107) from (fr2 Fm3 107 rfl))) (show (m3.2 91) = (m.2 91) from (fr2 Fm3 91 rfl)) rfl ?_
        have e21 : 0 ≤ m.2 91 x ∧ m.2 91 x ≤ 3 := hT.2.1 91 x
        refine T_ld 69 (.int (i32 1)) rfl (fun _ => rfl) ?_
        refine T_icmp 76 72 rfl rfl rfl (r32 (by omega) (by omega)) ⟨by decide, by decide⟩ (fun (h22 : (m.2 91) x ≠ 1) => ?_) (fun (h22 : ¬ ((m.2 91) x ≠ 1)) => ?_)
        · skip
          refine T_ld 77 (.int (i32 0)) rfl (fun _ => rfl) ?_
          refine T_sto 79 [(6, .int (i32 0)), (5, .int (i32 sm)), (4, .int (i32 0)), (3, .int (i32 x4)), (0, .ref (tbr t)), (1, .ref (obq (m.2 107) x)), (2, .ref 45)] rfl (fun _ => rfl) ?_
          refine T_ld 81 (.int (i32 0)) rfl (fun _ => rfl) ?_
          refine T_ld 83 (.int (i32 sm)) rfl (fun _ => rfl) ?_
          refine T_ld 84 (.int (i32 (-1))) rfl (fun _ => rfl) ?_
          refine T_icmp 91 87 rfl rfl rfl (r32 (by omega) (by omega)) ⟨by decide, by decide⟩ (fun (h23 : sm ≠ (-1)) => ?_) (fun (h23 : ¬ (sm ≠ (-1))) => ?_)
          · skip
            refine T_ld 92 (.int (i32 0)) rfl (fun _ => rfl) ?_
            refine T_icmp 97 95 rfl rfl rfl ⟨by decide, by decide⟩ ⟨by decide, by decide⟩ (fun _ => ?_) (fun h24 => absurd (show (0 : Int) = 0 by decide) h24)
            refine T_ld 99 (.int (i32 0)) rfl (fun _ => rfl) ?_
            refine T_if 110 102 rfl rfl rfl ⟨by decide, by decide⟩ (fun _ => ?_) (fun h25 => absurd (show (0 : Int) = 0 by decide) h25)
            refine T_ld 112 (.int (i32 0)) rfl (fun _ => rfl) ?_
            refine T_if 133 115 rfl rfl rfl ⟨by decide, by decide⟩ (fun _ => ?_) (fun h26 => absurd (show (0 : Int) = 0 by decide) h26)
            have hLz := LS_b (hLS (by omega)) (hT.2.1 83)
            refine T_ld 134 (.ref (tbr t)) rfl (fun _ => rfl) ?_
            refine K_gfr 137 rfl rfl (by omega) (by omega) rfl ?_
            refine T_ld 139 (.int (i32 sm)) rfl (fun _ => rfl) ?_
            refine T_ld 140 (.ref (obq (m.2 107) x)) rfl (fun _ => rfl) ?_
            refine K_goi 143 97 (m.2 97) rfl rfl (OKr_c (show (m3.2 107) = (m.2 107) from (fr2 Fm3 107 rfl)) (show (m3.2 108) = (m.2 108) from (fr2 Fm3 108 rfl)) pOKx) (congrArg (fun f : Int → Int => (f x).toNat) (show (m3.2 107) = (m.2 107) from (fr2 Fm3 107 rfl))) (show (m3.2 97) = (m.2 97) from (fr2 Fm3 97 rfl)) rfl ?_
            have e27 : (-2147483648) ≤ m.2 97 x ∧ m.2 97 x ≤ 2147483647 := hT.2.1 97 x
            have G28 : ∀ j, 0 ≤ (upI (m.2 89) (65536 * t + sm) ((m.2 97) x)) j ∧ (upI (m.2 89) (65536 * t + sm) ((m.2 97) x)) j ≤ 15 := upI_rg (hT.2.1 89) ⟨by omega, by omega⟩
            refine K_iastt (a' := [(89, upI (m.2 89) (65536 * t + sm) ((m.2 97) x))]) 144 10 (m.2 89) rfl rfl rfl (by omega) (by omega) (by omega) (show sm < (72 : Int) by omega) (show (m3.2 89) = (m.2 89) from (fr2 Fm3 89 rfl)) rfl ?_
            have hTC : TCp (m.1 219) (m.2 78) (upI (m.2 89) (65536 * t + sm) ((m.2 97) x)) (m.1 223) := by first | exact TC_ad hTC (fun v => (hT.2.1 78 v).2) ⟨by omega, by omega⟩ (fun v => Or.inl rfl) (fun a b => LS_tl (hLS (by omega)) hTL a b) | exact TC_ad hTC (fun v => ((hT.2.1 78) v).2) ⟨by omega, by omega⟩ (fun v => by have h9 := hAp v; have h8 := hAq (by omega); by_cases e : v = t; (subst e; omega); (left; omega)) (fun a b => LS_tl (hLS (by omega)) hTL a b)
            refine T_ld 145 (.int (i32 0)) rfl (fun _ => rfl) ?_
            refine T_sto 147 [(7, .int (i32 0)), (6, .int (i32 0)), (5, .int (i32 sm)), (4, .int (i32 0)), (3, .int (i32 x4)), (0, .ref (tbr t)), (1, .ref (obq (m.2 107) x)), (2, .ref 45)] rfl (fun _ => rfl) ?_
            refine K_fl (KTy_mO Tm3 rfl rfl trivial ⟨G28, trivial⟩) (fun m29 Tm29 Fm29 => ?_)
            have L147_32 : ∀ (n38 : Nat) (v30 : Int) (m31 : mR), (R32 v30) → KTy m31 → fr [] [87] (mO m29 [] []) m31 → (0 ≤ v30) → (0 ≤ v30 ∧ v30 ≤ 4) → 10 - v30 < (n38 : Int) → TT w D pm_187 (147, [(0, .ref (tbr t)), (1, .ref (obq (m.2 107) x)), (2, .ref 45), (5, .int (i32 sm)), (7, .int (i32 v30))], [], (khp (mO m31 [] []) c, N), 0, 0) (Q_tb_serve m c N t x) := by
              intro n38
              induction n38 with
              | zero =>
                intro v30 m31 q35 Tm31 Fm31 ic33 ic34 hmu
                obtain ⟨q35a, q35b⟩ := id q35
                exfalso
                omega
              | succ n38 ih =>
                intro v30 m31 q35 Tm31 Fm31 ic33 ic34 hmu
                obtain ⟨q35a, q35b⟩ := id q35
                have ih39 := ih
                refine T_ld 149 (.int (i32 v30)) rfl (fun _ => rfl) ?_
                refine T_ld 150 (.ref 45) rfl (fun _ => rfl) ?_
                refine K_gf 153 (.ref 46) rfl rfl kd_45 rfl rfl rfl ?_
                refine T_ld 154 (.ref (obq (m.2 107) x)) rfl (fun _ => rfl) ?_
                refine K_goi 157 97 (m.2 97) rfl rfl (OKr_c (show (m31.2 107) = (m.2 107) from ((fr2 Fm31 107 rfl).trans ((fr2 Fm29 107 rfl).trans (fr2 Fm3 107 rfl)))) (show (m31.2 108) = (m.2 108) from ((fr2 Fm31 108 rfl).trans ((fr2 Fm29 108 rfl).trans (fr2 Fm3 108 rfl)))) pOKx) (congrArg (fun f : Int → Int => (f x).toNat) (show (m31.2 107) = (m.2 107) from ((fr2 Fm31 107 rfl).trans ((fr2 Fm29 107 rfl).trans (fr2 Fm3 107 rfl))))) (show (m31.2 97) = (m.2 97) from ((fr2 Fm31 97 rfl).trans ((fr2 Fm29 97 rfl).trans (fr2 Fm3 97 rfl)))) rfl ?_
                have e40 : (-2147483648) ≤ m.2 97 x ∧ m.2 97 x ≤ 2147483647 := hT.2.1 97 x
                refine K_iald 158 39 (m.2 39) rfl rfl rfl (by omega) (show ((m.2 97) x) < (16 : Int) by omega) (show (m31.2 39) = (m.2 39) from ((fr2 Fm31 39 rfl).trans ((fr2 Fm29 39 rfl).trans (fr2 Fm3 39 rfl)))) ?_
                have e41 : 0 ≤ m.2 39 ((m.2 97) x) ∧ m.2 39 ((m.2 97) x) ≤ 4 := hT.2.1 39 ((m.2 97) x)
                refine T_icmp 208 161 rfl rfl rfl (r32 (by omega) (by omega)) (r32 (by omega) (by omega)) (fun (h42 : (m.2 39) ((m.2 97) x) ≤ v30) => ?_) (fun (h42 : ¬ ((m.2 39) ((m.2 97) x) ≤ v30)) => ?_)
                · skip
                  refine T_ld 209 (.int (i32 0)) rfl (fun _ => rfl) ?_
                  refine T_ret rfl (fun _ => rfl) ?_
                  exact ⟨(mO m31 [] []), 0, Tm31, (fr_m (fr_s Fm31 (fr_m (fr_s Fm29 (fr_m (fr_s Fm3 (fr_m fr_0 rfl rfl) rfl rfl) rfl rfl) rfl rfl) rfl rfl) rfl rfl) rfl rfl), ⟨by omega, by omega⟩, (show TCp (m.1 219) (m31.2 78) (m31.2 89) (m.1 223) by rewrite [(show (m31.2 78) = (m.2 78) from ((fr2 Fm31 78 rfl).trans ((fr2 Fm29 78 rfl).trans (fr2 Fm3 78 rfl)))), (show (m31.2 89) = (upI (m.2 89) (65536 * t + sm) ((m.2 97) x)) from ((fr2 Fm31 89 rfl).trans (fr2 Fm29 89 rfl)))]; first | (exact hTC) | (exfalso; omega)), rfl⟩
                · skip
                  refine T_ld 162 (.ref 45) rfl (fun _ => rfl) ?_
                  refine K_gf 165 (.ref 47) rfl rfl kd_45 rfl rfl rfl ?_
                  refine T_ld 166 (.ref (obq (m.2 107) x)) rfl (fun _ => rfl) ?_
                  refine K_goi 169 97 (m.2 97) rfl rfl (OKr_c (show (m31.2 107) = (m.2 107) from ((fr2 Fm31 107 rfl).trans ((fr2 Fm29 107 rfl).trans (fr2 Fm3 107 rfl)))) (show (m31.2 108) = (m.2 108) from ((fr2 Fm31 108 rfl).trans ((fr2 Fm29 108 rfl).trans (fr2 Fm3 108 rfl)))) pOKx) (congrArg (fun f : Int → Int => (f x).toNat) (show (m31.2 107) = (m.2 107) from ((fr2 Fm31 107 rfl).trans ((fr2 Fm29 107 rfl).trans (fr2 Fm3 107 rfl))))) (show (m31.2 97) = (m.2 97) from ((fr2 Fm31 97 rfl).trans ((fr2 Fm29 97 rfl).trans (fr2 Fm3 97 rfl)))) rfl ?_
                  have e43 : (-2147483648) ≤ m.2 97 x ∧ m.2 97 x ≤ 2147483647 := hT.2.1 97 x
                  refine T_ld 170 (.int (i32 4)) rfl (fun _ => rfl) ?_
                  refine T_imul 171 rfl rfl ?_
                  refine T_ld 173 (.int (i32 v30)) rfl (fun _ => rfl) ?_
                  refine T_iadd 174 rfl rfl ?_
                  refine K_iald 175 40 (m.2 40) rfl rfl rfl (by omega) (show ((((m.2 97) x) * 4) + v30) < (64 : Int) by omega) (show (m31.2 40) = (m.2 40) from ((fr2 Fm31 40 rfl).trans ((fr2 Fm29 40 rfl).trans (fr2 Fm3 40 rfl)))) ?_
                  have e44 : 0 ≤ m.2 40 ((((m.2 97) x) * 4) + v30) ∧ m.2 40 ((((m.2 97) x) * 4) + v30) ≤ 64 := hT.2.1 40 ((((m.2 97) x) * 4) + v30)
                  refine T_sto 177 [(8, .int (i32 ((m.2 40) ((((m.2 97) x) * 4) + v30)))), (0, .ref (tbr t)), (1, .ref (obq (m.2 107) x)), (2, .ref 45), (5, .int (i32 sm)), (7, .int (i32 v30))] rfl (fun _ => rfl) ?_
                  refine T_ld 178 (.ref (tbr t)) rfl (fun _ => rfl) ?_
                  refine K_gfr 181 rfl rfl (by omega) (by omega) rfl ?_
                  refine T_ld 183 (.int (i32 sm)) rfl (fun _ => rfl) ?_
                  refine T_ld 184 (.int (i32 4)) rfl (fun _ => rfl) ?_
                  refine T_imul 185 rfl rfl ?_
                  refine T_ld 187 (.int (i32 v30)) rfl (fun _ => rfl) ?_
                  refine T_iadd 188 rfl rfl ?_
                  refine T_ld 189 (.ref (obq (m.2 107) x)) rfl (fun _ => rfl) ?_
                  refine K_gor 192 rfl rfl (OKr_c (show (m31.2 107) = (m.2 107) from ((fr2 Fm31 107 rfl).trans ((fr2 Fm29 107 rfl).trans (fr2 Fm3 107 rfl)))) (show (m31.2 108) = (m.2 108) from ((fr2 Fm31 108 rfl).trans ((fr2 Fm29 108 rfl).trans (fr2 Fm3 108 rfl)))) pOKx) (congrArg (fun f : Int → Int => (f x).toNat) (show (m31.2 107) = (m.2 107) from ((fr2 Fm31 107 rfl).trans ((fr2 Fm29 107 rfl).trans (fr2 Fm3 107 rfl))))) rfl ?_
                  refine T_ld 194 (.int (i32 v30)) rfl (fun _ => rfl) ?_
                  refine K_lalo 195 5 (m.2 105) rfl rfl rfl (OKr_c (show (m31.2 107) = (m.2 107) from ((fr2 Fm31 107 rfl).trans ((fr2 Fm29 107 rfl).trans (fr2 Fm3 107 rfl)))) (show (m31.2 108) = (m.2 108) from ((fr2 Fm31 108 rfl).trans ((fr2 Fm29 108 rfl).trans (fr2 Fm3 108 rfl)))) pOKx) (congrArg (fun f : Int → Int => (f x).toNat) (show (m31.2 107) = (m.2 107) from ((fr2 Fm31 107 rfl).trans ((fr2 Fm29 107 rfl).trans (fr2 Fm3 107 rfl))))) (by omega) (show v30 < (4 : Int) by omega) (show (m31.2 105) = (m.2 105) from ((fr2 Fm31 105 rfl).trans ((fr2 Fm29 105 rfl).trans (fr2 Fm3 105 rfl)))) ?_
                  have e45 : (-9223372036854775808) ≤ m.2 105 (65536 * x + v30) ∧ m.2 105 (65536 * x + v30) ≤ 9223372036854775807 := hT.2.1 105 (65536 * x + v30)
                  refine T_ld 197 (.int (i32 ((m.2 40) ((((m.2 97) x) * 4) + v30)))) rfl (fun _ => rfl) ?_
                  refine T_callx 200 116 [.int (i32 ((m.2 40) ((((m.2 97) x) * 4) + v30)))] [.long (i64 ((m.2 105) (65536 * x + v30))), .int (i32 ((sm * 4) + v30)), .ref (tbr t + (8 + 1))] rfl (fun _ => rfl) rfl rfl (c_pw_ones w (mO m31 [] []) c N D (by omega) Tm31 ((m.2 40) ((((m.2 97) x) * 4) + v30)) (r32 (by omega) (by omega))) (fun rr46 k47 => ?_)
                  obtain ⟨x48, g49, rfl⟩ := k47
                  refine Or.inl ⟨_, _, _, _, rfl, ?_⟩
                  refine T_ns (st' := [.long (i64 x48), .long (i64 ((m.2 105) (65536 * x + v30))), .int (i32 ((sm * 4) + v30)), .ref (tbr t + (8 + 1))]) rfl ?_
                  obtain ⟨g49a, g49b⟩ := g49
                  refine T_lhv 201 _ rfl (fun _ => rfl) (fun z50 h51 => ?_)
                  obtain ⟨h51a, h51b⟩ := h51
                  have G52 : ∀ j, (-9223372036854775808) ≤ (upI (m31.2 87) (65536 * t + ((sm * 4) + v30)) z50) j ∧ (upI (m31.2 87) (65536 * t + ((sm * 4) + v30)) z50) j ≤ 9223372036854775807 := upI_rg (Tm31.2.1 87) ⟨by omega, by omega⟩
                  refine K_lastt (a' := [(87, upI (m31.2 87) (65536 * t + ((sm * 4) + v30)) z50)]) 202 8 (m31.2 87) rfl rfl rfl (by omega) (by omega) (by omega) (show ((sm * 4) + v30) < (288 : Int) by omega) rfl rfl ?_
                  refine T_iinc 205 [(7, .int (i32 (v30 + 1))), (8, .int (i32 ((m.2 40) ((((m.2 97) x) * 4) + v30)))), (0, .ref (tbr t)), (1, .ref (obq (m.2 107) x)), (2, .ref 45), (5, .int (i32 sm))] rfl rfl (by decide) rfl rfl ?_
                  refine T_goto 147 rfl (fun _ => rfl) ?_
                  refine Tm_lv (a := [(0, .ref (tbr t)), (1, .ref (obq (m.2 107) x)), (2, .ref 45), (5, .int (i32 sm)), (7, .int (i32 (v30 + 1)))]) rfl rfl ⟨rfl, rfl, rfl, rfl, rfl, trivial⟩ ?_
                  exact ih39 (v30 + 1) (mO m31 [] [(87, upI (m31.2 87) (65536 * t + ((sm * 4) + v30)) z50)]) (r32 (by omega) (by omega)) (KTy_mO Tm31 rfl rfl trivial ⟨G52, trivial⟩) (fr_m (fr_s Fm31 (fr_m fr_0 rfl rfl) rfl rfl) rfl rfl) (show 0 ≤ (v30 + 1) by omega) (show 0 ≤ (v30 + 1) ∧ (v30 + 1) ≤ 4 by omega) (show 10 - (v30 + 1) < (n38 : Int) by omega)
            refine Tm_lv (a := [(0, .ref (tbr t)), (1, .ref (obq (m.2 107) x)), (2, .ref 45), (5, .int (i32 sm)), (7, .int (i32 0))]) rfl rfl ⟨rfl, rfl, rfl, rfl, rfl, trivial⟩ ?_
            exact L147_32 ((10 - (0 : Int) : Int) + 1).toNat 0 (mO m29 [] []) ⟨by decide, by decide⟩ Tm29 (fr_m fr_0 rfl rfl) (show 0 ≤ (0 : Int) by omega) (show 0 ≤ (0 : Int) ∧ (0 : Int) ≤ 4 by omega) (show 10 - (0 : Int) < ((((10 - (0 : Int) : Int) + 1).toNat : Nat) : Int) by omega)
          · skip
            refine T_ld 88 (.int (i32 1)) rfl (fun _ => rfl) ?_
            refine T_goto 92 rfl (fun _ => rfl) ?_
            refine T_icmp 97 95 rfl rfl rfl ⟨by decide, by decide⟩ ⟨by decide, by decide⟩ (fun h53 => absurd (show (0 : Int) = 1 from h53) (by decide)) (fun _ => ?_)
            refine T_ld 96 (.int (i32 1)) rfl (fun _ => rfl) ?_
            refine T_ret rfl (fun _ => rfl) ?_
            exact ⟨(mO m3 [] []), 1, Tm3, (fr_m (fr_s Fm3 (fr_m fr_0 rfl rfl) rfl rfl) rfl rfl), ⟨by omega, by omega⟩, (show TCp (m.1 219) (m3.2 78) (m3.2 89) (m.1 223) by rewrite [(show (m3.2 78) = (m.2 78) from (fr2 Fm3 78 rfl)), (show (m3.2 89) = (m.2 89) from (fr2 Fm3 89 rfl))]; first | (exact hTC) | (exfalso; omega)), rfl⟩
        · skip
          refine T_ld 73 (.int (i32 1)) rfl (fun _ => rfl) ?_
          refine T_goto 77 rfl (fun _ => rfl) ?_
          refine T_sto 79 [(6, .int (i32 1)), (5, .int (i32 sm)), (4, .int (i32 0)), (3, .int (i32 x4)), (0, .ref (tbr t)), (1, .ref (obq (m.2 107) x)), (2, .ref 45)] rfl (fun _ => rfl) ?_
          refine T_ld 81 (.int (i32 1)) rfl (fun _ => rfl) ?_
          refine T_ld 83 (.int (i32 sm)) rfl (fun _ => rfl) ?_
          refine T_ld 84 (.int (i32 (-1))) rfl (fun _ => rfl) ?_
          refine T_icmp 91 87 rfl rfl rfl (r32 (by omega) (by omega)) ⟨by decide, by decide⟩ (fun (h54 : sm ≠ (-1)) => ?_) (fun (h54 : ¬ (sm ≠ (-1))) => ?_)
          · skip
            refine T_ld 92 (.int (i32 0)) rfl (fun _ => rfl) ?_
            refine T_icmp 97 95 rfl rfl rfl ⟨by decide, by decide⟩ ⟨by decide, by decide⟩ (fun h55 => absurd (show (1 : Int) = 0 from h55) (by decide)) (fun _ => ?_)
            refine T_ld 96 (.int (i32 1)) rfl (fun _ => rfl) ?_
            refine T_ret rfl (fun _ => rfl) ?_
            exact ⟨(mO m3 [] []), 1, Tm3, (fr_m (fr_s Fm3 (fr_m fr_0 rfl rfl) rfl rfl) rfl rfl), ⟨by omega, by omega⟩, (show TCp (m.1 219) (m3.2 78) (m3.2 89) (m.1 223) by rewrite [(show (m3.2 78) = (m.2 78) from (fr2 Fm3 78 rfl)), (show (m3.2 89) = (m.2 89) from (fr2 Fm3 89 rfl))]; first | (exact hTC) | (exfalso; omega)), rfl⟩
          · skip
            refine T_ld 88 (.int (i32 1)) rfl (fun _ => rfl) ?_
            refine T_goto 92 rfl (fun _ => rfl) ?_
            refine T_icmp 97 95 rfl rfl rfl ⟨by decide, by decide⟩ ⟨by decide, by decide⟩ (fun _ => ?_) (fun h56 => absurd (show (1 : Int) = 1 by decide) h56)
            refine T_ld 99 (.int (i32 0)) rfl (fun _ => rfl) ?_
            refine T_if 110 102 rfl rfl rfl ⟨by decide, by decide⟩ (fun _ => ?_) (fun h57 => absurd (show (0 : Int) = 0 by decide) h57)
            refine T_ld 112 (.int (i32 1)) rfl (fun _ => rfl) ?_
            refine T_if 133 115 rfl rfl rfl ⟨by decide, by decide⟩ (fun h58 => absurd (show (1 : Int) = 0 from h58) (by decide)) (fun _ => ?_)
            refine T_ld 116 (.ref (tbr t)) rfl (fun _ => rfl) ?_
            refine T_ld 117 (.ref (obq (m.2 107) x)) rfl (fun _ => rfl) ?_
            refine T_callx 120 191 [.ref (tbr t), .ref (obq (m.2 107) x)] [] rfl (inv_vt (args := [.ref (obq (m.2 107) x)]) (khp_t0 _ (by omega) (by omega)) rfl rfl rfl) rfl rfl (TC_cast (fun g9 => [.ref (tbr t), .ref (obq g9 x)]) (show (m3.2 107) = (m.2 107) from (fr2 Fm3 107 rfl)) (c_tb_append w (mO m3 [] []) c N D (by omega) Tm3 t x (r32 (by omega) (by omega)) (r32 (by omega) (by omega)) (show 0 ≤ t ∧ t ≤ 7 by omega) (OKr_c (show (m3.2 107) = (m.2 107) from (fr2 Fm3 107 rfl)) (show (m3.2 108) = (m.2 108) from (fr2 Fm3 108 rfl)) pOKx))) (fun rr59 k60 => ?_)
            obtain ⟨m61, ap, Tm61, Fm61, g62, h63, h64, rfl⟩ := k60
            refine Or.inl ⟨_, _, _, _, rfl, ?_⟩
            refine K_nb (st' := [.int (i32 ap)]) rfl ?_
            obtain ⟨g62a, g62b⟩ := g62
            replace h63 : ∀ v, (m61.2 78) v = (m3.2 78) v ∨ (v = t ∧ ap = 1 ∧ (m61.2 78) v = (m3.2 78) v + 1) := h63
            rewrite [(show (m3.2 78) = (m.2 78) from (fr2 Fm3 78 rfl))] at h63
            have hAp := h63
            replace h64 : ap = 1 → (m61.2 78) t = (m3.2 78) t + 1 := h64
            rewrite [(show (m3.2 78) = (m.2 78) from (fr2 Fm3 78 rfl))] at h64
            have hAq := h64
            refine T_if 125 123 rfl rfl rfl (r32 (by omega) (by omega)) (fun (h65 : ap ≠ 0) => ?_) (fun (h65 : ¬ (ap ≠ 0)) => ?_)
            · skip
              refine T_ld 126 (.ref (tbr t)) rfl (fun _ => rfl) ?_
              refine K_gfi 129 78 (m61.2 78) rfl rfl (by omega) (by omega) rfl rfl ?_
              have e66 : 0 ≤ (m61.2 78) t ∧ (m61.2 78) t ≤ 72 := (Tm61.2.1 78) t
              refine T_ld 130 (.int (i32 1)) rfl (fun _ => rfl) ?_
              refine T_isub 131 rfl rfl ?_
              refine T_sto 133 [(5, .int (i32 (((m61.2 78) t) - 1))), (6, .int (i32 1)), (4, .int (i32 0)), (3, .int (i32 x4)), (0, .ref (tbr t)), (1, .ref (obq (m.2 107) x)), (2, .ref 45)] rfl (fun _ => rfl) ?_
              have hLz := LS_b (hLS (by omega)) (hT.2.1 83)
              refine T_ld 134 (.ref (tbr t)) rfl (fun _ => rfl) ?_
              refine K_gfr 137 rfl rfl (by omega) (by omega) rfl ?_
              refine T_ld 139 (.int (i32 (((m61.2 78) t) - 1))) rfl (fun _ => rfl) ?_
              refine T_ld 140 (.ref (obq (m.2 107) x)) rfl (fun _ => rfl) ?_
              refine K_goi 143 97 (m.2 97) rfl rfl (OKr_c (show (m61.2 107) = (m.2 107) from ((fr2 Fm61 107 rfl).trans (fr2 Fm3 107 rfl))) (show (m61.2 108) = (m.2 108) from ((fr2 Fm61 108 rfl).trans (fr2 Fm3 108 rfl))) pOKx) (congrArg (fun f : Int → Int => (f x).toNat) (show (m61.2 107) = (m.2 107) from ((fr2 Fm61 107 rfl).trans (fr2 Fm3 107 rfl)))) (show (m61.2 97) = (m.2 97) from ((fr2 Fm61 97 rfl).trans (fr2 Fm3 97 rfl))) rfl ?_
              have e67 : (-2147483648) ≤ m.2 97 x ∧ m.2 97 x ≤ 2147483647 := hT.2.1 97 x
              have G68 : ∀ j, 0 ≤ (upI (m.2 89) (65536 * t + (((m61.2 78) t) - 1)) ((m.2 97) x)) j ∧ (upI (m.2 89) (65536 * t + (((m61.2 78) t) - 1)) ((m.2 97) x)) j ≤ 15 := upI_rg (hT.2.1 89) ⟨by omega, by omega⟩
              refine K_iastt (a' := [(89, upI (m.2 89) (65536 * t + (((m61.2 78) t) - 1)) ((m.2 97) x))]) 144 10 (m.2 89) rfl rfl rfl (by omega) (by omega) (by omega) (show (((m61.2 78) t) - 1) < (72 : Int) by omega) (show (m61.2 89) = (m.2 89) from ((fr2 Fm61 89 rfl).trans (fr2 Fm3 89 rfl))) rfl ?_
              have hTC : TCp (m.1 219) (m61.2 78) (upI (m.2 89) (65536 * t + (((m61.2 78) t) - 1)) ((m.2 97) x)) (m.1 223) := by first | exact TC_ad hTC (fun v => (hT.2.1 78 v).2) ⟨by omega, by omega⟩ (fun v => Or.inl rfl) (fun a b => LS_tl (hLS (by omega)) hTL a b) | exact TC_ad hTC (fun v => ((Tm61.2.1 78) v).2) ⟨by omega, by omega⟩ (fun v => by have h9 := hAp v; have h8 := hAq (by omega); by_cases e : v = t; (subst e; omega); (left; omega)) (fun a b => LS_tl (hLS (by omega)) hTL a b)
              refine T_ld 145 (.int (i32 0)) rfl (fun _ => rfl) ?_
              refine T_sto 147 [(7, .int (i32 0)), (5, .int (i32 (((m61.2 78) t) - 1))), (6, .int (i32 1)), (4, .int (i32 0)), (3, .int (i32 x4)), (0, .ref (tbr t)), (1, .ref (obq (m.2 107) x)), (2, .ref 45)] rfl (fun _ => rfl) ?_
              refine K_fl (KTy_mO Tm61 rfl rfl trivial ⟨G68, trivial⟩) (fun m69 Tm69 Fm69 => ?_)
              have L147_72 : ∀ (n78 : Nat) (v70 : Int) (m71 : mR), (R32 v70) → KTy m71 → fr [] [87] (mO m69 [] []) m71 → (0 ≤ v70) → (0 ≤ v70 ∧ v70 ≤ 4) → 10 - v70 < (n78 : Int) → TT w D pm_187 (147, [(0, .ref (tbr t)), (1, .ref (obq (m.2 107) x)), (2, .ref 45), (5, .int (i32 (((m61.2 78) t) - 1))), (7, .int (i32 v70))], [], (khp (mO m71 [] []) c, N), 0, 0) (Q_tb_serve m c N t x) := by
                intro n78
                induction n78 with
                | zero =>
                  intro v70 m71 q75 Tm71 Fm71 ic73 ic74 hmu
                  obtain ⟨q75a, q75b⟩ := id q75
                  exfalso
                  omega
                | succ n78 ih =>
                  intro v70 m71 q75 Tm71 Fm71 ic73 ic74 hmu
                  obtain ⟨q75a, q75b⟩ := id q75
                  have ih79 := ih
                  refine T_ld 149 (.int (i32 v70)) rfl (fun _ => rfl) ?_
                  refine T_ld 150 (.ref 45) rfl (fun _ => rfl) ?_
                  refine K_gf 153 (.ref 46) rfl rfl kd_45 rfl rfl rfl ?_
                  refine T_ld 154 (.ref (obq (m.2 107) x)) rfl (fun _ => rfl) ?_
                  refine K_goi 157 97 (m.2 97) rfl rfl (OKr_c (show (m71.2 107) = (m.2 107) from ((fr2 Fm71 107 rfl).trans ((fr2 Fm69 107 rfl).trans ((fr2 Fm61 107 rfl).trans (fr2 Fm3 107 rfl))))) (show (m71.2 108) = (m.2 108) from ((fr2 Fm71 108 rfl).trans ((fr2 Fm69 108 rfl).trans ((fr2 Fm61 108 rfl).trans (fr2 Fm3 108 rfl))))) pOKx) (congrArg (fun f : Int → Int => (f x).toNat) (show (m71.2 107) = (m.2 107) from ((fr2 Fm71 107 rfl).trans ((fr2 Fm69 107 rfl).trans ((fr2 Fm61 107 rfl).trans (fr2 Fm3 107 rfl)))))) (show (m71.2 97) = (m.2 97) from ((fr2 Fm71 97 rfl).trans ((fr2 Fm69 97 rfl).trans ((fr2 Fm61 97 rfl).trans (fr2 Fm3 97 rfl))))) rfl ?_
                  have e80 : (-2147483648) ≤ m.2 97 x ∧ m.2 97 x ≤ 2147483647 := hT.2.1 97 x
                  refine K_iald 158 39 (m.2 39) rfl rfl rfl (by omega) (show ((m.2 97) x) < (16 : Int) by omega) (show (m71.2 39) = (m.2 39) from ((fr2 Fm71 39 rfl).trans ((fr2 Fm69 39 rfl).trans ((fr2 Fm61 39 rfl).trans (fr2 Fm3 39 rfl))))) ?_
                  have e81 : 0 ≤ m.2 39 ((m.2 97) x) ∧ m.2 39 ((m.2 97) x) ≤ 4 := hT.2.1 39 ((m.2 97) x)
                  refine T_icmp 208 161 rfl rfl rfl (r32 (by omega) (by omega)) (r32 (by omega) (by omega)) (fun (h82 : (m.2 39) ((m.2 97) x) ≤ v70) => ?_) (fun (h82 : ¬ ((m.2 39) ((m.2 97) x) ≤ v70)) => ?_)
                  · skip
                    refine T_ld 209 (.int (i32 0)) rfl (fun _ => rfl) ?_
                    refine T_ret rfl (fun _ => rfl) ?_
                    exact ⟨(mO m71 [] []), 0, Tm71, (fr_m (fr_s Fm71 (fr_m (fr_s Fm69 (fr_m (fr_s Fm61 (fr_m (fr_s Fm3 (fr_m fr_0 rfl rfl) rfl rfl) rfl rfl) rfl rfl) rfl rfl) rfl rfl) rfl rfl) rfl rfl) rfl rfl), ⟨by omega, by omega⟩, (show TCp (m.1 219) (m71.2 78) (m71.2 89) (m.1 223) by rewrite [(show (m71.2 78) = (m61.2 78) from ((fr2 Fm71 78 rfl).trans (fr2 Fm69 78 rfl))), (show (m71.2 89) = (upI (m.2 89) (65536 * t + (((m61.2 78) t) - 1)) ((m.2 97) x)) from ((fr2 Fm71 89 rfl).trans (fr2 Fm69 89 rfl)))]; first | (exact hTC) | (exfalso; omega)), rfl⟩
                  · skip
                    refine T_ld 162 (.ref 45) rfl (fun _ => rfl) ?_
                    refine K_gf 165 (.ref 47) rfl rfl kd_45 rfl rfl rfl ?_
                    refine T_ld 166 (.ref (obq (m.2 107) x)) rfl (fun _ => rfl) ?_
                    refine K_goi 169 97 (m.2 97) rfl rfl (OKr_c (show (m71.2 107) = (m.2 107) from ((fr2 Fm71 107 rfl).trans ((fr2 Fm69 107 rfl).trans ((fr2 Fm61 107 rfl).trans (fr2 Fm3 107 rfl))))) (show (m71.2 108) = (m.2 108) from ((fr2 Fm71 108 rfl).trans ((fr2 Fm69 108 rfl).trans ((fr2 Fm61 108 rfl).trans (fr2 Fm3 108 rfl))))) pOKx) (congrArg (fun f : Int → Int => (f x).toNat) (show (m71.2 107) = (m.2 107) from ((fr2 Fm71 107 rfl).trans ((fr2 Fm69 107 rfl).trans ((fr2 Fm61 107 rfl).trans (fr2 Fm3 107 rfl)))))) (show (m71.2 97) = (m.2 97) from ((fr2 Fm71 97 rfl).trans ((fr2 Fm69 97 rfl).trans ((fr2 Fm61 97 rfl).trans (fr2 Fm3 97 rfl))))) rfl ?_
                    have e83 : (-2147483648) ≤ m.2 97 x ∧ m.2 97 x ≤ 2147483647 := hT.2.1 97 x
                    refine T_ld 170 (.int (i32 4)) rfl (fun _ => rfl) ?_
                    refine T_imul 171 rfl rfl ?_
                    refine T_ld 173 (.int (i32 v70)) rfl (fun _ => rfl) ?_
                    refine T_iadd 174 rfl rfl ?_
                    refine K_iald 175 40 (m.2 40) rfl rfl rfl (by omega) (show ((((m.2 97) x) * 4) + v70) < (64 : Int) by omega) (show (m71.2 40) = (m.2 40) from ((fr2 Fm71 40 rfl).trans ((fr2 Fm69 40 rfl).trans ((fr2 Fm61 40 rfl).trans (fr2 Fm3 40 rfl))))) ?_
                    have e84 : 0 ≤ m.2 40 ((((m.2 97) x) * 4) + v70) ∧ m.2 40 ((((m.2 97) x) * 4) + v70) ≤ 64 := hT.2.1 40 ((((m.2 97) x) * 4) + v70)
                    refine T_sto 177 [(8, .int (i32 ((m.2 40) ((((m.2 97) x) * 4) + v70)))), (0, .ref (tbr t)), (1, .ref (obq (m.2 107) x)), (2, .ref 45), (5, .int (i32 (((m61.2 78) t) - 1))), (7, .int (i32 v70))] rfl (fun _ => rfl) ?_
                    refine T_ld 178 (.ref (tbr t)) rfl (fun _ => rfl) ?_
                    refine K_gfr 181 rfl rfl (by omega) (by omega) rfl ?_
                    refine T_ld 183 (.int (i32 (((m61.2 78) t) - 1))) rfl (fun _ => rfl) ?_
                    refine T_ld 184 (.int (i32 4)) rfl (fun _ => rfl) ?_
                    refine T_imul 185 rfl rfl ?_
                    refine T_ld 187 (.int (i32 v70)) rfl (fun _ => rfl) ?_
                    refine T_iadd 188 rfl rfl ?_
                    refine T_ld 189 (.ref (obq (m.2 107) x)) rfl (fun _ => rfl) ?_
                    refine K_gor 192 rfl rfl (OKr_c (show (m71.2 107) = (m.2 107) from ((fr2 Fm71 107 rfl).trans ((fr2 Fm69 107 rfl).trans ((fr2 Fm61 107 rfl).trans (fr2 Fm3 107 rfl))))) (show (m71.2 108) = (m.2 108) from ((fr2 Fm71 108 rfl).trans ((fr2 Fm69 108 rfl).trans ((fr2 Fm61 108 rfl).trans (fr2 Fm3 108 rfl))))) pOKx) (congrArg (fun f : Int → Int => (f x).toNat) (show (m71.2 107) = (m.2 107) from ((fr2 Fm71 107 rfl).trans ((fr2 Fm69 107 rfl).trans ((fr2 Fm61 107 rfl).trans (fr2 Fm3 107 rfl)))))) rfl ?_
                    refine T_ld 194 (.int (i32 v70)) rfl (fun _ => rfl) ?_
                    refine K_lalo 195 5 (m.2 105) rfl rfl rfl (OKr_c (show (m71.2 107) = (m.2 107) from ((fr2 Fm71 107 rfl).trans ((fr2 Fm69 107 rfl).trans ((fr2 Fm61 107 rfl).trans (fr2 Fm3 107 rfl))))) (show (m71.2 108) = (m.2 108) from ((fr2 Fm71 108 rfl).trans ((fr2 Fm69 108 rfl).trans ((fr2 Fm61 108 rfl).trans (fr2 Fm3 108 rfl))))) pOKx) (congrArg (fun f : Int → Int => (f x).toNat) (show (m71.2 107) = (m.2 107) from ((fr2 Fm71 107 rfl).trans ((fr2 Fm69 107 rfl).trans ((fr2 Fm61 107 rfl).trans (fr2 Fm3 107 rfl)))))) (by omega) (show v70 < (4 : Int) by omega) (show (m71.2 105) = (m.2 105) from ((fr2 Fm71 105 rfl).trans ((fr2 Fm69 105 rfl).trans ((fr2 Fm61 105 rfl).trans (fr2 Fm3 105 rfl))))) ?_
                    have e85 : (-9223372036854775808) ≤ m.2 105 (65536 * x + v70) ∧ m.2 105 (65536 * x + v70) ≤ 9223372036854775807 := hT.2.1 105 (65536 * x + v70)
                    refine T_ld 197 (.int (i32 ((m.2 40) ((((m.2 97) x) * 4) + v70)))) rfl (fun _ => rfl) ?_
                    refine T_callx 200 116 [.int (i32 ((m.2 40) ((((m.2 97) x) * 4) + v70)))] [.long (i64 ((m.2 105) (65536 * x + v70))), .int (i32 (((((m61.2 78) t) - 1) * 4) + v70)), .ref (tbr t + (8 + 1))] rfl (fun _ => rfl) rfl rfl (c_pw_ones w (mO m71 [] []) c N D (by omega) Tm71 ((m.2 40) ((((m.2 97) x) * 4) + v70)) (r32 (by omega) (by omega))) (fun rr86 k87 => ?_)
                    obtain ⟨x88, g89, rfl⟩ := k87
                    refine Or.inl ⟨_, _, _, _, rfl, ?_⟩
                    refine T_ns (st' := [.long (i64 x88), .long (i64 ((m.2 105) (65536 * x + v70))), .int (i32 (((((m61.2 78) t) - 1) * 4) + v70)), .ref (tbr t + (8 + 1))]) rfl ?_
                    obtain ⟨g89a, g89b⟩ := g89
                    refine T_lhv 201 _ rfl (fun _ => rfl) (fun z90 h91 => ?_)
                    obtain ⟨h91a, h91b⟩ := h91
                    have G92 : ∀ j, (-9223372036854775808) ≤ (upI (m71.2 87) (65536 * t + (((((m61.2 78) t) - 1) * 4) + v70)) z90) j ∧ (upI (m71.2 87) (65536 * t + (((((m61.2 78) t) - 1) * 4) + v70)) z90) j ≤ 9223372036854775807 := upI_rg (Tm71.2.1 87) ⟨by omega, by omega⟩
                    refine K_lastt (a' := [(87, upI (m71.2 87) (65536 * t + (((((m61.2 78) t) - 1) * 4) + v70)) z90)]) 202 8 (m71.2 87) rfl rfl rfl (by omega) (by omega) (by omega) (show (((((m61.2 78) t) - 1) * 4) + v70) < (288 : Int) by omega) rfl rfl ?_
                    refine T_iinc 205 [(7, .int (i32 (v70 + 1))), (8, .int (i32 ((m.2 40) ((((m.2 97) x) * 4) + v70)))), (0, .ref (tbr t)), (1, .ref (obq (m.2 107) x)), (2, .ref 45), (5, .int (i32 (((m61.2 78) t) - 1)))] rfl rfl (by decide) rfl rfl ?_
                    refine T_goto 147 rfl (fun _ => rfl) ?_
                    refine Tm_lv (a := [(0, .ref (tbr t)), (1, .ref (obq (m.2 107) x)), (2, .ref 45), (5, .int (i32 (((m61.2 78) t) - 1))), (7, .int (i32 (v70 + 1)))]) rfl rfl ⟨rfl, rfl, rfl, rfl, rfl, trivial⟩ ?_
                    exact ih79 (v70 + 1) (mO m71 [] [(87, upI (m71.2 87) (65536 * t + (((((m61.2 78) t) - 1) * 4) + v70)) z90)]) (r32 (by omega) (by omega)) (KTy_mO Tm71 rfl rfl trivial ⟨G92, trivial⟩) (fr_m (fr_s Fm71 (fr_m fr_0 rfl rfl) rfl rfl) rfl rfl) (show 0 ≤ (v70 + 1) by omega) (show 0 ≤ (v70 + 1) ∧ (v70 + 1) ≤ 4 by omega) (show 10 - (v70 + 1) < (n78 : Int) by omega)
              refine Tm_lv (a := [(0, .ref (tbr t)), (1, .ref (obq (m.2 107) x)), (2, .ref 45), (5, .int (i32 (((m61.2 78) t) - 1))), (7, .int (i32 0))]) rfl rfl ⟨rfl, rfl, rfl, rfl, rfl, trivial⟩ ?_
              exact L147_72 ((10 - (0 : Int) : Int) + 1).toNat 0 (mO m69 [] []) ⟨by decide, by decide⟩ Tm69 (fr_m fr_0 rfl rfl) (show 0 ≤ (0 : Int) by omega) (show 0 ≤ (0 : Int) ∧ (0 : Int) ≤ 4 by omega) (show 10 - (0 : Int) < ((((10 - (0 : Int) : Int) + 1).toNat : Nat) : Int) by omega)
            · skip
              have hTC : TCp (m.1 219) (m61.2 78) (m.2 89) (m.1 223) := by intro v a b e a2 b2; exact hTC v a b e a2 (by have h9 := hAp v; omega)
              refine T_ld 124 (.int (i32 1)) rfl (fun _ => rfl) ?_
              refine T_ret rfl (fun _ => rfl) ?_
              exact ⟨(mO m61 [] []), 1, Tm61, (fr_m (fr_s Fm61 (fr_m (fr_s Fm3 (fr_m fr_0 rfl rfl) rfl rfl) rfl rfl) rfl rfl) rfl rfl), ⟨by omega, by omega⟩, (show TCp (m.1 219) (m61.2 78) (m61.2 89) (m.1 223) by rewrite [(show (m61.2 89) = (m.2 89) from ((fr2 Fm61 89 rfl).trans (fr2 Fm3 89 rfl)))]; first | (exact hTC) | (exfalso; omega)), rfl⟩
      · skip
        refine T_ld 49 (.int (i32 1)) rfl (fun _ => rfl) ?_
        refine T_ret rfl (fun _ => rfl) ?_
        exact ⟨(mO m3 [] []), 1, Tm3, (fr_m (fr_s Fm3 (fr_m fr_0 rfl rfl) rfl rfl) rfl rfl), ⟨by omega, by omega⟩, (show TCp (m.1 219) (m3.2 78) (m3.2 89) (m.1 223) by rewrite [(show (m3.2 78) = (m.2 78) from (fr2 Fm3 78 rfl)), (show (m3.2 89) = (m.2 89) from (fr2 Fm3 89 rfl))]; first | (exact hTC) | (exfalso; omega)), rfl⟩
  · skip
    refine T_ld 22 (.int (i32 1)) rfl (fun _ => rfl) ?_
    refine T_goto 26 rfl (fun _ => rfl) ?_
    refine T_sto 28 [(4, .int (i32 1)), (3, .int (i32 x4)), (0, .ref (tbr t)), (1, .ref (obq (m.2 107) x)), (2, .ref 45)] rfl (fun _ => rfl) ?_
    refine T_ld 29 (.int (i32 x4)) rfl (fun _ => rfl) ?_
    refine T_if 48 32 rfl rfl rfl (r32 (by omega) (by omega)) (fun (h93 : x4 = 0) => ?_) (fun (h93 : ¬ (x4 = 0)) => ?_)
    · skip
      refine T_ld 49 (.int (i32 1)) rfl (fun _ => rfl) ?_
      refine T_ret rfl (fun _ => rfl) ?_
      exact ⟨(mO m3 [] []), 1, Tm3, (fr_m (fr_s Fm3 (fr_m fr_0 rfl rfl) rfl rfl) rfl rfl), ⟨by omega, by omega⟩, (show TCp (m.1 219) (m3.2 78) (m3.2 89) (m.1 223) by rewrite [(show (m3.2 78) = (m.2 78) from (fr2 Fm3 78 rfl)), (show (m3.2 89) = (m.2 89) from (fr2 Fm3 89 rfl))]; first | (exact hTC) | (exfalso; omega)), rfl⟩
    · skip
      refine T_ld 34 (.int (i32 1)) rfl (fun _ => rfl) ?_
      refine T_if 50 37 rfl rfl rfl ⟨by decide, by decide⟩ (fun _ => ?_) (fun h94 => absurd (show (1 : Int) ≠ 0 by decide) h94)
      refine T_ld 51 (.ref (tbr t)) rfl (fun _ => rfl) ?_
      refine T_ld 52 (.ref (obq (m.2 107) x)) rfl (fun _ => rfl) ?_
      refine K_gor 55 rfl rfl (OKr_c (show (m3.2 107) = (m.2 107) from (fr2 Fm3 107 rfl)) (show (m3.2 108) = (m.2 108) from (fr2 Fm3 108 rfl)) pOKx) (congrArg (fun f : Int → Int => (f x).toNat) (show (m3.2 107) = (m.2 107) from (fr2 Fm3 107 rfl))) rfl ?_
      refine T_ld 56 (.ref (obq (m.2 107) x)) rfl (fun _ => rfl) ?_
      refine K_gor 59 rfl rfl (OKr_c (show (m3.2 107) = (m.2 107) from (fr2 Fm3 107 rfl)) (show (m3.2 108) = (m.2 108) from (fr2 Fm3 108 rfl)) pOKx) (congrArg (fun f : Int → Int => (f x).toNat) (show (m3.2 107) = (m.2 107) from (fr2 Fm3 107 rfl))) rfl ?_
      refine T_callx 62 189 [.ref (tbr t), .ref (obq (m.2 107) x + (3 + 1)), .ref (obq (m.2 107) x + (4 + 1))] [] rfl (inv_vt (args := [.ref (obq (m.2 107) x + (4 + 1)), .ref (obq (m.2 107) x + (3 + 1))]) (khp_t0 _ (by omega) (by omega)) rfl rfl rfl) rfl rfl (TC_cast (fun g9 => [.ref (tbr t), .ref (obq g9 x + (3 + 1)), .ref (obq g9 x + (4 + 1))]) (show (m3.2 107) = (m.2 107) from (fr2 Fm3 107 rfl)) (c_tb_same w (mO m3 [] []) c N D (by omega) Tm3 t x x (r32 (by omega) (by omega)) (r32 (by omega) (by omega)) (r32 (by omega) (by omega)) (show 0 ≤ t ∧ t ≤ 7 by omega) (OKr_c (show (m3.2 107) = (m.2 107) from (fr2 Fm3 107 rfl)) (show (m3.2 108) = (m.2 108) from (fr2 Fm3 108 rfl)) pOKx) (OKr_c (show (m3.2 107) = (m.2 107) from (fr2 Fm3 107 rfl)) (show (m3.2 108) = (m.2 108) from (fr2 Fm3 108 rfl)) pOKx))) (fun rr95 k96 => ?_)
      obtain ⟨sm, g97, h98, rfl⟩ := k96
      refine Or.inl ⟨_, _, _, _, rfl, ?_⟩
      refine T_ns (st' := [.int (i32 sm)]) rfl ?_
      obtain ⟨g97a, g97b⟩ := g97
      replace h98 : sm < (m3.2 78) t := h98
      rewrite [(show (m3.2 78) = (m.2 78) from (fr2 Fm3 78 rfl))] at h98
      refine T_sto 64 [(5, .int (i32 sm)), (4, .int (i32 1)), (3, .int (i32 x4)), (0, .ref (tbr t)), (1, .ref (obq (m.2 107) x)), (2, .ref 45)] rfl (fun _ => rfl) ?_
      refine T_ld 65 (.ref (obq (m.2 107) x)) rfl (fun _ => rfl) ?_
      refine K_goi 68 91 (m.2 91) rfl rfl (OKr_c (show (m3.2 107) = (m.2 107) from (fr2 Fm3 107 rfl)) (show (m3.2 108) = (m.2 108) from (fr2 Fm3 108 rfl)) pOKx) (congrArg (fun f : Int → Int => (f x).toNat) (show (m3.2 107) = (m.2 107) from (fr2 Fm3 107 rfl))) (show (m3.2 91) = (m.2 91) from (fr2 Fm3 91 rfl)) rfl ?_
      have e99 : 0 ≤ m.2 91 x ∧ m.2 91 x ≤ 3 := hT.2.1 91 x
      refine T_ld 69 (.int (i32 1)) rfl (fun _ => rfl) ?_
      refine T_icmp 76 72 rfl rfl rfl (r32 (by omega) (by omega)) ⟨by decide, by decide⟩ (fun (h100 : (m.2 91) x ≠ 1) => ?_) (fun (h100 : ¬ ((m.2 91) x ≠ 1)) => by exfalso; omega)
      refine T_ld 77 (.int (i32 0)) rfl (fun _ => rfl) ?_
      refine T_sto 79 [(6, .int (i32 0)), (5, .int (i32 sm)), (4, .int (i32 1)), (3, .int (i32 x4)), (0, .ref (tbr t)), (1, .ref (obq (m.2 107) x)), (2, .ref 45)] rfl (fun _ => rfl) ?_
      refine T_ld 81 (.int (i32 0)) rfl (fun _ => rfl) ?_
      refine T_ld 83 (.int (i32 sm)) rfl (fun _ => rfl) ?_
      refine T_ld 84 (.int (i32 (-1))) rfl (fun _ => rfl) ?_
      refine T_icmp 91 87 rfl rfl rfl (r32 (by omega) (by omega)) ⟨by decide, by decide⟩ (fun (h101 : sm ≠ (-1)) => ?_) (fun (h101 : ¬ (sm ≠ (-1))) => ?_)
      · skip
        refine T_ld 92 (.int (i32 0)) rfl (fun _ => rfl) ?_
        refine T_icmp 97 95 rfl rfl rfl ⟨by decide, by decide⟩ ⟨by decide, by decide⟩ (fun _ => ?_) (fun h102 => absurd (show (0 : Int) = 0 by decide) h102)
        refine T_ld 99 (.int (i32 1)) rfl (fun _ => rfl) ?_
        refine T_if 110 102 rfl rfl rfl ⟨by decide, by decide⟩ (fun h103 => absurd (show (1 : Int) = 0 from h103) (by decide)) (fun _ => ?_)
        refine T_ld 103 (.ref (tbr t)) rfl (fun _ => rfl) ?_
        refine T_ld 105 (.int (i32 sm)) rfl (fun _ => rfl) ?_
        refine T_callx 108 190 [.ref (tbr t), .int (i32 sm)] [] rfl (inv_vt (args := [.int (i32 sm)]) (khp_t0 _ (by omega) (by omega)) rfl rfl rfl) rfl rfl (c_tb_remove w (mO m3 [] []) c N D (by omega) Tm3 t sm (r32 (by omega) (by omega)) (r32 (by omega) (by omega)) (show 0 ≤ t ∧ t ≤ 7 by omega) (show 0 ≤ sm ∧ sm ≤ 71 by omega) (show 1 ≤ (m3.2 78) t by rewrite [(show (m3.2 78) = (m.2 78) from (fr2 Fm3 78 rfl))]; omega)) (fun rr104 k105 => ?_)
        obtain ⟨m106, Tm106, Fm106, h107, h108, rfl⟩ := k105
        refine Or.inl ⟨_, _, _, _, rfl, ?_⟩
        refine K_nb (st' := []) rfl ?_
        replace h107 : (m106.2 78) = upI (m3.2 78) t ((m3.2 78) t - 1) := h107
        rewrite [(show (m3.2 78) = (m.2 78) from (fr2 Fm3 78 rfl))] at h107
        have hRm := h107
        replace h108 : ∃ k, CHp t ((m3.2 78) t) k (m3.2 89) (m106.2 89) := h108
        rewrite [(show (m3.2 78) = (m.2 78) from (fr2 Fm3 78 rfl)), (show (m3.2 89) = (m.2 89) from (fr2 Fm3 89 rfl))] at h108
        have hRc := h108
        obtain ⟨kx, hRk⟩ := hRc
        have hTC : TCp (m.1 219) (m106.2 78) (m106.2 89) (m.1 223) := by rw [hRm]; exact TC_rm hTC (fun v => (hT.2.1 78 v).2) hRk rfl
        refine T_ld 109 (.int (i32 0)) rfl (fun _ => rfl) ?_
        refine T_ret rfl (fun _ => rfl) ?_
        exact ⟨(mO m106 [] []), 0, Tm106, (fr_m (fr_s Fm106 (fr_m (fr_s Fm3 (fr_m fr_0 rfl rfl) rfl rfl) rfl rfl) rfl rfl) rfl rfl), ⟨by omega, by omega⟩, (show TCp (m.1 219) (m106.2 78) (m106.2 89) (m.1 223) by first | (exact hTC) | (exfalso; omega)), rfl⟩
      · skip
        refine T_ld 88 (.int (i32 1)) rfl (fun _ => rfl) ?_
        refine T_goto 92 rfl (fun _ => rfl) ?_
        refine T_icmp 97 95 rfl rfl rfl ⟨by decide, by decide⟩ ⟨by decide, by decide⟩ (fun h109 => absurd (show (0 : Int) = 1 from h109) (by decide)) (fun _ => ?_)
        refine T_ld 96 (.int (i32 1)) rfl (fun _ => rfl) ?_
        refine T_ret rfl (fun _ => rfl) ?_
        exact ⟨(mO m3 [] []), 1, Tm3, (fr_m (fr_s Fm3 (fr_m fr_0 rfl rfl) rfl rfl) rfl rfl), ⟨by omega, by omega⟩, (show TCp (m.1 219) (m3.2 78) (m3.2 89) (m.1 223) by rewrite [(show (m3.2 78) = (m.2 78) from (fr2 Fm3 78 rfl)), (show (m3.2 89) = (m.2 89) from (fr2 Fm3 89 rfl))]; first | (exact hTC) | (exfalso; omega)), rfl⟩
