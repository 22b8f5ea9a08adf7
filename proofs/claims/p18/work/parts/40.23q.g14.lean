def Q_leads (m : mR) (c : Nat → Option am_C) (N : Nat) (d : Int) (k : Int) : ag_Re af_T → Prop := fun R => ∃ (r : Int), (0 ≤ r ∧ r ≤ 1) ∧ ((r = 1 ∧ Ld (m.2 44) (m.2 38) (m.2 42) (m.2 45) d k) ∨ (r = 0 ∧ ¬ Ld (m.2 44) (m.2 38) (m.2 42) (m.2 45) d k)) ∧ R = (.inl (some (.int (i32 r))), (mhp m c, N), 0, 0)
set_option maxHeartbeats 3000000 in
theorem c_leads (w : wX) (m : mR) (c : Nat → Option am_C) (N D : Nat) (hD : 1 ≤ D) (hT : Ty m) (d : Int) (k : Int) (qd : R32 d) (qk : R32 k) (p0 : 0 ≤ d ∧ d ≤ 15) : TC w D 286 [.ref 189, .int (i32 d), .int (i32 k)] (mhp m c, N) (Q_leads m c N d k) := by
  obtain ⟨D, rfl⟩ : ∃ k, D = k + 1 := ⟨D - 1, by omega⟩
  obtain ⟨qda, qdb⟩ := id qd
  obtain ⟨qka, qkb⟩ := id qk
  refine Tc_of rfl ?_
  show TT w D pm_286 (0, [(0, .ref 189), (1, .int (i32 d)), (2, .int (i32 k))], [], (mhp (mO m [] []) c, N), 0, 0) (Q_leads m c N d k)
  refine T_gf 4 (.ref 214) rfl rfl rfl rfl rfl rfl ?_
  refine T_ld 5 (.int (i32 d)) rfl (fun _ => rfl) ?_
  refine T_iald 6 44 (m.2 44) rfl rfl rfl (by omega) (show d < (16 : Int) by omega) rfl ?_
  have e1 : (-2) ≤ m.2 44 d ∧ m.2 44 d ≤ 15 := hT.2.1 44 d
  refine T_if 28 9 rfl rfl rfl (r32 (by omega) (by omega)) (fun (h2 : (m.2 44) d < 0) => ?_) (fun (h2 : ¬ ((m.2 44) d < 0)) => ?_)
  · skip
    refine T_ld 29 (.int (i32 0)) rfl (fun _ => rfl) ?_
    refine T_sto 30 [(3, .int (i32 0)), (0, .ref 189), (1, .int (i32 d)), (2, .int (i32 k))] rfl (fun _ => rfl) ?_
    refine T_ld 32 (.int (i32 8)) rfl (fun _ => rfl) ?_
    refine T_ld 33 (.int (i32 d)) rfl (fun _ => rfl) ?_
    refine T_imul 34 rfl rfl ?_
    refine T_sto 36 [(4, .int (i32 (8 * d))), (3, .int (i32 0)), (0, .ref 189), (1, .int (i32 d)), (2, .int (i32 k))] rfl (fun _ => rfl) ?_
    have e16 : 0 ≤ m.2 42 d ∧ m.2 42 d ≤ 8 := hT.2.1 42 d
    have L36_5 : ∀ (n15 : Nat) (v3 : Int) (v4 : Int), (R32 v3) → (R32 v4) → (0 ≤ v3) → (v3 ≤ 1) → (0 ≤ v4) → (v4 ≤ (8 * d) + ((m.2 42) d)) → (8 * d ≤ v4) → ((v3 = 1 ∧ LdK (m.2 44) (m.2 38) (m.2 42) (m.2 45) d k v4) ∨ (v3 = 0 ∧ ¬ LdK (m.2 44) (m.2 38) (m.2 42) (m.2 45) d k v4)) → ((8 * d) + ((m.2 42) d)) - v4 < (n15 : Int) → TT w D pm_286 (36, [(0, .ref 189), (1, .int (i32 d)), (2, .int (i32 k)), (3, .int (i32 v3)), (4, .int (i32 v4))], [], (mhp (mO m [] []) c, N), 0, 0) (Q_leads m c N d k) := by
      intro n15
      induction n15 with
      | zero =>
        intro v3 v4 q12 q13 ic6 ic7 ic8 ic9 ic10 ic11 hmu
        obtain ⟨q12a, q12b⟩ := id q12
        obtain ⟨q13a, q13b⟩ := id q13
        have hL := ic11
        exfalso
        omega
      | succ n15 ih =>
        intro v3 v4 q12 q13 ic6 ic7 ic8 ic9 ic10 ic11 hmu
        obtain ⟨q12a, q12b⟩ := id q12
        obtain ⟨q13a, q13b⟩ := id q13
        have hL := ic11
        have ih17 := ih
        refine T_ld 38 (.int (i32 v4)) rfl (fun _ => rfl) ?_
        refine T_ld 40 (.int (i32 8)) rfl (fun _ => rfl) ?_
        refine T_ld 41 (.int (i32 d)) rfl (fun _ => rfl) ?_
        refine T_imul 42 rfl rfl ?_
        refine T_gf 46 (.ref 212) rfl rfl rfl rfl rfl rfl ?_
        refine T_ld 47 (.int (i32 d)) rfl (fun _ => rfl) ?_
        refine T_iald 48 42 (m.2 42) rfl rfl rfl (by omega) (show d < (16 : Int) by omega) rfl ?_
        have e18 : 0 ≤ m.2 42 d ∧ m.2 42 d ≤ 8 := hT.2.1 42 d
        refine T_iadd 49 rfl rfl ?_
        refine T_icmp 94 52 rfl rfl rfl (r32 (by omega) (by omega)) (r32 (by omega) (by omega)) (fun (h19 : (8 * d) + ((m.2 42) d) ≤ v4) => ?_) (fun (h19 : ¬ ((8 * d) + ((m.2 42) d) ≤ v4)) => ?_)
        · skip
          refine T_ld 95 (.int (i32 v3)) rfl (fun _ => rfl) ?_
          refine T_retb rfl rfl (by omega) ?_
          exact ⟨v3, ⟨by omega, by omega⟩, (show (v3 = 1 ∧ Ld (m.2 44) (m.2 38) (m.2 42) (m.2 45) d k) ∨ (v3 = 0 ∧ ¬ Ld (m.2 44) (m.2 38) (m.2 42) (m.2 45) d k) by first | (rw [show v4 = 8 * d + (m.2 42) d by omega] at hL; exact hL) | (exfalso; omega)), rfl⟩
        · skip
          refine T_ld 53 (.int (i32 v3)) rfl (fun _ => rfl) ?_
          refine T_if 82 56 rfl rfl rfl (r32 (by omega) (by omega)) (fun (h20 : v3 ≠ 0) => ?_) (fun (h20 : ¬ (v3 ≠ 0)) => ?_)
          · skip
            refine T_ld 83 (.int (i32 1)) rfl (fun _ => rfl) ?_
            refine T_goto 87 rfl (fun _ => rfl) ?_
            refine T_sto 88 [(3, .int (i32 1)), (0, .ref 189), (1, .int (i32 d)), (2, .int (i32 k)), (4, .int (i32 v4))] rfl (fun _ => rfl) ?_
            refine T_iinc 91 [(4, .int (i32 (v4 + 1))), (3, .int (i32 1)), (0, .ref 189), (1, .int (i32 d)), (2, .int (i32 k))] rfl rfl (by decide) rfl rfl ?_
            refine T_goto 36 rfl (fun _ => rfl) ?_
            refine Tm_lv (a := [(0, .ref 189), (1, .int (i32 d)), (2, .int (i32 k)), (3, .int (i32 1)), (4, .int (i32 (v4 + 1)))]) rfl rfl ⟨rfl, rfl, rfl, rfl, rfl, trivial⟩ ?_
            exact ih17 1 (v4 + 1) ⟨by decide, by decide⟩ (r32 (by omega) (by omega)) (show 0 ≤ (1 : Int) by omega) (show (1 : Int) ≤ 1 by omega) (show 0 ≤ (v4 + 1) by omega) (show (v4 + 1) ≤ (8 * d) + ((m.2 42) d) by omega) (show 8 * d ≤ (v4 + 1) by omega) (show ((1 : Int) = 1 ∧ LdK (m.2 44) (m.2 38) (m.2 42) (m.2 45) d k (v4 + 1)) ∨ ((1 : Int) = 0 ∧ ¬ LdK (m.2 44) (m.2 38) (m.2 42) (m.2 45) d k (v4 + 1)) by first | exact Or.inl ⟨rfl, Or.inl ⟨by omega, by omega⟩⟩ | exact Or.inr ⟨rfl, fun h => h.elim (fun h => by omega) (fun ⟨c, a, b, e⟩ => by omega)⟩ | exact hL.elim (fun h => Or.inl ⟨rfl, LdK_m h.2⟩) (fun h => absurd h.1 (by omega)) | exact Or.inl ⟨rfl, LdK_n (by omega) (by omega) (by omega)⟩ | exact hL.elim (fun h => absurd h.1 (by omega)) (fun h => Or.inr ⟨rfl, LdK_no h.2 (fun q => by omega)⟩)) (show ((8 * d) + ((m.2 42) d)) - (v4 + 1) < (n15 : Int) by omega)
          · skip
            refine T_gf 60 (.ref 215) rfl rfl rfl rfl rfl rfl ?_
            refine T_ld 62 (.int (i32 v4)) rfl (fun _ => rfl) ?_
            refine T_iald 63 45 (m.2 45) rfl rfl rfl (by omega) (show v4 < (128 : Int) by omega) rfl ?_
            have e21 : (-2) ≤ m.2 45 v4 ∧ m.2 45 v4 ≤ 15 := hT.2.1 45 v4
            refine T_if 86 66 rfl rfl rfl (r32 (by omega) (by omega)) (fun (h22 : (m.2 45) v4 < 0) => ?_) (fun (h22 : ¬ ((m.2 45) v4 < 0)) => ?_)
            · skip
              refine T_ld 87 (.int (i32 0)) rfl (fun _ => rfl) ?_
              refine T_sto 88 [(3, .int (i32 0)), (0, .ref 189), (1, .int (i32 d)), (2, .int (i32 k)), (4, .int (i32 v4))] rfl (fun _ => rfl) ?_
              refine T_iinc 91 [(4, .int (i32 (v4 + 1))), (3, .int (i32 0)), (0, .ref 189), (1, .int (i32 d)), (2, .int (i32 k))] rfl rfl (by decide) rfl rfl ?_
              refine T_goto 36 rfl (fun _ => rfl) ?_
              refine Tm_lv (a := [(0, .ref 189), (1, .int (i32 d)), (2, .int (i32 k)), (3, .int (i32 0)), (4, .int (i32 (v4 + 1)))]) rfl rfl ⟨rfl, rfl, rfl, rfl, rfl, trivial⟩ ?_
              exact ih17 0 (v4 + 1) ⟨by decide, by decide⟩ (r32 (by omega) (by omega)) (show 0 ≤ (0 : Int) by omega) (show (0 : Int) ≤ 1 by omega) (show 0 ≤ (v4 + 1) by omega) (show (v4 + 1) ≤ (8 * d) + ((m.2 42) d) by omega) (show 8 * d ≤ (v4 + 1) by omega) (show ((0 : Int) = 1 ∧ LdK (m.2 44) (m.2 38) (m.2 42) (m.2 45) d k (v4 + 1)) ∨ ((0 : Int) = 0 ∧ ¬ LdK (m.2 44) (m.2 38) (m.2 42) (m.2 45) d k (v4 + 1)) by first | exact Or.inl ⟨rfl, Or.inl ⟨by omega, by omega⟩⟩ | exact Or.inr ⟨rfl, fun h => h.elim (fun h => by omega) (fun ⟨c, a, b, e⟩ => by omega)⟩ | exact hL.elim (fun h => Or.inl ⟨rfl, LdK_m h.2⟩) (fun h => absurd h.1 (by omega)) | exact Or.inl ⟨rfl, LdK_n (by omega) (by omega) (by omega)⟩ | exact hL.elim (fun h => absurd h.1 (by omega)) (fun h => Or.inr ⟨rfl, LdK_no h.2 (fun q => by omega)⟩)) (show ((8 * d) + ((m.2 42) d)) - (v4 + 1) < (n15 : Int) by omega)
            · skip
              refine T_gf 70 (.ref 208) rfl rfl rfl rfl rfl rfl ?_
              refine T_gf 74 (.ref 215) rfl rfl rfl rfl rfl rfl ?_
              refine T_ld 76 (.int (i32 v4)) rfl (fun _ => rfl) ?_
              refine T_iald 77 45 (m.2 45) rfl rfl rfl (by omega) (show v4 < (128 : Int) by omega) rfl ?_
              have e23 : (-2) ≤ m.2 45 v4 ∧ m.2 45 v4 ≤ 15 := hT.2.1 45 v4
              refine T_iald 78 38 (m.2 38) rfl rfl rfl (by omega) (show ((m.2 45) v4) < (16 : Int) by omega) rfl ?_
              have e24 : (-1) ≤ m.2 38 ((m.2 45) v4) ∧ m.2 38 ((m.2 45) v4) ≤ 15 := hT.2.1 38 ((m.2 45) v4)
              refine T_ld 79 (.int (i32 k)) rfl (fun _ => rfl) ?_
              refine T_icmp 86 82 rfl rfl rfl (r32 (by omega) (by omega)) (r32 (by omega) (by omega)) (fun (h25 : (m.2 38) ((m.2 45) v4) ≠ k) => ?_) (fun (h25 : ¬ ((m.2 38) ((m.2 45) v4) ≠ k)) => ?_)
              · skip
                refine T_ld 87 (.int (i32 0)) rfl (fun _ => rfl) ?_
                refine T_sto 88 [(3, .int (i32 0)), (0, .ref 189), (1, .int (i32 d)), (2, .int (i32 k)), (4, .int (i32 v4))] rfl (fun _ => rfl) ?_
                refine T_iinc 91 [(4, .int (i32 (v4 + 1))), (3, .int (i32 0)), (0, .ref 189), (1, .int (i32 d)), (2, .int (i32 k))] rfl rfl (by decide) rfl rfl ?_
                refine T_goto 36 rfl (fun _ => rfl) ?_
                refine Tm_lv (a := [(0, .ref 189), (1, .int (i32 d)), (2, .int (i32 k)), (3, .int (i32 0)), (4, .int (i32 (v4 + 1)))]) rfl rfl ⟨rfl, rfl, rfl, rfl, rfl, trivial⟩ ?_
                exact ih17 0 (v4 + 1) ⟨by decide, by decide⟩ (r32 (by omega) (by omega)) (show 0 ≤ (0 : Int) by omega) (show (0 : Int) ≤ 1 by omega) (show 0 ≤ (v4 + 1) by omega) (show (v4 + 1) ≤ (8 * d) + ((m.2 42) d) by omega) (show 8 * d ≤ (v4 + 1) by omega) (show ((0 : Int) = 1 ∧ LdK (m.2 44) (m.2 38) (m.2 42) (m.2 45) d k (v4 + 1)) ∨ ((0 : Int) = 0 ∧ ¬ LdK (m.2 44) (m.2 38) (m.2 42) (m.2 45) d k (v4 + 1)) by first | exact Or.inl ⟨rfl, Or.inl ⟨by omega, by omega⟩⟩ | exact Or.inr ⟨rfl, fun h => h.elim (fun h => by omega) (fun ⟨c, a, b, e⟩ => by omega)⟩ | exact hL.elim (fun h => Or.inl ⟨rfl, LdK_m h.2⟩) (fun h => absurd h.1 (by omega)) | exact Or.inl ⟨rfl, LdK_n (by omega) (by omega) (by omega)⟩ | exact hL.elim (fun h => absurd h.1 (by omega)) (fun h => Or.inr ⟨rfl, LdK_no h.2 (fun q => by omega)⟩)) (show ((8 * d) + ((m.2 42) d)) - (v4 + 1) < (n15 : Int) by omega)
              · skip
                refine T_ld 83 (.int (i32 1)) rfl (fun _ => rfl) ?_
                refine T_goto 87 rfl (fun _ => rfl) ?_
                refine T_sto 88 [(3, .int (i32 1)), (0, .ref 189), (1, .int (i32 d)), (2, .int (i32 k)), (4, .int (i32 v4))] rfl (fun _ => rfl) ?_
                refine T_iinc 91 [(4, .int (i32 (v4 + 1))), (3, .int (i32 1)), (0, .ref 189), (1, .int (i32 d)), (2, .int (i32 k))] rfl rfl (by decide) rfl rfl ?_
                refine T_goto 36 rfl (fun _ => rfl) ?_
                refine Tm_lv (a := [(0, .ref 189), (1, .int (i32 d)), (2, .int (i32 k)), (3, .int (i32 1)), (4, .int (i32 (v4 + 1)))]) rfl rfl ⟨rfl, rfl, rfl, rfl, rfl, trivial⟩ ?_
                exact ih17 1 (v4 + 1) ⟨by decide, by decide⟩ (r32 (by omega) (by omega)) (show 0 ≤ (1 : Int) by omega) (show (1 : Int) ≤ 1 by omega) (show 0 ≤ (v4 + 1) by omega) (show (v4 + 1) ≤ (8 * d) + ((m.2 42) d) by omega) (show 8 * d ≤ (v4 + 1) by omega) (show ((1 : Int) = 1 ∧ LdK (m.2 44) (m.2 38) (m.2 42) (m.2 45) d k (v4 + 1)) ∨ ((1 : Int) = 0 ∧ ¬ LdK (m.2 44) (m.2 38) (m.2 42) (m.2 45) d k (v4 + 1)) by first | exact Or.inl ⟨rfl, Or.inl ⟨by omega, by omega⟩⟩ | exact Or.inr ⟨rfl, fun h => h.elim (fun h => by omega) (fun ⟨c, a, b, e⟩ => by omega)⟩ | exact hL.elim (fun h => Or.inl ⟨rfl, LdK_m h.2⟩) (fun h => absurd h.1 (by omega)) | exact Or.inl ⟨rfl, LdK_n (by omega) (by omega) (by omega)⟩ | exact hL.elim (fun h => absurd h.1 (by omega)) (fun h => Or.inr ⟨rfl, LdK_no h.2 (fun q => by omega)⟩)) (show ((8 * d) + ((m.2 42) d)) - (v4 + 1) < (n15 : Int) by omega)
    refine Tm_lv (a := [(0, .ref 189), (1, .int (i32 d)), (2, .int (i32 k)), (3, .int (i32 0)), (4, .int (i32 (8 * d)))]) rfl rfl ⟨rfl, rfl, rfl, rfl, rfl, trivial⟩ ?_
    exact L36_5 ((((8 * d) + ((m.2 42) d)) - (8 * d) : Int) + 1).toNat 0 (8 * d) ⟨by decide, by decide⟩ (r32 (by omega) (by omega)) (show 0 ≤ (0 : Int) by omega) (show (0 : Int) ≤ 1 by omega) (show 0 ≤ (8 * d) by omega) (show (8 * d) ≤ (8 * d) + ((m.2 42) d) by omega) (show 8 * d ≤ (8 * d) by omega) (show ((0 : Int) = 1 ∧ LdK (m.2 44) (m.2 38) (m.2 42) (m.2 45) d k (8 * d)) ∨ ((0 : Int) = 0 ∧ ¬ LdK (m.2 44) (m.2 38) (m.2 42) (m.2 45) d k (8 * d)) by first | exact Or.inl ⟨rfl, Or.inl ⟨by omega, by omega⟩⟩ | exact Or.inr ⟨rfl, fun h => h.elim (fun h => by omega) (fun ⟨c, a, b, e⟩ => by omega)⟩ | exact hL.elim (fun h => Or.inl ⟨rfl, LdK_m h.2⟩) (fun h => absurd h.1 (by omega)) | exact Or.inl ⟨rfl, LdK_n (by omega) (by omega) (by omega)⟩ | exact hL.elim (fun h => absurd h.1 (by omega)) (fun h => Or.inr ⟨rfl, LdK_no h.2 (fun q => by omega)⟩)) (show ((8 * d) + ((m.2 42) d)) - (8 * d) < ((((((8 * d) + ((m.2 42) d)) - (8 * d) : Int) + 1).toNat : Nat) : Int) by omega)
  · skip
    refine T_gf 13 (.ref 208) rfl rfl rfl rfl rfl rfl ?_
    refine T_gf 17 (.ref 214) rfl rfl rfl rfl rfl rfl ?_
    refine T_ld 18 (.int (i32 d)) rfl (fun _ => rfl) ?_
    refine T_iald 19 44 (m.2 44) rfl rfl rfl (by omega) (show d < (16 : Int) by omega) rfl ?_
    have e26 : (-2) ≤ m.2 44 d ∧ m.2 44 d ≤ 15 := hT.2.1 44 d
    refine T_iald 20 38 (m.2 38) rfl rfl rfl (by omega) (show ((m.2 44) d) < (16 : Int) by omega) rfl ?_
    have e27 : (-1) ≤ m.2 38 ((m.2 44) d) ∧ m.2 38 ((m.2 44) d) ≤ 15 := hT.2.1 38 ((m.2 44) d)
    refine T_ld 21 (.int (i32 k)) rfl (fun _ => rfl) ?_
    refine T_icmp 28 24 rfl rfl rfl (r32 (by omega) (by omega)) (r32 (by omega) (by omega)) (fun (h28 : (m.2 38) ((m.2 44) d) ≠ k) => ?_) (fun (h28 : ¬ ((m.2 38) ((m.2 44) d) ≠ k)) => ?_)
    · skip
      refine T_ld 29 (.int (i32 0)) rfl (fun _ => rfl) ?_
      refine T_sto 30 [(3, .int (i32 0)), (0, .ref 189), (1, .int (i32 d)), (2, .int (i32 k))] rfl (fun _ => rfl) ?_
      refine T_ld 32 (.int (i32 8)) rfl (fun _ => rfl) ?_
      refine T_ld 33 (.int (i32 d)) rfl (fun _ => rfl) ?_
      refine T_imul 34 rfl rfl ?_
      refine T_sto 36 [(4, .int (i32 (8 * d))), (3, .int (i32 0)), (0, .ref 189), (1, .int (i32 d)), (2, .int (i32 k))] rfl (fun _ => rfl) ?_
      have e42 : 0 ≤ m.2 42 d ∧ m.2 42 d ≤ 8 := hT.2.1 42 d
      have L36_31 : ∀ (n41 : Nat) (v29 : Int) (v30 : Int), (R32 v29) → (R32 v30) → (0 ≤ v29) → (v29 ≤ 1) → (0 ≤ v30) → (v30 ≤ (8 * d) + ((m.2 42) d)) → (8 * d ≤ v30) → ((v29 = 1 ∧ LdK (m.2 44) (m.2 38) (m.2 42) (m.2 45) d k v30) ∨ (v29 = 0 ∧ ¬ LdK (m.2 44) (m.2 38) (m.2 42) (m.2 45) d k v30)) → ((8 * d) + ((m.2 42) d)) - v30 < (n41 : Int) → TT w D pm_286 (36, [(0, .ref 189), (1, .int (i32 d)), (2, .int (i32 k)), (3, .int (i32 v29)), (4, .int (i32 v30))], [], (mhp (mO m [] []) c, N), 0, 0) (Q_leads m c N d k) := by
        intro n41
        induction n41 with
        | zero =>
          intro v29 v30 q38 q39 ic32 ic33 ic34 ic35 ic36 ic37 hmu
          obtain ⟨q38a, q38b⟩ := id q38
          obtain ⟨q39a, q39b⟩ := id q39
          have hL := ic37
          exfalso
          omega
        | succ n41 ih =>
          intro v29 v30 q38 q39 ic32 ic33 ic34 ic35 ic36 ic37 hmu
          obtain ⟨q38a, q38b⟩ := id q38
          obtain ⟨q39a, q39b⟩ := id q39
          have hL := ic37
          have ih43 := ih
          refine T_ld 38 (.int (i32 v30)) rfl (fun _ => rfl) ?_
          refine T_ld 40 (.int (i32 8)) rfl (fun _ => rfl) ?_
          refine T_ld 41 (.int (i32 d)) rfl (fun _ => rfl) ?_
          refine T_imul 42 rfl rfl ?_
          refine T_gf 46 (.ref 212) rfl rfl rfl rfl rfl rfl ?_
          refine T_ld 47 (.int (i32 d)) rfl (fun _ => rfl) ?_
          refine T_iald 48 42 (m.2 42) rfl rfl rfl (by omega) (show d < (16 : Int) by omega) rfl ?_
          have e44 : 0 ≤ m.2 42 d ∧ m.2 42 d ≤ 8 := hT.2.1 42 d
          refine T_iadd 49 rfl rfl ?_
          refine T_icmp 94 52 rfl rfl rfl (r32 (by omega) (by omega)) (r32 (by omega) (by omega)) (fun (h45 : (8 * d) + ((m.2 42) d) ≤ v30) => ?_) (fun (h45 : ¬ ((8 * d) + ((m.2 42) d) ≤ v30)) => ?_)
          · skip
            refine T_ld 95 (.int (i32 v29)) rfl (fun _ => rfl) ?_
            refine T_retb rfl rfl (by omega) ?_
            exact ⟨v29, ⟨by omega, by omega⟩, (show (v29 = 1 ∧ Ld (m.2 44) (m.2 38) (m.2 42) (m.2 45) d k) ∨ (v29 = 0 ∧ ¬ Ld (m.2 44) (m.2 38) (m.2 42) (m.2 45) d k) by first | (rw [show v30 = 8 * d + (m.2 42) d by omega] at hL; exact hL) | (exfalso; omega)), rfl⟩
          · skip
            refine T_ld 53 (.int (i32 v29)) rfl (fun _ => rfl) ?_
            refine T_if 82 56 rfl rfl rfl (r32 (by omega) (by omega)) (fun (h46 : v29 ≠ 0) => ?_) (fun (h46 : ¬ (v29 ≠ 0)) => ?_)
            · skip
              refine T_ld 83 (.int (i32 1)) rfl (fun _ => rfl) ?_
              refine T_goto 87 rfl (fun _ => rfl) ?_
              refine T_sto 88 [(3, .int (i32 1)), (0, .ref 189), (1, .int (i32 d)), (2, .int (i32 k)), (4, .int (i32 v30))] rfl (fun _ => rfl) ?_
              refine T_iinc 91 [(4, .int (i32 (v30 + 1))), (3, .int (i32 1)), (0, .ref 189), (1, .int (i32 d)), (2, .int (i32 k))] rfl rfl (by decide) rfl rfl ?_
              refine T_goto 36 rfl (fun _ => rfl) ?_
              refine Tm_lv (a := [(0, .ref 189), (1, .int (i32 d)), (2, .int (i32 k)), (3, .int (i32 1)), (4, .int (i32 (v30 + 1)))]) rfl rfl ⟨rfl, rfl, rfl, rfl, rfl, trivial⟩ ?_
              exact ih43 1 (v30 + 1) ⟨by decide, by decide⟩ (r32 (by omega) (by omega)) (show 0 ≤ (1 : Int) by omega) (show (1 : Int) ≤ 1 by omega) (show 0 ≤ (v30 + 1) by omega) (show (v30 + 1) ≤ (8 * d) + ((m.2 42) d) by omega) (show 8 * d ≤ (v30 + 1) by omega) (show ((1 : Int) = 1 ∧ LdK (m.2 44) (m.2 38) (m.2 42) (m.2 45) d k (v30 + 1)) ∨ ((1 : Int) = 0 ∧ ¬ LdK (m.2 44) (m.2 38) (m.2 42) (m.2 45) d k (v30 + 1)) by first | exact Or.inl ⟨rfl, Or.inl ⟨by omega, by omega⟩⟩ | exact Or.inr ⟨rfl, fun h => h.elim (fun h => by omega) (fun ⟨c, a, b, e⟩ => by omega)⟩ | exact hL.elim (fun h => Or.inl ⟨rfl, LdK_m h.2⟩) (fun h => absurd h.1 (by omega)) | exact Or.inl ⟨rfl, LdK_n (by omega) (by omega) (by omega)⟩ | exact hL.elim (fun h => absurd h.1 (by omega)) (fun h => Or.inr ⟨rfl, LdK_no h.2 (fun q => by omega)⟩)) (show ((8 * d) + ((m.2 42) d)) - (v30 + 1) < (n41 : Int) by omega)
            · skip
              refine T_gf 60 (.ref 215) rfl rfl rfl rfl rfl rfl ?_
              refine T_ld 62 (.int (i32 v30)) rfl (fun _ => rfl) ?_
              refine T_iald 63 45 (m.2 45) rfl rfl rfl (by omega) (show v30 < (128 : Int) by omega) rfl ?_
              have e47 : (-2) ≤ m.2 45 v30 ∧ m.2 45 v30 ≤ 15 := hT.2.1 45 v30
              refine T_if 86 66 rfl rfl rfl (r32 (by omega) (by omega)) (fun (h48 : (m.2 45) v30 < 0) => ?_) (fun (h48 : ¬ ((m.2 45) v30 < 0)) => ?_)
              · skip
                refine T_ld 87 (.int (i32 0)) rfl (fun _ => rfl) ?_
                refine T_sto 88 [(3, .int (i32 0)), (0, .ref 189), (1, .int (i32 d)), (2, .int (i32 k)), (4, .int (i32 v30))] rfl (fun _ => rfl) ?_
                refine T_iinc 91 [(4, .int (i32 (v30 + 1))), (3, .int (i32 0)), (0, .ref 189), (1, .int (i32 d)), (2, .int (i32 k))] rfl rfl (by decide) rfl rfl ?_
                refine T_goto 36 rfl (fun _ => rfl) ?_
                refine Tm_lv (a := [(0, .ref 189), (1, .int (i32 d)), (2, .int (i32 k)), (3, .int (i32 0)), (4, .int (i32 (v30 + 1)))]) rfl rfl ⟨rfl, rfl, rfl, rfl, rfl, trivial⟩ ?_
                exact ih43 0 (v30 + 1) ⟨by decide, by decide⟩ (r32 (by omega) (by omega)) (show 0 ≤ (0 : Int) by omega) (show (0 : Int) ≤ 1 by omega) (show 0 ≤ (v30 + 1) by omega) (show (v30 + 1) ≤ (8 * d) + ((m.2 42) d) by omega) (show 8 * d ≤ (v30 + 1) by omega) (show ((0 : Int) = 1 ∧ LdK (m.2 44) (m.2 38) (m.2 42) (m.2 45) d k (v30 + 1)) ∨ ((0 : Int) = 0 ∧ ¬ LdK (m.2 44) (m.2 38) (m.2 42) (m.2 45) d k (v30 + 1)) by first | exact Or.inl ⟨rfl, Or.inl ⟨by omega, by omega⟩⟩ | exact Or.inr ⟨rfl, fun h => h.elim (fun h => by omega) (fun ⟨c, a, b, e⟩ => by omega)⟩ | exact hL.elim (fun h => Or.inl ⟨rfl, LdK_m h.2⟩) (fun h => absurd h.1 (by omega)) | exact Or.inl ⟨rfl, LdK_n (by omega) (by omega) (by omega)⟩ | exact hL.elim (fun h => absurd h.1 (by omega)) (fun h => Or.inr ⟨rfl, LdK_no h.2 (fun q => by omega)⟩)) (show ((8 * d) + ((m.2 42) d)) - (v30 + 1) < (n41 : Int) by omega)
              · skip
                refine T_gf 70 (.ref 208) rfl rfl rfl rfl rfl rfl ?_
                refine T_gf 74 (.ref 215) rfl rfl rfl rfl rfl rfl ?_
                refine T_ld 76 (.int (i32 v30)) rfl (fun _ => rfl) ?_
                refine T_iald 77 45 (m.2 45) rfl rfl rfl (by omega) (show v30 < (128 : Int) by omega) rfl ?_
                have e49 : (-2) ≤ m.2 45 v30 ∧ m.2 45 v30 ≤ 15 := hT.2.1 45 v30
                refine T_iald 78 38 (m.2 38) rfl rfl rfl (by omega) (show ((m.2 45) v30) < (16 : Int) by omega) rfl ?_
                have e50 : (-1) ≤ m.2 38 ((m.2 45) v30) ∧ m.2 38 ((m.2 45) v30) ≤ 15 := hT.2.1 38 ((m.2 45) v30)
                refine T_ld 79 (.int (i32 k)) rfl (fun _ => rfl) ?_
                refine T_icmp 86 82 rfl rfl rfl (r32 (by omega) (by omega)) (r32 (by omega) (by omega)) (fun (h51 : (m.2 38) ((m.2 45) v30) ≠ k) => ?_) (fun (h51 : ¬ ((m.2 38) ((m.2 45) v30) ≠ k)) => ?_)
                · skip
                  refine T_ld 87 (.int (i32 0)) rfl (fun _ => rfl) ?_
                  refine T_sto 88 [(3, .int (i32 0)), (0, .ref 189), (1, .int (i32 d)), (2, .int (i32 k)), (4, .int (i32 v30))] rfl (fun _ => rfl) ?_
                  refine T_iinc 91 [(4, .int (i32 (v30 + 1))), (3, .int (i32 0)), (0, .ref 189), (1, .int (i32 d)), (2, .int (i32 k))] rfl rfl (by decide) rfl rfl ?_
                  refine T_goto 36 rfl (fun _ => rfl) ?_
                  refine Tm_lv (a := [(0, .ref 189), (1, .int (i32 d)), (2, .int (i32 k)), (3, .int (i32 0)), (4, .int (i32 (v30 + 1)))]) rfl rfl ⟨rfl, rfl, rfl, rfl, rfl, trivial⟩ ?_
                  exact ih43 0 (v30 + 1) ⟨by decide, by decide⟩ (r32 (by omega) (by omega)) (show 0 ≤ (0 : Int) by omega) (show (0 : Int) ≤ 1 by omega) (show 0 ≤ (v30 + 1) by omega) (show (v30 + 1) ≤ (8 * d) + ((m.2 42) d) by omega) (show 8 * d ≤ (v30 + 1) by omega) (show ((0 : Int) = 1 ∧ LdK (m.2 44) (m.2 38) (m.2 42) (m.2 45) d k (v30 + 1)) ∨ ((0 : Int) = 0 ∧ ¬ LdK (m.2 44) (m.2 38) (m.2 42) (m.2 45) d k (v30 + 1)) by first | exact Or.inl ⟨rfl, Or.inl ⟨by omega, by omega⟩⟩ | exact Or.inr ⟨rfl, fun h => h.elim (fun h => by omega) (fun ⟨c, a, b, e⟩ => by omega)⟩ | exact hL.elim (fun h => Or.inl ⟨rfl, LdK_m h.2⟩) (fun h => absurd h.1 (by omega)) | exact Or.inl ⟨rfl, LdK_n (by omega) (by omega) (by omega)⟩ | exact hL.elim (fun h => absurd h.1 (by omega)) (fun h => Or.inr ⟨rfl, LdK_no h.2 (fun q => by omega)⟩)) (show ((8 * d) + ((m.2 42) d)) - (v30 + 1) < (n41 : Int) by omega)
                · skip
                  refine T_ld 83 (.int (i32 1)) rfl (fun _ => rfl) ?_
                  refine T_goto 87 rfl (fun _ => rfl) ?_
                  refine T_sto 88 [(3, .int (i32 1)), (0, .ref 189), (1, .int (i32 d)), (2, .int (i32 k)), (4, .int (i32 v30))] rfl (fun _ => rfl) ?_
                  refine T_iinc 91 [(4, .int (i32 (v30 + 1))), (3, .int (i32 1)), (0, .ref 189), (1, .int (i32 d)), (2, .int (i32 k))] rfl rfl (by decide) rfl rfl ?_
                  refine T_goto 36 rfl (fun _ => rfl) ?_
                  refine Tm_lv (a := [(0, .ref 189), (1, .int (i32 d)), (2, .int (i32 k)), (3, .int (i32 1)), (4, .int (i32 (v30 + 1)))]) rfl rfl ⟨rfl, rfl, rfl, rfl, rfl, trivial⟩ ?_
                  exact ih43 1 (v30 + 1) ⟨by decide, by decide⟩ (r32 (by omega) (by omega)) (show 0 ≤ (1 : Int) by omega) (show (1 : Int) ≤ 1 by omega) (show 0 ≤ (v30 + 1) by omega) (show (v30 + 1) ≤ (8 * d) + ((m.2 42) d) by omega) (show 8 * d ≤ (v30 + 1) by omega) (show ((1 : Int) = 1 ∧ LdK (m.2 44) (m.2 38) (m.2 42) (m.2 45) d k (v30 + 1)) ∨ ((1 : Int) = 0 ∧ ¬ LdK (m.2 44) (m.2 38) (m.2 42) (m.2 45) d k (v30 + 1)) by first | exact Or.inl ⟨rfl, Or.inl ⟨by omega, by omega⟩⟩ | exact Or.inr ⟨rfl, fun h => h.elim (fun h => by omega) (fun ⟨c, a, b, e⟩ => by omega)⟩ | exact hL.elim (fun h => Or.inl ⟨rfl, LdK_m h.2⟩) (fun h => absurd h.1 (by omega)) | exact Or.inl ⟨rfl, LdK_n (by omega) (by omega) (by omega)⟩ | exact hL.elim (fun h => absurd h.1 (by omega)) (fun h => Or.inr ⟨rfl, LdK_no h.2 (fun q => by omega)⟩)) (show ((8 * d) + ((m.2 42) d)) - (v30 + 1) < (n41 : Int) by omega)
      refine Tm_lv (a := [(0, .ref 189), (1, .int (i32 d)), (2, .int (i32 k)), (3, .int (i32 0)), (4, .int (i32 (8 * d)))]) rfl rfl ⟨rfl, rfl, rfl, rfl, rfl, trivial⟩ ?_
      exact L36_31 ((((8 * d) + ((m.2 42) d)) - (8 * d) : Int) + 1).toNat 0 (8 * d) ⟨by decide, by decide⟩ (r32 (by omega) (by omega)) (show 0 ≤ (0 : Int) by omega) (show (0 : Int) ≤ 1 by omega) (show 0 ≤ (8 * d) by omega) (show (8 * d) ≤ (8 * d) + ((m.2 42) d) by omega) (show 8 * d ≤ (8 * d) by omega) (show ((0 : Int) = 1 ∧ LdK (m.2 44) (m.2 38) (m.2 42) (m.2 45) d k (8 * d)) ∨ ((0 : Int) = 0 ∧ ¬ LdK (m.2 44) (m.2 38) (m.2 42) (m.2 45) d k (8 * d)) by first | exact Or.inl ⟨rfl, Or.inl ⟨by omega, by omega⟩⟩ | exact Or.inr ⟨rfl, fun h => h.elim (fun h => by omega) (fun ⟨c, a, b, e⟩ => by omega)⟩ | exact hL.elim (fun h => Or.inl ⟨rfl, LdK_m h.2⟩) (fun h => absurd h.1 (by omega)) | exact Or.inl ⟨rfl, LdK_n (by omega) (by omega) (by omega)⟩ | exact hL.elim (fun h => absurd h.1 (by omega)) (fun h => Or.inr ⟨rfl, LdK_no h.2 (fun q => by omega)⟩)) (show ((8 * d) + ((m.2 42) d)) - (8 * d) < ((((((8 * d) + ((m.2 42) d)) - (8 * d) : Int) + 1).toNat : Nat) : Int) by omega)
    · skip
      refine T_ld 25 (.int (i32 1)) rfl (fun _ => rfl) ?_
      refine T_goto 29 rfl (fun _ => rfl) ?_
      refine T_sto 30 [(3, .int (i32 1)), (0, .ref 189), (1, .int (i32 d)), (2, .int (i32 k))] rfl (fun _ => rfl) ?_
      refine T_ld 32 (.int (i32 8)) rfl (fun _ => rfl) ?_
      refine T_ld 33 (.int (i32 d)) rfl (fun _ => rfl) ?_
      refine T_imul 34 rfl rfl ?_
      refine T_sto 36 [(4, .int (i32 (8 * d))), (3, .int (i32 1)), (0, .ref 189), (1, .int (i32 d)), (2, .int (i32 k))] rfl (fun _ => rfl) ?_
      have e65 : 0 ≤ m.2 42 d ∧ m.2 42 d ≤ 8 := hT.2.1 42 d
      have L36_54 : ∀ (n64 : Nat) (v52 : Int) (v53 : Int), (R32 v52) → (R32 v53) → (1 ≤ v52) → (v52 ≤ 1) → (0 ≤ v53) → (v53 ≤ (8 * d) + ((m.2 42) d)) → (8 * d ≤ v53) → ((v52 = 1 ∧ LdK (m.2 44) (m.2 38) (m.2 42) (m.2 45) d k v53) ∨ (v52 = 0 ∧ ¬ LdK (m.2 44) (m.2 38) (m.2 42) (m.2 45) d k v53)) → ((8 * d) + ((m.2 42) d)) - v53 < (n64 : Int) → TT w D pm_286 (36, [(0, .ref 189), (1, .int (i32 d)), (2, .int (i32 k)), (3, .int (i32 v52)), (4, .int (i32 v53))], [], (mhp (mO m [] []) c, N), 0, 0) (Q_leads m c N d k) := by
        intro n64
        induction n64 with
        | zero =>
          intro v52 v53 q61 q62 ic55 ic56 ic57 ic58 ic59 ic60 hmu
          obtain ⟨q61a, q61b⟩ := id q61
          obtain ⟨q62a, q62b⟩ := id q62
          have hL := ic60
          exfalso
          omega
        | succ n64 ih =>
          intro v52 v53 q61 q62 ic55 ic56 ic57 ic58 ic59 ic60 hmu
          obtain ⟨q61a, q61b⟩ := id q61
          obtain ⟨q62a, q62b⟩ := id q62
          have hL := ic60
          have ih66 := ih
          refine T_ld 38 (.int (i32 v53)) rfl (fun _ => rfl) ?_
          refine T_ld 40 (.int (i32 8)) rfl (fun _ => rfl) ?_
          refine T_ld 41 (.int (i32 d)) rfl (fun _ => rfl) ?_
          refine T_imul 42 rfl rfl ?_
          refine T_gf 46 (.ref 212) rfl rfl rfl rfl rfl rfl ?_
          refine T_ld 47 (.int (i32 d)) rfl (fun _ => rfl) ?_
          refine T_iald 48 42 (m.2 42) rfl rfl rfl (by omega) (show d < (16 : Int) by omega) rfl ?_
          have e67 : 0 ≤ m.2 42 d ∧ m.2 42 d ≤ 8 := hT.2.1 42 d
          refine T_iadd 49 rfl rfl ?_
          refine T_icmp 94 52 rfl rfl rfl (r32 (by omega) (by omega)) (r32 (by omega) (by omega)) (fun (h68 : (8 * d) + ((m.2 42) d) ≤ v53) => ?_) (fun (h68 : ¬ ((8 * d) + ((m.2 42) d) ≤ v53)) => ?_)
          · skip
            refine T_ld 95 (.int (i32 v52)) rfl (fun _ => rfl) ?_
            refine T_retb rfl rfl (by omega) ?_
            exact ⟨v52, ⟨by omega, by omega⟩, (show (v52 = 1 ∧ Ld (m.2 44) (m.2 38) (m.2 42) (m.2 45) d k) ∨ (v52 = 0 ∧ ¬ Ld (m.2 44) (m.2 38) (m.2 42) (m.2 45) d k) by first | (rw [show v53 = 8 * d + (m.2 42) d by omega] at hL; exact hL) | (exfalso; omega)), rfl⟩
          · skip
            refine T_ld 53 (.int (i32 v52)) rfl (fun _ => rfl) ?_
            refine T_if 82 56 rfl rfl rfl (r32 (by omega) (by omega)) (fun (h69 : v52 ≠ 0) => ?_) (fun (h69 : ¬ (v52 ≠ 0)) => by exfalso; omega)
            refine T_ld 83 (.int (i32 1)) rfl (fun _ => rfl) ?_
            refine T_goto 87 rfl (fun _ => rfl) ?_
            refine T_sto 88 [(3, .int (i32 1)), (0, .ref 189), (1, .int (i32 d)), (2, .int (i32 k)), (4, .int (i32 v53))] rfl (fun _ => rfl) ?_
            refine T_iinc 91 [(4, .int (i32 (v53 + 1))), (3, .int (i32 1)), (0, .ref 189), (1, .int (i32 d)), (2, .int (i32 k))] rfl rfl (by decide) rfl rfl ?_
            refine T_goto 36 rfl (fun _ => rfl) ?_
            refine Tm_lv (a := [(0, .ref 189), (1, .int (i32 d)), (2, .int (i32 k)), (3, .int (i32 1)), (4, .int (i32 (v53 + 1)))]) rfl rfl ⟨rfl, rfl, rfl, rfl, rfl, trivial⟩ ?_
            exact ih66 1 (v53 + 1) ⟨by decide, by decide⟩ (r32 (by omega) (by omega)) (show 1 ≤ (1 : Int) by omega) (show (1 : Int) ≤ 1 by omega) (show 0 ≤ (v53 + 1) by omega) (show (v53 + 1) ≤ (8 * d) + ((m.2 42) d) by omega) (show 8 * d ≤ (v53 + 1) by omega) (show ((1 : Int) = 1 ∧ LdK (m.2 44) (m.2 38) (m.2 42) (m.2 45) d k (v53 + 1)) ∨ ((1 : Int) = 0 ∧ ¬ LdK (m.2 44) (m.2 38) (m.2 42) (m.2 45) d k (v53 + 1)) by first | exact Or.inl ⟨rfl, Or.inl ⟨by omega, by omega⟩⟩ | exact Or.inr ⟨rfl, fun h => h.elim (fun h => by omega) (fun ⟨c, a, b, e⟩ => by omega)⟩ | exact hL.elim (fun h => Or.inl ⟨rfl, LdK_m h.2⟩) (fun h => absurd h.1 (by omega)) | exact Or.inl ⟨rfl, LdK_n (by omega) (by omega) (by omega)⟩ | exact hL.elim (fun h => absurd h.1 (by omega)) (fun h => Or.inr ⟨rfl, LdK_no h.2 (fun q => by omega)⟩)) (show ((8 * d) + ((m.2 42) d)) - (v53 + 1) < (n64 : Int) by omega)
      refine Tm_lv (a := [(0, .ref 189), (1, .int (i32 d)), (2, .int (i32 k)), (3, .int (i32 1)), (4, .int (i32 (8 * d)))]) rfl rfl ⟨rfl, rfl, rfl, rfl, rfl, trivial⟩ ?_
      exact L36_54 ((((8 * d) + ((m.2 42) d)) - (8 * d) : Int) + 1).toNat 1 (8 * d) ⟨by decide, by decide⟩ (r32 (by omega) (by omega)) (show 1 ≤ (1 : Int) by omega) (show (1 : Int) ≤ 1 by omega) (show 0 ≤ (8 * d) by omega) (show (8 * d) ≤ (8 * d) + ((m.2 42) d) by omega) (show 8 * d ≤ (8 * d) by omega) (show ((1 : Int) = 1 ∧ LdK (m.2 44) (m.2 38) (m.2 42) (m.2 45) d k (8 * d)) ∨ ((1 : Int) = 0 ∧ ¬ LdK (m.2 44) (m.2 38) (m.2 42) (m.2 45) d k (8 * d)) by first | exact Or.inl ⟨rfl, Or.inl ⟨by omega, by omega⟩⟩ | exact Or.inr ⟨rfl, fun h => h.elim (fun h => by omega) (fun ⟨c, a, b, e⟩ => by omega)⟩ | exact hL.elim (fun h => Or.inl ⟨rfl, LdK_m h.2⟩) (fun h => absurd h.1 (by omega)) | exact Or.inl ⟨rfl, LdK_n (by omega) (by omega) (by omega)⟩ | exact hL.elim (fun h => absurd h.1 (by omega)) (fun h => Or.inr ⟨rfl, LdK_no h.2 (fun q => by omega)⟩)) (show ((8 * d) + ((m.2 42) d)) - (8 * d) < ((((((8 * d) + ((m.2 42) d)) - (8 * d) : Int) + 1).toNat : Nat) : Int) by omega)
def fF_comesRound : List Nat := []
def fA_comesRound : List Nat := [126]
def Q_comesRound (m : mR) (c : Nat → Option am_C) (N : Nat) (d : Int) : ag_Re af_T → Prop := fun R => ∃ (M : mR) (r : Int), Ty M ∧ fr fF_comesRound fA_comesRound m M ∧ (0 ≤ r ∧ r ≤ 1) ∧ (r = 0 → 0 < (m.2 41) d ∨ NR (m.2 44) (m.2 38) (m.2 42) (m.2 45) (m.2 41) (m.1 24) d) ∧ R = (.inl (some (.int (i32 r))), (mhp M c, N), 0, 0)
set_option maxHeartbeats 3000000 in
theorem c_comesRound (w : wX) (m : mR) (c : Nat → Option am_C) (N D : Nat) (hD : 2 ≤ D) (hT : Ty m) (d : Int) (qd : R32 d) (p0 : 0 ≤ d ∧ d ≤ 15) (p1 : d < (m.1 24)) : TC w D 285 [.ref 189, .int (i32 d)] (mhp m c, N) (Q_comesRound m c N d) := by
  obtain ⟨D, rfl⟩ : ∃ k, D = k + 1 := ⟨D - 1, by omega⟩
  obtain ⟨qda, qdb⟩ := id qd
  have f24 : 0 ≤ m.1 24 ∧ m.1 24 ≤ 16 := hT.1 24
  refine Tc_of rfl ?_
  show TT w D pm_285 (0, [(0, .ref 189), (1, .int (i32 d))], [], (mhp (mO m [] []) c, N), 0, 0) (Q_comesRound m c N d)
  refine T_gf 4 (.ref 211) rfl rfl rfl rfl rfl rfl ?_
  refine T_ld 5 (.int (i32 d)) rfl (fun _ => rfl) ?_
  refine T_iald 6 41 (m.2 41) rfl rfl rfl (by omega) (show d < (16 : Int) by omega) rfl ?_
  have e1 : 0 ≤ m.2 41 d ∧ m.2 41 d ≤ 6 := hT.2.1 41 d
  refine T_if 11 9 rfl rfl rfl (r32 (by omega) (by omega)) (fun (h2 : (m.2 41) d ≤ 0) => ?_) (fun (h2 : ¬ ((m.2 41) d ≤ 0)) => ?_)
  · skip
    refine T_ld 12 (.int (i32 0)) rfl (fun _ => rfl) ?_
    refine T_sto 13 [(2, .int (i32 0)), (0, .ref 189), (1, .int (i32 d))] rfl (fun _ => rfl) ?_
    have L13_5 : ∀ (n12 : Nat) (v3 : Int) (m4 : mR), (R32 v3) → Ty m4 → fr [] [126] (mO m [] []) m4 → (0 ≤ v3) → (v3 ≤ (m.1 24)) → (∀ j, 0 ≤ j → j < v3 → Ld (m.2 44) (m.2 38) (m.2 42) (m.2 45) d j → (m4.2 126) j = 1) → (m.1 24) - v3 < (n12 : Int) → TT w D pm_285 (13, [(0, .ref 189), (1, .int (i32 d)), (2, .int (i32 v3))], [], (mhp (mO m4 [] []) c, N), 0, 0) (Q_comesRound m c N d) := by
      intro n12
      induction n12 with
      | zero =>
        intro v3 m4 q9 Tm4 Fm4 ic6 ic7 ic8 hmu
        obtain ⟨q9a, q9b⟩ := id q9
        have hC1 := ic8
        exfalso
        omega
      | succ n12 ih =>
        intro v3 m4 q9 Tm4 Fm4 ic6 ic7 ic8 hmu
        obtain ⟨q9a, q9b⟩ := id q9
        have hC1 := ic8
        have ih13 := ih
        refine T_ld 14 (.int (i32 v3)) rfl (fun _ => rfl) ?_
        refine T_gf 18 (.int (i32 (m.1 24))) rfl rfl rfl rfl (mfv_c (F := fun x => .int (i32 x)) rfl (show (m4.1 24) = (m.1 24) from (fr1 Fm4 24 rfl))) rfl ?_
        refine T_icmp 39 21 rfl rfl rfl (r32 (by omega) (by omega)) (r32 (by omega) (by omega)) (fun (h14 : (m.1 24) ≤ v3) => ?_) (fun (h14 : ¬ ((m.1 24) ≤ v3)) => ?_)
        · skip
          refine T_ld 40 (.int (i32 1)) rfl (fun _ => rfl) ?_
          refine T_sto 41 [(2, .int (i32 1)), (0, .ref 189), (1, .int (i32 d))] rfl (fun _ => rfl) ?_
          have L41_17 : ∀ (n26 : Nat) (v15 : Int) (m16 : mR), (R32 v15) → Ty m16 → fr [] [126] (mO m4 [] []) m16 → (0 ≤ v15) → (v15 ≤ 1) → (v15 = 0 ∨ v15 = 1) → (∀ j, 0 ≤ j → j < (m.1 24) → Ld (m.2 44) (m.2 38) (m.2 42) (m.2 45) d j → (m16.2 126) j = 1) → (v15 = 0 → CLk (m.2 44) (m.2 38) (m.2 42) (m.2 45) (m.2 41) (m16.2 126) (m.1 24) (m.1 24)) → 2 * (16 - ct (m16.2 126) 16) + v15 < (n26 : Int) → TT w D pm_285 (41, [(0, .ref 189), (1, .int (i32 d)), (2, .int (i32 v15))], [], (mhp (mO m16 [] []) c, N), 0, 0) (Q_comesRound m c N d) := by
            intro n26
            induction n26 with
            | zero =>
              intro v15 m16 q23 Tm16 Fm16 ic18 ic19 ic20 ic21 ic22 hmu
              obtain ⟨q23a, q23b⟩ := id q23
              have hC1 := ic21
              have hC2 := ic22
              have hc16 := ct_le (f := (m16.2 126)) (Tm16.2.1 126) (n := 16) (by decide)
              exfalso
              omega
            | succ n26 ih =>
              intro v15 m16 q23 Tm16 Fm16 ic18 ic19 ic20 ic21 ic22 hmu
              obtain ⟨q23a, q23b⟩ := id q23
              have hC1 := ic21
              have hC2 := ic22
              have ih27 := ih
              have hc16 := ct_le (f := (m16.2 126)) (Tm16.2.1 126) (n := 16) (by decide)
              refine T_ld 42 (.int (i32 v15)) rfl (fun _ => rfl) ?_
              refine T_if 138 45 rfl rfl rfl (r32 (by omega) (by omega)) (fun (h28 : v15 = 0) => ?_) (fun (h28 : ¬ (v15 = 0)) => ?_)
              · skip
                refine T_gf 142 (.ref 284) rfl rfl rfl rfl rfl rfl ?_
                refine T_ld 143 (.int (i32 d)) rfl (fun _ => rfl) ?_
                refine T_bald 144 126 (m16.2 126) rfl rfl rfl (by omega) (show d < (16 : Int) by omega) rfl ?_
                have e29 : 0 ≤ (m16.2 126) d ∧ (m16.2 126) d ≤ 1 := (Tm16.2.1 126) d
                refine T_retb rfl rfl (by omega) ?_
                exact ⟨(mO m16 [] []), (m16.2 126) d, Tm16, (fr_m (fr_s Fm16 (fr_m (fr_s Fm4 (fr_m fr_0 rfl rfl) rfl rfl) rfl rfl) rfl rfl) rfl rfl), ⟨by omega, by omega⟩, (show ((m16.2 126) d) = 0 → 0 < (m.2 41) d ∨ NR (m.2 44) (m.2 38) (m.2 42) (m.2 45) (m.2 41) (m.1 24) d by first | (first | (intro h; exact Or.inl (by omega)) | (intro h; exact Or.inr ⟨(m16.2 126), hC1, hC2 (by omega), by omega⟩)) | (exfalso; omega)), rfl⟩
              · skip
                obtain ⟨C0, hC0⟩ : ∃ C0, C0 = ct (m16.2 126) 16 := ⟨_, rfl⟩
                refine T_ld 46 (.int (i32 0)) rfl (fun _ => rfl) ?_
                refine T_sto 47 [(2, .int (i32 0)), (0, .ref 189), (1, .int (i32 d))] rfl (fun _ => rfl) ?_
                refine T_ld 48 (.int (i32 0)) rfl (fun _ => rfl) ?_
                refine T_sto 49 [(3, .int (i32 0)), (2, .int (i32 0)), (0, .ref 189), (1, .int (i32 d))] rfl (fun _ => rfl) ?_
                have L49_33 : ∀ (n45 : Nat) (v30 : Int) (v31 : Int) (m32 : mR), (R32 v30) → (R32 v31) → Ty m32 → fr [] [126] (mO m16 [] []) m32 → (0 ≤ v30) → (v30 ≤ 1) → (0 ≤ v31) → (v31 ≤ (m.1 24)) → (v30 = 0 ∨ v30 = 1) → (∀ j, 0 ≤ j → j < (m.1 24) → Ld (m.2 44) (m.2 38) (m.2 42) (m.2 45) d j → (m32.2 126) j = 1) → ((v30 = 0 ∧ ct (m32.2 126) 16 = C0 ∧ CLk (m.2 44) (m.2 38) (m.2 42) (m.2 45) (m.2 41) (m32.2 126) (m.1 24) v31) ∨ (v30 = 1 ∧ C0 + 1 ≤ ct (m32.2 126) 16)) → (m.1 24) - v31 < (n45 : Int) → TT w D pm_285 (49, [(0, .ref 189), (1, .int (i32 d)), (2, .int (i32 v30)), (3, .int (i32 v31))], [], (mhp (mO m32 [] []) c, N), 0, 0) (Q_comesRound m c N d) := by
                  intro n45
                  induction n45 with
                  | zero =>
                    intro v30 v31 m32 q41 q42 Tm32 Fm32 ic34 ic35 ic36 ic37 ic38 ic39 ic40 hmu
                    obtain ⟨q41a, q41b⟩ := id q41
                    obtain ⟨q42a, q42b⟩ := id q42
                    have hC1 := ic39
                    have hD := ic40
                    have hc16 := ct_le (f := (m32.2 126)) (Tm32.2.1 126) (n := 16) (by decide)
                    exfalso
                    omega
                  | succ n45 ih =>
                    intro v30 v31 m32 q41 q42 Tm32 Fm32 ic34 ic35 ic36 ic37 ic38 ic39 ic40 hmu
                    obtain ⟨q41a, q41b⟩ := id q41
                    obtain ⟨q42a, q42b⟩ := id q42
                    have hC1 := ic39
                    have hD := ic40
                    have ih46 := ih
                    have hc16 := ct_le (f := (m32.2 126)) (Tm32.2.1 126) (n := 16) (by decide)
                    refine T_ld 50 (.int (i32 v31)) rfl (fun _ => rfl) ?_
                    refine T_gf 54 (.int (i32 (m.1 24))) rfl rfl rfl rfl (mfv_c (F := fun x => .int (i32 x)) rfl (show (m32.1 24) = (m.1 24) from ((fr1 Fm32 24 rfl).trans ((fr1 Fm16 24 rfl).trans (fr1 Fm4 24 rfl))))) rfl ?_
                    refine T_icmp 135 57 rfl rfl rfl (r32 (by omega) (by omega)) (r32 (by omega) (by omega)) (fun (h47 : (m.1 24) ≤ v31) => ?_) (fun (h47 : ¬ ((m.1 24) ≤ v31)) => ?_)
                    · skip
                      refine T_goto 41 rfl (fun _ => rfl) ?_
                      refine Tm_lv (a := [(0, .ref 189), (1, .int (i32 d)), (2, .int (i32 v30))]) rfl rfl ⟨rfl, rfl, rfl, trivial⟩ ?_
                      exact ih27 v30 (mO m32 [] []) (r32 (by omega) (by omega)) Tm32 (fr_m (fr_s Fm32 (fr_m (fr_s Fm16 (fr_m fr_0 rfl rfl) rfl rfl) rfl rfl) rfl rfl) rfl rfl) (show 0 ≤ v30 by omega) (show v30 ≤ 1 by omega) (show v30 = 0 ∨ v30 = 1 by omega) (show ∀ j, 0 ≤ j → j < (m.1 24) → Ld (m.2 44) (m.2 38) (m.2 42) (m.2 45) d j → (m32.2 126) j = 1 by first | exact hC1 | exact fun j a b h => hC1 j a (by omega) h) (show v30 = 0 → CLk (m.2 44) (m.2 38) (m.2 42) (m.2 45) (m.2 41) (m32.2 126) (m.1 24) (m.1 24) by first | (intro h; omega) | exact fun h => hD.elim (fun q => fun k j k0 k1 => q.2.2 k j k0 (by omega)) (fun q => absurd q.1 (by omega))) (show 2 * (16 - ct (m32.2 126) 16) + v30 < (n26 : Int) by omega)
                    · skip
                      refine T_gf 61 (.ref 284) rfl rfl rfl rfl rfl rfl ?_
                      refine T_ld 62 (.int (i32 v31)) rfl (fun _ => rfl) ?_
                      refine T_bald 63 126 (m32.2 126) rfl rfl rfl (by omega) (show v31 < (16 : Int) by omega) rfl ?_
                      have e48 : 0 ≤ (m32.2 126) v31 ∧ (m32.2 126) v31 ≤ 1 := (Tm32.2.1 126) v31
                      refine T_if 129 66 rfl rfl rfl (r32 (by omega) (by omega)) (fun (h49 : (m32.2 126) v31 = 0) => ?_) (fun (h49 : ¬ ((m32.2 126) v31 = 0)) => ?_)
                      · skip
                        refine T_iinc 132 [(3, .int (i32 (v31 + 1))), (0, .ref 189), (1, .int (i32 d)), (2, .int (i32 v30))] rfl rfl (by decide) rfl rfl ?_
                        refine T_goto 49 rfl (fun _ => rfl) ?_
                        refine Tm_lv (a := [(0, .ref 189), (1, .int (i32 d)), (2, .int (i32 v30)), (3, .int (i32 (v31 + 1)))]) rfl rfl ⟨rfl, rfl, rfl, rfl, trivial⟩ ?_
                        exact ih46 v30 (v31 + 1) (mO m32 [] []) (r32 (by omega) (by omega)) (r32 (by omega) (by omega)) Tm32 (fr_m (fr_s Fm32 (fr_m fr_0 rfl rfl) rfl rfl) rfl rfl) (show 0 ≤ v30 by omega) (show v30 ≤ 1 by omega) (show 0 ≤ (v31 + 1) by omega) (show (v31 + 1) ≤ (m.1 24) by omega) (show v30 = 0 ∨ v30 = 1 by omega) (show ∀ j, 0 ≤ j → j < (m.1 24) → Ld (m.2 44) (m.2 38) (m.2 42) (m.2 45) d j → (m32.2 126) j = 1 by first | exact hC1 | (intro j a b h; unfold upI; split; (rfl); (exact hC1 j a b h))) (show (v30 = 0 ∧ ct (m32.2 126) 16 = C0 ∧ CLk (m.2 44) (m.2 38) (m.2 42) (m.2 45) (m.2 41) (m32.2 126) (m.1 24) (v31 + 1)) ∨ (v30 = 1 ∧ C0 + 1 ≤ ct (m32.2 126) 16) by first | exact Or.inl ⟨rfl, hC0.symm, fun k j k0 k1 => by omega⟩ | exact hD.elim (fun q => Or.inl ⟨q.1, q.2.1, fun k j k0 k1 j0 j1 c1 c2 c3 => by by_cases e : k = v31; (first | (rw [e] at c1 c2; omega) | (rw [e] at c3; exact q.2.2.2 j j0 (by omega) c3)); (first | exact q.2.2 k j k0 (by omega) j0 j1 c1 c2 c3 | exact q.2.2.1 k j k0 (by omega) j0 j1 c1 c2 c3)⟩) (fun q => Or.inr q)) (show (m.1 24) - (v31 + 1) < (n45 : Int) by omega)
                      · skip
                        refine T_gf 70 (.ref 211) rfl rfl rfl rfl rfl rfl ?_
                        refine T_ld 71 (.int (i32 v31)) rfl (fun _ => rfl) ?_
                        refine T_iald 72 41 (m.2 41) rfl rfl rfl (by omega) (show v31 < (16 : Int) by omega) (show (m32.2 41) = (m.2 41) from ((fr2 Fm32 41 rfl).trans ((fr2 Fm16 41 rfl).trans (fr2 Fm4 41 rfl)))) ?_
                        have e50 : 0 ≤ m.2 41 v31 ∧ m.2 41 v31 ≤ 6 := hT.2.1 41 v31
                        refine T_if 78 75 rfl rfl rfl (r32 (by omega) (by omega)) (fun (h51 : (m.2 41) v31 ≤ 0) => ?_) (fun (h51 : ¬ ((m.2 41) v31 ≤ 0)) => ?_)
                        · skip
                          refine T_ld 79 (.int (i32 0)) rfl (fun _ => rfl) ?_
                          refine T_sto 81 [(4, .int (i32 0)), (0, .ref 189), (1, .int (i32 d)), (2, .int (i32 v30)), (3, .int (i32 v31))] rfl (fun _ => rfl) ?_
                          have L81_55 : ∀ (n67 : Nat) (v52 : Int) (v53 : Int) (m54 : mR), (R32 v52) → (R32 v53) → Ty m54 → fr [] [126] (mO m32 [] []) m54 → (0 ≤ v52) → (v52 ≤ 1) → (0 ≤ v53) → (v53 ≤ (m.1 24)) → (v52 = 0 ∨ v52 = 1) → (∀ j, 0 ≤ j → j < (m.1 24) → Ld (m.2 44) (m.2 38) (m.2 42) (m.2 45) d j → (m54.2 126) j = 1) → ((v52 = 0 ∧ ct (m54.2 126) 16 = C0 ∧ CLk (m.2 44) (m.2 38) (m.2 42) (m.2 45) (m.2 41) (m54.2 126) (m.1 24) v31 ∧ ∀ j, 0 ≤ j → j < v53 → Ld (m.2 44) (m.2 38) (m.2 42) (m.2 45) v31 j → (m54.2 126) j = 1) ∨ (v52 = 1 ∧ C0 + 1 ≤ ct (m54.2 126) 16)) → (m.1 24) - v53 < (n67 : Int) → TT w D pm_285 (81, [(0, .ref 189), (1, .int (i32 d)), (2, .int (i32 v52)), (3, .int (i32 v31)), (4, .int (i32 v53))], [], (mhp (mO m54 [] []) c, N), 0, 0) (Q_comesRound m c N d) := by
                            intro n67
                            induction n67 with
                            | zero =>
                              intro v52 v53 m54 q63 q64 Tm54 Fm54 ic56 ic57 ic58 ic59 ic60 ic61 ic62 hmu
                              obtain ⟨q63a, q63b⟩ := id q63
                              obtain ⟨q64a, q64b⟩ := id q64
                              have hC1 := ic61
                              have hD := ic62
                              have hc16 := ct_le (f := (m54.2 126)) (Tm54.2.1 126) (n := 16) (by decide)
                              exfalso
                              omega
                            | succ n67 ih =>
                              intro v52 v53 m54 q63 q64 Tm54 Fm54 ic56 ic57 ic58 ic59 ic60 ic61 ic62 hmu
                              obtain ⟨q63a, q63b⟩ := id q63
                              obtain ⟨q64a, q64b⟩ := id q64
                              have hC1 := ic61
                              have hD := ic62
                              have ih68 := ih
                              have hc16 := ct_le (f := (m54.2 126)) (Tm54.2.1 126) (n := 16) (by decide)
                              refine T_ld 83 (.int (i32 v53)) rfl (fun _ => rfl) ?_
                              refine T_gf 87 (.int (i32 (m.1 24))) rfl rfl rfl rfl (mfv_c (F := fun x => .int (i32 x)) rfl (show (m54.1 24) = (m.1 24) from ((fr1 Fm54 24 rfl).trans ((fr1 Fm32 24 rfl).trans ((fr1 Fm16 24 rfl).trans (fr1 Fm4 24 rfl)))))) rfl ?_
                              refine T_icmp 129 90 rfl rfl rfl (r32 (by omega) (by omega)) (r32 (by omega) (by omega)) (fun (h69 : (m.1 24) ≤ v53) => ?_) (fun (h69 : ¬ ((m.1 24) ≤ v53)) => ?_)
                              · skip
                                refine T_iinc 132 [(3, .int (i32 (v31 + 1))), (0, .ref 189), (1, .int (i32 d)), (2, .int (i32 v52)), (4, .int (i32 v53))] rfl rfl (by decide) rfl rfl ?_
                                refine T_goto 49 rfl (fun _ => rfl) ?_
                                refine Tm_lv (a := [(0, .ref 189), (1, .int (i32 d)), (2, .int (i32 v52)), (3, .int (i32 (v31 + 1)))]) rfl rfl ⟨rfl, rfl, rfl, rfl, trivial⟩ ?_
                                exact ih46 v52 (v31 + 1) (mO m54 [] []) (r32 (by omega) (by omega)) (r32 (by omega) (by omega)) Tm54 (fr_m (fr_s Fm54 (fr_m (fr_s Fm32 (fr_m fr_0 rfl rfl) rfl rfl) rfl rfl) rfl rfl) rfl rfl) (show 0 ≤ v52 by omega) (show v52 ≤ 1 by omega) (show 0 ≤ (v31 + 1) by omega) (show (v31 + 1) ≤ (m.1 24) by omega) (show v52 = 0 ∨ v52 = 1 by omega) (show ∀ j, 0 ≤ j → j < (m.1 24) → Ld (m.2 44) (m.2 38) (m.2 42) (m.2 45) d j → (m54.2 126) j = 1 by first | exact hC1 | (intro j a b h; unfold upI; split; (rfl); (exact hC1 j a b h))) (show (v52 = 0 ∧ ct (m54.2 126) 16 = C0 ∧ CLk (m.2 44) (m.2 38) (m.2 42) (m.2 45) (m.2 41) (m54.2 126) (m.1 24) (v31 + 1)) ∨ (v52 = 1 ∧ C0 + 1 ≤ ct (m54.2 126) 16) by first | exact Or.inl ⟨rfl, hC0.symm, fun k j k0 k1 => by omega⟩ | exact hD.elim (fun q => Or.inl ⟨q.1, q.2.1, fun k j k0 k1 j0 j1 c1 c2 c3 => by by_cases e : k = v31; (first | (rw [e] at c1 c2; omega) | (rw [e] at c3; exact q.2.2.2 j j0 (by omega) c3)); (first | exact q.2.2 k j k0 (by omega) j0 j1 c1 c2 c3 | exact q.2.2.1 k j k0 (by omega) j0 j1 c1 c2 c3)⟩) (fun q => Or.inr q)) (show (m.1 24) - (v31 + 1) < (n45 : Int) by omega)
                              · skip
                                refine T_gf 94 (.ref 284) rfl rfl rfl rfl rfl rfl ?_
                                refine T_ld 96 (.int (i32 v53)) rfl (fun _ => rfl) ?_
                                refine T_bald 97 126 (m54.2 126) rfl rfl rfl (by omega) (show v53 < (16 : Int) by omega) rfl ?_
                                have e70 : 0 ≤ (m54.2 126) v53 ∧ (m54.2 126) v53 ≤ 1 := (Tm54.2.1 126) v53
                                refine T_if 123 100 rfl rfl rfl (r32 (by omega) (by omega)) (fun (h71 : (m54.2 126) v53 ≠ 0) => ?_) (fun (h71 : ¬ ((m54.2 126) v53 ≠ 0)) => ?_)
                                · skip
                                  refine T_iinc 126 [(4, .int (i32 (v53 + 1))), (0, .ref 189), (1, .int (i32 d)), (2, .int (i32 v52)), (3, .int (i32 v31))] rfl rfl (by decide) rfl rfl ?_
                                  refine T_goto 81 rfl (fun _ => rfl) ?_
                                  refine Tm_lv (a := [(0, .ref 189), (1, .int (i32 d)), (2, .int (i32 v52)), (3, .int (i32 v31)), (4, .int (i32 (v53 + 1)))]) rfl rfl ⟨rfl, rfl, rfl, rfl, rfl, trivial⟩ ?_
                                  exact ih68 v52 (v53 + 1) (mO m54 [] []) (r32 (by omega) (by omega)) (r32 (by omega) (by omega)) Tm54 (fr_m (fr_s Fm54 (fr_m fr_0 rfl rfl) rfl rfl) rfl rfl) (show 0 ≤ v52 by omega) (show v52 ≤ 1 by omega) (show 0 ≤ (v53 + 1) by omega) (show (v53 + 1) ≤ (m.1 24) by omega) (show v52 = 0 ∨ v52 = 1 by omega) (show ∀ j, 0 ≤ j → j < (m.1 24) → Ld (m.2 44) (m.2 38) (m.2 42) (m.2 45) d j → (m54.2 126) j = 1 by first | exact hC1 | (intro j a b h; unfold upI; split; (rfl); (exact hC1 j a b h))) (show (v52 = 0 ∧ ct (m54.2 126) 16 = C0 ∧ CLk (m.2 44) (m.2 38) (m.2 42) (m.2 45) (m.2 41) (m54.2 126) (m.1 24) v31 ∧ ∀ j, 0 ≤ j → j < (v53 + 1) → Ld (m.2 44) (m.2 38) (m.2 42) (m.2 45) v31 j → (m54.2 126) j = 1) ∨ (v52 = 1 ∧ C0 + 1 ≤ ct (m54.2 126) 16) by first | exact hD.elim (fun q => Or.inl ⟨q.1, q.2.1, q.2.2, fun j j0 j1 => by omega⟩) (fun q => Or.inr q) | exact Or.inr ⟨rfl, by omega⟩ | exact hD.elim (fun q => Or.inl ⟨q.1, q.2.1, q.2.2.1, fun j j0 j1 h => by by_cases e : j = v53; (rw [e]; rw [e] at h; first | omega | exact absurd h (hLd.elim (fun q => absurd q.1 (by omega)) (fun q => q.2))); exact q.2.2.2 j j0 (by omega) h⟩) (fun q => Or.inr q)) (show (m.1 24) - (v53 + 1) < (n67 : Int) by omega)
                                · skip
                                  refine T_ld 101 (.ref 189) rfl (fun _ => rfl) ?_
                                  refine T_ld 102 (.int (i32 v31)) rfl (fun _ => rfl) ?_
                                  refine T_ld 104 (.int (i32 v53)) rfl (fun _ => rfl) ?_
                                  refine T_call 107 286 [.ref 189, .int (i32 v31), .int (i32 v53)] [] rfl (fun _ => rfl) rfl (c_leads w (mO m54 [] []) c N D (by omega) Tm54 v31 v53 (r32 (by omega) (by omega)) (r32 (by omega) (by omega)) (show 0 ≤ v31 ∧ v31 ≤ 15 by omega)) (fun rr72 k73 => ?_)
                                  obtain ⟨x74, g75, h76, rfl⟩ := k73
                                  refine ⟨_, _, rfl, ?_⟩
                                  refine T_ns (st' := [.int (i32 x74)]) rfl ?_
                                  obtain ⟨g75a, g75b⟩ := g75
                                  replace h76 : (x74 = 1 ∧ Ld (m54.2 44) (m54.2 38) (m54.2 42) (m54.2 45) v31 v53) ∨ (x74 = 0 ∧ ¬ Ld (m54.2 44) (m54.2 38) (m54.2 42) (m54.2 45) v31 v53) := h76
                                  rewrite [(show (m54.2 44) = (m.2 44) from ((fr2 Fm54 44 rfl).trans ((fr2 Fm32 44 rfl).trans ((fr2 Fm16 44 rfl).trans (fr2 Fm4 44 rfl))))), (show (m54.2 38) = (m.2 38) from ((fr2 Fm54 38 rfl).trans ((fr2 Fm32 38 rfl).trans ((fr2 Fm16 38 rfl).trans (fr2 Fm4 38 rfl))))), (show (m54.2 42) = (m.2 42) from ((fr2 Fm54 42 rfl).trans ((fr2 Fm32 42 rfl).trans ((fr2 Fm16 42 rfl).trans (fr2 Fm4 42 rfl))))), (show (m54.2 45) = (m.2 45) from ((fr2 Fm54 45 rfl).trans ((fr2 Fm32 45 rfl).trans ((fr2 Fm16 45 rfl).trans (fr2 Fm4 45 rfl)))))] at h76
                                  have hLd := h76
                                  refine T_if 113 110 rfl rfl rfl (r32 (by omega) (by omega)) (fun (h77 : x74 ≠ 0) => ?_) (fun (h77 : ¬ (x74 ≠ 0)) => ?_)
                                  · skip
                                    have hcs := ct_set (f := (m54.2 126)) (i := v53) (n := 16) (Tm54.2.1 126) (by omega) (by omega) (by omega)
                                    refine T_gf 117 (.ref 284) rfl rfl rfl rfl rfl rfl ?_
                                    refine T_ld 119 (.int (i32 v53)) rfl (fun _ => rfl) ?_
                                    refine T_ld 120 (.int (i32 1)) rfl (fun _ => rfl) ?_
                                    have G78 : ∀ j, 0 ≤ (upI (m54.2 126) v53 1) j ∧ (upI (m54.2 126) v53 1) j ≤ 1 := upI_rg (Tm54.2.1 126) ⟨by omega, by omega⟩
                                    refine T_bast (a' := [(126, upI (m54.2 126) v53 1)]) 121 126 (m54.2 126) rfl rfl rfl (by omega) (show v53 < (16 : Int) by omega) (by omega) rfl rfl ?_
                                    refine T_ld 122 (.int (i32 1)) rfl (fun _ => rfl) ?_
                                    refine T_sto 123 [(2, .int (i32 1)), (0, .ref 189), (1, .int (i32 d)), (3, .int (i32 v31)), (4, .int (i32 v53))] rfl (fun _ => rfl) ?_
                                    refine T_iinc 126 [(4, .int (i32 (v53 + 1))), (2, .int (i32 1)), (0, .ref 189), (1, .int (i32 d)), (3, .int (i32 v31))] rfl rfl (by decide) rfl rfl ?_
                                    refine T_goto 81 rfl (fun _ => rfl) ?_
                                    refine Tm_lv (a := [(0, .ref 189), (1, .int (i32 d)), (2, .int (i32 1)), (3, .int (i32 v31)), (4, .int (i32 (v53 + 1)))]) rfl rfl ⟨rfl, rfl, rfl, rfl, rfl, trivial⟩ ?_
                                    exact ih68 1 (v53 + 1) (mO m54 [] [(126, upI (m54.2 126) v53 1)]) ⟨by decide, by decide⟩ (r32 (by omega) (by omega)) (Ty_mO Tm54 rfl rfl trivial ⟨G78, trivial⟩) (fr_m (fr_s Fm54 (fr_m fr_0 rfl rfl) rfl rfl) rfl rfl) (show 0 ≤ (1 : Int) by omega) (show (1 : Int) ≤ 1 by omega) (show 0 ≤ (v53 + 1) by omega) (show (v53 + 1) ≤ (m.1 24) by omega) (show (1 : Int) = 0 ∨ (1 : Int) = 1 by omega) (show ∀ j, 0 ≤ j → j < (m.1 24) → Ld (m.2 44) (m.2 38) (m.2 42) (m.2 45) d j → (upI (m54.2 126) v53 1) j = 1 by first | exact hC1 | (intro j a b h; unfold upI; split; (rfl); (exact hC1 j a b h))) (show ((1 : Int) = 0 ∧ ct (upI (m54.2 126) v53 1) 16 = C0 ∧ CLk (m.2 44) (m.2 38) (m.2 42) (m.2 45) (m.2 41) (upI (m54.2 126) v53 1) (m.1 24) v31 ∧ ∀ j, 0 ≤ j → j < (v53 + 1) → Ld (m.2 44) (m.2 38) (m.2 42) (m.2 45) v31 j → (upI (m54.2 126) v53 1) j = 1) ∨ ((1 : Int) = 1 ∧ C0 + 1 ≤ ct (upI (m54.2 126) v53 1) 16) by first | exact hD.elim (fun q => Or.inl ⟨q.1, q.2.1, q.2.2, fun j j0 j1 => by omega⟩) (fun q => Or.inr q) | exact Or.inr ⟨rfl, by omega⟩ | exact hD.elim (fun q => Or.inl ⟨q.1, q.2.1, q.2.2.1, fun j j0 j1 h => by by_cases e : j = v53; (rw [e]; rw [e] at h; first | omega | exact absurd h (hLd.elim (fun q => absurd q.1 (by omega)) (fun q => q.2))); exact q.2.2.2 j j0 (by omega) h⟩) (fun q => Or.inr q)) (show (m.1 24) - (v53 + 1) < (n67 : Int) by omega)
                                  · skip
                                    refine T_goto 123 rfl (fun _ => rfl) ?_
                                    refine T_iinc 126 [(4, .int (i32 (v53 + 1))), (0, .ref 189), (1, .int (i32 d)), (2, .int (i32 v52)), (3, .int (i32 v31))] rfl rfl (by decide) rfl rfl ?_
                                    refine T_goto 81 rfl (fun _ => rfl) ?_
                                    refine Tm_lv (a := [(0, .ref 189), (1, .int (i32 d)), (2, .int (i32 v52)), (3, .int (i32 v31)), (4, .int (i32 (v53 + 1)))]) rfl rfl ⟨rfl, rfl, rfl, rfl, rfl, trivial⟩ ?_
                                    exact ih68 v52 (v53 + 1) (mO m54 [] []) (r32 (by omega) (by omega)) (r32 (by omega) (by omega)) Tm54 (fr_m (fr_s Fm54 (fr_m fr_0 rfl rfl) rfl rfl) rfl rfl) (show 0 ≤ v52 by omega) (show v52 ≤ 1 by omega) (show 0 ≤ (v53 + 1) by omega) (show (v53 + 1) ≤ (m.1 24) by omega) (show v52 = 0 ∨ v52 = 1 by omega) (show ∀ j, 0 ≤ j → j < (m.1 24) → Ld (m.2 44) (m.2 38) (m.2 42) (m.2 45) d j → (m54.2 126) j = 1 by first | exact hC1 | (intro j a b h; unfold upI; split; (rfl); (exact hC1 j a b h))) (show (v52 = 0 ∧ ct (m54.2 126) 16 = C0 ∧ CLk (m.2 44) (m.2 38) (m.2 42) (m.2 45) (m.2 41) (m54.2 126) (m.1 24) v31 ∧ ∀ j, 0 ≤ j → j < (v53 + 1) → Ld (m.2 44) (m.2 38) (m.2 42) (m.2 45) v31 j → (m54.2 126) j = 1) ∨ (v52 = 1 ∧ C0 + 1 ≤ ct (m54.2 126) 16) by first | exact hD.elim (fun q => Or.inl ⟨q.1, q.2.1, q.2.2, fun j j0 j1 => by omega⟩) (fun q => Or.inr q) | exact Or.inr ⟨rfl, by omega⟩ | exact hD.elim (fun q => Or.inl ⟨q.1, q.2.1, q.2.2.1, fun j j0 j1 h => by by_cases e : j = v53; (rw [e]; rw [e] at h; first | omega | exact absurd h (hLd.elim (fun q => absurd q.1 (by omega)) (fun q => q.2))); exact q.2.2.2 j j0 (by omega) h⟩) (fun q => Or.inr q)) (show (m.1 24) - (v53 + 1) < (n67 : Int) by omega)
                          refine Tm_lv (a := [(0, .ref 189), (1, .int (i32 d)), (2, .int (i32 v30)), (3, .int (i32 v31)), (4, .int (i32 0))]) rfl rfl ⟨rfl, rfl, rfl, rfl, rfl, trivial⟩ ?_
                          exact L81_55 (((m.1 24) - (0 : Int) : Int) + 1).toNat v30 0 (mO m32 [] []) (r32 (by omega) (by omega)) ⟨by decide, by decide⟩ Tm32 (fr_m fr_0 rfl rfl) (show 0 ≤ v30 by omega) (show v30 ≤ 1 by omega) (show 0 ≤ (0 : Int) by omega) (show (0 : Int) ≤ (m.1 24) by omega) (show v30 = 0 ∨ v30 = 1 by omega) (show ∀ j, 0 ≤ j → j < (m.1 24) → Ld (m.2 44) (m.2 38) (m.2 42) (m.2 45) d j → (m32.2 126) j = 1 by first | exact hC1 | (intro j a b h; unfold upI; split; (rfl); (exact hC1 j a b h))) (show (v30 = 0 ∧ ct (m32.2 126) 16 = C0 ∧ CLk (m.2 44) (m.2 38) (m.2 42) (m.2 45) (m.2 41) (m32.2 126) (m.1 24) v31 ∧ ∀ j, 0 ≤ j → j < (0 : Int) → Ld (m.2 44) (m.2 38) (m.2 42) (m.2 45) v31 j → (m32.2 126) j = 1) ∨ (v30 = 1 ∧ C0 + 1 ≤ ct (m32.2 126) 16) by first | exact hD.elim (fun q => Or.inl ⟨q.1, q.2.1, q.2.2, fun j j0 j1 => by omega⟩) (fun q => Or.inr q) | exact Or.inr ⟨rfl, by omega⟩ | exact hD.elim (fun q => Or.inl ⟨q.1, q.2.1, q.2.2.1, fun j j0 j1 h => by by_cases e : j = v53; (rw [e]; rw [e] at h; first | omega | exact absurd h (hLd.elim (fun q => absurd q.1 (by omega)) (fun q => q.2))); exact q.2.2.2 j j0 (by omega) h⟩) (fun q => Or.inr q)) (show (m.1 24) - (0 : Int) < (((((m.1 24) - (0 : Int) : Int) + 1).toNat : Nat) : Int) by omega)
                        · skip
                          refine T_goto 129 rfl (fun _ => rfl) ?_
                          refine T_iinc 132 [(3, .int (i32 (v31 + 1))), (0, .ref 189), (1, .int (i32 d)), (2, .int (i32 v30))] rfl rfl (by decide) rfl rfl ?_
                          refine T_goto 49 rfl (fun _ => rfl) ?_
                          refine Tm_lv (a := [(0, .ref 189), (1, .int (i32 d)), (2, .int (i32 v30)), (3, .int (i32 (v31 + 1)))]) rfl rfl ⟨rfl, rfl, rfl, rfl, trivial⟩ ?_
                          exact ih46 v30 (v31 + 1) (mO m32 [] []) (r32 (by omega) (by omega)) (r32 (by omega) (by omega)) Tm32 (fr_m (fr_s Fm32 (fr_m fr_0 rfl rfl) rfl rfl) rfl rfl) (show 0 ≤ v30 by omega) (show v30 ≤ 1 by omega) (show 0 ≤ (v31 + 1) by omega) (show (v31 + 1) ≤ (m.1 24) by omega) (show v30 = 0 ∨ v30 = 1 by omega) (show ∀ j, 0 ≤ j → j < (m.1 24) → Ld (m.2 44) (m.2 38) (m.2 42) (m.2 45) d j → (m32.2 126) j = 1 by first | exact hC1 | (intro j a b h; unfold upI; split; (rfl); (exact hC1 j a b h))) (show (v30 = 0 ∧ ct (m32.2 126) 16 = C0 ∧ CLk (m.2 44) (m.2 38) (m.2 42) (m.2 45) (m.2 41) (m32.2 126) (m.1 24) (v31 + 1)) ∨ (v30 = 1 ∧ C0 + 1 ≤ ct (m32.2 126) 16) by first | exact Or.inl ⟨rfl, hC0.symm, fun k j k0 k1 => by omega⟩ | exact hD.elim (fun q => Or.inl ⟨q.1, q.2.1, fun k j k0 k1 j0 j1 c1 c2 c3 => by by_cases e : k = v31; (first | (rw [e] at c1 c2; omega) | (rw [e] at c3; exact q.2.2.2 j j0 (by omega) c3)); (first | exact q.2.2 k j k0 (by omega) j0 j1 c1 c2 c3 | exact q.2.2.1 k j k0 (by omega) j0 j1 c1 c2 c3)⟩) (fun q => Or.inr q)) (show (m.1 24) - (v31 + 1) < (n45 : Int) by omega)
                refine Tm_lv (a := [(0, .ref 189), (1, .int (i32 d)), (2, .int (i32 0)), (3, .int (i32 0))]) rfl rfl ⟨rfl, rfl, rfl, rfl, trivial⟩ ?_
                exact L49_33 (((m.1 24) - (0 : Int) : Int) + 1).toNat 0 0 (mO m16 [] []) ⟨by decide, by decide⟩ ⟨by decide, by decide⟩ Tm16 (fr_m fr_0 rfl rfl) (show 0 ≤ (0 : Int) by omega) (show (0 : Int) ≤ 1 by omega) (show 0 ≤ (0 : Int) by omega) (show (0 : Int) ≤ (m.1 24) by omega) (show (0 : Int) = 0 ∨ (0 : Int) = 1 by omega) (show ∀ j, 0 ≤ j → j < (m.1 24) → Ld (m.2 44) (m.2 38) (m.2 42) (m.2 45) d j → (m16.2 126) j = 1 by first | exact hC1 | (intro j a b h; unfold upI; split; (rfl); (exact hC1 j a b h))) (show ((0 : Int) = 0 ∧ ct (m16.2 126) 16 = C0 ∧ CLk (m.2 44) (m.2 38) (m.2 42) (m.2 45) (m.2 41) (m16.2 126) (m.1 24) (0 : Int)) ∨ ((0 : Int) = 1 ∧ C0 + 1 ≤ ct (m16.2 126) 16) by first | exact Or.inl ⟨rfl, hC0.symm, fun k j k0 k1 => by omega⟩ | exact hD.elim (fun q => Or.inl ⟨q.1, q.2.1, fun k j k0 k1 j0 j1 c1 c2 c3 => by by_cases e : k = v31; (first | (rw [e] at c1 c2; omega) | (rw [e] at c3; exact q.2.2.2 j j0 (by omega) c3)); (first | exact q.2.2 k j k0 (by omega) j0 j1 c1 c2 c3 | exact q.2.2.1 k j k0 (by omega) j0 j1 c1 c2 c3)⟩) (fun q => Or.inr q)) (show (m.1 24) - (0 : Int) < (((((m.1 24) - (0 : Int) : Int) + 1).toNat : Nat) : Int) by omega)
          refine Tm_lv (a := [(0, .ref 189), (1, .int (i32 d)), (2, .int (i32 1))]) rfl rfl ⟨rfl, rfl, rfl, trivial⟩ ?_
          exact L41_17 ((2 * (16 - ct (m4.2 126) 16) + (1 : Int) : Int) + 1).toNat 1 (mO m4 [] []) ⟨by decide, by decide⟩ Tm4 (fr_m fr_0 rfl rfl) (show 0 ≤ (1 : Int) by omega) (show (1 : Int) ≤ 1 by omega) (show (1 : Int) = 0 ∨ (1 : Int) = 1 by omega) (show ∀ j, 0 ≤ j → j < (m.1 24) → Ld (m.2 44) (m.2 38) (m.2 42) (m.2 45) d j → (m4.2 126) j = 1 by first | exact hC1 | exact fun j a b h => hC1 j a (by omega) h) (show (1 : Int) = 0 → CLk (m.2 44) (m.2 38) (m.2 42) (m.2 45) (m.2 41) (m4.2 126) (m.1 24) (m.1 24) by first | (intro h; omega) | exact fun h => hD.elim (fun q => fun k j k0 k1 => q.2.2 k j k0 (by omega)) (fun q => absurd q.1 (by omega))) (show 2 * (16 - ct (m4.2 126) 16) + (1 : Int) < ((((2 * (16 - ct (m4.2 126) 16) + (1 : Int) : Int) + 1).toNat : Nat) : Int) by omega)
        · skip
          refine T_gf 25 (.ref 284) rfl rfl rfl rfl rfl rfl ?_
          refine T_ld 26 (.int (i32 v3)) rfl (fun _ => rfl) ?_
          refine T_ld 27 (.ref 189) rfl (fun _ => rfl) ?_
          refine T_ld 28 (.int (i32 d)) rfl (fun _ => rfl) ?_
          refine T_ld 29 (.int (i32 v3)) rfl (fun _ => rfl) ?_
          refine T_call 32 286 [.ref 189, .int (i32 d), .int (i32 v3)] [.int (i32 v3), .ref 284] rfl (fun _ => rfl) rfl (c_leads w (mO m4 [] []) c N D (by omega) Tm4 d v3 (r32 (by omega) (by omega)) (r32 (by omega) (by omega)) (show 0 ≤ d ∧ d ≤ 15 by omega)) (fun rr79 k80 => ?_)
          obtain ⟨x81, g82, h83, rfl⟩ := k80
          refine ⟨_, _, rfl, ?_⟩
          refine T_ns (st' := [.int (i32 x81), .int (i32 v3), .ref 284]) rfl ?_
          obtain ⟨g82a, g82b⟩ := g82
          replace h83 : (x81 = 1 ∧ Ld (m4.2 44) (m4.2 38) (m4.2 42) (m4.2 45) d v3) ∨ (x81 = 0 ∧ ¬ Ld (m4.2 44) (m4.2 38) (m4.2 42) (m4.2 45) d v3) := h83
          rewrite [(show (m4.2 44) = (m.2 44) from (fr2 Fm4 44 rfl)), (show (m4.2 38) = (m.2 38) from (fr2 Fm4 38 rfl)), (show (m4.2 42) = (m.2 42) from (fr2 Fm4 42 rfl)), (show (m4.2 45) = (m.2 45) from (fr2 Fm4 45 rfl))] at h83
          have hLd := h83
          have G84 : ∀ j, 0 ≤ (upI (m4.2 126) v3 x81) j ∧ (upI (m4.2 126) v3 x81) j ≤ 1 := upI_rg (Tm4.2.1 126) ⟨by omega, by omega⟩
          refine T_bast (a' := [(126, upI (m4.2 126) v3 x81)]) 33 126 (m4.2 126) rfl rfl rfl (by omega) (show v3 < (16 : Int) by omega) (by omega) rfl rfl ?_
          refine T_iinc 36 [(2, .int (i32 (v3 + 1))), (0, .ref 189), (1, .int (i32 d))] rfl rfl (by decide) rfl rfl ?_
          refine T_goto 13 rfl (fun _ => rfl) ?_
          refine Tm_lv (a := [(0, .ref 189), (1, .int (i32 d)), (2, .int (i32 (v3 + 1)))]) rfl rfl ⟨rfl, rfl, rfl, trivial⟩ ?_
          exact ih13 (v3 + 1) (mO m4 [] [(126, upI (m4.2 126) v3 x81)]) (r32 (by omega) (by omega)) (Ty_mO Tm4 rfl rfl trivial ⟨G84, trivial⟩) (fr_m (fr_s Fm4 (fr_m fr_0 rfl rfl) rfl rfl) rfl rfl) (show 0 ≤ (v3 + 1) by omega) (show (v3 + 1) ≤ (m.1 24) by omega) (show ∀ j, 0 ≤ j → j < (v3 + 1) → Ld (m.2 44) (m.2 38) (m.2 42) (m.2 45) d j → (upI (m4.2 126) v3 x81) j = 1 by first | (intro j a b h; omega) | (intro j a b h; by_cases e : j = v3; (rw [e, upI_s]; rw [e] at h; exact hLd.elim (fun q => q.1) (fun q => absurd h q.2)); (rw [upI_n e]; exact hC1 j a (by omega) h))) (show (m.1 24) - (v3 + 1) < (n12 : Int) by omega)
    refine Tm_lv (a := [(0, .ref 189), (1, .int (i32 d)), (2, .int (i32 0))]) rfl rfl ⟨rfl, rfl, rfl, trivial⟩ ?_
    exact L13_5 (((m.1 24) - (0 : Int) : Int) + 1).toNat 0 (mO m [] []) ⟨by decide, by decide⟩ hT (fr_m fr_0 rfl rfl) (show 0 ≤ (0 : Int) by omega) (show (0 : Int) ≤ (m.1 24) by omega) (show ∀ j, 0 ≤ j → j < (0 : Int) → Ld (m.2 44) (m.2 38) (m.2 42) (m.2 45) d j → (m.2 126) j = 1 by first | (intro j a b h; omega) | (intro j a b h; by_cases e : j = v3; (rw [e, upI_s]; rw [e] at h; exact hLd.elim (fun q => q.1) (fun q => absurd h q.2)); (rw [upI_n e]; exact hC1 j a (by omega) h))) (show (m.1 24) - (0 : Int) < (((((m.1 24) - (0 : Int) : Int) + 1).toNat : Nat) : Int) by omega)
  · skip
    refine T_ld 10 (.int (i32 0)) rfl (fun _ => rfl) ?_
    refine T_ret rfl (fun _ => rfl) ?_
    exact ⟨(mO m [] []), 0, hT, (fr_m fr_0 rfl rfl), ⟨by omega, by omega⟩, (show (0 : Int) = 0 → 0 < (m.2 41) d ∨ NR (m.2 44) (m.2 38) (m.2 42) (m.2 45) (m.2 41) (m.1 24) d by first | (first | (intro h; exact Or.inl (by omega)) | (intro h; exact Or.inr ⟨(m.2 126), hC1, hC2 (by omega), by omega⟩)) | (exfalso; omega)), rfl⟩
def fF_checkStates : List Nat := [10, 11]
def fA_checkStates : List Nat := [126]
def Q_checkStates (m : mR) (c : Nat → Option am_C) (N : Nat) : ag_Re af_T → Prop := fun R => ∃ (M : mR), Ty M ∧ fr fF_checkStates fA_checkStates m M ∧ ((M.1 10) = 0 → (m.1 10) = 0) ∧ (M.1 10 = 0 → (∀ q, 0 ≤ q → q < (m.1 24) → 0 < (m.2 41) q ∨ NR (m.2 44) (m.2 38) (m.2 42) (m.2 45) (m.2 41) (m.1 24) q)) ∧ R = (.inl (none), (mhp M c, N), 0, 0)
set_option maxHeartbeats 3000000 in
theorem c_checkStates (w : wX) (m : mR) (c : Nat → Option am_C) (N D : Nat) (hD : 3 ≤ D) (hT : Ty m) (hf0 : m.1 10 = 0) (hC : True) : TC w D 284 [.ref 189] (mhp m c, N) (Q_checkStates m c N) := by
  obtain ⟨D, rfl⟩ : ∃ k, D = k + 1 := ⟨D - 1, by omega⟩
  have f10 : 0 ≤ m.1 10 ∧ m.1 10 ≤ 8 := hT.1 10
  have f11 : (-1) ≤ m.1 11 ∧ m.1 11 ≤ 4000 := hT.1 11
  have f24 : 0 ≤ m.1 24 ∧ m.1 24 ≤ 16 := hT.1 24
  have f23 : 0 ≤ m.1 23 ∧ m.1 23 ≤ 16 := hT.1 23
  refine Tc_of rfl ?_
  show TT w D pm_284 (0, [(0, .ref 189)], [], (mhp (mO m [] []) c, N), 0, 0) (Q_checkStates m c N)
  refine T_ld 1 (.int (i32 (-1))) rfl (fun _ => rfl) ?_
  refine T_sto 2 [(1, .int (i32 (-1))), (0, .ref 189)] rfl (fun _ => rfl) ?_
  refine T_ld 3 (.int (i32 0)) rfl (fun _ => rfl) ?_
  refine T_sto 4 [(2, .int (i32 0)), (1, .int (i32 (-1))), (0, .ref 189)] rfl (fun _ => rfl) ?_
  have L4_3 : ∀ (n12 : Nat) (v1 : Int) (v2 : Int), (R32 v1) → (R32 v2) → ((-1) ≤ v1) → (v1 ≤ 4000) → (0 ≤ v2) → (v2 ≤ (m.1 23)) → ((-1) ≤ v1 ∧ v1 ≤ 4000) → (m.1 23) - v2 < (n12 : Int) → TT w D pm_284 (4, [(0, .ref 189), (1, .int (i32 v1)), (2, .int (i32 v2))], [], (mhp (mO m [] []) c, N), 0, 0) (Q_checkStates m c N) := by
    intro n12
    induction n12 with
    | zero =>
      intro v1 v2 q9 q10 ic4 ic5 ic6 ic7 ic8 hmu
      obtain ⟨q9a, q9b⟩ := id q9
      obtain ⟨q10a, q10b⟩ := id q10
      exfalso
      omega
    | succ n12 ih =>
      intro v1 v2 q9 q10 ic4 ic5 ic6 ic7 ic8 hmu
      obtain ⟨q9a, q9b⟩ := id q9
      obtain ⟨q10a, q10b⟩ := id q10
      have ih13 := ih
      refine T_ld 5 (.int (i32 v2)) rfl (fun _ => rfl) ?_
      refine T_gf 9 (.int (i32 (m.1 23))) rfl rfl rfl rfl rfl rfl ?_
      refine T_icmp 48 12 rfl rfl rfl (r32 (by omega) (by omega)) (r32 (by omega) (by omega)) (fun (h14 : (m.1 23) ≤ v2) => ?_) (fun (h14 : ¬ ((m.1 23) ≤ v2)) => ?_)
      · skip
        refine T_ld 49 (.int (i32 v1)) rfl (fun _ => rfl) ?_
        refine T_if 59 52 rfl rfl rfl (r32 (by omega) (by omega)) (fun (h15 : v1 < 0) => ?_) (fun (h15 : ¬ (v1 < 0)) => ?_)
        · skip
          refine T_ld 60 (.int (i32 0)) rfl (fun _ => rfl) ?_
          refine T_sto 61 [(2, .int (i32 0)), (0, .ref 189), (1, .int (i32 v1))] rfl (fun _ => rfl) ?_
          have L61_18 : ∀ (n24 : Nat) (v16 : Int) (m17 : mR), (R32 v16) → Ty m17 → fr [10, 11] [126] (mO m [] []) m17 → (0 ≤ v16) → (v16 ≤ (m.1 24)) → ((m17.1 10) = 0 → (∀ q, 0 ≤ q → q < v16 → 0 < (m.2 41) q ∨ NR (m.2 44) (m.2 38) (m.2 42) (m.2 45) (m.2 41) (m.1 24) q)) → (m.1 24) - v16 < (n24 : Int) → TT w D pm_284 (61, [(0, .ref 189), (1, .int (i32 v1)), (2, .int (i32 v16))], [], (mhp (mO m17 [] []) c, N), 0, 0) (Q_checkStates m c N) := by
            intro n24
            induction n24 with
            | zero =>
              intro v16 m17 q21 Tm17 Fm17 ic19 ic20 c23 hmu
              obtain ⟨q21a, q21b⟩ := id q21
              have q22_10 : 0 ≤ m17.1 10 ∧ m17.1 10 ≤ 8 := Tm17.1 10
              have q22_11 : (-1) ≤ m17.1 11 ∧ m17.1 11 ≤ 4000 := Tm17.1 11
              exfalso
              omega
            | succ n24 ih =>
              intro v16 m17 q21 Tm17 Fm17 ic19 ic20 c23 hmu
              obtain ⟨q21a, q21b⟩ := id q21
              have q22_10 : 0 ≤ m17.1 10 ∧ m17.1 10 ≤ 8 := Tm17.1 10
              have q22_11 : (-1) ≤ m17.1 11 ∧ m17.1 11 ≤ 4000 := Tm17.1 11
              have ih25 := ih
              by_cases hf26 : (m17.1 10) = 0
              · skip
                have c27 := c23 hf26
                clear c23
                have hNA := c27
                refine T_ld 62 (.int (i32 v16)) rfl (fun _ => rfl) ?_
                refine T_gf 66 (.int (i32 (m.1 24))) rfl rfl rfl rfl (mfv_c (F := fun x => .int (i32 x)) rfl (show (m17.1 24) = (m.1 24) from (fr1 Fm17 24 rfl))) rfl ?_
                refine T_icmp 102 69 rfl rfl rfl (r32 (by omega) (by omega)) (r32 (by omega) (by omega)) (fun (h28 : (m.1 24) ≤ v16) => ?_) (fun (h28 : ¬ ((m.1 24) ≤ v16)) => ?_)
                · skip
                  refine T_ret rfl (fun _ => rfl) ?_
                  exact ⟨(mO m17 [] []), Tm17, (fr_m (fr_s Fm17 (fr_m fr_0 rfl rfl) rfl rfl) rfl rfl), (show (m17.1 10) = 0 → (m.1 10) = 0 by omega), (fun _ => (show ∀ q, 0 ≤ q → q < (m.1 24) → 0 < (m.2 41) q ∨ NR (m.2 44) (m.2 38) (m.2 42) (m.2 45) (m.2 41) (m.1 24) q by first | (exact fun q a b => hNA q a (by omega)) | (exfalso; omega))), rfl⟩
                · skip
                  refine T_gf 73 (.int (i32 (m17.1 10))) rfl rfl rfl rfl rfl rfl ?_
                  refine T_if 102 76 rfl rfl rfl (r32 (by omega) (by omega)) (fun (h29 : (m17.1 10) ≠ 0) => by exfalso; omega) (fun (h29 : ¬ ((m17.1 10) ≠ 0)) => ?_)
                  refine T_ld 77 (.ref 189) rfl (fun _ => rfl) ?_
                  refine T_ld 78 (.int (i32 v16)) rfl (fun _ => rfl) ?_
                  refine T_call 81 285 [.ref 189, .int (i32 v16)] [] rfl (fun _ => rfl) rfl (c_comesRound w (mO m17 [] []) c N D (by omega) Tm17 v16 (r32 (by omega) (by omega)) (show 0 ≤ v16 ∧ v16 ≤ 15 by omega) (show v16 < (m17.1 24) by rewrite [(show (m17.1 24) = (m.1 24) from (fr1 Fm17 24 rfl))]; omega)) (fun rr30 k31 => ?_)
                  obtain ⟨m32, x33, Tm32, Fm32, g34, h35, rfl⟩ := k31
                  refine ⟨_, _, rfl, ?_⟩
                  refine T_nb (st' := [.int (i32 x33)]) rfl ?_
                  obtain ⟨g34a, g34b⟩ := g34
                  replace h35 : x33 = 0 → 0 < (m17.2 41) v16 ∨ NR (m17.2 44) (m17.2 38) (m17.2 42) (m17.2 45) (m17.2 41) (m17.1 24) v16 := h35
                  rewrite [(show (m17.2 41) = (m.2 41) from (fr2 Fm17 41 rfl)), (show (m17.2 44) = (m.2 44) from (fr2 Fm17 44 rfl)), (show (m17.2 38) = (m.2 38) from (fr2 Fm17 38 rfl)), (show (m17.2 42) = (m.2 42) from (fr2 Fm17 42 rfl)), (show (m17.2 45) = (m.2 45) from (fr2 Fm17 45 rfl)), (show (m17.1 24) = (m.1 24) from (fr1 Fm17 24 rfl))] at h35
                  have hNR := h35
                  refine T_if 96 84 rfl rfl rfl (r32 (by omega) (by omega)) (fun (h36 : x33 = 0) => ?_) (fun (h36 : ¬ (x33 = 0)) => ?_)
                  · skip
                    refine T_iinc 99 [(2, .int (i32 (v16 + 1))), (0, .ref 189), (1, .int (i32 v1))] rfl rfl (by decide) rfl rfl ?_
                    refine T_goto 61 rfl (fun _ => rfl) ?_
                    refine Tm_lv (a := [(0, .ref 189), (1, .int (i32 v1)), (2, .int (i32 (v16 + 1)))]) rfl rfl ⟨rfl, rfl, rfl, trivial⟩ ?_
                    exact ih25 (v16 + 1) (mO m32 [] []) (r32 (by omega) (by omega)) Tm32 (fr_m (fr_s Fm32 (fr_m (fr_s Fm17 (fr_m fr_0 rfl rfl) rfl rfl) rfl rfl) rfl rfl) rfl rfl) (show 0 ≤ (v16 + 1) by omega) (show (v16 + 1) ≤ (m.1 24) by omega) (fun _ => (show ∀ q, 0 ≤ q → q < (v16 + 1) → 0 < (m.2 41) q ∨ NR (m.2 44) (m.2 38) (m.2 42) (m.2 45) (m.2 41) (m.1 24) q by first | (intro q a b; omega) | (intro q a b; by_cases e : q = v16; (rw [e]; exact hNR (by omega)); exact hNA q a (by omega)))) (show (m.1 24) - (v16 + 1) < (n24 : Int) by omega)
                  · skip
                    refine T_ld 85 (.ref 189) rfl (fun _ => rfl) ?_
                    refine T_ld 87 (.int (i32 8)) rfl (fun _ => rfl) ?_
                    refine T_gf 91 (.ref 210) rfl rfl rfl rfl rfl rfl ?_
                    refine T_ld 92 (.int (i32 v16)) rfl (fun _ => rfl) ?_
                    refine T_iald 93 40 (m.2 40) rfl rfl rfl (by omega) (show v16 < (16 : Int) by omega) (show (m32.2 40) = (m.2 40) from ((fr2 Fm32 40 rfl).trans (fr2 Fm17 40 rfl))) ?_
                    have e37 : 0 ≤ m.2 40 v16 ∧ m.2 40 v16 ≤ 4000 := hT.2.1 40 v16
                    refine T_call 96 222 [.ref 189, .int (i32 8), .int (i32 ((m.2 40) v16))] [] rfl (fun _ => rfl) rfl (d_wrong w (mO m32 [] []) c N D (by omega) Tm32 8 ((m.2 40) v16) ⟨by decide, by decide⟩ (r32 (by omega) (by omega)) (show 1 ≤ (8 : Int) ∧ (8 : Int) ≤ 8 by omega) (show 0 ≤ ((m.2 40) v16) ∧ ((m.2 40) v16) ≤ 4000 by omega)) (fun rr38 k39 => ?_)
                    obtain ⟨m40, Tm40, Fm40, h41, rfl⟩ := k39
                    refine ⟨_, _, rfl, ?_⟩
                    refine T_nb (st' := []) rfl ?_
                    have g42 : 0 ≤ m40.1 10 ∧ m40.1 10 ≤ 8 := Tm40.1 10
                    have g43 : (-1) ≤ m40.1 11 ∧ m40.1 11 ≤ 4000 := Tm40.1 11
                    replace h41 : (0 < (m32.1 10) → (m40.1 10) = (m32.1 10) ∧ (m40.1 11) = (m32.1 11)) ∧ ((m32.1 10) ≤ 0 → (m40.1 10) = (8 : Int) ∧ (m40.1 11) = ((m.2 40) v16)) := h41
                    rewrite [(show (m32.1 10) = (m17.1 10) from (fr1 Fm32 10 rfl)), (show (m32.1 11) = (m17.1 11) from (fr1 Fm32 11 rfl))] at h41
                    have hf44 : 1 ≤ (m40.1 10) := by omega
                    refine T_iinc 99 [(2, .int (i32 (v16 + 1))), (0, .ref 189), (1, .int (i32 v1))] rfl rfl (by decide) rfl rfl ?_
                    refine T_goto 61 rfl (fun _ => rfl) ?_
                    refine Tm_lv (a := [(0, .ref 189), (1, .int (i32 v1)), (2, .int (i32 (v16 + 1)))]) rfl rfl ⟨rfl, rfl, rfl, trivial⟩ ?_
                    exact ih25 (v16 + 1) (mO m40 [] []) (r32 (by omega) (by omega)) Tm40 (fr_m (fr_s Fm40 (fr_m (fr_s Fm32 (fr_m (fr_s Fm17 (fr_m fr_0 rfl rfl) rfl rfl) rfl rfl) rfl rfl) rfl rfl) rfl rfl) rfl rfl) (show 0 ≤ (v16 + 1) by omega) (show (v16 + 1) ≤ (m.1 24) by omega) (fun (h : (m40.1 10) = 0) => absurd h (by omega)) (show (m.1 24) - (v16 + 1) < (n24 : Int) by omega)
              · skip
                clear c23
                have hf45 : 1 ≤ (m17.1 10) := by omega
                refine T_ld 62 (.int (i32 v16)) rfl (fun _ => rfl) ?_
                refine T_gf 66 (.int (i32 (m.1 24))) rfl rfl rfl rfl (mfv_c (F := fun x => .int (i32 x)) rfl (show (m17.1 24) = (m.1 24) from (fr1 Fm17 24 rfl))) rfl ?_
                refine T_icmp 102 69 rfl rfl rfl (r32 (by omega) (by omega)) (r32 (by omega) (by omega)) (fun (h46 : (m.1 24) ≤ v16) => ?_) (fun (h46 : ¬ ((m.1 24) ≤ v16)) => ?_)
                · skip
                  refine T_ret rfl (fun _ => rfl) ?_
                  exact ⟨(mO m17 [] []), Tm17, (fr_m (fr_s Fm17 (fr_m fr_0 rfl rfl) rfl rfl) rfl rfl), (show (m17.1 10) = 0 → (m.1 10) = 0 by omega), (fun (h : (m17.1 10) = 0) => absurd h (by omega)), rfl⟩
                · skip
                  refine T_gf 73 (.int (i32 (m17.1 10))) rfl rfl rfl rfl rfl rfl ?_
                  refine T_if 102 76 rfl rfl rfl (r32 (by omega) (by omega)) (fun (h47 : (m17.1 10) ≠ 0) => ?_) (fun (h47 : ¬ ((m17.1 10) ≠ 0)) => by exfalso; omega)
                  refine T_ret rfl (fun _ => rfl) ?_
                  exact ⟨(mO m17 [] []), Tm17, (fr_m (fr_s Fm17 (fr_m fr_0 rfl rfl) rfl rfl) rfl rfl), (show (m17.1 10) = 0 → (m.1 10) = 0 by omega), (fun (h : (m17.1 10) = 0) => absurd h (by omega)), rfl⟩
          refine Tm_lv (a := [(0, .ref 189), (1, .int (i32 v1)), (2, .int (i32 0))]) rfl rfl ⟨rfl, rfl, rfl, trivial⟩ ?_
          exact L61_18 (((m.1 24) - (0 : Int) : Int) + 1).toNat 0 (mO m [] []) ⟨by decide, by decide⟩ hT (fr_m fr_0 rfl rfl) (show 0 ≤ (0 : Int) by omega) (show (0 : Int) ≤ (m.1 24) by omega) (fun _ => (show ∀ q, 0 ≤ q → q < (0 : Int) → 0 < (m.2 41) q ∨ NR (m.2 44) (m.2 38) (m.2 42) (m.2 45) (m.2 41) (m.1 24) q by first | (intro q a b; omega) | (intro q a b; by_cases e : q = v16; (rw [e]; exact hNR (by omega)); exact hNA q a (by omega)))) (show (m.1 24) - (0 : Int) < (((((m.1 24) - (0 : Int) : Int) + 1).toNat : Nat) : Int) by omega)
        · skip
          refine T_ld 53 (.ref 189) rfl (fun _ => rfl) ?_
          refine T_ld 55 (.int (i32 6)) rfl (fun _ => rfl) ?_
          refine T_ld 56 (.int (i32 v1)) rfl (fun _ => rfl) ?_
          refine T_call 59 222 [.ref 189, .int (i32 6), .int (i32 v1)] [] rfl (fun _ => rfl) rfl (d_wrong w (mO m [] []) c N D (by omega) hT 6 v1 ⟨by decide, by decide⟩ (r32 (by omega) (by omega)) (show 1 ≤ (6 : Int) ∧ (6 : Int) ≤ 8 by omega) (show 0 ≤ v1 ∧ v1 ≤ 4000 by omega)) (fun rr48 k49 => ?_)
          obtain ⟨m50, Tm50, Fm50, h51, rfl⟩ := k49
          refine ⟨_, _, rfl, ?_⟩
          refine T_nb (st' := []) rfl ?_
          have g52 : 0 ≤ m50.1 10 ∧ m50.1 10 ≤ 8 := Tm50.1 10
          have g53 : (-1) ≤ m50.1 11 ∧ m50.1 11 ≤ 4000 := Tm50.1 11
          replace h51 : (0 < (m.1 10) → (m50.1 10) = (m.1 10) ∧ (m50.1 11) = (m.1 11)) ∧ ((m.1 10) ≤ 0 → (m50.1 10) = (6 : Int) ∧ (m50.1 11) = v1) := h51
          have hf54 : 1 ≤ (m50.1 10) := by omega
          refine T_ld 60 (.int (i32 0)) rfl (fun _ => rfl) ?_
          refine T_sto 61 [(2, .int (i32 0)), (0, .ref 189), (1, .int (i32 v1))] rfl (fun _ => rfl) ?_
          have L61_57 : ∀ (n63 : Nat) (v55 : Int) (m56 : mR), (R32 v55) → Ty m56 → fr [10, 11] [126] (mO m50 [] []) m56 → (0 ≤ v55) → (v55 ≤ (m.1 24)) → ((m56.1 10) = 0 → (∀ q, 0 ≤ q → q < v55 → 0 < (m.2 41) q ∨ NR (m.2 44) (m.2 38) (m.2 42) (m.2 45) (m.2 41) (m.1 24) q)) → (m.1 24) - v55 < (n63 : Int) → TT w D pm_284 (61, [(0, .ref 189), (1, .int (i32 v1)), (2, .int (i32 v55))], [], (mhp (mO m56 [] []) c, N), 0, 0) (Q_checkStates m c N) := by
            intro n63
            induction n63 with
            | zero =>
              intro v55 m56 q60 Tm56 Fm56 ic58 ic59 c62 hmu
              obtain ⟨q60a, q60b⟩ := id q60
              have q61_10 : 0 ≤ m56.1 10 ∧ m56.1 10 ≤ 8 := Tm56.1 10
              have q61_11 : (-1) ≤ m56.1 11 ∧ m56.1 11 ≤ 4000 := Tm56.1 11
              exfalso
              omega
            | succ n63 ih =>
              intro v55 m56 q60 Tm56 Fm56 ic58 ic59 c62 hmu
              obtain ⟨q60a, q60b⟩ := id q60
              have q61_10 : 0 ≤ m56.1 10 ∧ m56.1 10 ≤ 8 := Tm56.1 10
              have q61_11 : (-1) ≤ m56.1 11 ∧ m56.1 11 ≤ 4000 := Tm56.1 11
              have ih64 := ih
              by_cases hf65 : (m56.1 10) = 0
              · skip
                have c66 := c62 hf65
                clear c62
                have hNA := c66
                refine T_ld 62 (.int (i32 v55)) rfl (fun _ => rfl) ?_
                refine T_gf 66 (.int (i32 (m.1 24))) rfl rfl rfl rfl (mfv_c (F := fun x => .int (i32 x)) rfl (show (m56.1 24) = (m.1 24) from ((fr1 Fm56 24 rfl).trans (fr1 Fm50 24 rfl)))) rfl ?_
                refine T_icmp 102 69 rfl rfl rfl (r32 (by omega) (by omega)) (r32 (by omega) (by omega)) (fun (h67 : (m.1 24) ≤ v55) => ?_) (fun (h67 : ¬ ((m.1 24) ≤ v55)) => ?_)
                · skip
                  refine T_ret rfl (fun _ => rfl) ?_
                  exact ⟨(mO m56 [] []), Tm56, (fr_m (fr_s Fm56 (fr_m (fr_s Fm50 (fr_m fr_0 rfl rfl) rfl rfl) rfl rfl) rfl rfl) rfl rfl), (show (m56.1 10) = 0 → (m.1 10) = 0 by omega), (fun _ => (show ∀ q, 0 ≤ q → q < (m.1 24) → 0 < (m.2 41) q ∨ NR (m.2 44) (m.2 38) (m.2 42) (m.2 45) (m.2 41) (m.1 24) q by first | (exact fun q a b => hNA q a (by omega)) | (exfalso; omega))), rfl⟩
                · skip
                  refine T_gf 73 (.int (i32 (m56.1 10))) rfl rfl rfl rfl rfl rfl ?_
                  refine T_if 102 76 rfl rfl rfl (r32 (by omega) (by omega)) (fun (h68 : (m56.1 10) ≠ 0) => by exfalso; omega) (fun (h68 : ¬ ((m56.1 10) ≠ 0)) => ?_)
                  refine T_ld 77 (.ref 189) rfl (fun _ => rfl) ?_
                  refine T_ld 78 (.int (i32 v55)) rfl (fun _ => rfl) ?_
                  refine T_call 81 285 [.ref 189, .int (i32 v55)] [] rfl (fun _ => rfl) rfl (c_comesRound w (mO m56 [] []) c N D (by omega) Tm56 v55 (r32 (by omega) (by omega)) (show 0 ≤ v55 ∧ v55 ≤ 15 by omega) (show v55 < (m56.1 24) by rewrite [(show (m56.1 24) = (m.1 24) from ((fr1 Fm56 24 rfl).trans (fr1 Fm50 24 rfl)))]; omega)) (fun rr69 k70 => ?_)
                  obtain ⟨m71, x72, Tm71, Fm71, g73, h74, rfl⟩ := k70
                  refine ⟨_, _, rfl, ?_⟩
                  refine T_nb (st' := [.int (i32 x72)]) rfl ?_
                  obtain ⟨g73a, g73b⟩ := g73
                  replace h74 : x72 = 0 → 0 < (m56.2 41) v55 ∨ NR (m56.2 44) (m56.2 38) (m56.2 42) (m56.2 45) (m56.2 41) (m56.1 24) v55 := h74
                  rewrite [(show (m56.2 41) = (m.2 41) from ((fr2 Fm56 41 rfl).trans (fr2 Fm50 41 rfl))), (show (m56.2 44) = (m.2 44) from ((fr2 Fm56 44 rfl).trans (fr2 Fm50 44 rfl))), (show (m56.2 38) = (m.2 38) from ((fr2 Fm56 38 rfl).trans (fr2 Fm50 38 rfl))), (show (m56.2 42) = (m.2 42) from ((fr2 Fm56 42 rfl).trans (fr2 Fm50 42 rfl))), (show (m56.2 45) = (m.2 45) from ((fr2 Fm56 45 rfl).trans (fr2 Fm50 45 rfl))), (show (m56.1 24) = (m.1 24) from ((fr1 Fm56 24 rfl).trans (fr1 Fm50 24 rfl)))] at h74
                  have hNR := h74
                  refine T_if 96 84 rfl rfl rfl (r32 (by omega) (by omega)) (fun (h75 : x72 = 0) => ?_) (fun (h75 : ¬ (x72 = 0)) => ?_)
                  · skip
                    refine T_iinc 99 [(2, .int (i32 (v55 + 1))), (0, .ref 189), (1, .int (i32 v1))] rfl rfl (by decide) rfl rfl ?_
                    refine T_goto 61 rfl (fun _ => rfl) ?_
                    refine Tm_lv (a := [(0, .ref 189), (1, .int (i32 v1)), (2, .int (i32 (v55 + 1)))]) rfl rfl ⟨rfl, rfl, rfl, trivial⟩ ?_
                    exact ih64 (v55 + 1) (mO m71 [] []) (r32 (by omega) (by omega)) Tm71 (fr_m (fr_s Fm71 (fr_m (fr_s Fm56 (fr_m fr_0 rfl rfl) rfl rfl) rfl rfl) rfl rfl) rfl rfl) (show 0 ≤ (v55 + 1) by omega) (show (v55 + 1) ≤ (m.1 24) by omega) (fun _ => (show ∀ q, 0 ≤ q → q < (v55 + 1) → 0 < (m.2 41) q ∨ NR (m.2 44) (m.2 38) (m.2 42) (m.2 45) (m.2 41) (m.1 24) q by first | (intro q a b; omega) | (intro q a b; by_cases e : q = v55; (rw [e]; exact hNR (by omega)); exact hNA q a (by omega)))) (show (m.1 24) - (v55 + 1) < (n63 : Int) by omega)
                  · skip
                    refine T_ld 85 (.ref 189) rfl (fun _ => rfl) ?_
                    refine T_ld 87 (.int (i32 8)) rfl (fun _ => rfl) ?_
                    refine T_gf 91 (.ref 210) rfl rfl rfl rfl rfl rfl ?_
                    refine T_ld 92 (.int (i32 v55)) rfl (fun _ => rfl) ?_
                    refine T_iald 93 40 (m.2 40) rfl rfl rfl (by omega) (show v55 < (16 : Int) by omega) (show (m71.2 40) = (m.2 40) from ((fr2 Fm71 40 rfl).trans ((fr2 Fm56 40 rfl).trans (fr2 Fm50 40 rfl)))) ?_
                    have e76 : 0 ≤ m.2 40 v55 ∧ m.2 40 v55 ≤ 4000 := hT.2.1 40 v55
                    refine T_call 96 222 [.ref 189, .int (i32 8), .int (i32 ((m.2 40) v55))] [] rfl (fun _ => rfl) rfl (d_wrong w (mO m71 [] []) c N D (by omega) Tm71 8 ((m.2 40) v55) ⟨by decide, by decide⟩ (r32 (by omega) (by omega)) (show 1 ≤ (8 : Int) ∧ (8 : Int) ≤ 8 by omega) (show 0 ≤ ((m.2 40) v55) ∧ ((m.2 40) v55) ≤ 4000 by omega)) (fun rr77 k78 => ?_)
                    obtain ⟨m79, Tm79, Fm79, h80, rfl⟩ := k78
                    refine ⟨_, _, rfl, ?_⟩
                    refine T_nb (st' := []) rfl ?_
                    have g81 : 0 ≤ m79.1 10 ∧ m79.1 10 ≤ 8 := Tm79.1 10
                    have g82 : (-1) ≤ m79.1 11 ∧ m79.1 11 ≤ 4000 := Tm79.1 11
                    replace h80 : (0 < (m71.1 10) → (m79.1 10) = (m71.1 10) ∧ (m79.1 11) = (m71.1 11)) ∧ ((m71.1 10) ≤ 0 → (m79.1 10) = (8 : Int) ∧ (m79.1 11) = ((m.2 40) v55)) := h80
                    rewrite [(show (m71.1 10) = (m56.1 10) from (fr1 Fm71 10 rfl)), (show (m71.1 11) = (m56.1 11) from (fr1 Fm71 11 rfl))] at h80
                    have hf83 : 1 ≤ (m79.1 10) := by omega
                    refine T_iinc 99 [(2, .int (i32 (v55 + 1))), (0, .ref 189), (1, .int (i32 v1))] rfl rfl (by decide) rfl rfl ?_
                    refine T_goto 61 rfl (fun _ => rfl) ?_
                    refine Tm_lv (a := [(0, .ref 189), (1, .int (i32 v1)), (2, .int (i32 (v55 + 1)))]) rfl rfl ⟨rfl, rfl, rfl, trivial⟩ ?_
                    exact ih64 (v55 + 1) (mO m79 [] []) (r32 (by omega) (by omega)) Tm79 (fr_m (fr_s Fm79 (fr_m (fr_s Fm71 (fr_m (fr_s Fm56 (fr_m fr_0 rfl rfl) rfl rfl) rfl rfl) rfl rfl) rfl rfl) rfl rfl) rfl rfl) (show 0 ≤ (v55 + 1) by omega) (show (v55 + 1) ≤ (m.1 24) by omega) (fun (h : (m79.1 10) = 0) => absurd h (by omega)) (show (m.1 24) - (v55 + 1) < (n63 : Int) by omega)
              · skip
                clear c62
                have hf84 : 1 ≤ (m56.1 10) := by omega
                refine T_ld 62 (.int (i32 v55)) rfl (fun _ => rfl) ?_
                refine T_gf 66 (.int (i32 (m.1 24))) rfl rfl rfl rfl (mfv_c (F := fun x => .int (i32 x)) rfl (show (m56.1 24) = (m.1 24) from ((fr1 Fm56 24 rfl).trans (fr1 Fm50 24 rfl)))) rfl ?_
                refine T_icmp 102 69 rfl rfl rfl (r32 (by omega) (by omega)) (r32 (by omega) (by omega)) (fun (h85 : (m.1 24) ≤ v55) => ?_) (fun (h85 : ¬ ((m.1 24) ≤ v55)) => ?_)
                · skip
                  refine T_ret rfl (fun _ => rfl) ?_
                  exact ⟨(mO m56 [] []), Tm56, (fr_m (fr_s Fm56 (fr_m (fr_s Fm50 (fr_m fr_0 rfl rfl) rfl rfl) rfl rfl) rfl rfl) rfl rfl), (show (m56.1 10) = 0 → (m.1 10) = 0 by omega), (fun (h : (m56.1 10) = 0) => absurd h (by omega)), rfl⟩
                · skip
                  refine T_gf 73 (.int (i32 (m56.1 10))) rfl rfl rfl rfl rfl rfl ?_
                  refine T_if 102 76 rfl rfl rfl (r32 (by omega) (by omega)) (fun (h86 : (m56.1 10) ≠ 0) => ?_) (fun (h86 : ¬ ((m56.1 10) ≠ 0)) => by exfalso; omega)
                  refine T_ret rfl (fun _ => rfl) ?_
                  exact ⟨(mO m56 [] []), Tm56, (fr_m (fr_s Fm56 (fr_m (fr_s Fm50 (fr_m fr_0 rfl rfl) rfl rfl) rfl rfl) rfl rfl) rfl rfl), (show (m56.1 10) = 0 → (m.1 10) = 0 by omega), (fun (h : (m56.1 10) = 0) => absurd h (by omega)), rfl⟩
          refine Tm_lv (a := [(0, .ref 189), (1, .int (i32 v1)), (2, .int (i32 0))]) rfl rfl ⟨rfl, rfl, rfl, trivial⟩ ?_
          exact L61_57 (((m.1 24) - (0 : Int) : Int) + 1).toNat 0 (mO m50 [] []) ⟨by decide, by decide⟩ Tm50 (fr_m fr_0 rfl rfl) (show 0 ≤ (0 : Int) by omega) (show (0 : Int) ≤ (m.1 24) by omega) (fun (h : (m50.1 10) = 0) => absurd h (by omega)) (show (m.1 24) - (0 : Int) < (((((m.1 24) - (0 : Int) : Int) + 1).toNat : Nat) : Int) by omega)
      · skip
        refine T_gf 16 (.ref 208) rfl rfl rfl rfl rfl rfl ?_
        refine T_ld 17 (.int (i32 v2)) rfl (fun _ => rfl) ?_
        refine T_iald 18 38 (m.2 38) rfl rfl rfl (by omega) (show v2 < (16 : Int) by omega) rfl ?_
        have e87 : (-1) ≤ m.2 38 v2 ∧ m.2 38 v2 ≤ 15 := hT.2.1 38 v2
        refine T_if 42 21 rfl rfl rfl (r32 (by omega) (by omega)) (fun (h88 : (0 : Int) ≤ (m.2 38) v2) => ?_) (fun (h88 : ¬ ((0 : Int) ≤ (m.2 38) v2)) => ?_)
        · skip
          refine T_iinc 45 [(2, .int (i32 (v2 + 1))), (0, .ref 189), (1, .int (i32 v1))] rfl rfl (by decide) rfl rfl ?_
          refine T_goto 4 rfl (fun _ => rfl) ?_
          refine Tm_lv (a := [(0, .ref 189), (1, .int (i32 v1)), (2, .int (i32 (v2 + 1)))]) rfl rfl ⟨rfl, rfl, rfl, trivial⟩ ?_
          exact ih13 v1 (v2 + 1) (r32 (by omega) (by omega)) (r32 (by omega) (by omega)) (show (-1) ≤ v1 by omega) (show v1 ≤ 4000 by omega) (show 0 ≤ (v2 + 1) by omega) (show (v2 + 1) ≤ (m.1 23) by omega) (show (-1) ≤ v1 ∧ v1 ≤ 4000 by omega) (show (m.1 23) - (v2 + 1) < (n12 : Int) by omega)
        · skip
          refine T_ld 22 (.int (i32 v1)) rfl (fun _ => rfl) ?_
          refine T_if 35 25 rfl rfl rfl (r32 (by omega) (by omega)) (fun (h89 : v1 < 0) => ?_) (fun (h89 : ¬ (v1 < 0)) => ?_)
          · skip
            refine T_gf 39 (.ref 207) rfl rfl rfl rfl rfl rfl ?_
            refine T_ld 40 (.int (i32 v2)) rfl (fun _ => rfl) ?_
            refine T_iald 41 37 (m.2 37) rfl rfl rfl (by omega) (show v2 < (16 : Int) by omega) rfl ?_
            have e90 : 0 ≤ m.2 37 v2 ∧ m.2 37 v2 ≤ 4000 := hT.2.1 37 v2
            refine T_sto 42 [(1, .int (i32 ((m.2 37) v2))), (0, .ref 189), (2, .int (i32 v2))] rfl (fun _ => rfl) ?_
            refine T_iinc 45 [(2, .int (i32 (v2 + 1))), (1, .int (i32 ((m.2 37) v2))), (0, .ref 189)] rfl rfl (by decide) rfl rfl ?_
            refine T_goto 4 rfl (fun _ => rfl) ?_
            refine Tm_lv (a := [(0, .ref 189), (1, .int (i32 ((m.2 37) v2))), (2, .int (i32 (v2 + 1)))]) rfl rfl ⟨rfl, rfl, rfl, trivial⟩ ?_
            exact ih13 ((m.2 37) v2) (v2 + 1) (r32 (by omega) (by omega)) (r32 (by omega) (by omega)) (show (-1) ≤ ((m.2 37) v2) by omega) (show ((m.2 37) v2) ≤ 4000 by omega) (show 0 ≤ (v2 + 1) by omega) (show (v2 + 1) ≤ (m.1 23) by omega) (show (-1) ≤ ((m.2 37) v2) ∧ ((m.2 37) v2) ≤ 4000 by omega) (show (m.1 23) - (v2 + 1) < (n12 : Int) by omega)
          · skip
            refine T_gf 29 (.ref 207) rfl rfl rfl rfl rfl rfl ?_
            refine T_ld 30 (.int (i32 v2)) rfl (fun _ => rfl) ?_
            refine T_iald 31 37 (m.2 37) rfl rfl rfl (by omega) (show v2 < (16 : Int) by omega) rfl ?_
            have e91 : 0 ≤ m.2 37 v2 ∧ m.2 37 v2 ≤ 4000 := hT.2.1 37 v2
            refine T_ld 32 (.int (i32 v1)) rfl (fun _ => rfl) ?_
            refine T_icmp 42 35 rfl rfl rfl (r32 (by omega) (by omega)) (r32 (by omega) (by omega)) (fun (h92 : v1 ≤ (m.2 37) v2) => ?_) (fun (h92 : ¬ (v1 ≤ (m.2 37) v2)) => ?_)
            · skip
              refine T_iinc 45 [(2, .int (i32 (v2 + 1))), (0, .ref 189), (1, .int (i32 v1))] rfl rfl (by decide) rfl rfl ?_
              refine T_goto 4 rfl (fun _ => rfl) ?_
              refine Tm_lv (a := [(0, .ref 189), (1, .int (i32 v1)), (2, .int (i32 (v2 + 1)))]) rfl rfl ⟨rfl, rfl, rfl, trivial⟩ ?_
              exact ih13 v1 (v2 + 1) (r32 (by omega) (by omega)) (r32 (by omega) (by omega)) (show (-1) ≤ v1 by omega) (show v1 ≤ 4000 by omega) (show 0 ≤ (v2 + 1) by omega) (show (v2 + 1) ≤ (m.1 23) by omega) (show (-1) ≤ v1 ∧ v1 ≤ 4000 by omega) (show (m.1 23) - (v2 + 1) < (n12 : Int) by omega)
            · skip
              refine T_gf 39 (.ref 207) rfl rfl rfl rfl rfl rfl ?_
              refine T_ld 40 (.int (i32 v2)) rfl (fun _ => rfl) ?_
              refine T_iald 41 37 (m.2 37) rfl rfl rfl (by omega) (show v2 < (16 : Int) by omega) rfl ?_
              have e93 : 0 ≤ m.2 37 v2 ∧ m.2 37 v2 ≤ 4000 := hT.2.1 37 v2
              refine T_sto 42 [(1, .int (i32 ((m.2 37) v2))), (0, .ref 189), (2, .int (i32 v2))] rfl (fun _ => rfl) ?_
              refine T_iinc 45 [(2, .int (i32 (v2 + 1))), (1, .int (i32 ((m.2 37) v2))), (0, .ref 189)] rfl rfl (by decide) rfl rfl ?_
              refine T_goto 4 rfl (fun _ => rfl) ?_
              refine Tm_lv (a := [(0, .ref 189), (1, .int (i32 ((m.2 37) v2))), (2, .int (i32 (v2 + 1)))]) rfl rfl ⟨rfl, rfl, rfl, trivial⟩ ?_
              exact ih13 ((m.2 37) v2) (v2 + 1) (r32 (by omega) (by omega)) (r32 (by omega) (by omega)) (show (-1) ≤ ((m.2 37) v2) by omega) (show ((m.2 37) v2) ≤ 4000 by omega) (show 0 ≤ (v2 + 1) by omega) (show (v2 + 1) ≤ (m.1 23) by omega) (show (-1) ≤ ((m.2 37) v2) ∧ ((m.2 37) v2) ≤ 4000 by omega) (show (m.1 23) - (v2 + 1) < (n12 : Int) by omega)
  refine Tm_lv (a := [(0, .ref 189), (1, .int (i32 (-1))), (2, .int (i32 0))]) rfl rfl ⟨rfl, rfl, rfl, trivial⟩ ?_
  exact L4_3 (((m.1 23) - (0 : Int) : Int) + 1).toNat (-1) 0 ⟨by decide, by decide⟩ ⟨by decide, by decide⟩ (show (-1) ≤ (-1 : Int) by omega) (show (-1 : Int) ≤ 4000 by omega) (show 0 ≤ (0 : Int) by omega) (show (0 : Int) ≤ (m.1 23) by omega) (show (-1) ≤ (-1 : Int) ∧ (-1 : Int) ≤ 4000 by omega) (show (m.1 23) - (0 : Int) < (((((m.1 23) - (0 : Int) : Int) + 1).toNat : Nat) : Int) by omega)
