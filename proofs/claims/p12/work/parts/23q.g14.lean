def Q_leads (m : mR) (c : Nat → Option am_C) (N : Nat) (d : Int) (k : Int) : ag_Re af_T → Prop := fun R => ∃ (r : Int), (0 ≤ r ∧ r ≤ 1) ∧ ((r = 1 ∧ Ld (m.2 44) (m.2 38) (m.2 42) (m.2 45) d k) ∨ (r = 0 ∧ ¬ Ld (m.2 44) (m.2 38) (m.2 42) (m.2 45) d k)) ∧ R = (.inl (some (.int (i32 r))), (mhp (mO m [] []) c, N), 0, 0)
set_option maxHeartbeats 8000000 in
theorem c_leads (w : wX) (m : mR) (c : Nat → Option am_C) (N D : Nat) (hD : 1 ≤ D) (hT : Ty m) (d : Int) (k : Int) (qd : R32 d) (qk : R32 k) (p0 : 0 ≤ d ∧ d ≤ 15) : TC w D 286 [.ref 189, .int (i32 d), .int (i32 k)] (mhp m c, N) (Q_leads m c N d k) := by
  obtain ⟨D, rfl⟩ : ∃ k, D = k + 1 := ⟨D - 1, by omega⟩
  obtain ⟨qda, qdb⟩ := id qd
  obtain ⟨qka, qkb⟩ := id qk
  refine Tc_of rfl ?_
  show TT w D pm_286 (0, [(0, .ref 189), (1, .int (i32 d)), (2, .int (i32 k))], [], (mhp m c, N), 0, 0) (Q_leads m c N d k)
  rw [show (mhp m c, N) = (mhp (mO m [] []) c, N) from rfl]
  refine T_gf 4 (.ref 214) rfl rfl rfl rfl rfl rfl ?_
  refine T_ld 5 (.int (i32 d)) rfl (fun _ => rfl) ?_
  refine T_iald 6 44 (m.2 44) rfl rfl rfl (by omega) (show d < (16 : Int) by omega) rfl ?_
  have e1 : (-2) ≤ m.2 44 d ∧ m.2 44 d ≤ 15 := hT.2.1 44 d
  refine T_if 28 9 rfl rfl rfl (r32 (by omega) (by omega)) (fun (h2 : (m.2 44) d < 0) => ?_) (fun (h2 : ¬ ((m.2 44) d < 0)) => ?_)
  · skip
    refine T_ld 29 (.int (i32 0)) rfl (fun _ => rfl) ?_
    refine T_sto 30 [(3, .int (i32 0)), (0, .ref 189), (1, .int (i32 d)), (2, .int (i32 k))] rfl (fun _ => rfl) ?_
    refine T_ld 32 (.int (i32 8)) rfl (fun _ => rfl) ?_
    refine T_ld 33 (.int (i32 d)) rfl (fun _ => rfl) ?_
    refine T_imul 34 rfl rfl ?_
    refine T_sto 36 [(4, .int (i32 (8 * d))), (3, .int (i32 0)), (0, .ref 189), (1, .int (i32 d)), (2, .int (i32 k))] rfl (fun _ => rfl) ?_
    have e15 : 0 ≤ m.2 42 d ∧ m.2 42 d ≤ 8 := hT.2.1 42 d
    have L36_5 : ∀ (n : Nat) (v3 : Int) (v4 : Int), (R32 v3) → (R32 v4) → (0 ≤ v3) → (v3 ≤ 1) → (0 ≤ v4) → (v4 ≤ (8 * d) + ((m.2 42) d)) → (8 * d ≤ v4) → ((v3 = 1 ∧ LdK (m.2 44) (m.2 38) (m.2 42) (m.2 45) d k v4) ∨ (v3 = 0 ∧ ¬ LdK (m.2 44) (m.2 38) (m.2 42) (m.2 45) d k v4)) → ((8 * d) + ((m.2 42) d)) - v4 < (n : Int) → TT w D pm_286 (36, [(0, .ref 189), (1, .int (i32 d)), (2, .int (i32 k)), (3, .int (i32 v3)), (4, .int (i32 v4))], [], (mhp (mO m [] []) c, N), 0, 0) (Q_leads m c N d k) := by
      intro n
      induction n with
      | zero =>
        intro v3 v4 q6 q7 ic8 ic9 ic10 ic11 ic12 ic13 hmu
        obtain ⟨q6a, q6b⟩ := id q6
        obtain ⟨q7a, q7b⟩ := id q7
        have hL := ic13
        exfalso
        omega
      | succ n ih =>
        intro v3 v4 q6 q7 ic8 ic9 ic10 ic11 ic12 ic13 hmu
        obtain ⟨q6a, q6b⟩ := id q6
        obtain ⟨q7a, q7b⟩ := id q7
        have hL := ic13
        have ih16 := ih
        refine T_ld 38 (.int (i32 v4)) rfl (fun _ => rfl) ?_
        refine T_ld 40 (.int (i32 8)) rfl (fun _ => rfl) ?_
        refine T_ld 41 (.int (i32 d)) rfl (fun _ => rfl) ?_
        refine T_imul 42 rfl rfl ?_
        refine T_gf 46 (.ref 212) rfl rfl rfl rfl rfl rfl ?_
        refine T_ld 47 (.int (i32 d)) rfl (fun _ => rfl) ?_
        refine T_iald 48 42 (m.2 42) rfl rfl rfl (by omega) (show d < (16 : Int) by omega) rfl ?_
        have e17 : 0 ≤ m.2 42 d ∧ m.2 42 d ≤ 8 := hT.2.1 42 d
        refine T_iadd 49 rfl rfl ?_
        refine T_icmp 94 52 rfl rfl rfl (r32 (by omega) (by omega)) (r32 (by omega) (by omega)) (fun (h18 : (8 * d) + ((m.2 42) d) ≤ v4) => ?_) (fun (h18 : ¬ ((8 * d) + ((m.2 42) d) ≤ v4)) => ?_)
        · skip
          refine T_ld 95 (.int (i32 v3)) rfl (fun _ => rfl) ?_
          refine T_retb rfl rfl (by omega) ?_
          exact ⟨v3, ⟨by omega, by omega⟩, (show (v3 = 1 ∧ Ld (m.2 44) (m.2 38) (m.2 42) (m.2 45) d k) ∨ (v3 = 0 ∧ ¬ Ld (m.2 44) (m.2 38) (m.2 42) (m.2 45) d k) by first | (rw [show v4 = 8 * d + (m.2 42) d by omega] at hL; exact hL) | (exfalso; omega)), rfl⟩
        · skip
          refine T_ld 53 (.int (i32 v3)) rfl (fun _ => rfl) ?_
          refine T_if 82 56 rfl rfl rfl (r32 (by omega) (by omega)) (fun (h19 : v3 ≠ 0) => ?_) (fun (h19 : ¬ (v3 ≠ 0)) => ?_)
          · skip
            refine T_ld 83 (.int (i32 1)) rfl (fun _ => rfl) ?_
            refine T_goto 87 rfl (fun _ => rfl) ?_
            refine T_sto 88 [(3, .int (i32 1)), (0, .ref 189), (1, .int (i32 d)), (2, .int (i32 k)), (4, .int (i32 v4))] rfl (fun _ => rfl) ?_
            refine T_iinc 91 [(4, .int (i32 (v4 + 1))), (3, .int (i32 1)), (0, .ref 189), (1, .int (i32 d)), (2, .int (i32 k))] rfl rfl (by decide) rfl rfl ?_
            refine T_goto 36 rfl (fun _ => rfl) ?_
            refine Tm_lv (a := [(0, .ref 189), (1, .int (i32 d)), (2, .int (i32 k)), (3, .int (i32 1)), (4, .int (i32 (v4 + 1)))]) rfl rfl ⟨rfl, rfl, rfl, rfl, rfl, trivial⟩ ?_
            exact ih16 1 (v4 + 1) ⟨by decide, by decide⟩ (r32 (by omega) (by omega)) (show 0 ≤ (1 : Int) by omega) (show (1 : Int) ≤ 1 by omega) (show 0 ≤ (v4 + 1) by omega) (show (v4 + 1) ≤ (8 * d) + ((m.2 42) d) by omega) (show 8 * d ≤ (v4 + 1) by omega) (show ((1 : Int) = 1 ∧ LdK (m.2 44) (m.2 38) (m.2 42) (m.2 45) d k (v4 + 1)) ∨ ((1 : Int) = 0 ∧ ¬ LdK (m.2 44) (m.2 38) (m.2 42) (m.2 45) d k (v4 + 1)) by first | exact Or.inl ⟨rfl, Or.inl ⟨by omega, by omega⟩⟩ | exact Or.inr ⟨rfl, fun h => h.elim (fun h => by omega) (fun ⟨c, a, b, e⟩ => by omega)⟩ | exact hL.elim (fun h => Or.inl ⟨rfl, LdK_m h.2⟩) (fun h => absurd h.1 (by omega)) | exact Or.inl ⟨rfl, LdK_n (by omega) (by omega) (by omega)⟩ | exact hL.elim (fun h => absurd h.1 (by omega)) (fun h => Or.inr ⟨rfl, LdK_no h.2 (fun q => by omega)⟩)) (show ((8 * d) + ((m.2 42) d)) - (v4 + 1) < (n : Int) by omega)
          · skip
            refine T_gf 60 (.ref 215) rfl rfl rfl rfl rfl rfl ?_
            refine T_ld 62 (.int (i32 v4)) rfl (fun _ => rfl) ?_
            refine T_iald 63 45 (m.2 45) rfl rfl rfl (by omega) (show v4 < (128 : Int) by omega) rfl ?_
            have e20 : (-2) ≤ m.2 45 v4 ∧ m.2 45 v4 ≤ 15 := hT.2.1 45 v4
            refine T_if 86 66 rfl rfl rfl (r32 (by omega) (by omega)) (fun (h21 : (m.2 45) v4 < 0) => ?_) (fun (h21 : ¬ ((m.2 45) v4 < 0)) => ?_)
            · skip
              refine T_ld 87 (.int (i32 0)) rfl (fun _ => rfl) ?_
              refine T_sto 88 [(3, .int (i32 0)), (0, .ref 189), (1, .int (i32 d)), (2, .int (i32 k)), (4, .int (i32 v4))] rfl (fun _ => rfl) ?_
              refine T_iinc 91 [(4, .int (i32 (v4 + 1))), (3, .int (i32 0)), (0, .ref 189), (1, .int (i32 d)), (2, .int (i32 k))] rfl rfl (by decide) rfl rfl ?_
              refine T_goto 36 rfl (fun _ => rfl) ?_
              refine Tm_lv (a := [(0, .ref 189), (1, .int (i32 d)), (2, .int (i32 k)), (3, .int (i32 0)), (4, .int (i32 (v4 + 1)))]) rfl rfl ⟨rfl, rfl, rfl, rfl, rfl, trivial⟩ ?_
              exact ih16 0 (v4 + 1) ⟨by decide, by decide⟩ (r32 (by omega) (by omega)) (show 0 ≤ (0 : Int) by omega) (show (0 : Int) ≤ 1 by omega) (show 0 ≤ (v4 + 1) by omega) (show (v4 + 1) ≤ (8 * d) + ((m.2 42) d) by omega) (show 8 * d ≤ (v4 + 1) by omega) (show ((0 : Int) = 1 ∧ LdK (m.2 44) (m.2 38) (m.2 42) (m.2 45) d k (v4 + 1)) ∨ ((0 : Int) = 0 ∧ ¬ LdK (m.2 44) (m.2 38) (m.2 42) (m.2 45) d k (v4 + 1)) by first | exact Or.inl ⟨rfl, Or.inl ⟨by omega, by omega⟩⟩ | exact Or.inr ⟨rfl, fun h => h.elim (fun h => by omega) (fun ⟨c, a, b, e⟩ => by omega)⟩ | exact hL.elim (fun h => Or.inl ⟨rfl, LdK_m h.2⟩) (fun h => absurd h.1 (by omega)) | exact Or.inl ⟨rfl, LdK_n (by omega) (by omega) (by omega)⟩ | exact hL.elim (fun h => absurd h.1 (by omega)) (fun h => Or.inr ⟨rfl, LdK_no h.2 (fun q => by omega)⟩)) (show ((8 * d) + ((m.2 42) d)) - (v4 + 1) < (n : Int) by omega)
            · skip
              refine T_gf 70 (.ref 208) rfl rfl rfl rfl rfl rfl ?_
              refine T_gf 74 (.ref 215) rfl rfl rfl rfl rfl rfl ?_
              refine T_ld 76 (.int (i32 v4)) rfl (fun _ => rfl) ?_
              refine T_iald 77 45 (m.2 45) rfl rfl rfl (by omega) (show v4 < (128 : Int) by omega) rfl ?_
              have e22 : (-2) ≤ m.2 45 v4 ∧ m.2 45 v4 ≤ 15 := hT.2.1 45 v4
              refine T_iald 78 38 (m.2 38) rfl rfl rfl (by omega) (show ((m.2 45) v4) < (16 : Int) by omega) rfl ?_
              have e23 : (-1) ≤ m.2 38 ((m.2 45) v4) ∧ m.2 38 ((m.2 45) v4) ≤ 15 := hT.2.1 38 ((m.2 45) v4)
              refine T_ld 79 (.int (i32 k)) rfl (fun _ => rfl) ?_
              refine T_icmp 86 82 rfl rfl rfl (r32 (by omega) (by omega)) (r32 (by omega) (by omega)) (fun (h24 : (m.2 38) ((m.2 45) v4) ≠ k) => ?_) (fun (h24 : ¬ ((m.2 38) ((m.2 45) v4) ≠ k)) => ?_)
              · skip
                refine T_ld 87 (.int (i32 0)) rfl (fun _ => rfl) ?_
                refine T_sto 88 [(3, .int (i32 0)), (0, .ref 189), (1, .int (i32 d)), (2, .int (i32 k)), (4, .int (i32 v4))] rfl (fun _ => rfl) ?_
                refine T_iinc 91 [(4, .int (i32 (v4 + 1))), (3, .int (i32 0)), (0, .ref 189), (1, .int (i32 d)), (2, .int (i32 k))] rfl rfl (by decide) rfl rfl ?_
                refine T_goto 36 rfl (fun _ => rfl) ?_
                refine Tm_lv (a := [(0, .ref 189), (1, .int (i32 d)), (2, .int (i32 k)), (3, .int (i32 0)), (4, .int (i32 (v4 + 1)))]) rfl rfl ⟨rfl, rfl, rfl, rfl, rfl, trivial⟩ ?_
                exact ih16 0 (v4 + 1) ⟨by decide, by decide⟩ (r32 (by omega) (by omega)) (show 0 ≤ (0 : Int) by omega) (show (0 : Int) ≤ 1 by omega) (show 0 ≤ (v4 + 1) by omega) (show (v4 + 1) ≤ (8 * d) + ((m.2 42) d) by omega) (show 8 * d ≤ (v4 + 1) by omega) (show ((0 : Int) = 1 ∧ LdK (m.2 44) (m.2 38) (m.2 42) (m.2 45) d k (v4 + 1)) ∨ ((0 : Int) = 0 ∧ ¬ LdK (m.2 44) (m.2 38) (m.2 42) (m.2 45) d k (v4 + 1)) by first | exact Or.inl ⟨rfl, Or.inl ⟨by omega, by omega⟩⟩ | exact Or.inr ⟨rfl, fun h => h.elim (fun h => by omega) (fun ⟨c, a, b, e⟩ => by omega)⟩ | exact hL.elim (fun h => Or.inl ⟨rfl, LdK_m h.2⟩) (fun h => absurd h.1 (by omega)) | exact Or.inl ⟨rfl, LdK_n (by omega) (by omega) (by omega)⟩ | exact hL.elim (fun h => absurd h.1 (by omega)) (fun h => Or.inr ⟨rfl, LdK_no h.2 (fun q => by omega)⟩)) (show ((8 * d) + ((m.2 42) d)) - (v4 + 1) < (n : Int) by omega)
              · skip
                refine T_ld 83 (.int (i32 1)) rfl (fun _ => rfl) ?_
                refine T_goto 87 rfl (fun _ => rfl) ?_
                refine T_sto 88 [(3, .int (i32 1)), (0, .ref 189), (1, .int (i32 d)), (2, .int (i32 k)), (4, .int (i32 v4))] rfl (fun _ => rfl) ?_
                refine T_iinc 91 [(4, .int (i32 (v4 + 1))), (3, .int (i32 1)), (0, .ref 189), (1, .int (i32 d)), (2, .int (i32 k))] rfl rfl (by decide) rfl rfl ?_
                refine T_goto 36 rfl (fun _ => rfl) ?_
                refine Tm_lv (a := [(0, .ref 189), (1, .int (i32 d)), (2, .int (i32 k)), (3, .int (i32 1)), (4, .int (i32 (v4 + 1)))]) rfl rfl ⟨rfl, rfl, rfl, rfl, rfl, trivial⟩ ?_
                exact ih16 1 (v4 + 1) ⟨by decide, by decide⟩ (r32 (by omega) (by omega)) (show 0 ≤ (1 : Int) by omega) (show (1 : Int) ≤ 1 by omega) (show 0 ≤ (v4 + 1) by omega) (show (v4 + 1) ≤ (8 * d) + ((m.2 42) d) by omega) (show 8 * d ≤ (v4 + 1) by omega) (show ((1 : Int) = 1 ∧ LdK (m.2 44) (m.2 38) (m.2 42) (m.2 45) d k (v4 + 1)) ∨ ((1 : Int) = 0 ∧ ¬ LdK (m.2 44) (m.2 38) (m.2 42) (m.2 45) d k (v4 + 1)) by first | exact Or.inl ⟨rfl, Or.inl ⟨by omega, by omega⟩⟩ | exact Or.inr ⟨rfl, fun h => h.elim (fun h => by omega) (fun ⟨c, a, b, e⟩ => by omega)⟩ | exact hL.elim (fun h => Or.inl ⟨rfl, LdK_m h.2⟩) (fun h => absurd h.1 (by omega)) | exact Or.inl ⟨rfl, LdK_n (by omega) (by omega) (by omega)⟩ | exact hL.elim (fun h => absurd h.1 (by omega)) (fun h => Or.inr ⟨rfl, LdK_no h.2 (fun q => by omega)⟩)) (show ((8 * d) + ((m.2 42) d)) - (v4 + 1) < (n : Int) by omega)
    refine Tm_lv (a := [(0, .ref 189), (1, .int (i32 d)), (2, .int (i32 k)), (3, .int (i32 0)), (4, .int (i32 (8 * d)))]) rfl rfl ⟨rfl, rfl, rfl, rfl, rfl, trivial⟩ ?_
    exact L36_5 ((((8 * d) + ((m.2 42) d)) - (8 * d) : Int) + 1).toNat 0 (8 * d) ⟨by decide, by decide⟩ (r32 (by omega) (by omega)) (show 0 ≤ (0 : Int) by omega) (show (0 : Int) ≤ 1 by omega) (show 0 ≤ (8 * d) by omega) (show (8 * d) ≤ (8 * d) + ((m.2 42) d) by omega) (show 8 * d ≤ (8 * d) by omega) (show ((0 : Int) = 1 ∧ LdK (m.2 44) (m.2 38) (m.2 42) (m.2 45) d k (8 * d)) ∨ ((0 : Int) = 0 ∧ ¬ LdK (m.2 44) (m.2 38) (m.2 42) (m.2 45) d k (8 * d)) by first | exact Or.inl ⟨rfl, Or.inl ⟨by omega, by omega⟩⟩ | exact Or.inr ⟨rfl, fun h => h.elim (fun h => by omega) (fun ⟨c, a, b, e⟩ => by omega)⟩ | exact hL.elim (fun h => Or.inl ⟨rfl, LdK_m h.2⟩) (fun h => absurd h.1 (by omega)) | exact Or.inl ⟨rfl, LdK_n (by omega) (by omega) (by omega)⟩ | exact hL.elim (fun h => absurd h.1 (by omega)) (fun h => Or.inr ⟨rfl, LdK_no h.2 (fun q => by omega)⟩)) (show ((8 * d) + ((m.2 42) d)) - (8 * d) < ((((((8 * d) + ((m.2 42) d)) - (8 * d) : Int) + 1).toNat : Nat) : Int) by omega)
  · skip
    refine T_gf 13 (.ref 208) rfl rfl rfl rfl rfl rfl ?_
    refine T_gf 17 (.ref 214) rfl rfl rfl rfl rfl rfl ?_
    refine T_ld 18 (.int (i32 d)) rfl (fun _ => rfl) ?_
    refine T_iald 19 44 (m.2 44) rfl rfl rfl (by omega) (show d < (16 : Int) by omega) rfl ?_
    have e25 : (-2) ≤ m.2 44 d ∧ m.2 44 d ≤ 15 := hT.2.1 44 d
    refine T_iald 20 38 (m.2 38) rfl rfl rfl (by omega) (show ((m.2 44) d) < (16 : Int) by omega) rfl ?_
    have e26 : (-1) ≤ m.2 38 ((m.2 44) d) ∧ m.2 38 ((m.2 44) d) ≤ 15 := hT.2.1 38 ((m.2 44) d)
    refine T_ld 21 (.int (i32 k)) rfl (fun _ => rfl) ?_
    refine T_icmp 28 24 rfl rfl rfl (r32 (by omega) (by omega)) (r32 (by omega) (by omega)) (fun (h27 : (m.2 38) ((m.2 44) d) ≠ k) => ?_) (fun (h27 : ¬ ((m.2 38) ((m.2 44) d) ≠ k)) => ?_)
    · skip
      refine T_ld 29 (.int (i32 0)) rfl (fun _ => rfl) ?_
      refine T_sto 30 [(3, .int (i32 0)), (0, .ref 189), (1, .int (i32 d)), (2, .int (i32 k))] rfl (fun _ => rfl) ?_
      refine T_ld 32 (.int (i32 8)) rfl (fun _ => rfl) ?_
      refine T_ld 33 (.int (i32 d)) rfl (fun _ => rfl) ?_
      refine T_imul 34 rfl rfl ?_
      refine T_sto 36 [(4, .int (i32 (8 * d))), (3, .int (i32 0)), (0, .ref 189), (1, .int (i32 d)), (2, .int (i32 k))] rfl (fun _ => rfl) ?_
      have e40 : 0 ≤ m.2 42 d ∧ m.2 42 d ≤ 8 := hT.2.1 42 d
      have L36_30 : ∀ (n : Nat) (v28 : Int) (v29 : Int), (R32 v28) → (R32 v29) → (0 ≤ v28) → (v28 ≤ 1) → (0 ≤ v29) → (v29 ≤ (8 * d) + ((m.2 42) d)) → (8 * d ≤ v29) → ((v28 = 1 ∧ LdK (m.2 44) (m.2 38) (m.2 42) (m.2 45) d k v29) ∨ (v28 = 0 ∧ ¬ LdK (m.2 44) (m.2 38) (m.2 42) (m.2 45) d k v29)) → ((8 * d) + ((m.2 42) d)) - v29 < (n : Int) → TT w D pm_286 (36, [(0, .ref 189), (1, .int (i32 d)), (2, .int (i32 k)), (3, .int (i32 v28)), (4, .int (i32 v29))], [], (mhp (mO m [] []) c, N), 0, 0) (Q_leads m c N d k) := by
        intro n
        induction n with
        | zero =>
          intro v28 v29 q31 q32 ic33 ic34 ic35 ic36 ic37 ic38 hmu
          obtain ⟨q31a, q31b⟩ := id q31
          obtain ⟨q32a, q32b⟩ := id q32
          have hL := ic38
          exfalso
          omega
        | succ n ih =>
          intro v28 v29 q31 q32 ic33 ic34 ic35 ic36 ic37 ic38 hmu
          obtain ⟨q31a, q31b⟩ := id q31
          obtain ⟨q32a, q32b⟩ := id q32
          have hL := ic38
          have ih41 := ih
          refine T_ld 38 (.int (i32 v29)) rfl (fun _ => rfl) ?_
          refine T_ld 40 (.int (i32 8)) rfl (fun _ => rfl) ?_
          refine T_ld 41 (.int (i32 d)) rfl (fun _ => rfl) ?_
          refine T_imul 42 rfl rfl ?_
          refine T_gf 46 (.ref 212) rfl rfl rfl rfl rfl rfl ?_
          refine T_ld 47 (.int (i32 d)) rfl (fun _ => rfl) ?_
          refine T_iald 48 42 (m.2 42) rfl rfl rfl (by omega) (show d < (16 : Int) by omega) rfl ?_
          have e42 : 0 ≤ m.2 42 d ∧ m.2 42 d ≤ 8 := hT.2.1 42 d
          refine T_iadd 49 rfl rfl ?_
          refine T_icmp 94 52 rfl rfl rfl (r32 (by omega) (by omega)) (r32 (by omega) (by omega)) (fun (h43 : (8 * d) + ((m.2 42) d) ≤ v29) => ?_) (fun (h43 : ¬ ((8 * d) + ((m.2 42) d) ≤ v29)) => ?_)
          · skip
            refine T_ld 95 (.int (i32 v28)) rfl (fun _ => rfl) ?_
            refine T_retb rfl rfl (by omega) ?_
            exact ⟨v28, ⟨by omega, by omega⟩, (show (v28 = 1 ∧ Ld (m.2 44) (m.2 38) (m.2 42) (m.2 45) d k) ∨ (v28 = 0 ∧ ¬ Ld (m.2 44) (m.2 38) (m.2 42) (m.2 45) d k) by first | (rw [show v29 = 8 * d + (m.2 42) d by omega] at hL; exact hL) | (exfalso; omega)), rfl⟩
          · skip
            refine T_ld 53 (.int (i32 v28)) rfl (fun _ => rfl) ?_
            refine T_if 82 56 rfl rfl rfl (r32 (by omega) (by omega)) (fun (h44 : v28 ≠ 0) => ?_) (fun (h44 : ¬ (v28 ≠ 0)) => ?_)
            · skip
              refine T_ld 83 (.int (i32 1)) rfl (fun _ => rfl) ?_
              refine T_goto 87 rfl (fun _ => rfl) ?_
              refine T_sto 88 [(3, .int (i32 1)), (0, .ref 189), (1, .int (i32 d)), (2, .int (i32 k)), (4, .int (i32 v29))] rfl (fun _ => rfl) ?_
              refine T_iinc 91 [(4, .int (i32 (v29 + 1))), (3, .int (i32 1)), (0, .ref 189), (1, .int (i32 d)), (2, .int (i32 k))] rfl rfl (by decide) rfl rfl ?_
              refine T_goto 36 rfl (fun _ => rfl) ?_
              refine Tm_lv (a := [(0, .ref 189), (1, .int (i32 d)), (2, .int (i32 k)), (3, .int (i32 1)), (4, .int (i32 (v29 + 1)))]) rfl rfl ⟨rfl, rfl, rfl, rfl, rfl, trivial⟩ ?_
              exact ih41 1 (v29 + 1) ⟨by decide, by decide⟩ (r32 (by omega) (by omega)) (show 0 ≤ (1 : Int) by omega) (show (1 : Int) ≤ 1 by omega) (show 0 ≤ (v29 + 1) by omega) (show (v29 + 1) ≤ (8 * d) + ((m.2 42) d) by omega) (show 8 * d ≤ (v29 + 1) by omega) (show ((1 : Int) = 1 ∧ LdK (m.2 44) (m.2 38) (m.2 42) (m.2 45) d k (v29 + 1)) ∨ ((1 : Int) = 0 ∧ ¬ LdK (m.2 44) (m.2 38) (m.2 42) (m.2 45) d k (v29 + 1)) by first | exact Or.inl ⟨rfl, Or.inl ⟨by omega, by omega⟩⟩ | exact Or.inr ⟨rfl, fun h => h.elim (fun h => by omega) (fun ⟨c, a, b, e⟩ => by omega)⟩ | exact hL.elim (fun h => Or.inl ⟨rfl, LdK_m h.2⟩) (fun h => absurd h.1 (by omega)) | exact Or.inl ⟨rfl, LdK_n (by omega) (by omega) (by omega)⟩ | exact hL.elim (fun h => absurd h.1 (by omega)) (fun h => Or.inr ⟨rfl, LdK_no h.2 (fun q => by omega)⟩)) (show ((8 * d) + ((m.2 42) d)) - (v29 + 1) < (n : Int) by omega)
            · skip
              refine T_gf 60 (.ref 215) rfl rfl rfl rfl rfl rfl ?_
              refine T_ld 62 (.int (i32 v29)) rfl (fun _ => rfl) ?_
              refine T_iald 63 45 (m.2 45) rfl rfl rfl (by omega) (show v29 < (128 : Int) by omega) rfl ?_
              have e45 : (-2) ≤ m.2 45 v29 ∧ m.2 45 v29 ≤ 15 := hT.2.1 45 v29
              refine T_if 86 66 rfl rfl rfl (r32 (by omega) (by omega)) (fun (h46 : (m.2 45) v29 < 0) => ?_) (fun (h46 : ¬ ((m.2 45) v29 < 0)) => ?_)
              · skip
                refine T_ld 87 (.int (i32 0)) rfl (fun _ => rfl) ?_
                refine T_sto 88 [(3, .int (i32 0)), (0, .ref 189), (1, .int (i32 d)), (2, .int (i32 k)), (4, .int (i32 v29))] rfl (fun _ => rfl) ?_
                refine T_iinc 91 [(4, .int (i32 (v29 + 1))), (3, .int (i32 0)), (0, .ref 189), (1, .int (i32 d)), (2, .int (i32 k))] rfl rfl (by decide) rfl rfl ?_
                refine T_goto 36 rfl (fun _ => rfl) ?_
                refine Tm_lv (a := [(0, .ref 189), (1, .int (i32 d)), (2, .int (i32 k)), (3, .int (i32 0)), (4, .int (i32 (v29 + 1)))]) rfl rfl ⟨rfl, rfl, rfl, rfl, rfl, trivial⟩ ?_
                exact ih41 0 (v29 + 1) ⟨by decide, by decide⟩ (r32 (by omega) (by omega)) (show 0 ≤ (0 : Int) by omega) (show (0 : Int) ≤ 1 by omega) (show 0 ≤ (v29 + 1) by omega) (show (v29 + 1) ≤ (8 * d) + ((m.2 42) d) by omega) (show 8 * d ≤ (v29 + 1) by omega) (show ((0 : Int) = 1 ∧ LdK (m.2 44) (m.2 38) (m.2 42) (m.2 45) d k (v29 + 1)) ∨ ((0 : Int) = 0 ∧ ¬ LdK (m.2 44) (m.2 38) (m.2 42) (m.2 45) d k (v29 + 1)) by first | exact Or.inl ⟨rfl, Or.inl ⟨by omega, by omega⟩⟩ | exact Or.inr ⟨rfl, fun h => h.elim (fun h => by omega) (fun ⟨c, a, b, e⟩ => by omega)⟩ | exact hL.elim (fun h => Or.inl ⟨rfl, LdK_m h.2⟩) (fun h => absurd h.1 (by omega)) | exact Or.inl ⟨rfl, LdK_n (by omega) (by omega) (by omega)⟩ | exact hL.elim (fun h => absurd h.1 (by omega)) (fun h => Or.inr ⟨rfl, LdK_no h.2 (fun q => by omega)⟩)) (show ((8 * d) + ((m.2 42) d)) - (v29 + 1) < (n : Int) by omega)
              · skip
                refine T_gf 70 (.ref 208) rfl rfl rfl rfl rfl rfl ?_
                refine T_gf 74 (.ref 215) rfl rfl rfl rfl rfl rfl ?_
                refine T_ld 76 (.int (i32 v29)) rfl (fun _ => rfl) ?_
                refine T_iald 77 45 (m.2 45) rfl rfl rfl (by omega) (show v29 < (128 : Int) by omega) rfl ?_
                have e47 : (-2) ≤ m.2 45 v29 ∧ m.2 45 v29 ≤ 15 := hT.2.1 45 v29
                refine T_iald 78 38 (m.2 38) rfl rfl rfl (by omega) (show ((m.2 45) v29) < (16 : Int) by omega) rfl ?_
                have e48 : (-1) ≤ m.2 38 ((m.2 45) v29) ∧ m.2 38 ((m.2 45) v29) ≤ 15 := hT.2.1 38 ((m.2 45) v29)
                refine T_ld 79 (.int (i32 k)) rfl (fun _ => rfl) ?_
                refine T_icmp 86 82 rfl rfl rfl (r32 (by omega) (by omega)) (r32 (by omega) (by omega)) (fun (h49 : (m.2 38) ((m.2 45) v29) ≠ k) => ?_) (fun (h49 : ¬ ((m.2 38) ((m.2 45) v29) ≠ k)) => ?_)
                · skip
                  refine T_ld 87 (.int (i32 0)) rfl (fun _ => rfl) ?_
                  refine T_sto 88 [(3, .int (i32 0)), (0, .ref 189), (1, .int (i32 d)), (2, .int (i32 k)), (4, .int (i32 v29))] rfl (fun _ => rfl) ?_
                  refine T_iinc 91 [(4, .int (i32 (v29 + 1))), (3, .int (i32 0)), (0, .ref 189), (1, .int (i32 d)), (2, .int (i32 k))] rfl rfl (by decide) rfl rfl ?_
                  refine T_goto 36 rfl (fun _ => rfl) ?_
                  refine Tm_lv (a := [(0, .ref 189), (1, .int (i32 d)), (2, .int (i32 k)), (3, .int (i32 0)), (4, .int (i32 (v29 + 1)))]) rfl rfl ⟨rfl, rfl, rfl, rfl, rfl, trivial⟩ ?_
                  exact ih41 0 (v29 + 1) ⟨by decide, by decide⟩ (r32 (by omega) (by omega)) (show 0 ≤ (0 : Int) by omega) (show (0 : Int) ≤ 1 by omega) (show 0 ≤ (v29 + 1) by omega) (show (v29 + 1) ≤ (8 * d) + ((m.2 42) d) by omega) (show 8 * d ≤ (v29 + 1) by omega) (show ((0 : Int) = 1 ∧ LdK (m.2 44) (m.2 38) (m.2 42) (m.2 45) d k (v29 + 1)) ∨ ((0 : Int) = 0 ∧ ¬ LdK (m.2 44) (m.2 38) (m.2 42) (m.2 45) d k (v29 + 1)) by first | exact Or.inl ⟨rfl, Or.inl ⟨by omega, by omega⟩⟩ | exact Or.inr ⟨rfl, fun h => h.elim (fun h => by omega) (fun ⟨c, a, b, e⟩ => by omega)⟩ | exact hL.elim (fun h => Or.inl ⟨rfl, LdK_m h.2⟩) (fun h => absurd h.1 (by omega)) | exact Or.inl ⟨rfl, LdK_n (by omega) (by omega) (by omega)⟩ | exact hL.elim (fun h => absurd h.1 (by omega)) (fun h => Or.inr ⟨rfl, LdK_no h.2 (fun q => by omega)⟩)) (show ((8 * d) + ((m.2 42) d)) - (v29 + 1) < (n : Int) by omega)
                · skip
                  refine T_ld 83 (.int (i32 1)) rfl (fun _ => rfl) ?_
                  refine T_goto 87 rfl (fun _ => rfl) ?_
                  refine T_sto 88 [(3, .int (i32 1)), (0, .ref 189), (1, .int (i32 d)), (2, .int (i32 k)), (4, .int (i32 v29))] rfl (fun _ => rfl) ?_
                  refine T_iinc 91 [(4, .int (i32 (v29 + 1))), (3, .int (i32 1)), (0, .ref 189), (1, .int (i32 d)), (2, .int (i32 k))] rfl rfl (by decide) rfl rfl ?_
                  refine T_goto 36 rfl (fun _ => rfl) ?_
                  refine Tm_lv (a := [(0, .ref 189), (1, .int (i32 d)), (2, .int (i32 k)), (3, .int (i32 1)), (4, .int (i32 (v29 + 1)))]) rfl rfl ⟨rfl, rfl, rfl, rfl, rfl, trivial⟩ ?_
                  exact ih41 1 (v29 + 1) ⟨by decide, by decide⟩ (r32 (by omega) (by omega)) (show 0 ≤ (1 : Int) by omega) (show (1 : Int) ≤ 1 by omega) (show 0 ≤ (v29 + 1) by omega) (show (v29 + 1) ≤ (8 * d) + ((m.2 42) d) by omega) (show 8 * d ≤ (v29 + 1) by omega) (show ((1 : Int) = 1 ∧ LdK (m.2 44) (m.2 38) (m.2 42) (m.2 45) d k (v29 + 1)) ∨ ((1 : Int) = 0 ∧ ¬ LdK (m.2 44) (m.2 38) (m.2 42) (m.2 45) d k (v29 + 1)) by first | exact Or.inl ⟨rfl, Or.inl ⟨by omega, by omega⟩⟩ | exact Or.inr ⟨rfl, fun h => h.elim (fun h => by omega) (fun ⟨c, a, b, e⟩ => by omega)⟩ | exact hL.elim (fun h => Or.inl ⟨rfl, LdK_m h.2⟩) (fun h => absurd h.1 (by omega)) | exact Or.inl ⟨rfl, LdK_n (by omega) (by omega) (by omega)⟩ | exact hL.elim (fun h => absurd h.1 (by omega)) (fun h => Or.inr ⟨rfl, LdK_no h.2 (fun q => by omega)⟩)) (show ((8 * d) + ((m.2 42) d)) - (v29 + 1) < (n : Int) by omega)
      refine Tm_lv (a := [(0, .ref 189), (1, .int (i32 d)), (2, .int (i32 k)), (3, .int (i32 0)), (4, .int (i32 (8 * d)))]) rfl rfl ⟨rfl, rfl, rfl, rfl, rfl, trivial⟩ ?_
      exact L36_30 ((((8 * d) + ((m.2 42) d)) - (8 * d) : Int) + 1).toNat 0 (8 * d) ⟨by decide, by decide⟩ (r32 (by omega) (by omega)) (show 0 ≤ (0 : Int) by omega) (show (0 : Int) ≤ 1 by omega) (show 0 ≤ (8 * d) by omega) (show (8 * d) ≤ (8 * d) + ((m.2 42) d) by omega) (show 8 * d ≤ (8 * d) by omega) (show ((0 : Int) = 1 ∧ LdK (m.2 44) (m.2 38) (m.2 42) (m.2 45) d k (8 * d)) ∨ ((0 : Int) = 0 ∧ ¬ LdK (m.2 44) (m.2 38) (m.2 42) (m.2 45) d k (8 * d)) by first | exact Or.inl ⟨rfl, Or.inl ⟨by omega, by omega⟩⟩ | exact Or.inr ⟨rfl, fun h => h.elim (fun h => by omega) (fun ⟨c, a, b, e⟩ => by omega)⟩ | exact hL.elim (fun h => Or.inl ⟨rfl, LdK_m h.2⟩) (fun h => absurd h.1 (by omega)) | exact Or.inl ⟨rfl, LdK_n (by omega) (by omega) (by omega)⟩ | exact hL.elim (fun h => absurd h.1 (by omega)) (fun h => Or.inr ⟨rfl, LdK_no h.2 (fun q => by omega)⟩)) (show ((8 * d) + ((m.2 42) d)) - (8 * d) < ((((((8 * d) + ((m.2 42) d)) - (8 * d) : Int) + 1).toNat : Nat) : Int) by omega)
    · skip
      refine T_ld 25 (.int (i32 1)) rfl (fun _ => rfl) ?_
      refine T_goto 29 rfl (fun _ => rfl) ?_
      refine T_sto 30 [(3, .int (i32 1)), (0, .ref 189), (1, .int (i32 d)), (2, .int (i32 k))] rfl (fun _ => rfl) ?_
      refine T_ld 32 (.int (i32 8)) rfl (fun _ => rfl) ?_
      refine T_ld 33 (.int (i32 d)) rfl (fun _ => rfl) ?_
      refine T_imul 34 rfl rfl ?_
      refine T_sto 36 [(4, .int (i32 (8 * d))), (3, .int (i32 1)), (0, .ref 189), (1, .int (i32 d)), (2, .int (i32 k))] rfl (fun _ => rfl) ?_
      have e62 : 0 ≤ m.2 42 d ∧ m.2 42 d ≤ 8 := hT.2.1 42 d
      have L36_52 : ∀ (n : Nat) (v50 : Int) (v51 : Int), (R32 v50) → (R32 v51) → (1 ≤ v50) → (v50 ≤ 1) → (0 ≤ v51) → (v51 ≤ (8 * d) + ((m.2 42) d)) → (8 * d ≤ v51) → ((v50 = 1 ∧ LdK (m.2 44) (m.2 38) (m.2 42) (m.2 45) d k v51) ∨ (v50 = 0 ∧ ¬ LdK (m.2 44) (m.2 38) (m.2 42) (m.2 45) d k v51)) → ((8 * d) + ((m.2 42) d)) - v51 < (n : Int) → TT w D pm_286 (36, [(0, .ref 189), (1, .int (i32 d)), (2, .int (i32 k)), (3, .int (i32 v50)), (4, .int (i32 v51))], [], (mhp (mO m [] []) c, N), 0, 0) (Q_leads m c N d k) := by
        intro n
        induction n with
        | zero =>
          intro v50 v51 q53 q54 ic55 ic56 ic57 ic58 ic59 ic60 hmu
          obtain ⟨q53a, q53b⟩ := id q53
          obtain ⟨q54a, q54b⟩ := id q54
          have hL := ic60
          exfalso
          omega
        | succ n ih =>
          intro v50 v51 q53 q54 ic55 ic56 ic57 ic58 ic59 ic60 hmu
          obtain ⟨q53a, q53b⟩ := id q53
          obtain ⟨q54a, q54b⟩ := id q54
          have hL := ic60
          have ih63 := ih
          refine T_ld 38 (.int (i32 v51)) rfl (fun _ => rfl) ?_
          refine T_ld 40 (.int (i32 8)) rfl (fun _ => rfl) ?_
          refine T_ld 41 (.int (i32 d)) rfl (fun _ => rfl) ?_
          refine T_imul 42 rfl rfl ?_
          refine T_gf 46 (.ref 212) rfl rfl rfl rfl rfl rfl ?_
          refine T_ld 47 (.int (i32 d)) rfl (fun _ => rfl) ?_
          refine T_iald 48 42 (m.2 42) rfl rfl rfl (by omega) (show d < (16 : Int) by omega) rfl ?_
          have e64 : 0 ≤ m.2 42 d ∧ m.2 42 d ≤ 8 := hT.2.1 42 d
          refine T_iadd 49 rfl rfl ?_
          refine T_icmp 94 52 rfl rfl rfl (r32 (by omega) (by omega)) (r32 (by omega) (by omega)) (fun (h65 : (8 * d) + ((m.2 42) d) ≤ v51) => ?_) (fun (h65 : ¬ ((8 * d) + ((m.2 42) d) ≤ v51)) => ?_)
          · skip
            refine T_ld 95 (.int (i32 v50)) rfl (fun _ => rfl) ?_
            refine T_retb rfl rfl (by omega) ?_
            exact ⟨v50, ⟨by omega, by omega⟩, (show (v50 = 1 ∧ Ld (m.2 44) (m.2 38) (m.2 42) (m.2 45) d k) ∨ (v50 = 0 ∧ ¬ Ld (m.2 44) (m.2 38) (m.2 42) (m.2 45) d k) by first | (rw [show v51 = 8 * d + (m.2 42) d by omega] at hL; exact hL) | (exfalso; omega)), rfl⟩
          · skip
            refine T_ld 53 (.int (i32 v50)) rfl (fun _ => rfl) ?_
            refine T_if 82 56 rfl rfl rfl (r32 (by omega) (by omega)) (fun (h66 : v50 ≠ 0) => ?_) (fun (h66 : ¬ (v50 ≠ 0)) => by exfalso; omega)
            refine T_ld 83 (.int (i32 1)) rfl (fun _ => rfl) ?_
            refine T_goto 87 rfl (fun _ => rfl) ?_
            refine T_sto 88 [(3, .int (i32 1)), (0, .ref 189), (1, .int (i32 d)), (2, .int (i32 k)), (4, .int (i32 v51))] rfl (fun _ => rfl) ?_
            refine T_iinc 91 [(4, .int (i32 (v51 + 1))), (3, .int (i32 1)), (0, .ref 189), (1, .int (i32 d)), (2, .int (i32 k))] rfl rfl (by decide) rfl rfl ?_
            refine T_goto 36 rfl (fun _ => rfl) ?_
            refine Tm_lv (a := [(0, .ref 189), (1, .int (i32 d)), (2, .int (i32 k)), (3, .int (i32 1)), (4, .int (i32 (v51 + 1)))]) rfl rfl ⟨rfl, rfl, rfl, rfl, rfl, trivial⟩ ?_
            exact ih63 1 (v51 + 1) ⟨by decide, by decide⟩ (r32 (by omega) (by omega)) (show 1 ≤ (1 : Int) by omega) (show (1 : Int) ≤ 1 by omega) (show 0 ≤ (v51 + 1) by omega) (show (v51 + 1) ≤ (8 * d) + ((m.2 42) d) by omega) (show 8 * d ≤ (v51 + 1) by omega) (show ((1 : Int) = 1 ∧ LdK (m.2 44) (m.2 38) (m.2 42) (m.2 45) d k (v51 + 1)) ∨ ((1 : Int) = 0 ∧ ¬ LdK (m.2 44) (m.2 38) (m.2 42) (m.2 45) d k (v51 + 1)) by first | exact Or.inl ⟨rfl, Or.inl ⟨by omega, by omega⟩⟩ | exact Or.inr ⟨rfl, fun h => h.elim (fun h => by omega) (fun ⟨c, a, b, e⟩ => by omega)⟩ | exact hL.elim (fun h => Or.inl ⟨rfl, LdK_m h.2⟩) (fun h => absurd h.1 (by omega)) | exact Or.inl ⟨rfl, LdK_n (by omega) (by omega) (by omega)⟩ | exact hL.elim (fun h => absurd h.1 (by omega)) (fun h => Or.inr ⟨rfl, LdK_no h.2 (fun q => by omega)⟩)) (show ((8 * d) + ((m.2 42) d)) - (v51 + 1) < (n : Int) by omega)
      refine Tm_lv (a := [(0, .ref 189), (1, .int (i32 d)), (2, .int (i32 k)), (3, .int (i32 1)), (4, .int (i32 (8 * d)))]) rfl rfl ⟨rfl, rfl, rfl, rfl, rfl, trivial⟩ ?_
      exact L36_52 ((((8 * d) + ((m.2 42) d)) - (8 * d) : Int) + 1).toNat 1 (8 * d) ⟨by decide, by decide⟩ (r32 (by omega) (by omega)) (show 1 ≤ (1 : Int) by omega) (show (1 : Int) ≤ 1 by omega) (show 0 ≤ (8 * d) by omega) (show (8 * d) ≤ (8 * d) + ((m.2 42) d) by omega) (show 8 * d ≤ (8 * d) by omega) (show ((1 : Int) = 1 ∧ LdK (m.2 44) (m.2 38) (m.2 42) (m.2 45) d k (8 * d)) ∨ ((1 : Int) = 0 ∧ ¬ LdK (m.2 44) (m.2 38) (m.2 42) (m.2 45) d k (8 * d)) by first | exact Or.inl ⟨rfl, Or.inl ⟨by omega, by omega⟩⟩ | exact Or.inr ⟨rfl, fun h => h.elim (fun h => by omega) (fun ⟨c, a, b, e⟩ => by omega)⟩ | exact hL.elim (fun h => Or.inl ⟨rfl, LdK_m h.2⟩) (fun h => absurd h.1 (by omega)) | exact Or.inl ⟨rfl, LdK_n (by omega) (by omega) (by omega)⟩ | exact hL.elim (fun h => absurd h.1 (by omega)) (fun h => Or.inr ⟨rfl, LdK_no h.2 (fun q => by omega)⟩)) (show ((8 * d) + ((m.2 42) d)) - (8 * d) < ((((((8 * d) + ((m.2 42) d)) - (8 * d) : Int) + 1).toNat : Nat) : Int) by omega)
def Q_comesRound (m : mR) (c : Nat → Option am_C) (N : Nat) (d : Int) : ag_Re af_T → Prop := fun R => ∃ (M : mR) (r : Int), Ty M ∧ (0 ≤ r ∧ r ≤ 1) ∧ (r = 0 → 0 < (m.2 41) d ∨ NR (m.2 44) (m.2 38) (m.2 42) (m.2 45) (m.2 41) (m.1 24) d) ∧ R = (.inl (some (.int (i32 r))), (mhp (mO m [] [(126, (M.2 126))]) c, N), 0, 0)
set_option maxHeartbeats 8000000 in
theorem c_comesRound (w : wX) (m : mR) (c : Nat → Option am_C) (N D : Nat) (hD : 2 ≤ D) (hT : Ty m) (d : Int) (qd : R32 d) (p0 : 0 ≤ d ∧ d ≤ 15) (p1 : d < (m.1 24)) : TC w D 285 [.ref 189, .int (i32 d)] (mhp m c, N) (Q_comesRound m c N d) := by
  obtain ⟨D, rfl⟩ : ∃ k, D = k + 1 := ⟨D - 1, by omega⟩
  obtain ⟨qda, qdb⟩ := id qd
  have f24 : 0 ≤ m.1 24 ∧ m.1 24 ≤ 16 := hT.1 24
  refine Tc_of rfl ?_
  show TT w D pm_285 (0, [(0, .ref 189), (1, .int (i32 d))], [], (mhp m c, N), 0, 0) (Q_comesRound m c N d)
  rw [show (mhp m c, N) = (mhp (mO m [] [(126, (m.2 126))]) c, N) from congrArg (fun M => (mhp M c, N)) (mO_pad m [] [126])]
  refine T_gf 4 (.ref 211) rfl rfl rfl rfl rfl rfl ?_
  refine T_ld 5 (.int (i32 d)) rfl (fun _ => rfl) ?_
  refine T_iald 6 41 (m.2 41) rfl rfl rfl (by omega) (show d < (16 : Int) by omega) rfl ?_
  have e1 : 0 ≤ m.2 41 d ∧ m.2 41 d ≤ 6 := hT.2.1 41 d
  refine T_if 11 9 rfl rfl rfl (r32 (by omega) (by omega)) (fun (h2 : (m.2 41) d ≤ 0) => ?_) (fun (h2 : ¬ ((m.2 41) d ≤ 0)) => ?_)
  · skip
    refine T_ld 12 (.int (i32 0)) rfl (fun _ => rfl) ?_
    refine T_sto 13 [(2, .int (i32 0)), (0, .ref 189), (1, .int (i32 d))] rfl (fun _ => rfl) ?_
    have L13_5 : ∀ (n : Nat) (v3 : Int) (m4 : mR), (R32 v3) → (Ty m4) → (0 ≤ v3) → (v3 ≤ (m.1 24)) → (∀ j, 0 ≤ j → j < v3 → Ld (m.2 44) (m.2 38) (m.2 42) (m.2 45) d j → (m4.2 126) j = 1) → (m.1 24) - v3 < (n : Int) → TT w D pm_285 (13, [(0, .ref 189), (1, .int (i32 d)), (2, .int (i32 v3))], [], (mhp (mO m [] [(126, (m4.2 126))]) c, N), 0, 0) (Q_comesRound m c N d) := by
      intro n
      induction n with
      | zero =>
        intro v3 m4 q6 q7 ic8 ic9 ic10 hmu
        obtain ⟨q6a, q6b⟩ := id q6
        have hC1 := ic10
        exfalso
        omega
      | succ n ih =>
        intro v3 m4 q6 q7 ic8 ic9 ic10 hmu
        obtain ⟨q6a, q6b⟩ := id q6
        have hC1 := ic10
        have ih12 := ih
        refine T_ld 14 (.int (i32 v3)) rfl (fun _ => rfl) ?_
        refine T_gf 18 (.int (i32 (m.1 24))) rfl rfl rfl rfl rfl rfl ?_
        refine T_icmp 39 21 rfl rfl rfl (r32 (by omega) (by omega)) (r32 (by omega) (by omega)) (fun (h13 : (m.1 24) ≤ v3) => ?_) (fun (h13 : ¬ ((m.1 24) ≤ v3)) => ?_)
        · skip
          refine T_ld 40 (.int (i32 1)) rfl (fun _ => rfl) ?_
          refine T_sto 41 [(2, .int (i32 1)), (0, .ref 189), (1, .int (i32 d))] rfl (fun _ => rfl) ?_
          have L41_16 : ∀ (n : Nat) (v14 : Int) (m15 : mR), (R32 v14) → (Ty m15) → (0 ≤ v14) → (v14 ≤ 1) → (v14 = 0 ∨ v14 = 1) → (∀ j, 0 ≤ j → j < (m.1 24) → Ld (m.2 44) (m.2 38) (m.2 42) (m.2 45) d j → (m15.2 126) j = 1) → (v14 = 0 → CLk (m.2 44) (m.2 38) (m.2 42) (m.2 45) (m.2 41) (m15.2 126) (m.1 24) (m.1 24)) → 2 * (16 - ct (m15.2 126) 16) + v14 < (n : Int) → TT w D pm_285 (41, [(0, .ref 189), (1, .int (i32 d)), (2, .int (i32 v14))], [], (mhp (mO m [] [(126, (m15.2 126))]) c, N), 0, 0) (Q_comesRound m c N d) := by
            intro n
            induction n with
            | zero =>
              intro v14 m15 q17 q18 ic19 ic20 ic21 ic22 ic23 hmu
              obtain ⟨q17a, q17b⟩ := id q17
              have hC1 := ic22
              have hC2 := ic23
              have hc16 := ct_le (f := (m15.2 126)) (q18.2.1 126) (n := 16) (by decide)
              exfalso
              omega
            | succ n ih =>
              intro v14 m15 q17 q18 ic19 ic20 ic21 ic22 ic23 hmu
              obtain ⟨q17a, q17b⟩ := id q17
              have hC1 := ic22
              have hC2 := ic23
              have ih25 := ih
              have hc16 := ct_le (f := (m15.2 126)) (q18.2.1 126) (n := 16) (by decide)
              refine T_ld 42 (.int (i32 v14)) rfl (fun _ => rfl) ?_
              refine T_if 138 45 rfl rfl rfl (r32 (by omega) (by omega)) (fun (h26 : v14 = 0) => ?_) (fun (h26 : ¬ (v14 = 0)) => ?_)
              · skip
                refine T_gf 142 (.ref 284) rfl rfl rfl rfl rfl rfl ?_
                refine T_ld 143 (.int (i32 d)) rfl (fun _ => rfl) ?_
                refine T_bald 144 126 (m15.2 126) rfl rfl rfl (by omega) (show d < (16 : Int) by omega) rfl ?_
                have e27 : 0 ≤ (m15.2 126) d ∧ (m15.2 126) d ≤ 1 := (q18.2.1 126) d
                refine T_retb rfl rfl (by omega) ?_
                exact ⟨(mO m [] [(126, (m15.2 126))]), (m15.2 126) d, (Ty_mO hT rfl rfl trivial ⟨(q18.2.1 126), trivial⟩), ⟨by omega, by omega⟩, (show ((m15.2 126) d) = 0 → 0 < (m.2 41) d ∨ NR (m.2 44) (m.2 38) (m.2 42) (m.2 45) (m.2 41) (m.1 24) d by first | (first | (intro h; exact Or.inl (by omega)) | (intro h; exact Or.inr ⟨(m15.2 126), hC1, hC2 (by omega), by omega⟩)) | (exfalso; omega)), rfl⟩
              · skip
                obtain ⟨C0, hC0⟩ : ∃ C0, C0 = ct (m15.2 126) 16 := ⟨_, rfl⟩
                refine T_ld 46 (.int (i32 0)) rfl (fun _ => rfl) ?_
                refine T_sto 47 [(2, .int (i32 0)), (0, .ref 189), (1, .int (i32 d))] rfl (fun _ => rfl) ?_
                refine T_ld 48 (.int (i32 0)) rfl (fun _ => rfl) ?_
                refine T_sto 49 [(3, .int (i32 0)), (2, .int (i32 0)), (0, .ref 189), (1, .int (i32 d))] rfl (fun _ => rfl) ?_
                have L49_31 : ∀ (n : Nat) (v28 : Int) (v29 : Int) (m30 : mR), (R32 v28) → (R32 v29) → (Ty m30) → (0 ≤ v28) → (v28 ≤ 1) → (0 ≤ v29) → (v29 ≤ (m.1 24)) → (v28 = 0 ∨ v28 = 1) → (∀ j, 0 ≤ j → j < (m.1 24) → Ld (m.2 44) (m.2 38) (m.2 42) (m.2 45) d j → (m30.2 126) j = 1) → ((v28 = 0 ∧ ct (m30.2 126) 16 = C0 ∧ CLk (m.2 44) (m.2 38) (m.2 42) (m.2 45) (m.2 41) (m30.2 126) (m.1 24) v29) ∨ (v28 = 1 ∧ C0 + 1 ≤ ct (m30.2 126) 16)) → (m.1 24) - v29 < (n : Int) → TT w D pm_285 (49, [(0, .ref 189), (1, .int (i32 d)), (2, .int (i32 v28)), (3, .int (i32 v29))], [], (mhp (mO m [] [(126, (m30.2 126))]) c, N), 0, 0) (Q_comesRound m c N d) := by
                  intro n
                  induction n with
                  | zero =>
                    intro v28 v29 m30 q32 q33 q34 ic35 ic36 ic37 ic38 ic39 ic40 ic41 hmu
                    obtain ⟨q32a, q32b⟩ := id q32
                    obtain ⟨q33a, q33b⟩ := id q33
                    have hC1 := ic40
                    have hD := ic41
                    have hc16 := ct_le (f := (m30.2 126)) (q34.2.1 126) (n := 16) (by decide)
                    exfalso
                    omega
                  | succ n ih =>
                    intro v28 v29 m30 q32 q33 q34 ic35 ic36 ic37 ic38 ic39 ic40 ic41 hmu
                    obtain ⟨q32a, q32b⟩ := id q32
                    obtain ⟨q33a, q33b⟩ := id q33
                    have hC1 := ic40
                    have hD := ic41
                    have ih43 := ih
                    have hc16 := ct_le (f := (m30.2 126)) (q34.2.1 126) (n := 16) (by decide)
                    refine T_ld 50 (.int (i32 v29)) rfl (fun _ => rfl) ?_
                    refine T_gf 54 (.int (i32 (m.1 24))) rfl rfl rfl rfl rfl rfl ?_
                    refine T_icmp 135 57 rfl rfl rfl (r32 (by omega) (by omega)) (r32 (by omega) (by omega)) (fun (h44 : (m.1 24) ≤ v29) => ?_) (fun (h44 : ¬ ((m.1 24) ≤ v29)) => ?_)
                    · skip
                      refine T_goto 41 rfl (fun _ => rfl) ?_
                      refine Tm_lv (a := [(0, .ref 189), (1, .int (i32 d)), (2, .int (i32 v28))]) rfl rfl ⟨rfl, rfl, rfl, trivial⟩ ?_
                      exact ih25 v28 (mO m [] [(126, (m30.2 126))]) (r32 (by omega) (by omega)) (Ty_mO hT rfl rfl trivial ⟨(q34.2.1 126), trivial⟩) (show 0 ≤ v28 by omega) (show v28 ≤ 1 by omega) (show v28 = 0 ∨ v28 = 1 by omega) (show ∀ j, 0 ≤ j → j < (m.1 24) → Ld (m.2 44) (m.2 38) (m.2 42) (m.2 45) d j → (m30.2 126) j = 1 by first | exact hC1 | exact fun j a b h => hC1 j a (by omega) h) (show v28 = 0 → CLk (m.2 44) (m.2 38) (m.2 42) (m.2 45) (m.2 41) (m30.2 126) (m.1 24) (m.1 24) by first | (intro h; omega) | exact fun h => hD.elim (fun q => fun k j k0 k1 => q.2.2 k j k0 (by omega)) (fun q => absurd q.1 (by omega))) (show 2 * (16 - ct (m30.2 126) 16) + v28 < (n : Int) by omega)
                    · skip
                      refine T_gf 61 (.ref 284) rfl rfl rfl rfl rfl rfl ?_
                      refine T_ld 62 (.int (i32 v29)) rfl (fun _ => rfl) ?_
                      refine T_bald 63 126 (m30.2 126) rfl rfl rfl (by omega) (show v29 < (16 : Int) by omega) rfl ?_
                      have e45 : 0 ≤ (m30.2 126) v29 ∧ (m30.2 126) v29 ≤ 1 := (q34.2.1 126) v29
                      refine T_if 129 66 rfl rfl rfl (r32 (by omega) (by omega)) (fun (h46 : (m30.2 126) v29 = 0) => ?_) (fun (h46 : ¬ ((m30.2 126) v29 = 0)) => ?_)
                      · skip
                        refine T_iinc 132 [(3, .int (i32 (v29 + 1))), (0, .ref 189), (1, .int (i32 d)), (2, .int (i32 v28))] rfl rfl (by decide) rfl rfl ?_
                        refine T_goto 49 rfl (fun _ => rfl) ?_
                        refine Tm_lv (a := [(0, .ref 189), (1, .int (i32 d)), (2, .int (i32 v28)), (3, .int (i32 (v29 + 1)))]) rfl rfl ⟨rfl, rfl, rfl, rfl, trivial⟩ ?_
                        exact ih43 v28 (v29 + 1) (mO m [] [(126, (m30.2 126))]) (r32 (by omega) (by omega)) (r32 (by omega) (by omega)) (Ty_mO hT rfl rfl trivial ⟨(q34.2.1 126), trivial⟩) (show 0 ≤ v28 by omega) (show v28 ≤ 1 by omega) (show 0 ≤ (v29 + 1) by omega) (show (v29 + 1) ≤ (m.1 24) by omega) (show v28 = 0 ∨ v28 = 1 by omega) (show ∀ j, 0 ≤ j → j < (m.1 24) → Ld (m.2 44) (m.2 38) (m.2 42) (m.2 45) d j → (m30.2 126) j = 1 by first | exact hC1 | (intro j a b h; unfold upI; split; (rfl); (exact hC1 j a b h))) (show (v28 = 0 ∧ ct (m30.2 126) 16 = C0 ∧ CLk (m.2 44) (m.2 38) (m.2 42) (m.2 45) (m.2 41) (m30.2 126) (m.1 24) (v29 + 1)) ∨ (v28 = 1 ∧ C0 + 1 ≤ ct (m30.2 126) 16) by first | exact Or.inl ⟨rfl, hC0.symm, fun k j k0 k1 => by omega⟩ | exact hD.elim (fun q => Or.inl ⟨q.1, q.2.1, fun k j k0 k1 j0 j1 c1 c2 c3 => by by_cases e : k = v29; (first | (rw [e] at c1 c2; omega) | (rw [e] at c3; exact q.2.2.2 j j0 (by omega) c3)); (first | exact q.2.2 k j k0 (by omega) j0 j1 c1 c2 c3 | exact q.2.2.1 k j k0 (by omega) j0 j1 c1 c2 c3)⟩) (fun q => Or.inr q)) (show (m.1 24) - (v29 + 1) < (n : Int) by omega)
                      · skip
                        refine T_gf 70 (.ref 211) rfl rfl rfl rfl rfl rfl ?_
                        refine T_ld 71 (.int (i32 v29)) rfl (fun _ => rfl) ?_
                        refine T_iald 72 41 (m.2 41) rfl rfl rfl (by omega) (show v29 < (16 : Int) by omega) rfl ?_
                        have e47 : 0 ≤ m.2 41 v29 ∧ m.2 41 v29 ≤ 6 := hT.2.1 41 v29
                        refine T_if 78 75 rfl rfl rfl (r32 (by omega) (by omega)) (fun (h48 : (m.2 41) v29 ≤ 0) => ?_) (fun (h48 : ¬ ((m.2 41) v29 ≤ 0)) => ?_)
                        · skip
                          refine T_ld 79 (.int (i32 0)) rfl (fun _ => rfl) ?_
                          refine T_sto 81 [(4, .int (i32 0)), (0, .ref 189), (1, .int (i32 d)), (2, .int (i32 v28)), (3, .int (i32 v29))] rfl (fun _ => rfl) ?_
                          have L81_52 : ∀ (n : Nat) (v49 : Int) (v50 : Int) (m51 : mR), (R32 v49) → (R32 v50) → (Ty m51) → (0 ≤ v49) → (v49 ≤ 1) → (0 ≤ v50) → (v50 ≤ (m.1 24)) → (v49 = 0 ∨ v49 = 1) → (∀ j, 0 ≤ j → j < (m.1 24) → Ld (m.2 44) (m.2 38) (m.2 42) (m.2 45) d j → (m51.2 126) j = 1) → ((v49 = 0 ∧ ct (m51.2 126) 16 = C0 ∧ CLk (m.2 44) (m.2 38) (m.2 42) (m.2 45) (m.2 41) (m51.2 126) (m.1 24) v29 ∧ ∀ j, 0 ≤ j → j < v50 → Ld (m.2 44) (m.2 38) (m.2 42) (m.2 45) v29 j → (m51.2 126) j = 1) ∨ (v49 = 1 ∧ C0 + 1 ≤ ct (m51.2 126) 16)) → (m.1 24) - v50 < (n : Int) → TT w D pm_285 (81, [(0, .ref 189), (1, .int (i32 d)), (2, .int (i32 v49)), (3, .int (i32 v29)), (4, .int (i32 v50))], [], (mhp (mO m [] [(126, (m51.2 126))]) c, N), 0, 0) (Q_comesRound m c N d) := by
                            intro n
                            induction n with
                            | zero =>
                              intro v49 v50 m51 q53 q54 q55 ic56 ic57 ic58 ic59 ic60 ic61 ic62 hmu
                              obtain ⟨q53a, q53b⟩ := id q53
                              obtain ⟨q54a, q54b⟩ := id q54
                              have hC1 := ic61
                              have hD := ic62
                              have hc16 := ct_le (f := (m51.2 126)) (q55.2.1 126) (n := 16) (by decide)
                              exfalso
                              omega
                            | succ n ih =>
                              intro v49 v50 m51 q53 q54 q55 ic56 ic57 ic58 ic59 ic60 ic61 ic62 hmu
                              obtain ⟨q53a, q53b⟩ := id q53
                              obtain ⟨q54a, q54b⟩ := id q54
                              have hC1 := ic61
                              have hD := ic62
                              have ih64 := ih
                              have hc16 := ct_le (f := (m51.2 126)) (q55.2.1 126) (n := 16) (by decide)
                              refine T_ld 83 (.int (i32 v50)) rfl (fun _ => rfl) ?_
                              refine T_gf 87 (.int (i32 (m.1 24))) rfl rfl rfl rfl rfl rfl ?_
                              refine T_icmp 129 90 rfl rfl rfl (r32 (by omega) (by omega)) (r32 (by omega) (by omega)) (fun (h65 : (m.1 24) ≤ v50) => ?_) (fun (h65 : ¬ ((m.1 24) ≤ v50)) => ?_)
                              · skip
                                refine T_iinc 132 [(3, .int (i32 (v29 + 1))), (0, .ref 189), (1, .int (i32 d)), (2, .int (i32 v49)), (4, .int (i32 v50))] rfl rfl (by decide) rfl rfl ?_
                                refine T_goto 49 rfl (fun _ => rfl) ?_
                                refine Tm_lv (a := [(0, .ref 189), (1, .int (i32 d)), (2, .int (i32 v49)), (3, .int (i32 (v29 + 1)))]) rfl rfl ⟨rfl, rfl, rfl, rfl, trivial⟩ ?_
                                exact ih43 v49 (v29 + 1) (mO m [] [(126, (m51.2 126))]) (r32 (by omega) (by omega)) (r32 (by omega) (by omega)) (Ty_mO hT rfl rfl trivial ⟨(q55.2.1 126), trivial⟩) (show 0 ≤ v49 by omega) (show v49 ≤ 1 by omega) (show 0 ≤ (v29 + 1) by omega) (show (v29 + 1) ≤ (m.1 24) by omega) (show v49 = 0 ∨ v49 = 1 by omega) (show ∀ j, 0 ≤ j → j < (m.1 24) → Ld (m.2 44) (m.2 38) (m.2 42) (m.2 45) d j → (m51.2 126) j = 1 by first | exact hC1 | (intro j a b h; unfold upI; split; (rfl); (exact hC1 j a b h))) (show (v49 = 0 ∧ ct (m51.2 126) 16 = C0 ∧ CLk (m.2 44) (m.2 38) (m.2 42) (m.2 45) (m.2 41) (m51.2 126) (m.1 24) (v29 + 1)) ∨ (v49 = 1 ∧ C0 + 1 ≤ ct (m51.2 126) 16) by first | exact Or.inl ⟨rfl, hC0.symm, fun k j k0 k1 => by omega⟩ | exact hD.elim (fun q => Or.inl ⟨q.1, q.2.1, fun k j k0 k1 j0 j1 c1 c2 c3 => by by_cases e : k = v29; (first | (rw [e] at c1 c2; omega) | (rw [e] at c3; exact q.2.2.2 j j0 (by omega) c3)); (first | exact q.2.2 k j k0 (by omega) j0 j1 c1 c2 c3 | exact q.2.2.1 k j k0 (by omega) j0 j1 c1 c2 c3)⟩) (fun q => Or.inr q)) (show (m.1 24) - (v29 + 1) < (n : Int) by omega)
                              · skip
                                refine T_gf 94 (.ref 284) rfl rfl rfl rfl rfl rfl ?_
                                refine T_ld 96 (.int (i32 v50)) rfl (fun _ => rfl) ?_
                                refine T_bald 97 126 (m51.2 126) rfl rfl rfl (by omega) (show v50 < (16 : Int) by omega) rfl ?_
                                have e66 : 0 ≤ (m51.2 126) v50 ∧ (m51.2 126) v50 ≤ 1 := (q55.2.1 126) v50
                                refine T_if 123 100 rfl rfl rfl (r32 (by omega) (by omega)) (fun (h67 : (m51.2 126) v50 ≠ 0) => ?_) (fun (h67 : ¬ ((m51.2 126) v50 ≠ 0)) => ?_)
                                · skip
                                  refine T_iinc 126 [(4, .int (i32 (v50 + 1))), (0, .ref 189), (1, .int (i32 d)), (2, .int (i32 v49)), (3, .int (i32 v29))] rfl rfl (by decide) rfl rfl ?_
                                  refine T_goto 81 rfl (fun _ => rfl) ?_
                                  refine Tm_lv (a := [(0, .ref 189), (1, .int (i32 d)), (2, .int (i32 v49)), (3, .int (i32 v29)), (4, .int (i32 (v50 + 1)))]) rfl rfl ⟨rfl, rfl, rfl, rfl, rfl, trivial⟩ ?_
                                  exact ih64 v49 (v50 + 1) (mO m [] [(126, (m51.2 126))]) (r32 (by omega) (by omega)) (r32 (by omega) (by omega)) (Ty_mO hT rfl rfl trivial ⟨(q55.2.1 126), trivial⟩) (show 0 ≤ v49 by omega) (show v49 ≤ 1 by omega) (show 0 ≤ (v50 + 1) by omega) (show (v50 + 1) ≤ (m.1 24) by omega) (show v49 = 0 ∨ v49 = 1 by omega) (show ∀ j, 0 ≤ j → j < (m.1 24) → Ld (m.2 44) (m.2 38) (m.2 42) (m.2 45) d j → (m51.2 126) j = 1 by first | exact hC1 | (intro j a b h; unfold upI; split; (rfl); (exact hC1 j a b h))) (show (v49 = 0 ∧ ct (m51.2 126) 16 = C0 ∧ CLk (m.2 44) (m.2 38) (m.2 42) (m.2 45) (m.2 41) (m51.2 126) (m.1 24) v29 ∧ ∀ j, 0 ≤ j → j < (v50 + 1) → Ld (m.2 44) (m.2 38) (m.2 42) (m.2 45) v29 j → (m51.2 126) j = 1) ∨ (v49 = 1 ∧ C0 + 1 ≤ ct (m51.2 126) 16) by first | exact hD.elim (fun q => Or.inl ⟨q.1, q.2.1, q.2.2, fun j j0 j1 => by omega⟩) (fun q => Or.inr q) | exact Or.inr ⟨rfl, by omega⟩ | exact hD.elim (fun q => Or.inl ⟨q.1, q.2.1, q.2.2.1, fun j j0 j1 h => by by_cases e : j = v50; (rw [e]; rw [e] at h; first | omega | exact absurd h (hLd.elim (fun q => absurd q.1 (by omega)) (fun q => q.2))); exact q.2.2.2 j j0 (by omega) h⟩) (fun q => Or.inr q)) (show (m.1 24) - (v50 + 1) < (n : Int) by omega)
                                · skip
                                  refine T_ld 101 (.ref 189) rfl (fun _ => rfl) ?_
                                  refine T_ld 102 (.int (i32 v29)) rfl (fun _ => rfl) ?_
                                  refine T_ld 104 (.int (i32 v50)) rfl (fun _ => rfl) ?_
                                  refine T_call 107 286 [.ref 189, .int (i32 v29), .int (i32 v50)] [] rfl (fun _ => rfl) rfl (c_leads w (mO m [] [(126, (m51.2 126))]) c N D (by omega) (Ty_mO hT rfl rfl trivial ⟨(q55.2.1 126), trivial⟩) v29 v50 (r32 (by omega) (by omega)) (r32 (by omega) (by omega)) (show 0 ≤ v29 ∧ v29 ≤ 15 by omega)) (fun rr68 k69 => ?_)
                                  obtain ⟨x70, g71, h72, rfl⟩ := k69
                                  refine ⟨_, _, rfl, ?_⟩
                                  refine T_nf2 (st' := [.int (i32 x70)]) (l' := []) (a' := [(126, (m51.2 126))]) [] [] rfl trivial ⟨rfl, rfl, trivial⟩ rfl rfl (by decide) (by decide) ?_
                                  obtain ⟨g71a, g71b⟩ := g71
                                  replace h72 : (x70 = 1 ∧ Ld (m.2 44) (m.2 38) (m.2 42) (m.2 45) v29 v50) ∨ (x70 = 0 ∧ ¬ Ld (m.2 44) (m.2 38) (m.2 42) (m.2 45) v29 v50) := h72
                                  have hLd := h72
                                  refine T_if 113 110 rfl rfl rfl (r32 (by omega) (by omega)) (fun (h73 : x70 ≠ 0) => ?_) (fun (h73 : ¬ (x70 ≠ 0)) => ?_)
                                  · skip
                                    have hcs := ct_set (f := (m51.2 126)) (i := v50) (n := 16) (q55.2.1 126) (by omega) (by omega) (by omega)
                                    refine T_gf 117 (.ref 284) rfl rfl rfl rfl rfl rfl ?_
                                    refine T_ld 119 (.int (i32 v50)) rfl (fun _ => rfl) ?_
                                    refine T_ld 120 (.int (i32 1)) rfl (fun _ => rfl) ?_
                                    have G74 : ∀ j, 0 ≤ (upI (m51.2 126) v50 1) j ∧ (upI (m51.2 126) v50 1) j ≤ 1 := upI_rg (q55.2.1 126) ⟨by omega, by omega⟩
                                    refine T_bast (a' := [(126, upI (m51.2 126) v50 1)]) 121 126 (m51.2 126) rfl rfl rfl (by omega) (show v50 < (16 : Int) by omega) (by omega) rfl rfl ?_
                                    refine T_ld 122 (.int (i32 1)) rfl (fun _ => rfl) ?_
                                    refine T_sto 123 [(2, .int (i32 1)), (0, .ref 189), (1, .int (i32 d)), (3, .int (i32 v29)), (4, .int (i32 v50))] rfl (fun _ => rfl) ?_
                                    refine T_iinc 126 [(4, .int (i32 (v50 + 1))), (2, .int (i32 1)), (0, .ref 189), (1, .int (i32 d)), (3, .int (i32 v29))] rfl rfl (by decide) rfl rfl ?_
                                    refine T_goto 81 rfl (fun _ => rfl) ?_
                                    refine Tm_lv (a := [(0, .ref 189), (1, .int (i32 d)), (2, .int (i32 1)), (3, .int (i32 v29)), (4, .int (i32 (v50 + 1)))]) rfl rfl ⟨rfl, rfl, rfl, rfl, rfl, trivial⟩ ?_
                                    exact ih64 1 (v50 + 1) (mO m [] [(126, upI (m51.2 126) v50 1)]) ⟨by decide, by decide⟩ (r32 (by omega) (by omega)) (Ty_mO hT rfl rfl trivial ⟨G74, trivial⟩) (show 0 ≤ (1 : Int) by omega) (show (1 : Int) ≤ 1 by omega) (show 0 ≤ (v50 + 1) by omega) (show (v50 + 1) ≤ (m.1 24) by omega) (show (1 : Int) = 0 ∨ (1 : Int) = 1 by omega) (show ∀ j, 0 ≤ j → j < (m.1 24) → Ld (m.2 44) (m.2 38) (m.2 42) (m.2 45) d j → (upI (m51.2 126) v50 1) j = 1 by first | exact hC1 | (intro j a b h; unfold upI; split; (rfl); (exact hC1 j a b h))) (show ((1 : Int) = 0 ∧ ct (upI (m51.2 126) v50 1) 16 = C0 ∧ CLk (m.2 44) (m.2 38) (m.2 42) (m.2 45) (m.2 41) (upI (m51.2 126) v50 1) (m.1 24) v29 ∧ ∀ j, 0 ≤ j → j < (v50 + 1) → Ld (m.2 44) (m.2 38) (m.2 42) (m.2 45) v29 j → (upI (m51.2 126) v50 1) j = 1) ∨ ((1 : Int) = 1 ∧ C0 + 1 ≤ ct (upI (m51.2 126) v50 1) 16) by first | exact hD.elim (fun q => Or.inl ⟨q.1, q.2.1, q.2.2, fun j j0 j1 => by omega⟩) (fun q => Or.inr q) | exact Or.inr ⟨rfl, by omega⟩ | exact hD.elim (fun q => Or.inl ⟨q.1, q.2.1, q.2.2.1, fun j j0 j1 h => by by_cases e : j = v50; (rw [e]; rw [e] at h; first | omega | exact absurd h (hLd.elim (fun q => absurd q.1 (by omega)) (fun q => q.2))); exact q.2.2.2 j j0 (by omega) h⟩) (fun q => Or.inr q)) (show (m.1 24) - (v50 + 1) < (n : Int) by omega)
                                  · skip
                                    refine T_goto 123 rfl (fun _ => rfl) ?_
                                    refine T_iinc 126 [(4, .int (i32 (v50 + 1))), (0, .ref 189), (1, .int (i32 d)), (2, .int (i32 v49)), (3, .int (i32 v29))] rfl rfl (by decide) rfl rfl ?_
                                    refine T_goto 81 rfl (fun _ => rfl) ?_
                                    refine Tm_lv (a := [(0, .ref 189), (1, .int (i32 d)), (2, .int (i32 v49)), (3, .int (i32 v29)), (4, .int (i32 (v50 + 1)))]) rfl rfl ⟨rfl, rfl, rfl, rfl, rfl, trivial⟩ ?_
                                    exact ih64 v49 (v50 + 1) (mO m [] [(126, (m51.2 126))]) (r32 (by omega) (by omega)) (r32 (by omega) (by omega)) (Ty_mO hT rfl rfl trivial ⟨(q55.2.1 126), trivial⟩) (show 0 ≤ v49 by omega) (show v49 ≤ 1 by omega) (show 0 ≤ (v50 + 1) by omega) (show (v50 + 1) ≤ (m.1 24) by omega) (show v49 = 0 ∨ v49 = 1 by omega) (show ∀ j, 0 ≤ j → j < (m.1 24) → Ld (m.2 44) (m.2 38) (m.2 42) (m.2 45) d j → (m51.2 126) j = 1 by first | exact hC1 | (intro j a b h; unfold upI; split; (rfl); (exact hC1 j a b h))) (show (v49 = 0 ∧ ct (m51.2 126) 16 = C0 ∧ CLk (m.2 44) (m.2 38) (m.2 42) (m.2 45) (m.2 41) (m51.2 126) (m.1 24) v29 ∧ ∀ j, 0 ≤ j → j < (v50 + 1) → Ld (m.2 44) (m.2 38) (m.2 42) (m.2 45) v29 j → (m51.2 126) j = 1) ∨ (v49 = 1 ∧ C0 + 1 ≤ ct (m51.2 126) 16) by first | exact hD.elim (fun q => Or.inl ⟨q.1, q.2.1, q.2.2, fun j j0 j1 => by omega⟩) (fun q => Or.inr q) | exact Or.inr ⟨rfl, by omega⟩ | exact hD.elim (fun q => Or.inl ⟨q.1, q.2.1, q.2.2.1, fun j j0 j1 h => by by_cases e : j = v50; (rw [e]; rw [e] at h; first | omega | exact absurd h (hLd.elim (fun q => absurd q.1 (by omega)) (fun q => q.2))); exact q.2.2.2 j j0 (by omega) h⟩) (fun q => Or.inr q)) (show (m.1 24) - (v50 + 1) < (n : Int) by omega)
                          refine Tm_lv (a := [(0, .ref 189), (1, .int (i32 d)), (2, .int (i32 v28)), (3, .int (i32 v29)), (4, .int (i32 0))]) rfl rfl ⟨rfl, rfl, rfl, rfl, rfl, trivial⟩ ?_
                          exact L81_52 (((m.1 24) - (0 : Int) : Int) + 1).toNat v28 0 (mO m [] [(126, (m30.2 126))]) (r32 (by omega) (by omega)) ⟨by decide, by decide⟩ (Ty_mO hT rfl rfl trivial ⟨(q34.2.1 126), trivial⟩) (show 0 ≤ v28 by omega) (show v28 ≤ 1 by omega) (show 0 ≤ (0 : Int) by omega) (show (0 : Int) ≤ (m.1 24) by omega) (show v28 = 0 ∨ v28 = 1 by omega) (show ∀ j, 0 ≤ j → j < (m.1 24) → Ld (m.2 44) (m.2 38) (m.2 42) (m.2 45) d j → (m30.2 126) j = 1 by first | exact hC1 | (intro j a b h; unfold upI; split; (rfl); (exact hC1 j a b h))) (show (v28 = 0 ∧ ct (m30.2 126) 16 = C0 ∧ CLk (m.2 44) (m.2 38) (m.2 42) (m.2 45) (m.2 41) (m30.2 126) (m.1 24) v29 ∧ ∀ j, 0 ≤ j → j < (0 : Int) → Ld (m.2 44) (m.2 38) (m.2 42) (m.2 45) v29 j → (m30.2 126) j = 1) ∨ (v28 = 1 ∧ C0 + 1 ≤ ct (m30.2 126) 16) by first | exact hD.elim (fun q => Or.inl ⟨q.1, q.2.1, q.2.2, fun j j0 j1 => by omega⟩) (fun q => Or.inr q) | exact Or.inr ⟨rfl, by omega⟩ | exact hD.elim (fun q => Or.inl ⟨q.1, q.2.1, q.2.2.1, fun j j0 j1 h => by by_cases e : j = v50; (rw [e]; rw [e] at h; first | omega | exact absurd h (hLd.elim (fun q => absurd q.1 (by omega)) (fun q => q.2))); exact q.2.2.2 j j0 (by omega) h⟩) (fun q => Or.inr q)) (show (m.1 24) - (0 : Int) < (((((m.1 24) - (0 : Int) : Int) + 1).toNat : Nat) : Int) by omega)
                        · skip
                          refine T_goto 129 rfl (fun _ => rfl) ?_
                          refine T_iinc 132 [(3, .int (i32 (v29 + 1))), (0, .ref 189), (1, .int (i32 d)), (2, .int (i32 v28))] rfl rfl (by decide) rfl rfl ?_
                          refine T_goto 49 rfl (fun _ => rfl) ?_
                          refine Tm_lv (a := [(0, .ref 189), (1, .int (i32 d)), (2, .int (i32 v28)), (3, .int (i32 (v29 + 1)))]) rfl rfl ⟨rfl, rfl, rfl, rfl, trivial⟩ ?_
                          exact ih43 v28 (v29 + 1) (mO m [] [(126, (m30.2 126))]) (r32 (by omega) (by omega)) (r32 (by omega) (by omega)) (Ty_mO hT rfl rfl trivial ⟨(q34.2.1 126), trivial⟩) (show 0 ≤ v28 by omega) (show v28 ≤ 1 by omega) (show 0 ≤ (v29 + 1) by omega) (show (v29 + 1) ≤ (m.1 24) by omega) (show v28 = 0 ∨ v28 = 1 by omega) (show ∀ j, 0 ≤ j → j < (m.1 24) → Ld (m.2 44) (m.2 38) (m.2 42) (m.2 45) d j → (m30.2 126) j = 1 by first | exact hC1 | (intro j a b h; unfold upI; split; (rfl); (exact hC1 j a b h))) (show (v28 = 0 ∧ ct (m30.2 126) 16 = C0 ∧ CLk (m.2 44) (m.2 38) (m.2 42) (m.2 45) (m.2 41) (m30.2 126) (m.1 24) (v29 + 1)) ∨ (v28 = 1 ∧ C0 + 1 ≤ ct (m30.2 126) 16) by first | exact Or.inl ⟨rfl, hC0.symm, fun k j k0 k1 => by omega⟩ | exact hD.elim (fun q => Or.inl ⟨q.1, q.2.1, fun k j k0 k1 j0 j1 c1 c2 c3 => by by_cases e : k = v29; (first | (rw [e] at c1 c2; omega) | (rw [e] at c3; exact q.2.2.2 j j0 (by omega) c3)); (first | exact q.2.2 k j k0 (by omega) j0 j1 c1 c2 c3 | exact q.2.2.1 k j k0 (by omega) j0 j1 c1 c2 c3)⟩) (fun q => Or.inr q)) (show (m.1 24) - (v29 + 1) < (n : Int) by omega)
                refine Tm_lv (a := [(0, .ref 189), (1, .int (i32 d)), (2, .int (i32 0)), (3, .int (i32 0))]) rfl rfl ⟨rfl, rfl, rfl, rfl, trivial⟩ ?_
                exact L49_31 (((m.1 24) - (0 : Int) : Int) + 1).toNat 0 0 (mO m [] [(126, (m15.2 126))]) ⟨by decide, by decide⟩ ⟨by decide, by decide⟩ (Ty_mO hT rfl rfl trivial ⟨(q18.2.1 126), trivial⟩) (show 0 ≤ (0 : Int) by omega) (show (0 : Int) ≤ 1 by omega) (show 0 ≤ (0 : Int) by omega) (show (0 : Int) ≤ (m.1 24) by omega) (show (0 : Int) = 0 ∨ (0 : Int) = 1 by omega) (show ∀ j, 0 ≤ j → j < (m.1 24) → Ld (m.2 44) (m.2 38) (m.2 42) (m.2 45) d j → (m15.2 126) j = 1 by first | exact hC1 | (intro j a b h; unfold upI; split; (rfl); (exact hC1 j a b h))) (show ((0 : Int) = 0 ∧ ct (m15.2 126) 16 = C0 ∧ CLk (m.2 44) (m.2 38) (m.2 42) (m.2 45) (m.2 41) (m15.2 126) (m.1 24) (0 : Int)) ∨ ((0 : Int) = 1 ∧ C0 + 1 ≤ ct (m15.2 126) 16) by first | exact Or.inl ⟨rfl, hC0.symm, fun k j k0 k1 => by omega⟩ | exact hD.elim (fun q => Or.inl ⟨q.1, q.2.1, fun k j k0 k1 j0 j1 c1 c2 c3 => by by_cases e : k = v29; (first | (rw [e] at c1 c2; omega) | (rw [e] at c3; exact q.2.2.2 j j0 (by omega) c3)); (first | exact q.2.2 k j k0 (by omega) j0 j1 c1 c2 c3 | exact q.2.2.1 k j k0 (by omega) j0 j1 c1 c2 c3)⟩) (fun q => Or.inr q)) (show (m.1 24) - (0 : Int) < (((((m.1 24) - (0 : Int) : Int) + 1).toNat : Nat) : Int) by omega)
          refine Tm_lv (a := [(0, .ref 189), (1, .int (i32 d)), (2, .int (i32 1))]) rfl rfl ⟨rfl, rfl, rfl, trivial⟩ ?_
          exact L41_16 ((2 * (16 - ct (m4.2 126) 16) + (1 : Int) : Int) + 1).toNat 1 (mO m [] [(126, (m4.2 126))]) ⟨by decide, by decide⟩ (Ty_mO hT rfl rfl trivial ⟨(q7.2.1 126), trivial⟩) (show 0 ≤ (1 : Int) by omega) (show (1 : Int) ≤ 1 by omega) (show (1 : Int) = 0 ∨ (1 : Int) = 1 by omega) (show ∀ j, 0 ≤ j → j < (m.1 24) → Ld (m.2 44) (m.2 38) (m.2 42) (m.2 45) d j → (m4.2 126) j = 1 by first | exact hC1 | exact fun j a b h => hC1 j a (by omega) h) (show (1 : Int) = 0 → CLk (m.2 44) (m.2 38) (m.2 42) (m.2 45) (m.2 41) (m4.2 126) (m.1 24) (m.1 24) by first | (intro h; omega) | exact fun h => hD.elim (fun q => fun k j k0 k1 => q.2.2 k j k0 (by omega)) (fun q => absurd q.1 (by omega))) (show 2 * (16 - ct (m4.2 126) 16) + (1 : Int) < ((((2 * (16 - ct (m4.2 126) 16) + (1 : Int) : Int) + 1).toNat : Nat) : Int) by omega)
        · skip
          refine T_gf 25 (.ref 284) rfl rfl rfl rfl rfl rfl ?_
          refine T_ld 26 (.int (i32 v3)) rfl (fun _ => rfl) ?_
          refine T_ld 27 (.ref 189) rfl (fun _ => rfl) ?_
          refine T_ld 28 (.int (i32 d)) rfl (fun _ => rfl) ?_
          refine T_ld 29 (.int (i32 v3)) rfl (fun _ => rfl) ?_
          refine T_call 32 286 [.ref 189, .int (i32 d), .int (i32 v3)] [.int (i32 v3), .ref 284] rfl (fun _ => rfl) rfl (c_leads w (mO m [] [(126, (m4.2 126))]) c N D (by omega) (Ty_mO hT rfl rfl trivial ⟨(q7.2.1 126), trivial⟩) d v3 (r32 (by omega) (by omega)) (r32 (by omega) (by omega)) (show 0 ≤ d ∧ d ≤ 15 by omega)) (fun rr75 k76 => ?_)
          obtain ⟨x77, g78, h79, rfl⟩ := k76
          refine ⟨_, _, rfl, ?_⟩
          refine T_nf2 (st' := [.int (i32 x77), .int (i32 v3), .ref 284]) (l' := []) (a' := [(126, (m4.2 126))]) [] [] rfl trivial ⟨rfl, rfl, trivial⟩ rfl rfl (by decide) (by decide) ?_
          obtain ⟨g78a, g78b⟩ := g78
          replace h79 : (x77 = 1 ∧ Ld (m.2 44) (m.2 38) (m.2 42) (m.2 45) d v3) ∨ (x77 = 0 ∧ ¬ Ld (m.2 44) (m.2 38) (m.2 42) (m.2 45) d v3) := h79
          have hLd := h79
          have G80 : ∀ j, 0 ≤ (upI (m4.2 126) v3 x77) j ∧ (upI (m4.2 126) v3 x77) j ≤ 1 := upI_rg (q7.2.1 126) ⟨by omega, by omega⟩
          refine T_bast (a' := [(126, upI (m4.2 126) v3 x77)]) 33 126 (m4.2 126) rfl rfl rfl (by omega) (show v3 < (16 : Int) by omega) (by omega) rfl rfl ?_
          refine T_iinc 36 [(2, .int (i32 (v3 + 1))), (0, .ref 189), (1, .int (i32 d))] rfl rfl (by decide) rfl rfl ?_
          refine T_goto 13 rfl (fun _ => rfl) ?_
          refine Tm_lv (a := [(0, .ref 189), (1, .int (i32 d)), (2, .int (i32 (v3 + 1)))]) rfl rfl ⟨rfl, rfl, rfl, trivial⟩ ?_
          exact ih12 (v3 + 1) (mO m [] [(126, upI (m4.2 126) v3 x77)]) (r32 (by omega) (by omega)) (Ty_mO hT rfl rfl trivial ⟨G80, trivial⟩) (show 0 ≤ (v3 + 1) by omega) (show (v3 + 1) ≤ (m.1 24) by omega) (show ∀ j, 0 ≤ j → j < (v3 + 1) → Ld (m.2 44) (m.2 38) (m.2 42) (m.2 45) d j → (upI (m4.2 126) v3 x77) j = 1 by first | (intro j a b h; omega) | (intro j a b h; by_cases e : j = v3; (rw [e, upI_s]; rw [e] at h; exact hLd.elim (fun q => q.1) (fun q => absurd h q.2)); (rw [upI_n e]; exact hC1 j a (by omega) h))) (show (m.1 24) - (v3 + 1) < (n : Int) by omega)
    refine Tm_lv (a := [(0, .ref 189), (1, .int (i32 d)), (2, .int (i32 0))]) rfl rfl ⟨rfl, rfl, rfl, trivial⟩ ?_
    exact L13_5 (((m.1 24) - (0 : Int) : Int) + 1).toNat 0 (mO m [] [(126, (m.2 126))]) ⟨by decide, by decide⟩ (Ty_mO hT rfl rfl trivial ⟨(hT.2.1 126), trivial⟩) (show 0 ≤ (0 : Int) by omega) (show (0 : Int) ≤ (m.1 24) by omega) (show ∀ j, 0 ≤ j → j < (0 : Int) → Ld (m.2 44) (m.2 38) (m.2 42) (m.2 45) d j → (m.2 126) j = 1 by first | (intro j a b h; omega) | (intro j a b h; by_cases e : j = v3; (rw [e, upI_s]; rw [e] at h; exact hLd.elim (fun q => q.1) (fun q => absurd h q.2)); (rw [upI_n e]; exact hC1 j a (by omega) h))) (show (m.1 24) - (0 : Int) < (((((m.1 24) - (0 : Int) : Int) + 1).toNat : Nat) : Int) by omega)
  · skip
    refine T_ld 10 (.int (i32 0)) rfl (fun _ => rfl) ?_
    refine T_ret rfl (fun _ => rfl) ?_
    exact ⟨(mO m [] [(126, (m.2 126))]), 0, (Ty_mO hT rfl rfl trivial ⟨(hT.2.1 126), trivial⟩), ⟨by omega, by omega⟩, (show (0 : Int) = 0 → 0 < (m.2 41) d ∨ NR (m.2 44) (m.2 38) (m.2 42) (m.2 45) (m.2 41) (m.1 24) d by first | (first | (intro h; exact Or.inl (by omega)) | (intro h; exact Or.inr ⟨(m.2 126), hC1, hC2 (by omega), by omega⟩)) | (exfalso; omega)), rfl⟩
def Q_checkStates (m : mR) (c : Nat → Option am_C) (N : Nat) : ag_Re af_T → Prop := fun R => ∃ (M : mR), Ty M ∧ ((M.1 10) = 0 → (m.1 10) = 0) ∧ (M.1 10 = 0 → (∀ q, 0 ≤ q → q < (m.1 24) → 0 < (m.2 41) q ∨ NR (m.2 44) (m.2 38) (m.2 42) (m.2 45) (m.2 41) (m.1 24) q)) ∧ R = (.inl (none), (mhp (mO m [(10, (M.1 10)), (11, (M.1 11))] [(126, (M.2 126))]) c, N), 0, 0)
set_option maxHeartbeats 8000000 in
theorem c_checkStates (w : wX) (m : mR) (c : Nat → Option am_C) (N D : Nat) (hD : 3 ≤ D) (hT : Ty m) (hf0 : m.1 10 = 0) (hC : True) : TC w D 284 [.ref 189] (mhp m c, N) (Q_checkStates m c N) := by
  obtain ⟨D, rfl⟩ : ∃ k, D = k + 1 := ⟨D - 1, by omega⟩
  have f10 : 0 ≤ m.1 10 ∧ m.1 10 ≤ 8 := hT.1 10
  have f11 : (-1) ≤ m.1 11 ∧ m.1 11 ≤ 4000 := hT.1 11
  have f24 : 0 ≤ m.1 24 ∧ m.1 24 ≤ 16 := hT.1 24
  refine Tc_of rfl ?_
  show TT w D pm_284 (0, [(0, .ref 189)], [], (mhp m c, N), 0, 0) (Q_checkStates m c N)
  rw [show (mhp m c, N) = (mhp (mO m [(10, (m.1 10)), (11, (m.1 11))] [(126, (m.2 126))]) c, N) from congrArg (fun M => (mhp M c, N)) (mO_pad m [10, 11] [126])]
  refine T_ld 1 (.int (i32 (-1))) rfl (fun _ => rfl) ?_
  refine T_sto 2 [(1, .int (i32 (-1))), (0, .ref 189)] rfl (fun _ => rfl) ?_
  refine T_ld 3 (.int (i32 0)) rfl (fun _ => rfl) ?_
  refine T_sto 4 [(2, .int (i32 0)), (1, .int (i32 (-1))), (0, .ref 189)] rfl (fun _ => rfl) ?_
  have L4_3 : ∀ (n : Nat) (v1 : Int) (v2 : Int), (R32 v1) → (R32 v2) → ((-1) ≤ v1) → (v1 ≤ 4000) → (0 ≤ v2) → (v2 ≤ (m.1 23)) → ((-1) ≤ v1 ∧ v1 ≤ 4000) → (m.1 23) - v2 < (n : Int) → TT w D pm_284 (4, [(0, .ref 189), (1, .int (i32 v1)), (2, .int (i32 v2))], [], (mhp (mO m [(10, (m.1 10)), (11, (m.1 11))] [(126, (m.2 126))]) c, N), 0, 0) (Q_checkStates m c N) := by
    intro n
    induction n with
    | zero =>
      intro v1 v2 q4 q5 ic6 ic7 ic8 ic9 ic10 hmu
      obtain ⟨q4a, q4b⟩ := id q4
      obtain ⟨q5a, q5b⟩ := id q5
      exfalso
      omega
    | succ n ih =>
      intro v1 v2 q4 q5 ic6 ic7 ic8 ic9 ic10 hmu
      obtain ⟨q4a, q4b⟩ := id q4
      obtain ⟨q5a, q5b⟩ := id q5
      have ih12 := ih
      refine T_ld 5 (.int (i32 v2)) rfl (fun _ => rfl) ?_
      have f23 : 0 ≤ m.1 23 ∧ m.1 23 ≤ 16 := hT.1 23
      refine T_gf 9 (.int (i32 (m.1 23))) rfl rfl rfl rfl rfl rfl ?_
      refine T_icmp 48 12 rfl rfl rfl (r32 (by omega) (by omega)) (r32 (by omega) (by omega)) (fun (h13 : (m.1 23) ≤ v2) => ?_) (fun (h13 : ¬ ((m.1 23) ≤ v2)) => ?_)
      · skip
        refine T_ld 49 (.int (i32 v1)) rfl (fun _ => rfl) ?_
        refine T_if 59 52 rfl rfl rfl (r32 (by omega) (by omega)) (fun (h14 : v1 < 0) => ?_) (fun (h14 : ¬ (v1 < 0)) => ?_)
        · skip
          refine T_ld 60 (.int (i32 0)) rfl (fun _ => rfl) ?_
          refine T_sto 61 [(2, .int (i32 0)), (0, .ref 189), (1, .int (i32 v1))] rfl (fun _ => rfl) ?_
          have L61_17 : ∀ (n : Nat) (v15 : Int) (m16 : mR), (R32 v15) → (Ty m16) → (0 ≤ v15) → (v15 ≤ (m.1 24)) → ((m16.1 10) = 0 → (∀ q, 0 ≤ q → q < v15 → 0 < (m.2 41) q ∨ NR (m.2 44) (m.2 38) (m.2 42) (m.2 45) (m.2 41) (m.1 24) q)) → (m.1 24) - v15 < (n : Int) → TT w D pm_284 (61, [(0, .ref 189), (1, .int (i32 v1)), (2, .int (i32 v15))], [], (mhp (mO m [(10, (m16.1 10)), (11, (m16.1 11))] [(126, (m16.2 126))]) c, N), 0, 0) (Q_checkStates m c N) := by
            intro n
            induction n with
            | zero =>
              intro v15 m16 q18 q19 ic20 ic21 c22 hmu
              obtain ⟨q18a, q18b⟩ := id q18
              have q19_10 : 0 ≤ m16.1 10 ∧ m16.1 10 ≤ 8 := q19.1 10
              have q19_11 : (-1) ≤ m16.1 11 ∧ m16.1 11 ≤ 4000 := q19.1 11
              exfalso
              omega
            | succ n ih =>
              intro v15 m16 q18 q19 ic20 ic21 c22 hmu
              obtain ⟨q18a, q18b⟩ := id q18
              have q19_10 : 0 ≤ m16.1 10 ∧ m16.1 10 ≤ 8 := q19.1 10
              have q19_11 : (-1) ≤ m16.1 11 ∧ m16.1 11 ≤ 4000 := q19.1 11
              have ih23 := ih
              by_cases hf24 : (m16.1 10) = 0
              · skip
                have c25 := c22 hf24
                clear c22
                have hNA := c25
                refine T_ld 62 (.int (i32 v15)) rfl (fun _ => rfl) ?_
                refine T_gf 66 (.int (i32 (m.1 24))) rfl rfl rfl rfl rfl rfl ?_
                refine T_icmp 102 69 rfl rfl rfl (r32 (by omega) (by omega)) (r32 (by omega) (by omega)) (fun (h26 : (m.1 24) ≤ v15) => ?_) (fun (h26 : ¬ ((m.1 24) ≤ v15)) => ?_)
                · skip
                  refine T_ret rfl (fun _ => rfl) ?_
                  exact ⟨(mO m [(10, (m16.1 10)), (11, (m16.1 11))] [(126, (m16.2 126))]), (Ty_mO hT rfl rfl ⟨(q19.1 10), (q19.1 11), trivial⟩ ⟨(q19.2.1 126), trivial⟩), (show (m16.1 10) = 0 → (m.1 10) = 0 by omega), (fun _ => (show ∀ q, 0 ≤ q → q < (m.1 24) → 0 < (m.2 41) q ∨ NR (m.2 44) (m.2 38) (m.2 42) (m.2 45) (m.2 41) (m.1 24) q by first | (exact fun q a b => hNA q a (by omega)) | (exfalso; omega))), rfl⟩
                · skip
                  refine T_gf 73 (.int (i32 (m16.1 10))) rfl rfl rfl rfl rfl rfl ?_
                  refine T_if 102 76 rfl rfl rfl (r32 (by omega) (by omega)) (fun (h27 : (m16.1 10) ≠ 0) => by exfalso; omega) (fun (h27 : ¬ ((m16.1 10) ≠ 0)) => ?_)
                  refine T_ld 77 (.ref 189) rfl (fun _ => rfl) ?_
                  refine T_ld 78 (.int (i32 v15)) rfl (fun _ => rfl) ?_
                  refine T_call 81 285 [.ref 189, .int (i32 v15)] [] rfl (fun _ => rfl) rfl (c_comesRound w (mO m [(10, (m16.1 10)), (11, (m16.1 11))] [(126, (m16.2 126))]) c N D (by omega) (Ty_mO hT rfl rfl ⟨(q19.1 10), (q19.1 11), trivial⟩ ⟨(q19.2.1 126), trivial⟩) v15 (r32 (by omega) (by omega)) (show 0 ≤ v15 ∧ v15 ≤ 15 by omega) (show v15 < (m.1 24) by omega)) (fun rr28 k29 => ?_)
                  obtain ⟨m30, x32, hT31, g33, h34, rfl⟩ := k29
                  refine ⟨_, _, rfl, ?_⟩
                  refine T_nf2 (st' := [.int (i32 x32)]) (l' := [(10, (m16.1 10)), (11, (m16.1 11))]) (a' := [(126, (m30.2 126))]) [] [126] rfl ⟨rfl, rfl, rfl, rfl, trivial⟩ ⟨rfl, rfl, trivial⟩ rfl rfl (by decide) (by decide) ?_
                  obtain ⟨g33a, g33b⟩ := g33
                  replace h34 : x32 = 0 → 0 < (m.2 41) v15 ∨ NR (m.2 44) (m.2 38) (m.2 42) (m.2 45) (m.2 41) (m.1 24) v15 := h34
                  have hNR := h34
                  refine T_if 96 84 rfl rfl rfl (r32 (by omega) (by omega)) (fun (h35 : x32 = 0) => ?_) (fun (h35 : ¬ (x32 = 0)) => ?_)
                  · skip
                    refine T_iinc 99 [(2, .int (i32 (v15 + 1))), (0, .ref 189), (1, .int (i32 v1))] rfl rfl (by decide) rfl rfl ?_
                    refine T_goto 61 rfl (fun _ => rfl) ?_
                    refine Tm_lv (a := [(0, .ref 189), (1, .int (i32 v1)), (2, .int (i32 (v15 + 1)))]) rfl rfl ⟨rfl, rfl, rfl, trivial⟩ ?_
                    exact ih23 (v15 + 1) (mO m [(10, (m16.1 10)), (11, (m16.1 11))] [(126, (m30.2 126))]) (r32 (by omega) (by omega)) (Ty_mO hT rfl rfl ⟨(q19.1 10), (q19.1 11), trivial⟩ ⟨(hT31.2.1 126), trivial⟩) (show 0 ≤ (v15 + 1) by omega) (show (v15 + 1) ≤ (m.1 24) by omega) (fun _ => (show ∀ q, 0 ≤ q → q < (v15 + 1) → 0 < (m.2 41) q ∨ NR (m.2 44) (m.2 38) (m.2 42) (m.2 45) (m.2 41) (m.1 24) q by first | (intro q a b; omega) | (intro q a b; by_cases e : q = v15; (rw [e]; exact hNR (by omega)); exact hNA q a (by omega)))) (show (m.1 24) - (v15 + 1) < (n : Int) by omega)
                  · skip
                    refine T_ld 85 (.ref 189) rfl (fun _ => rfl) ?_
                    refine T_ld 87 (.int (i32 8)) rfl (fun _ => rfl) ?_
                    refine T_gf 91 (.ref 210) rfl rfl rfl rfl rfl rfl ?_
                    refine T_ld 92 (.int (i32 v15)) rfl (fun _ => rfl) ?_
                    refine T_iald 93 40 (m.2 40) rfl rfl rfl (by omega) (show v15 < (16 : Int) by omega) rfl ?_
                    have e36 : 0 ≤ m.2 40 v15 ∧ m.2 40 v15 ≤ 4000 := hT.2.1 40 v15
                    refine T_call 96 222 [.ref 189, .int (i32 8), .int (i32 ((m.2 40) v15))] [] rfl (fun _ => rfl) rfl (c_wrong w (mO m [(10, (m16.1 10)), (11, (m16.1 11))] [(126, (m30.2 126))]) c N D (by omega) (Ty_mO hT rfl rfl ⟨(q19.1 10), (q19.1 11), trivial⟩ ⟨(hT31.2.1 126), trivial⟩) 8 ((m.2 40) v15) ⟨by decide, by decide⟩ (r32 (by omega) (by omega)) (show 1 ≤ (8 : Int) ∧ (8 : Int) ≤ 8 by omega) (show 0 ≤ ((m.2 40) v15) ∧ ((m.2 40) v15) ≤ 4000 by omega)) (fun rr37 k38 => ?_)
                    obtain ⟨y39, y41, g40, g42, h43, rfl⟩ := k38
                    refine ⟨_, _, rfl, ?_⟩
                    refine T_nf2 (st' := []) (l' := [(10, y39), (11, y41)]) (a' := [(126, (m30.2 126))]) [10, 11] [] rfl ⟨rfl, rfl, rfl, rfl, trivial⟩ ⟨rfl, rfl, trivial⟩ rfl rfl (by decide) (by decide) ?_
                    replace h43 : (0 < (m16.1 10) → y39 = (m16.1 10) ∧ y41 = (m16.1 11)) ∧ ((m16.1 10) ≤ 0 → y39 = (8 : Int) ∧ y41 = ((m.2 40) v15)) := h43
                    have hf44 : 1 ≤ y39 := by omega
                    refine T_iinc 99 [(2, .int (i32 (v15 + 1))), (0, .ref 189), (1, .int (i32 v1))] rfl rfl (by decide) rfl rfl ?_
                    refine T_goto 61 rfl (fun _ => rfl) ?_
                    refine Tm_lv (a := [(0, .ref 189), (1, .int (i32 v1)), (2, .int (i32 (v15 + 1)))]) rfl rfl ⟨rfl, rfl, rfl, trivial⟩ ?_
                    exact ih23 (v15 + 1) (mO m [(10, y39), (11, y41)] [(126, (m30.2 126))]) (r32 (by omega) (by omega)) (Ty_mO hT rfl rfl ⟨g40, g42, trivial⟩ ⟨(hT31.2.1 126), trivial⟩) (show 0 ≤ (v15 + 1) by omega) (show (v15 + 1) ≤ (m.1 24) by omega) (fun (h : y39 = 0) => absurd h (by omega)) (show (m.1 24) - (v15 + 1) < (n : Int) by omega)
              · skip
                clear c22
                have hf45 : 1 ≤ (m16.1 10) := by omega
                refine T_ld 62 (.int (i32 v15)) rfl (fun _ => rfl) ?_
                refine T_gf 66 (.int (i32 (m.1 24))) rfl rfl rfl rfl rfl rfl ?_
                refine T_icmp 102 69 rfl rfl rfl (r32 (by omega) (by omega)) (r32 (by omega) (by omega)) (fun (h46 : (m.1 24) ≤ v15) => ?_) (fun (h46 : ¬ ((m.1 24) ≤ v15)) => ?_)
                · skip
                  refine T_ret rfl (fun _ => rfl) ?_
                  exact ⟨(mO m [(10, (m16.1 10)), (11, (m16.1 11))] [(126, (m16.2 126))]), (Ty_mO hT rfl rfl ⟨(q19.1 10), (q19.1 11), trivial⟩ ⟨(q19.2.1 126), trivial⟩), (show (m16.1 10) = 0 → (m.1 10) = 0 by omega), (fun (h : (m16.1 10) = 0) => absurd h (by omega)), rfl⟩
                · skip
                  refine T_gf 73 (.int (i32 (m16.1 10))) rfl rfl rfl rfl rfl rfl ?_
                  refine T_if 102 76 rfl rfl rfl (r32 (by omega) (by omega)) (fun (h47 : (m16.1 10) ≠ 0) => ?_) (fun (h47 : ¬ ((m16.1 10) ≠ 0)) => by exfalso; omega)
                  refine T_ret rfl (fun _ => rfl) ?_
                  exact ⟨(mO m [(10, (m16.1 10)), (11, (m16.1 11))] [(126, (m16.2 126))]), (Ty_mO hT rfl rfl ⟨(q19.1 10), (q19.1 11), trivial⟩ ⟨(q19.2.1 126), trivial⟩), (show (m16.1 10) = 0 → (m.1 10) = 0 by omega), (fun (h : (m16.1 10) = 0) => absurd h (by omega)), rfl⟩
          refine Tm_lv (a := [(0, .ref 189), (1, .int (i32 v1)), (2, .int (i32 0))]) rfl rfl ⟨rfl, rfl, rfl, trivial⟩ ?_
          exact L61_17 (((m.1 24) - (0 : Int) : Int) + 1).toNat 0 (mO m [(10, (m.1 10)), (11, (m.1 11))] [(126, (m.2 126))]) ⟨by decide, by decide⟩ (Ty_mO hT rfl rfl ⟨f10, f11, trivial⟩ ⟨(hT.2.1 126), trivial⟩) (show 0 ≤ (0 : Int) by omega) (show (0 : Int) ≤ (m.1 24) by omega) (fun _ => (show ∀ q, 0 ≤ q → q < (0 : Int) → 0 < (m.2 41) q ∨ NR (m.2 44) (m.2 38) (m.2 42) (m.2 45) (m.2 41) (m.1 24) q by first | (intro q a b; omega) | (intro q a b; by_cases e : q = v15; (rw [e]; exact hNR (by omega)); exact hNA q a (by omega)))) (show (m.1 24) - (0 : Int) < (((((m.1 24) - (0 : Int) : Int) + 1).toNat : Nat) : Int) by omega)
        · skip
          refine T_ld 53 (.ref 189) rfl (fun _ => rfl) ?_
          refine T_ld 55 (.int (i32 6)) rfl (fun _ => rfl) ?_
          refine T_ld 56 (.int (i32 v1)) rfl (fun _ => rfl) ?_
          refine T_call 59 222 [.ref 189, .int (i32 6), .int (i32 v1)] [] rfl (fun _ => rfl) rfl (c_wrong w (mO m [(10, (m.1 10)), (11, (m.1 11))] [(126, (m.2 126))]) c N D (by omega) (Ty_mO hT rfl rfl ⟨f10, f11, trivial⟩ ⟨(hT.2.1 126), trivial⟩) 6 v1 ⟨by decide, by decide⟩ (r32 (by omega) (by omega)) (show 1 ≤ (6 : Int) ∧ (6 : Int) ≤ 8 by omega) (show 0 ≤ v1 ∧ v1 ≤ 4000 by omega)) (fun rr48 k49 => ?_)
          obtain ⟨y50, y52, g51, g53, h54, rfl⟩ := k49
          refine ⟨_, _, rfl, ?_⟩
          refine T_nf2 (st' := []) (l' := [(10, y50), (11, y52)]) (a' := [(126, (m.2 126))]) [10, 11] [] rfl ⟨rfl, rfl, rfl, rfl, trivial⟩ ⟨rfl, rfl, trivial⟩ rfl rfl (by decide) (by decide) ?_
          replace h54 : (0 < (m.1 10) → y50 = (m.1 10) ∧ y52 = (m.1 11)) ∧ ((m.1 10) ≤ 0 → y50 = (6 : Int) ∧ y52 = v1) := h54
          have hf55 : 1 ≤ y50 := by omega
          refine T_ld 60 (.int (i32 0)) rfl (fun _ => rfl) ?_
          refine T_sto 61 [(2, .int (i32 0)), (0, .ref 189), (1, .int (i32 v1))] rfl (fun _ => rfl) ?_
          have L61_58 : ∀ (n : Nat) (v56 : Int) (m57 : mR), (R32 v56) → (Ty m57) → (0 ≤ v56) → (v56 ≤ (m.1 24)) → ((m57.1 10) = 0 → (∀ q, 0 ≤ q → q < v56 → 0 < (m.2 41) q ∨ NR (m.2 44) (m.2 38) (m.2 42) (m.2 45) (m.2 41) (m.1 24) q)) → (m.1 24) - v56 < (n : Int) → TT w D pm_284 (61, [(0, .ref 189), (1, .int (i32 v1)), (2, .int (i32 v56))], [], (mhp (mO m [(10, (m57.1 10)), (11, (m57.1 11))] [(126, (m57.2 126))]) c, N), 0, 0) (Q_checkStates m c N) := by
            intro n
            induction n with
            | zero =>
              intro v56 m57 q59 q60 ic61 ic62 c63 hmu
              obtain ⟨q59a, q59b⟩ := id q59
              have q60_10 : 0 ≤ m57.1 10 ∧ m57.1 10 ≤ 8 := q60.1 10
              have q60_11 : (-1) ≤ m57.1 11 ∧ m57.1 11 ≤ 4000 := q60.1 11
              exfalso
              omega
            | succ n ih =>
              intro v56 m57 q59 q60 ic61 ic62 c63 hmu
              obtain ⟨q59a, q59b⟩ := id q59
              have q60_10 : 0 ≤ m57.1 10 ∧ m57.1 10 ≤ 8 := q60.1 10
              have q60_11 : (-1) ≤ m57.1 11 ∧ m57.1 11 ≤ 4000 := q60.1 11
              have ih64 := ih
              by_cases hf65 : (m57.1 10) = 0
              · skip
                have c66 := c63 hf65
                clear c63
                have hNA := c66
                refine T_ld 62 (.int (i32 v56)) rfl (fun _ => rfl) ?_
                refine T_gf 66 (.int (i32 (m.1 24))) rfl rfl rfl rfl rfl rfl ?_
                refine T_icmp 102 69 rfl rfl rfl (r32 (by omega) (by omega)) (r32 (by omega) (by omega)) (fun (h67 : (m.1 24) ≤ v56) => ?_) (fun (h67 : ¬ ((m.1 24) ≤ v56)) => ?_)
                · skip
                  refine T_ret rfl (fun _ => rfl) ?_
                  exact ⟨(mO m [(10, (m57.1 10)), (11, (m57.1 11))] [(126, (m57.2 126))]), (Ty_mO hT rfl rfl ⟨(q60.1 10), (q60.1 11), trivial⟩ ⟨(q60.2.1 126), trivial⟩), (show (m57.1 10) = 0 → (m.1 10) = 0 by omega), (fun _ => (show ∀ q, 0 ≤ q → q < (m.1 24) → 0 < (m.2 41) q ∨ NR (m.2 44) (m.2 38) (m.2 42) (m.2 45) (m.2 41) (m.1 24) q by first | (exact fun q a b => hNA q a (by omega)) | (exfalso; omega))), rfl⟩
                · skip
                  refine T_gf 73 (.int (i32 (m57.1 10))) rfl rfl rfl rfl rfl rfl ?_
                  refine T_if 102 76 rfl rfl rfl (r32 (by omega) (by omega)) (fun (h68 : (m57.1 10) ≠ 0) => by exfalso; omega) (fun (h68 : ¬ ((m57.1 10) ≠ 0)) => ?_)
                  refine T_ld 77 (.ref 189) rfl (fun _ => rfl) ?_
                  refine T_ld 78 (.int (i32 v56)) rfl (fun _ => rfl) ?_
                  refine T_call 81 285 [.ref 189, .int (i32 v56)] [] rfl (fun _ => rfl) rfl (c_comesRound w (mO m [(10, (m57.1 10)), (11, (m57.1 11))] [(126, (m57.2 126))]) c N D (by omega) (Ty_mO hT rfl rfl ⟨(q60.1 10), (q60.1 11), trivial⟩ ⟨(q60.2.1 126), trivial⟩) v56 (r32 (by omega) (by omega)) (show 0 ≤ v56 ∧ v56 ≤ 15 by omega) (show v56 < (m.1 24) by omega)) (fun rr69 k70 => ?_)
                  obtain ⟨m71, x73, hT72, g74, h75, rfl⟩ := k70
                  refine ⟨_, _, rfl, ?_⟩
                  refine T_nf2 (st' := [.int (i32 x73)]) (l' := [(10, (m57.1 10)), (11, (m57.1 11))]) (a' := [(126, (m71.2 126))]) [] [126] rfl ⟨rfl, rfl, rfl, rfl, trivial⟩ ⟨rfl, rfl, trivial⟩ rfl rfl (by decide) (by decide) ?_
                  obtain ⟨g74a, g74b⟩ := g74
                  replace h75 : x73 = 0 → 0 < (m.2 41) v56 ∨ NR (m.2 44) (m.2 38) (m.2 42) (m.2 45) (m.2 41) (m.1 24) v56 := h75
                  have hNR := h75
                  refine T_if 96 84 rfl rfl rfl (r32 (by omega) (by omega)) (fun (h76 : x73 = 0) => ?_) (fun (h76 : ¬ (x73 = 0)) => ?_)
                  · skip
                    refine T_iinc 99 [(2, .int (i32 (v56 + 1))), (0, .ref 189), (1, .int (i32 v1))] rfl rfl (by decide) rfl rfl ?_
                    refine T_goto 61 rfl (fun _ => rfl) ?_
                    refine Tm_lv (a := [(0, .ref 189), (1, .int (i32 v1)), (2, .int (i32 (v56 + 1)))]) rfl rfl ⟨rfl, rfl, rfl, trivial⟩ ?_
                    exact ih64 (v56 + 1) (mO m [(10, (m57.1 10)), (11, (m57.1 11))] [(126, (m71.2 126))]) (r32 (by omega) (by omega)) (Ty_mO hT rfl rfl ⟨(q60.1 10), (q60.1 11), trivial⟩ ⟨(hT72.2.1 126), trivial⟩) (show 0 ≤ (v56 + 1) by omega) (show (v56 + 1) ≤ (m.1 24) by omega) (fun _ => (show ∀ q, 0 ≤ q → q < (v56 + 1) → 0 < (m.2 41) q ∨ NR (m.2 44) (m.2 38) (m.2 42) (m.2 45) (m.2 41) (m.1 24) q by first | (intro q a b; omega) | (intro q a b; by_cases e : q = v56; (rw [e]; exact hNR (by omega)); exact hNA q a (by omega)))) (show (m.1 24) - (v56 + 1) < (n : Int) by omega)
                  · skip
                    refine T_ld 85 (.ref 189) rfl (fun _ => rfl) ?_
                    refine T_ld 87 (.int (i32 8)) rfl (fun _ => rfl) ?_
                    refine T_gf 91 (.ref 210) rfl rfl rfl rfl rfl rfl ?_
                    refine T_ld 92 (.int (i32 v56)) rfl (fun _ => rfl) ?_
                    refine T_iald 93 40 (m.2 40) rfl rfl rfl (by omega) (show v56 < (16 : Int) by omega) rfl ?_
                    have e77 : 0 ≤ m.2 40 v56 ∧ m.2 40 v56 ≤ 4000 := hT.2.1 40 v56
                    refine T_call 96 222 [.ref 189, .int (i32 8), .int (i32 ((m.2 40) v56))] [] rfl (fun _ => rfl) rfl (c_wrong w (mO m [(10, (m57.1 10)), (11, (m57.1 11))] [(126, (m71.2 126))]) c N D (by omega) (Ty_mO hT rfl rfl ⟨(q60.1 10), (q60.1 11), trivial⟩ ⟨(hT72.2.1 126), trivial⟩) 8 ((m.2 40) v56) ⟨by decide, by decide⟩ (r32 (by omega) (by omega)) (show 1 ≤ (8 : Int) ∧ (8 : Int) ≤ 8 by omega) (show 0 ≤ ((m.2 40) v56) ∧ ((m.2 40) v56) ≤ 4000 by omega)) (fun rr78 k79 => ?_)
                    obtain ⟨y80, y82, g81, g83, h84, rfl⟩ := k79
                    refine ⟨_, _, rfl, ?_⟩
                    refine T_nf2 (st' := []) (l' := [(10, y80), (11, y82)]) (a' := [(126, (m71.2 126))]) [10, 11] [] rfl ⟨rfl, rfl, rfl, rfl, trivial⟩ ⟨rfl, rfl, trivial⟩ rfl rfl (by decide) (by decide) ?_
                    replace h84 : (0 < (m57.1 10) → y80 = (m57.1 10) ∧ y82 = (m57.1 11)) ∧ ((m57.1 10) ≤ 0 → y80 = (8 : Int) ∧ y82 = ((m.2 40) v56)) := h84
                    have hf85 : 1 ≤ y80 := by omega
                    refine T_iinc 99 [(2, .int (i32 (v56 + 1))), (0, .ref 189), (1, .int (i32 v1))] rfl rfl (by decide) rfl rfl ?_
                    refine T_goto 61 rfl (fun _ => rfl) ?_
                    refine Tm_lv (a := [(0, .ref 189), (1, .int (i32 v1)), (2, .int (i32 (v56 + 1)))]) rfl rfl ⟨rfl, rfl, rfl, trivial⟩ ?_
                    exact ih64 (v56 + 1) (mO m [(10, y80), (11, y82)] [(126, (m71.2 126))]) (r32 (by omega) (by omega)) (Ty_mO hT rfl rfl ⟨g81, g83, trivial⟩ ⟨(hT72.2.1 126), trivial⟩) (show 0 ≤ (v56 + 1) by omega) (show (v56 + 1) ≤ (m.1 24) by omega) (fun (h : y80 = 0) => absurd h (by omega)) (show (m.1 24) - (v56 + 1) < (n : Int) by omega)
              · skip
                clear c63
                have hf86 : 1 ≤ (m57.1 10) := by omega
                refine T_ld 62 (.int (i32 v56)) rfl (fun _ => rfl) ?_
                refine T_gf 66 (.int (i32 (m.1 24))) rfl rfl rfl rfl rfl rfl ?_
                refine T_icmp 102 69 rfl rfl rfl (r32 (by omega) (by omega)) (r32 (by omega) (by omega)) (fun (h87 : (m.1 24) ≤ v56) => ?_) (fun (h87 : ¬ ((m.1 24) ≤ v56)) => ?_)
                · skip
                  refine T_ret rfl (fun _ => rfl) ?_
                  exact ⟨(mO m [(10, (m57.1 10)), (11, (m57.1 11))] [(126, (m57.2 126))]), (Ty_mO hT rfl rfl ⟨(q60.1 10), (q60.1 11), trivial⟩ ⟨(q60.2.1 126), trivial⟩), (show (m57.1 10) = 0 → (m.1 10) = 0 by omega), (fun (h : (m57.1 10) = 0) => absurd h (by omega)), rfl⟩
                · skip
                  refine T_gf 73 (.int (i32 (m57.1 10))) rfl rfl rfl rfl rfl rfl ?_
                  refine T_if 102 76 rfl rfl rfl (r32 (by omega) (by omega)) (fun (h88 : (m57.1 10) ≠ 0) => ?_) (fun (h88 : ¬ ((m57.1 10) ≠ 0)) => by exfalso; omega)
                  refine T_ret rfl (fun _ => rfl) ?_
                  exact ⟨(mO m [(10, (m57.1 10)), (11, (m57.1 11))] [(126, (m57.2 126))]), (Ty_mO hT rfl rfl ⟨(q60.1 10), (q60.1 11), trivial⟩ ⟨(q60.2.1 126), trivial⟩), (show (m57.1 10) = 0 → (m.1 10) = 0 by omega), (fun (h : (m57.1 10) = 0) => absurd h (by omega)), rfl⟩
          refine Tm_lv (a := [(0, .ref 189), (1, .int (i32 v1)), (2, .int (i32 0))]) rfl rfl ⟨rfl, rfl, rfl, trivial⟩ ?_
          exact L61_58 (((m.1 24) - (0 : Int) : Int) + 1).toNat 0 (mO m [(10, y50), (11, y52)] [(126, (m.2 126))]) ⟨by decide, by decide⟩ (Ty_mO hT rfl rfl ⟨g51, g53, trivial⟩ ⟨(hT.2.1 126), trivial⟩) (show 0 ≤ (0 : Int) by omega) (show (0 : Int) ≤ (m.1 24) by omega) (fun (h : y50 = 0) => absurd h (by omega)) (show (m.1 24) - (0 : Int) < (((((m.1 24) - (0 : Int) : Int) + 1).toNat : Nat) : Int) by omega)
      · skip
        refine T_gf 16 (.ref 208) rfl rfl rfl rfl rfl rfl ?_
        refine T_ld 17 (.int (i32 v2)) rfl (fun _ => rfl) ?_
        refine T_iald 18 38 (m.2 38) rfl rfl rfl (by omega) (show v2 < (16 : Int) by omega) rfl ?_
        have e89 : (-1) ≤ m.2 38 v2 ∧ m.2 38 v2 ≤ 15 := hT.2.1 38 v2
        refine T_if 42 21 rfl rfl rfl (r32 (by omega) (by omega)) (fun (h90 : (0 : Int) ≤ (m.2 38) v2) => ?_) (fun (h90 : ¬ ((0 : Int) ≤ (m.2 38) v2)) => ?_)
        · skip
          refine T_iinc 45 [(2, .int (i32 (v2 + 1))), (0, .ref 189), (1, .int (i32 v1))] rfl rfl (by decide) rfl rfl ?_
          refine T_goto 4 rfl (fun _ => rfl) ?_
          refine Tm_lv (a := [(0, .ref 189), (1, .int (i32 v1)), (2, .int (i32 (v2 + 1)))]) rfl rfl ⟨rfl, rfl, rfl, trivial⟩ ?_
          exact ih12 v1 (v2 + 1) (r32 (by omega) (by omega)) (r32 (by omega) (by omega)) (show (-1) ≤ v1 by omega) (show v1 ≤ 4000 by omega) (show 0 ≤ (v2 + 1) by omega) (show (v2 + 1) ≤ (m.1 23) by omega) (show (-1) ≤ v1 ∧ v1 ≤ 4000 by omega) (show (m.1 23) - (v2 + 1) < (n : Int) by omega)
        · skip
          refine T_ld 22 (.int (i32 v1)) rfl (fun _ => rfl) ?_
          refine T_if 35 25 rfl rfl rfl (r32 (by omega) (by omega)) (fun (h91 : v1 < 0) => ?_) (fun (h91 : ¬ (v1 < 0)) => ?_)
          · skip
            refine T_gf 39 (.ref 207) rfl rfl rfl rfl rfl rfl ?_
            refine T_ld 40 (.int (i32 v2)) rfl (fun _ => rfl) ?_
            refine T_iald 41 37 (m.2 37) rfl rfl rfl (by omega) (show v2 < (16 : Int) by omega) rfl ?_
            have e92 : 0 ≤ m.2 37 v2 ∧ m.2 37 v2 ≤ 4000 := hT.2.1 37 v2
            refine T_sto 42 [(1, .int (i32 ((m.2 37) v2))), (0, .ref 189), (2, .int (i32 v2))] rfl (fun _ => rfl) ?_
            refine T_iinc 45 [(2, .int (i32 (v2 + 1))), (1, .int (i32 ((m.2 37) v2))), (0, .ref 189)] rfl rfl (by decide) rfl rfl ?_
            refine T_goto 4 rfl (fun _ => rfl) ?_
            refine Tm_lv (a := [(0, .ref 189), (1, .int (i32 ((m.2 37) v2))), (2, .int (i32 (v2 + 1)))]) rfl rfl ⟨rfl, rfl, rfl, trivial⟩ ?_
            exact ih12 ((m.2 37) v2) (v2 + 1) (r32 (by omega) (by omega)) (r32 (by omega) (by omega)) (show (-1) ≤ ((m.2 37) v2) by omega) (show ((m.2 37) v2) ≤ 4000 by omega) (show 0 ≤ (v2 + 1) by omega) (show (v2 + 1) ≤ (m.1 23) by omega) (show (-1) ≤ ((m.2 37) v2) ∧ ((m.2 37) v2) ≤ 4000 by omega) (show (m.1 23) - (v2 + 1) < (n : Int) by omega)
          · skip
            refine T_gf 29 (.ref 207) rfl rfl rfl rfl rfl rfl ?_
            refine T_ld 30 (.int (i32 v2)) rfl (fun _ => rfl) ?_
            refine T_iald 31 37 (m.2 37) rfl rfl rfl (by omega) (show v2 < (16 : Int) by omega) rfl ?_
            have e93 : 0 ≤ m.2 37 v2 ∧ m.2 37 v2 ≤ 4000 := hT.2.1 37 v2
            refine T_ld 32 (.int (i32 v1)) rfl (fun _ => rfl) ?_
            refine T_icmp 42 35 rfl rfl rfl (r32 (by omega) (by omega)) (r32 (by omega) (by omega)) (fun (h94 : v1 ≤ (m.2 37) v2) => ?_) (fun (h94 : ¬ (v1 ≤ (m.2 37) v2)) => ?_)
            · skip
              refine T_iinc 45 [(2, .int (i32 (v2 + 1))), (0, .ref 189), (1, .int (i32 v1))] rfl rfl (by decide) rfl rfl ?_
              refine T_goto 4 rfl (fun _ => rfl) ?_
              refine Tm_lv (a := [(0, .ref 189), (1, .int (i32 v1)), (2, .int (i32 (v2 + 1)))]) rfl rfl ⟨rfl, rfl, rfl, trivial⟩ ?_
              exact ih12 v1 (v2 + 1) (r32 (by omega) (by omega)) (r32 (by omega) (by omega)) (show (-1) ≤ v1 by omega) (show v1 ≤ 4000 by omega) (show 0 ≤ (v2 + 1) by omega) (show (v2 + 1) ≤ (m.1 23) by omega) (show (-1) ≤ v1 ∧ v1 ≤ 4000 by omega) (show (m.1 23) - (v2 + 1) < (n : Int) by omega)
            · skip
              refine T_gf 39 (.ref 207) rfl rfl rfl rfl rfl rfl ?_
              refine T_ld 40 (.int (i32 v2)) rfl (fun _ => rfl) ?_
              refine T_iald 41 37 (m.2 37) rfl rfl rfl (by omega) (show v2 < (16 : Int) by omega) rfl ?_
              have e95 : 0 ≤ m.2 37 v2 ∧ m.2 37 v2 ≤ 4000 := hT.2.1 37 v2
              refine T_sto 42 [(1, .int (i32 ((m.2 37) v2))), (0, .ref 189), (2, .int (i32 v2))] rfl (fun _ => rfl) ?_
              refine T_iinc 45 [(2, .int (i32 (v2 + 1))), (1, .int (i32 ((m.2 37) v2))), (0, .ref 189)] rfl rfl (by decide) rfl rfl ?_
              refine T_goto 4 rfl (fun _ => rfl) ?_
              refine Tm_lv (a := [(0, .ref 189), (1, .int (i32 ((m.2 37) v2))), (2, .int (i32 (v2 + 1)))]) rfl rfl ⟨rfl, rfl, rfl, trivial⟩ ?_
              exact ih12 ((m.2 37) v2) (v2 + 1) (r32 (by omega) (by omega)) (r32 (by omega) (by omega)) (show (-1) ≤ ((m.2 37) v2) by omega) (show ((m.2 37) v2) ≤ 4000 by omega) (show 0 ≤ (v2 + 1) by omega) (show (v2 + 1) ≤ (m.1 23) by omega) (show (-1) ≤ ((m.2 37) v2) ∧ ((m.2 37) v2) ≤ 4000 by omega) (show (m.1 23) - (v2 + 1) < (n : Int) by omega)
  refine Tm_lv (a := [(0, .ref 189), (1, .int (i32 (-1))), (2, .int (i32 0))]) rfl rfl ⟨rfl, rfl, rfl, trivial⟩ ?_
  exact L4_3 (((m.1 23) - (0 : Int) : Int) + 1).toNat (-1) 0 ⟨by decide, by decide⟩ ⟨by decide, by decide⟩ (show (-1) ≤ (-1 : Int) by omega) (show (-1 : Int) ≤ 4000 by omega) (show 0 ≤ (0 : Int) by omega) (show (0 : Int) ≤ (m.1 23) by omega) (show (-1) ≤ (-1 : Int) ∧ (-1 : Int) ≤ 4000 by omega) (show (m.1 23) - (0 : Int) < (((((m.1 23) - (0 : Int) : Int) + 1).toNat : Nat) : Int) by omega)
