def Q_pi_goneOut (m : mR) (c : Nat → Option am_C) (N : Nat) (i : Int) : ag_Re af_T → Prop := fun R => (R = (.inl (some .null), (khp m c, N), 0, 0)) ∨ ∃ (r : Int), (0 ≤ r ∧ r ≤ 127) ∧ OKr m r ∧ R = (.inl (some (.ref (obq (m.2 107) r))), (khp m c, N), 0, 0)
set_option maxHeartbeats 3000000 in
theorem c_pi_goneOut (w : wX) (m : mR) (c : Nat → Option am_C) (N D : Nat) (hD : 1 ≤ D) (hT : KTy m) (i : Int) (qi : R32 i) : TC w D 35 [.ref 185, .int (i32 i)] (khp m c, N) (Q_pi_goneOut m c N i) := by
  obtain ⟨D, rfl⟩ : ∃ k, D = k + 1 := ⟨D - 1, by omega⟩
  obtain ⟨qia, qib⟩ := id qi
  have f234 : 0 ≤ m.1 234 ∧ m.1 234 ≤ 1000000 := hT.1 234
  refine Tc_of rfl ?_
  rw [show (khp m c, N) = (khp (mO m [] []) c, N) from by rw [mO_nil m]]
  show TT w D pm_35 (0, [(0, .ref 185), (1, .int (i32 i))], [], (khp (mO m [] []) c, N), 0, 0) (Q_pi_goneOut m c N i)
  refine T_ld 1 (.int (i32 i)) rfl (fun _ => rfl) ?_
  refine T_if 27 4 rfl rfl rfl (r32 (by omega) (by omega)) (fun (h1 : i < 0) => ?_) (fun (h1 : ¬ (i < 0)) => ?_)
  · skip
    refine T_ld 28 (.int (i32 0)) rfl (fun _ => rfl) ?_
    refine T_sto 29 [(2, .int (i32 0)), (0, .ref 185), (1, .int (i32 i))] rfl (fun _ => rfl) ?_
    refine T_ld 30 (.int (i32 0)) rfl (fun _ => rfl) ?_
    refine T_if 46 33 rfl rfl rfl ⟨by decide, by decide⟩ (fun _ => ?_) (fun h2 => absurd (show (0 : Int) = 0 by decide) h2)
    refine T_ld 47 .null rfl (fun _ => rfl) ?_
    refine T_ret rfl (fun _ => rfl) ?_
    exact Or.inl rfl
  · skip
    refine T_ld 5 (.int (i32 i)) rfl (fun _ => rfl) ?_
    refine T_ld 6 (.ref 185) rfl (fun _ => rfl) ?_
    refine K_gf 9 (.int (i32 (m.1 234))) rfl rfl kd_185 rfl rfl rfl ?_
    refine T_icmp 27 12 rfl rfl rfl (r32 (by omega) (by omega)) (r32 (by omega) (by omega)) (fun (h3 : (m.1 234) ≤ i) => ?_) (fun (h3 : ¬ ((m.1 234) ≤ i)) => ?_)
    · skip
      refine T_ld 28 (.int (i32 0)) rfl (fun _ => rfl) ?_
      refine T_sto 29 [(2, .int (i32 0)), (0, .ref 185), (1, .int (i32 i))] rfl (fun _ => rfl) ?_
      refine T_ld 30 (.int (i32 0)) rfl (fun _ => rfl) ?_
      refine T_if 46 33 rfl rfl rfl ⟨by decide, by decide⟩ (fun _ => ?_) (fun h4 => absurd (show (0 : Int) = 0 by decide) h4)
      refine T_ld 47 .null rfl (fun _ => rfl) ?_
      refine T_ret rfl (fun _ => rfl) ?_
      exact Or.inl rfl
    · skip
      refine T_ld 13 (.int (i32 i)) rfl (fun _ => rfl) ?_
      refine T_ld 14 (.ref 185) rfl (fun _ => rfl) ?_
      refine K_gf 17 (.int (i32 (m.1 234))) rfl rfl kd_185 rfl rfl rfl ?_
      refine T_ld 19 (.int (i32 64)) rfl (fun _ => rfl) ?_
      refine T_isub 20 rfl rfl ?_
      refine T_icmp 27 23 rfl rfl rfl (r32 (by omega) (by omega)) (r32 (by omega) (by omega)) (fun (h5 : i < (m.1 234) - 64) => ?_) (fun (h5 : ¬ (i < (m.1 234) - 64)) => ?_)
      · skip
        refine T_ld 28 (.int (i32 0)) rfl (fun _ => rfl) ?_
        refine T_sto 29 [(2, .int (i32 0)), (0, .ref 185), (1, .int (i32 i))] rfl (fun _ => rfl) ?_
        refine T_ld 30 (.int (i32 0)) rfl (fun _ => rfl) ?_
        refine T_if 46 33 rfl rfl rfl ⟨by decide, by decide⟩ (fun _ => ?_) (fun h6 => absurd (show (0 : Int) = 0 by decide) h6)
        refine T_ld 47 .null rfl (fun _ => rfl) ?_
        refine T_ret rfl (fun _ => rfl) ?_
        exact Or.inl rfl
      · skip
        refine T_ld 24 (.int (i32 1)) rfl (fun _ => rfl) ?_
        refine T_goto 28 rfl (fun _ => rfl) ?_
        refine T_sto 29 [(2, .int (i32 1)), (0, .ref 185), (1, .int (i32 i))] rfl (fun _ => rfl) ?_
        refine T_ld 30 (.int (i32 1)) rfl (fun _ => rfl) ?_
        refine T_if 46 33 rfl rfl rfl ⟨by decide, by decide⟩ (fun h7 => absurd (show (1 : Int) = 0 from h7) (by decide)) (fun _ => ?_)
        refine T_ld 34 (.ref 185) rfl (fun _ => rfl) ?_
        refine K_gf 37 (.ref 186) rfl rfl kd_185 rfl rfl rfl ?_
        refine T_ld 38 (.int (i32 i)) rfl (fun _ => rfl) ?_
        refine T_ld 41 (.int (i32 128)) rfl (fun _ => rfl) ?_
        refine T_irem 42 rfl rfl (by omega) (by omega) (by omega) (by omega) ?_
        refine K_aaopF 43 (m.2 107) rfl rfl (by omega) (by omega) hT rfl (fun h9 => ?_) (fun ok8 => ?_)
        · skip
          refine T_goto 47 rfl (fun _ => rfl) ?_
          refine T_ret rfl (fun _ => rfl) ?_
          exact Or.inl rfl
        have ok10 : OKr m (i % 128) := OKr_c rfl.symm rfl.symm ok8
        refine T_goto 47 rfl (fun _ => rfl) ?_
        refine T_ret rfl (fun _ => rfl) ?_
        exact Or.inr ⟨(i % 128), ⟨by omega, by omega⟩, ok10, rfl⟩
def fF_pi_comer : List Nat := [232]
def fA_pi_comer : List Nat := [91, 92, 93, 94, 95, 96, 97, 98, 99, 100, 101, 102, 103, 104, 105, 106, 107, 108]
def Q_pi_comer (m : mR) (c : Nat → Option am_C) (N : Nat) : ag_Re af_T → Prop := fun R => (∃ (M : mR) (r : Int), KTy M ∧ fr fF_pi_comer fA_pi_comer m M ∧ (0 ≤ r ∧ r ≤ 127) ∧ OKr M r ∧ (r = (m.1 232) % 128) ∧ ((M.1 232) = (m.1 232) + 1) ∧ (1 ≤ (M.2 107) r) ∧ (∀ v, v ≠ r → (M.2 107) v = (m.2 107) v) ∧ (∀ v, v ≠ r → (M.2 91) v = (m.2 91) v ∧ (M.2 92) v = (m.2 92) v ∧ (M.2 94) v = (m.2 94) v) ∧ (∀ g, (M.2 106) g = (m.2 106) g ∨ (M.2 106) g < 0) ∧ (∀ g, kopi (M.2 106) (M.2 107) g = kopi (m.2 106) (m.2 107) g) ∧ (∀ v, v ≠ r → (M.2 95) v = (m.2 95) v ∧ (M.2 96) v = (m.2 96) v ∧ (M.2 97) v = (m.2 97) v) ∧ (∀ j, j < 65536 * r ∨ 65536 * r + 65536 ≤ j → (M.2 103) j = (m.2 103) j ∧ (M.2 104) j = (m.2 104) j ∧ (M.2 105) j = (m.2 105) j) ∧ (∀ v, v ≠ r → (M.2 93) v = (m.2 93) v ∧ (M.2 98) v = (m.2 98) v ∧ (M.2 99) v = (m.2 99) v) ∧ (∀ j, j < 65536 * r ∨ 65536 * r + 65536 ≤ j → (M.2 100) j = (m.2 100) j ∧ (M.2 101) j = (m.2 101) j ∧ (M.2 102) j = (m.2 102) j) ∧ ∃ (N2 k9 n9 : Nat), (N ≤ N2 ∧ N2 ≤ N + 7 ∧ k9 ≤ 7 ∧ n9 ≤ 1192) ∧ FRp N2 M ∧ R = (.inl (some (.ref (obq (M.2 107) r))), (khp M c, N2), k9, n9))
set_option maxHeartbeats 3000000 in
theorem c_pi_comer (w : wX) (m : mR) (c : Nat → Option am_C) (N D : Nat) (hD : 2 ≤ D) (hT : KTy m) (hFR : FRp N m) (hNN : 327 ≤ N ∧ N ≤ 8100) (p2 : (m.1 232) ≤ 999999) : TC w D 163 [.ref 185] (khp m c, N) (Q_pi_comer m c N) := by
  obtain ⟨D, rfl⟩ : ∃ k, D = k + 1 := ⟨D - 1, by omega⟩
  have f232 : 0 ≤ m.1 232 ∧ m.1 232 ≤ 1000000 := hT.1 232
  refine Tc_of rfl ?_
  rw [show (khp m c, N) = (khp (mO m [] []) c, N) from by rw [mO_nil m]]
  show TT w D pm_163 (0, [(0, .ref 185)], [], (khp (mO m [] []) c, N), 0, 0) (Q_pi_comer m c N)
  refine T_ld 1 (.ref 185) rfl (fun _ => rfl) ?_
  refine K_gf 4 (.int (i32 (m.1 232))) rfl rfl kd_185 rfl rfl rfl ?_
  refine T_ld 7 (.int (i32 128)) rfl (fun _ => rfl) ?_
  refine T_irem 8 rfl rfl (by omega) (by omega) (by omega) (by omega) ?_
  refine T_sto 9 [(1, .int (i32 ((m.1 232) % 128))), (0, .ref 185)] rfl (fun _ => rfl) ?_
  refine T_ld 10 (.ref 185) rfl (fun _ => rfl) ?_
  refine K_gf 13 (.ref 186) rfl rfl kd_185 rfl rfl rfl ?_
  refine T_ld 14 (.int (i32 ((m.1 232) % 128))) rfl (fun _ => rfl) ?_
  refine K_aaopF 15 (m.2 107) rfl rfl (by omega) (by omega) hT rfl (fun h2 => ?_) (fun ok1 => ?_)
  · skip
    refine T_pop 18 rfl (fun _ => rfl) ?_
    refine T_ld 19 (.ref 185) rfl (fun _ => rfl) ?_
    refine K_gf 22 (.ref 186) rfl rfl kd_185 rfl rfl rfl ?_
    refine T_ld 23 (.int (i32 ((m.1 232) % 128))) rfl (fun _ => rfl) ?_
    refine K_newop (by omega) hT hFR h2 (by omega) (by omega) hNN (fun m3 Tm3 Fm3 h4 h5 h6 h7 h8 h9 h10 => ?_)
    have hNo := h6
    have hNi := h7
    have hNb := h8
    have hNk := h9
    have hNv := h10
    refine T_ld 32 (.ref 185) rfl (fun _ => rfl) ?_
    refine T_ld 33 (.ref 185) rfl (fun _ => rfl) ?_
    refine K_gf 36 (.int (i32 (m.1 232))) rfl rfl kd_185 rfl (kval_c2 (k := 232) (F := fun x => .int (i32 x)) rfl (show (m3.1 232) = (m.1 232) from (fr1 Fm3 232 rfl))) rfl ?_
    refine T_ld 37 (.int (i32 1)) rfl (fun _ => rfl) ?_
    refine T_iadd 38 rfl rfl ?_
    refine K_pf (l' := [(232, (m.1 232) + 1)]) 41 ((m.1 232) + 1) rfl rfl kd_185 rfl rfl rfl rfl rfl rfl rfl ?_
    have g11 : 0 ≤ (m.1 232) + 1 ∧ (m.1 232) + 1 ≤ 1000000 := ⟨by omega, by omega⟩
    refine T_ld 42 (.ref 185) rfl (fun _ => rfl) ?_
    refine K_gf 45 (.ref 186) rfl rfl kd_185 rfl rfl rfl ?_
    refine T_ld 46 (.int (i32 ((m.1 232) % 128))) rfl (fun _ => rfl) ?_
    refine K_aaopO 47 rfl rfl h4 rfl ?_
    refine T_ret rfl (fun _ => rfl) ?_
    exact ⟨(mO m3 [(232, (m.1 232) + 1)] []), ((m.1 232) % 128), (KTy_mO Tm3 rfl rfl ⟨g11, trivial⟩ trivial), (fr_m (fr_s Fm3 (fr_m fr_0 rfl rfl) rfl rfl) rfl rfl), ⟨by omega, by omega⟩, h4, (show ((m.1 232) % 128) = (m.1 232) % 128 by rfl), (show ((m.1 232) + 1) = (m.1 232) + 1 by omega), (show 1 ≤ (m3.2 107) ((m.1 232) % 128) by first | exact OKr_b (by assumption) | exact OKr_b2 (by assumption)), (show ∀ v, v ≠ ((m.1 232) % 128) → (m3.2 107) v = (m.2 107) v by first | exact fun v _ => rfl | exact hNb), (show ∀ v, v ≠ ((m.1 232) % 128) → (m3.2 91) v = (m.2 91) v ∧ (m3.2 92) v = (m.2 92) v ∧ (m3.2 94) v = (m.2 94) v by first | exact fun v _ => ⟨rfl, rfl, rfl⟩ | exact fun v h => ⟨hNo 91 v (by decide) (by decide) h, hNo 92 v (by decide) (by decide) h, hNo 94 v (by decide) (by decide) h⟩), (show ∀ g, (m3.2 106) g = (m.2 106) g ∨ (m3.2 106) g < 0 by first | exact fun g => Or.inl rfl | exact hNi), (show ∀ g, kopi (m3.2 106) (m3.2 107) g = kopi (m.2 106) (m.2 107) g by first | exact fun g => rfl | exact hNk), (show ∀ v, v ≠ ((m.1 232) % 128) → (m3.2 95) v = (m.2 95) v ∧ (m3.2 96) v = (m.2 96) v ∧ (m3.2 97) v = (m.2 97) v by first | exact fun v _ => ⟨rfl, rfl, rfl⟩ | exact fun v h => ⟨hNo 95 v (by decide) (by decide) h, hNo 96 v (by decide) (by decide) h, hNo 97 v (by decide) (by decide) h⟩), (show ∀ j, j < 65536 * ((m.1 232) % 128) ∨ 65536 * ((m.1 232) % 128) + 65536 ≤ j → (m3.2 103) j = (m.2 103) j ∧ (m3.2 104) j = (m.2 104) j ∧ (m3.2 105) j = (m.2 105) j by first | exact fun j _ => ⟨rfl, rfl, rfl⟩ | exact fun j h => ⟨hNv 103 j (by decide) (by decide) h, hNv 104 j (by decide) (by decide) h, hNv 105 j (by decide) (by decide) h⟩), (show ∀ v, v ≠ ((m.1 232) % 128) → (m3.2 93) v = (m.2 93) v ∧ (m3.2 98) v = (m.2 98) v ∧ (m3.2 99) v = (m.2 99) v by first | exact fun v _ => ⟨rfl, rfl, rfl⟩ | exact fun v h => ⟨hNo 93 v (by decide) (by decide) h, hNo 98 v (by decide) (by decide) h, hNo 99 v (by decide) (by decide) h⟩), (show ∀ j, j < 65536 * ((m.1 232) % 128) ∨ 65536 * ((m.1 232) % 128) + 65536 ≤ j → (m3.2 100) j = (m.2 100) j ∧ (m3.2 101) j = (m.2 101) j ∧ (m3.2 102) j = (m.2 102) j by first | exact fun j _ => ⟨rfl, rfl, rfl⟩ | exact fun j h => ⟨hNv 100 j (by decide) (by decide) h, hNv 101 j (by decide) (by decide) h, hNv 102 j (by decide) (by decide) h⟩), _, _, _, ⟨by omega, by omega, by omega, by omega⟩, h5, rfl⟩
  have ok12 : OKr m ((m.1 232) % 128) := OKr_c rfl.symm rfl.symm ok1
  refine T_pop 31 rfl (fun _ => rfl) ?_
  refine T_ld 32 (.ref 185) rfl (fun _ => rfl) ?_
  refine T_ld 33 (.ref 185) rfl (fun _ => rfl) ?_
  refine K_gf 36 (.int (i32 (m.1 232))) rfl rfl kd_185 rfl rfl rfl ?_
  refine T_ld 37 (.int (i32 1)) rfl (fun _ => rfl) ?_
  refine T_iadd 38 rfl rfl ?_
  refine K_pf (l' := [(232, (m.1 232) + 1)]) 41 ((m.1 232) + 1) rfl rfl kd_185 rfl rfl rfl rfl rfl rfl rfl ?_
  have g13 : 0 ≤ (m.1 232) + 1 ∧ (m.1 232) + 1 ≤ 1000000 := ⟨by omega, by omega⟩
  refine T_ld 42 (.ref 185) rfl (fun _ => rfl) ?_
  refine K_gf 45 (.ref 186) rfl rfl kd_185 rfl rfl rfl ?_
  refine T_ld 46 (.int (i32 ((m.1 232) % 128))) rfl (fun _ => rfl) ?_
  refine K_aaopO 47 rfl rfl ok12 rfl ?_
  refine T_ret rfl (fun _ => rfl) ?_
  exact ⟨(mO m [(232, (m.1 232) + 1)] []), ((m.1 232) % 128), (KTy_mO hT rfl rfl ⟨g13, trivial⟩ trivial), (fr_m fr_0 rfl rfl), ⟨by omega, by omega⟩, ok12, (show ((m.1 232) % 128) = (m.1 232) % 128 by rfl), (show ((m.1 232) + 1) = (m.1 232) + 1 by omega), (show 1 ≤ (m.2 107) ((m.1 232) % 128) by first | exact OKr_b (by assumption) | exact OKr_b2 (by assumption)), (show ∀ v, v ≠ ((m.1 232) % 128) → (m.2 107) v = (m.2 107) v by first | exact fun v _ => rfl | exact hNb), (show ∀ v, v ≠ ((m.1 232) % 128) → (m.2 91) v = (m.2 91) v ∧ (m.2 92) v = (m.2 92) v ∧ (m.2 94) v = (m.2 94) v by first | exact fun v _ => ⟨rfl, rfl, rfl⟩ | exact fun v h => ⟨hNo 91 v (by decide) (by decide) h, hNo 92 v (by decide) (by decide) h, hNo 94 v (by decide) (by decide) h⟩), (show ∀ g, (m.2 106) g = (m.2 106) g ∨ (m.2 106) g < 0 by first | exact fun g => Or.inl rfl | exact hNi), (show ∀ g, kopi (m.2 106) (m.2 107) g = kopi (m.2 106) (m.2 107) g by first | exact fun g => rfl | exact hNk), (show ∀ v, v ≠ ((m.1 232) % 128) → (m.2 95) v = (m.2 95) v ∧ (m.2 96) v = (m.2 96) v ∧ (m.2 97) v = (m.2 97) v by first | exact fun v _ => ⟨rfl, rfl, rfl⟩ | exact fun v h => ⟨hNo 95 v (by decide) (by decide) h, hNo 96 v (by decide) (by decide) h, hNo 97 v (by decide) (by decide) h⟩), (show ∀ j, j < 65536 * ((m.1 232) % 128) ∨ 65536 * ((m.1 232) % 128) + 65536 ≤ j → (m.2 103) j = (m.2 103) j ∧ (m.2 104) j = (m.2 104) j ∧ (m.2 105) j = (m.2 105) j by first | exact fun j _ => ⟨rfl, rfl, rfl⟩ | exact fun j h => ⟨hNv 103 j (by decide) (by decide) h, hNv 104 j (by decide) (by decide) h, hNv 105 j (by decide) (by decide) h⟩), (show ∀ v, v ≠ ((m.1 232) % 128) → (m.2 93) v = (m.2 93) v ∧ (m.2 98) v = (m.2 98) v ∧ (m.2 99) v = (m.2 99) v by first | exact fun v _ => ⟨rfl, rfl, rfl⟩ | exact fun v h => ⟨hNo 93 v (by decide) (by decide) h, hNo 98 v (by decide) (by decide) h, hNo 99 v (by decide) (by decide) h⟩), (show ∀ j, j < 65536 * ((m.1 232) % 128) ∨ 65536 * ((m.1 232) % 128) + 65536 ≤ j → (m.2 100) j = (m.2 100) j ∧ (m.2 101) j = (m.2 101) j ∧ (m.2 102) j = (m.2 102) j by first | exact fun j _ => ⟨rfl, rfl, rfl⟩ | exact fun j h => ⟨hNv 100 j (by decide) (by decide) h, hNv 101 j (by decide) (by decide) h, hNv 102 j (by decide) (by decide) h⟩), _, _, _, ⟨by omega, by omega, by omega, by omega⟩, hFR, rfl⟩
