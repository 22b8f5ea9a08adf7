/-! ===== AN OPERATION comes to the heap ===== -/
theorem up1_s {h : Nat → Option am_C} {q : Nat} {x : am_C} : up1 h q x q = some x := if_pos rfl
theorem up1_n {h : Nat → Option am_C} {q p : Nat} {x : am_C} (e : p ≠ q) : up1 h q x p = h p := if_neg e
section KNW
variable {w : wX} {D : Nat} {me : am_M} {Q : ag_Re af_T → Prop} {pc nc ns N : Nat} {lv : List (Nat × Value)} {st : List Value} {h : Nat → Option am_C}
theorem G_newa (pc' k : Nat) {at9 : ArrayType} {len ty x y : Nat} {n : Int} (hi : me.2.2.2.2.2 pc = some (.newarray at9, len, ty, x, y)) (ht : decide (ty < 4) = true) (h0 : (decide (0 ≤ n) && decide (n < 100000)) = true) (hk : n.toNat = k) (hN : N < 8192) (hp : pc + 2 = pc') (H : TT w D me (pc', lv, .ref N :: st, (up1 h N (.inl (ty, am_zero ty k)), N + 1), nc + 1, ns + k) Q) : TT w D me (pc, lv, .int (i32 n) :: st, (h, N), nc, ns) Q := by
  simp only [Bool.and_eq_true, decide_eq_true_eq] at h0
  subst hp hk
  obtain ⟨n1, n2⟩ := i32_nn h0.1 (by omega)
  refine Tm_step hi (fun call => ?_) H
  show ag_newa af_O 8192 ty (pc, lv, .int (i32 n) :: st, (h, N), nc, ns) = _
  unfold ag_newa
  dsimp only
  rw [if_pos ⟨of_decide_eq_true ht, n1, by rw [n2]; omega⟩, n2]
  unfold ag_mk
  rw [if_pos (show af_O.2.2.2 (h, N) < 8192 from hN)]
  rfl
theorem G_new (pc' : Nat) {idx len ci x : Nat} (fs : List Value) (hi : me.2.2.2.2.2 pc = some (.new idx, len, ci, x, 0)) (hf : (nm_E w.2.1 w.2.2.1 w.2.2.2).2.2.2.1 ci = fs) (hN : N < 8192) (hp : pc + 3 = pc') (H : TT w D me (pc', lv, .ref N :: st, (up1 h N (.inr (ci, fs)), N + 1), nc + 1, ns + fs.length) Q) : TT w D me (pc, lv, st, (h, N), nc, ns) Q := by
  subst hp hf
  refine Tm_step hi (fun call => ?_) H
  show ag_mk af_O 8192 _ _ (pc + 3) lv st (h, N) nc ns = _
  unfold ag_mk
  rw [if_pos (show af_O.2.2.2 (h, N) < 8192 from hN)]
  rfl
end KNW
def opd : List Value := [.null, .null, .null, .null, .null, .null, .int 0, .int 0, .int 0, .int 0, .int 0, .int 0, .int 0, .int 0, .int 0]
def opz (N : Nat) : List Value := [.ref N, .ref (N + 1), .ref (N + 2), .ref (N + 3), .ref (N + 4), .ref (N + 5), .int 0, .int 0, .int 0, .int 0, .int 0, .int 0, .int 0, .int 0, .int 0]
theorem op_up {h : Nat → Option am_C} {q N : Nat} {fs : List Value} {A : am_C} (hq : q < N) : up1 (up1 h N A) q (.inr (4, fs)) q = some (.inr (4, fs)) ∧ up1 (up1 h N A) q (.inr (4, fs)) N = some A ∧ ∀ p, p ≠ q → p ≠ N → up1 (up1 h N A) q (.inr (4, fs)) p = h p :=
  ⟨up1_s, by rw [up1_n (by omega), up1_s], fun p a b => by rw [up1_n a, up1_n b]⟩
set_option maxHeartbeats 4000000 in
theorem c_op_init (w : wX) (h : Nat → Option am_C) (N D q : Nat) (hD : 1 ≤ D) (hN : N + 6 ≤ 8192) (hq : q < N) (hc : h q = some (.inr (4, opd))) : TC w D 164 [.ref q] (h, N) (fun R => ∃ h', h' q = some (.inr (4, opz N)) ∧ (∀ i, i < 6 → h' (N + i) = some (.inl (oty i, am_zero (oty i) (oln i)))) ∧ (∀ p, p ≠ q → (p < N ∨ N + 6 ≤ p) → h' p = h p) ∧ R = (.inl none, (h', N + 6), 6, 1177)) := by
  obtain ⟨D, rfl⟩ : ∃ k, D = k + 1 := ⟨D - 1, by omega⟩
  refine Tc_of rfl ?_
  show TT w D pm_164 (0, [(0, .ref q)], [], (h, N), 0, 0) _
  refine T_ld 1 (.ref q) rfl (fun _ => rfl) ?_
  refine T_pop 4 rfl (fun _ => rfl) ?_
  refine T_ld 5 (.ref q) rfl (fun _ => rfl) ?_
  refine T_ld 8 (.int (i32 896)) rfl (fun _ => rfl) ?_
  refine G_newa 10 896 rfl rfl rfl rfl (by omega) rfl ?_
  refine G_putf 13 (fs := opd) (h' := up1 (up1 h (N) (.inl (2, am_zero 2 896))) q (.inr (4, [.ref N, .null, .null, .null, .null, .null, .int 0, .int 0, .int 0, .int 0, .int 0, .int 0, .int 0, .int 0, .int 0]))) rfl (by rw [up1_n (by omega)]; exact hc) (show 0 < 15 by decide) rfl rfl rfl ?_
  obtain ⟨a1, b1, c1⟩ := op_up (h := h) (q := q) (N := N) (fs := [.ref N, .null, .null, .null, .null, .null, .int 0, .int 0, .int 0, .int 0, .int 0, .int 0, .int 0, .int 0, .int 0]) (A := (.inl (2, am_zero 2 896))) (by omega)
  generalize up1 (up1 h (N) (.inl (2, am_zero 2 896))) q (.inr (4, [.ref N, .null, .null, .null, .null, .null, .int 0, .int 0, .int 0, .int 0, .int 0, .int 0, .int 0, .int 0, .int 0])) = h1 at a1 b1 c1 ⊢
  refine T_ld 14 (.ref q) rfl (fun _ => rfl) ?_
  refine T_ld 17 (.int (i32 221)) rfl (fun _ => rfl) ?_
  refine G_newa 19 221 rfl rfl rfl rfl (by omega) rfl ?_
  refine G_putf 22 (fs := [.ref N, .null, .null, .null, .null, .null, .int 0, .int 0, .int 0, .int 0, .int 0, .int 0, .int 0, .int 0, .int 0]) (h' := up1 (up1 h1 (N + 1) (.inl (1, am_zero 1 221))) q (.inr (4, [.ref N, .ref (N + 1), .null, .null, .null, .null, .int 0, .int 0, .int 0, .int 0, .int 0, .int 0, .int 0, .int 0, .int 0]))) rfl (by rw [up1_n (by omega)]; exact a1) (show 1 < 15 by decide) rfl rfl rfl ?_
  obtain ⟨a2, b2, c2⟩ := op_up (h := h1) (q := q) (N := N + 1) (fs := [.ref N, .ref (N + 1), .null, .null, .null, .null, .int 0, .int 0, .int 0, .int 0, .int 0, .int 0, .int 0, .int 0, .int 0]) (A := (.inl (1, am_zero 1 221))) (by omega)
  generalize up1 (up1 h1 (N + 1) (.inl (1, am_zero 1 221))) q (.inr (4, [.ref N, .ref (N + 1), .null, .null, .null, .null, .int 0, .int 0, .int 0, .int 0, .int 0, .int 0, .int 0, .int 0, .int 0])) = h2 at a2 b2 c2 ⊢
  refine T_ld 23 (.ref q) rfl (fun _ => rfl) ?_
  refine T_ld 25 (.int (i32 48)) rfl (fun _ => rfl) ?_
  refine G_newa 27 48 rfl rfl rfl rfl (by omega) rfl ?_
  refine G_putf 30 (fs := [.ref N, .ref (N + 1), .null, .null, .null, .null, .int 0, .int 0, .int 0, .int 0, .int 0, .int 0, .int 0, .int 0, .int 0]) (h' := up1 (up1 h2 (N + 2) (.inl (0, am_zero 0 48))) q (.inr (4, [.ref N, .ref (N + 1), .ref (N + 2), .null, .null, .null, .int 0, .int 0, .int 0, .int 0, .int 0, .int 0, .int 0, .int 0, .int 0]))) rfl (by rw [up1_n (by omega)]; exact a2) (show 2 < 15 by decide) rfl rfl rfl ?_
  obtain ⟨a3, b3, c3⟩ := op_up (h := h2) (q := q) (N := N + 2) (fs := [.ref N, .ref (N + 1), .ref (N + 2), .null, .null, .null, .int 0, .int 0, .int 0, .int 0, .int 0, .int 0, .int 0, .int 0, .int 0]) (A := (.inl (0, am_zero 0 48))) (by omega)
  generalize up1 (up1 h2 (N + 2) (.inl (0, am_zero 0 48))) q (.inr (4, [.ref N, .ref (N + 1), .ref (N + 2), .null, .null, .null, .int 0, .int 0, .int 0, .int 0, .int 0, .int 0, .int 0, .int 0, .int 0])) = h3 at a3 b3 c3 ⊢
  refine T_ld 31 (.ref q) rfl (fun _ => rfl) ?_
  refine T_ld 32 (.int (i32 4)) rfl (fun _ => rfl) ?_
  refine G_newa 34 4 rfl rfl rfl rfl (by omega) rfl ?_
  refine G_putf 37 (fs := [.ref N, .ref (N + 1), .ref (N + 2), .null, .null, .null, .int 0, .int 0, .int 0, .int 0, .int 0, .int 0, .int 0, .int 0, .int 0]) (h' := up1 (up1 h3 (N + 3) (.inl (1, am_zero 1 4))) q (.inr (4, [.ref N, .ref (N + 1), .ref (N + 2), .ref (N + 3), .null, .null, .int 0, .int 0, .int 0, .int 0, .int 0, .int 0, .int 0, .int 0, .int 0]))) rfl (by rw [up1_n (by omega)]; exact a3) (show 3 < 15 by decide) rfl rfl rfl ?_
  obtain ⟨a4, b4, c4⟩ := op_up (h := h3) (q := q) (N := N + 3) (fs := [.ref N, .ref (N + 1), .ref (N + 2), .ref (N + 3), .null, .null, .int 0, .int 0, .int 0, .int 0, .int 0, .int 0, .int 0, .int 0, .int 0]) (A := (.inl (1, am_zero 1 4))) (by omega)
  generalize up1 (up1 h3 (N + 3) (.inl (1, am_zero 1 4))) q (.inr (4, [.ref N, .ref (N + 1), .ref (N + 2), .ref (N + 3), .null, .null, .int 0, .int 0, .int 0, .int 0, .int 0, .int 0, .int 0, .int 0, .int 0])) = h4 at a4 b4 c4 ⊢
  refine T_ld 38 (.ref q) rfl (fun _ => rfl) ?_
  refine T_ld 39 (.int (i32 4)) rfl (fun _ => rfl) ?_
  refine G_newa 41 4 rfl rfl rfl rfl (by omega) rfl ?_
  refine G_putf 44 (fs := [.ref N, .ref (N + 1), .ref (N + 2), .ref (N + 3), .null, .null, .int 0, .int 0, .int 0, .int 0, .int 0, .int 0, .int 0, .int 0, .int 0]) (h' := up1 (up1 h4 (N + 4) (.inl (1, am_zero 1 4))) q (.inr (4, [.ref N, .ref (N + 1), .ref (N + 2), .ref (N + 3), .ref (N + 4), .null, .int 0, .int 0, .int 0, .int 0, .int 0, .int 0, .int 0, .int 0, .int 0]))) rfl (by rw [up1_n (by omega)]; exact a4) (show 4 < 15 by decide) rfl rfl rfl ?_
  obtain ⟨a5, b5, c5⟩ := op_up (h := h4) (q := q) (N := N + 4) (fs := [.ref N, .ref (N + 1), .ref (N + 2), .ref (N + 3), .ref (N + 4), .null, .int 0, .int 0, .int 0, .int 0, .int 0, .int 0, .int 0, .int 0, .int 0]) (A := (.inl (1, am_zero 1 4))) (by omega)
  generalize up1 (up1 h4 (N + 4) (.inl (1, am_zero 1 4))) q (.inr (4, [.ref N, .ref (N + 1), .ref (N + 2), .ref (N + 3), .ref (N + 4), .null, .int 0, .int 0, .int 0, .int 0, .int 0, .int 0, .int 0, .int 0, .int 0])) = h5 at a5 b5 c5 ⊢
  refine T_ld 45 (.ref q) rfl (fun _ => rfl) ?_
  refine T_ld 46 (.int (i32 4)) rfl (fun _ => rfl) ?_
  refine G_newa 48 4 rfl rfl rfl rfl (by omega) rfl ?_
  refine G_putf 51 (fs := [.ref N, .ref (N + 1), .ref (N + 2), .ref (N + 3), .ref (N + 4), .null, .int 0, .int 0, .int 0, .int 0, .int 0, .int 0, .int 0, .int 0, .int 0]) (h' := up1 (up1 h5 (N + 5) (.inl (1, am_zero 1 4))) q (.inr (4, [.ref N, .ref (N + 1), .ref (N + 2), .ref (N + 3), .ref (N + 4), .ref (N + 5), .int 0, .int 0, .int 0, .int 0, .int 0, .int 0, .int 0, .int 0, .int 0]))) rfl (by rw [up1_n (by omega)]; exact a5) (show 5 < 15 by decide) rfl rfl rfl ?_
  obtain ⟨a6, b6, c6⟩ := op_up (h := h5) (q := q) (N := N + 5) (fs := [.ref N, .ref (N + 1), .ref (N + 2), .ref (N + 3), .ref (N + 4), .ref (N + 5), .int 0, .int 0, .int 0, .int 0, .int 0, .int 0, .int 0, .int 0, .int 0]) (A := (.inl (1, am_zero 1 4))) (by omega)
  generalize up1 (up1 h5 (N + 5) (.inl (1, am_zero 1 4))) q (.inr (4, [.ref N, .ref (N + 1), .ref (N + 2), .ref (N + 3), .ref (N + 4), .ref (N + 5), .int 0, .int 0, .int 0, .int 0, .int 0, .int 0, .int 0, .int 0, .int 0])) = h6 at a6 b6 c6 ⊢
  refine T_ret rfl (fun _ => rfl) ?_
  refine ⟨h6, a6, fun i hi => ?_, fun p p1 p2 => ?_, rfl⟩
  · match i, hi with
    | 0, _ => rw [c6 _ (by omega) (by omega), c5 _ (by omega) (by omega), c4 _ (by omega) (by omega), c3 _ (by omega) (by omega), c2 _ (by omega) (by omega)]; exact b1
    | 1, _ => rw [c6 _ (by omega) (by omega), c5 _ (by omega) (by omega), c4 _ (by omega) (by omega), c3 _ (by omega) (by omega)]; exact b2
    | 2, _ => rw [c6 _ (by omega) (by omega), c5 _ (by omega) (by omega), c4 _ (by omega) (by omega)]; exact b3
    | 3, _ => rw [c6 _ (by omega) (by omega), c5 _ (by omega) (by omega)]; exact b4
    | 4, _ => rw [c6 _ (by omega) (by omega)]; exact b5
    | 5, _ => exact b6
  · rw [c6 p p1 (by omega), c5 p p1 (by omega), c4 p p1 (by omega), c3 p p1 (by omega), c2 p p1 (by omega), c1 p p1 (by omega)]
/-- the record with a new operation in row n, at cell N -/
def opM (K : mR) (n N : Int) : mR := (K.1, fun k => if k = 106 then (fun j => if K.2 106 j = n then -1 else K.2 106 j) else if k = 107 then upI (K.2 107) n N else if k = 108 then (fun q => if N ≤ q ∧ q < N + 7 then 1 + 8 * n + (q - N) else K.2 108 q) else if 91 ≤ k ∧ k < 100 then upI (K.2 k) n 0 else if 100 ≤ k ∧ k < 106 then (fun i => if 65536 * n ≤ i ∧ i < 65536 * n + 65536 then 0 else K.2 k i) else K.2 k)
theorem opM6 {K : mR} {n N : Int} : (opM K n N).2 106 = fun j => if K.2 106 j = n then -1 else K.2 106 j := rfl
theorem opM7 {K : mR} {n N : Int} : (opM K n N).2 107 = upI (K.2 107) n N := rfl
theorem opM8 {K : mR} {n N : Int} : (opM K n N).2 108 = fun q => if N ≤ q ∧ q < N + 7 then 1 + 8 * n + (q - N) else K.2 108 q := rfl
theorem opMo {K : mR} {n N : Int} {k : Nat} (h : 91 ≤ k ∧ k < 100) : (opM K n N).2 k = upI (K.2 k) n 0 := by
  show (if k = 106 then _ else _) = _
  rw [if_neg (by omega), if_neg (by omega), if_neg (by omega), if_pos h]
theorem opMv {K : mR} {n N : Int} {k : Nat} (h : 100 ≤ k ∧ k < 106) : (opM K n N).2 k = fun i => if 65536 * n ≤ i ∧ i < 65536 * n + 65536 then 0 else K.2 k i := by
  show (if k = 106 then _ else _) = _
  rw [if_neg (by omega), if_neg (by omega), if_neg (by omega), if_neg (by omega), if_pos h]
theorem opMl {K : mR} {n N : Int} {k : Nat} (h : k < 91 ∨ 109 ≤ k) : (opM K n N).2 k = K.2 k := by
  show (if k = 106 then _ else _) = _
  rw [if_neg (by omega), if_neg (by omega), if_neg (by omega), if_neg (by omega), if_neg (by omega)]
def FRp (N : Nat) (K : mR) : Prop := ∀ q : Nat, N ≤ q → K.2 108 q ≤ 0
theorem FR_c {N : Nat} {K K' : mR} (h : K'.2 108 = K.2 108) (H : FRp N K) : FRp N K' := fun q hq => by
  rw [h]
  exact H q hq
theorem opM_FR {K : mR} {n : Int} {N : Nat} (H : FRp N K) : FRp (N + 7) (opM K n N) := fun q hq => by
  rw [opM8]
  show (if _ then _ else _) ≤ (0 : Int)
  rw [if_neg (by omega)]
  exact H q (by omega)
theorem opM_OK {K : mR} {n : Int} {N : Nat} (h0 : 0 ≤ n) (h1 : n < 128) (hN : 327 ≤ N) (hN2 : N + 7 ≤ 8192) : OKr (opM K n N) n := by
  refine ⟨h0, h1, ?_, ?_, fun j hj => ?_⟩
  · rw [opM7, upI_s]; omega
  · rw [opM7, upI_s]; omega
  · rw [opM7, upI_s, opM8]
    show (if _ then _ else _) = _
    rw [if_pos (by omega)]
    omega
theorem opM_KO {K : mR} {n : Int} {N : Nat} (H : KO K) (F : FRp N K) (hb : K.2 107 n = 0) (h0 : 0 ≤ n) (h1 : n < 128) (hN : 327 ≤ N) (hN2 : N + 7 ≤ 8192) : KO (opM K n N) := by
  obtain ⟨H1, H2, H3, H4⟩ := H
  refine ⟨fun p hp => ?_, fun r r0 r1 => ?_, fun p hp => ?_, fun p hp => ?_⟩
  · unfold obr
    rw [opM8] at hp ⊢
    rw [opM7]
    dsimp only at hp ⊢
    by_cases hc : (N : Int) ≤ p ∧ (p : Int) < N + 7
    · rw [if_pos hc]
      rw [show (1 + 8 * n + ((p : Int) - N) - 1) / 8 = n by omega, upI_s]
      omega
    · rw [if_neg hc] at hp ⊢
      have h9 := H1 p hp
      have hn : (K.2 108 p - 1) / 8 ≠ n := by
        intro e
        rw [e] at h9
        unfold obr at h9
        rw [hb] at h9
        have := H3 p (by omega)
        omega
      rw [upI_n hn]
      exact h9
  · by_cases hr : r = n
    · right
      rw [hr]
      exact opM_OK h0 h1 hN hN2
    · rw [opM7, upI_n hr]
      rcases H2 r r0 r1 with h | ⟨a1, a2, a3, a4, a5⟩
      · exact Or.inl h
      · right
        refine ⟨a1, a2, ?_, ?_, fun j hj => ?_⟩
        · rw [opM7, upI_n hr]; exact a3
        · rw [opM7, upI_n hr]; exact a4
        · rw [opM7, upI_n hr, opM8]
          dsimp only
          rw [if_neg, a5 j hj]
          intro hc
          have e := a5 j hj
          have hz := F (K.2 107 r + j).toNat (by omega)
          rw [show (((K.2 107 r + j).toNat : Nat) : Int) = K.2 107 r + j by omega] at hz
          omega
  · rw [opM8]
    dsimp only
    rw [if_neg (by omega)]
    exact H3 p hp
  · rw [opM8] at hp ⊢
    dsimp only at hp ⊢
    split
    · omega
    · next hc =>
      rw [if_neg hc] at hp
      exact H4 p hp
def kz0 : Bool := (List.range 15).all (fun i => decide (kelo (91 + i) ≤ 0) && decide (0 ≤ kehi (91 + i)))
theorem kz0_ok : kz0 = true := by decide +kernel
theorem kz_r {k : Nat} (h : 91 ≤ k ∧ k < 106) : kelo k ≤ 0 ∧ 0 ≤ kehi k := by
  have h1 := List.all_eq_true.mp kz0_ok (k - 91) (List.mem_range.mpr (by omega))
  rw [show 91 + (k - 91) = k by omega] at h1
  simpa using h1
theorem opM_Ty {K : mR} {n : Int} {N : Nat} (H : KTy K) (F : FRp N K) (hb : K.2 107 n = 0) (h0 : 0 ≤ n) (h1 : n < 128) (hN : 327 ≤ N) (hN2 : N + 7 ≤ 8192) : KTy (opM K n N) := by
  obtain ⟨T1, T2, T3⟩ := H
  refine ⟨T1, fun k i => ?_, opM_KO T3 F hb h0 h1 hN hN2⟩
  by_cases h6 : k = 106
  · subst h6
    rw [opM6]
    dsimp only
    have e1 : kelo 106 = -1 := by decide +kernel
    have e2 : kehi 106 = 127 := by decide +kernel
    split
    · omega
    · exact T2 106 i
  · by_cases h7 : k = 107
    · subst h7
      rw [opM7]
      have e1 : kelo 107 = 0 := by decide +kernel
      have e2 : kehi 107 = 900000 := by decide +kernel
      by_cases hi : i = n
      · rw [hi, upI_s]; omega
      · rw [upI_n hi]; exact T2 107 i
    · by_cases h8 : k = 108
      · subst h8
        rw [opM8]
        dsimp only
        have e1 : kelo 108 = 0 := by decide +kernel
        have e2 : kehi 108 = 1030 := by decide +kernel
        split
        · omega
        · exact T2 108 i
      · by_cases ho : 91 ≤ k ∧ k < 100
        · rw [opMo ho]
          by_cases hi : i = n
          · rw [hi, upI_s]; exact kz_r (by omega)
          · rw [upI_n hi]; exact T2 k i
        · by_cases hv : 100 ≤ k ∧ k < 106
          · rw [opMv hv]
            dsimp only
            split
            · exact kz_r (by omega)
            · exact T2 k i
          · rw [opMl (by omega)]
            exact T2 k i
theorem opM_kor {K : mR} {n : Int} {N : Nat} {r : Int} (h : r ≠ n) : kor (opM K n N) r = kor K r := by
  unfold kor
  rw [opM7, upI_n h]
theorem opM_fx {K : mR} {n : Int} {N : Nat} {p : Nat} (hp : p < 189) (h6 : (kdt p).1 ≠ 6) (hb : K.2 107 n = 0) : kfx (opM K n N) (kdt p) = kfx K (kdt p) := by
  rcases hd : kdt p with ⟨d, ci, xs⟩
  rw [hd] at h6
  unfold kfx
  split
  · next c2 xs2 he =>
    congr 2
  · next n2 k xs2 he =>
    cases he
    have hk := kowA hp hd (by decide) (by decide) List.mem_cons_self
    exact kar_c (opMl (by omega))
  · next n2 k xs2 he =>
    cases he
    have hk := kowA hp hd (by decide) (by decide) List.mem_cons_self
    exact kar_c (opMl (by omega))
  · next n2 k xs2 he =>
    cases he
    have hk := kowA hp hd (by decide) (by decide) List.mem_cons_self
    exact kar_c (opMl (by omega))
  · rfl
  · next he =>
    cases he
    exact absurd rfl h6
  · congr 7
    funext j
    by_cases e : K.2 106 j = n
    · have e6 : (opM K n N).2 106 j = -1 := if_pos e
      rw [e6, e, if_pos (by decide)]
      split
      · rfl
      · unfold kor
        rw [if_pos (by omega)]
    · have e6 : (opM K n N).2 106 j = K.2 106 j := if_neg e
      rw [e6, opM_kor e]
  · rfl
def kch6 : Bool := (List.range 189).all (fun p => !(Nat.beq (kdt p).1 6) || Nat.beq p 186)
theorem kch6_ok : kch6 = true := by decide +kernel
theorem kow6 {p : Nat} (hp : p < 189) (h : p ≠ 186) : (kdt p).1 ≠ 6 := fun e => by
  have h1 := List.all_eq_true.mp kch6_ok p (List.mem_range.mpr hp)
  rw [e] at h1
  rcases Bool.or_eq_true_iff.mp h1 with h2 | h2
  · exact absurd h2 (by decide)
  · exact h (Nat.eq_of_beq_eq_true h2)
theorem opM_hp {K : mR} {c : Nat → Option am_C} {n : Int} {N : Nat} {h' : Nat → Option am_C} (H : KO K) (hb : K.2 107 n = 0) (h0 : 0 ≤ n) (h1 : n < 128) (hN : 327 ≤ N)
    (e0 : h' N = some (.inr (4, opz (N + 1)))) (e1 : ∀ i, i < 6 → h' (N + 1 + i) = some (.inl (oty i, am_zero (oty i) (oln i)))) (e2 : ∀ p, p < N ∨ N + 7 ≤ p → h' p = khp K c p) :
    up1 h' 186 (.inl (5, 128, .inr (.inr (.inr (.inr (va_up (fun j : Nat => kor K j) n.toNat (some N))))))) = khp (opM K n N) c := by
  funext p
  by_cases hp : p = 186
  · rw [hp, up1_s, khp_lo _ c (by omega), klo_fx _ (by decide), kd_186]
    show _ = some (Sum.inl (5, 128, Sum.inr (Sum.inr (Sum.inr (Sum.inr fun j : Nat => kor (opM K n N) j)))))
    congr 8
    funext j
    by_cases hj : j = n.toNat
    · rw [hj, va_up_self, show ((n.toNat : Nat) : Int) = n by omega]
      unfold kor
      rw [opM7, upI_s, if_neg (by omega)]
      congr 1
    · rw [va_up_ne _ _ hj, opM_kor (by omega)]
  · rw [up1_n hp]
    by_cases hN9 : N ≤ p ∧ p < N + 7
    · have hk : khp (opM K n N) c p = some (kob (opM K n N) n (p - N)) := by
        have e8 : (opM K n N).2 108 p = 1 + 8 * n + ((p : Int) - N) := if_pos (show (N : Int) ≤ p ∧ (p : Int) < N + 7 by omega)
        unfold khp
        rw [if_neg (by omega), e8, if_pos (by omega), show (1 + 8 * n + ((p : Int) - N) - 1) / 8 = n by omega, show ((1 + 8 * n + ((p : Int) - N) - 1) % 8).toNat = p - N by omega]
      rw [hk]
      obtain ⟨j, rfl⟩ : ∃ j, p = N + j := ⟨p - N, by omega⟩
      rw [show N + j - N = j by omega]
      match j, hN9 with
      | 0, _ =>
        rw [show N + 0 = N by omega, e0]
        show some (Sum.inr (4, opz (N + 1))) = some (Sum.inr (4, kof (opM K n N) n))
        congr 3
        unfold kof opz
        show _ = [kov _ n 0, kov _ n 1, kov _ n 2, kov _ n 3, kov _ n 4, kov _ n 5, kov _ n 6, kov _ n 7, kov _ n 8, kov _ n 9, kov _ n 10, kov _ n 11, kov _ n 12, kov _ n 13, kov _ n 14]
        have r : ∀ i, i < 6 → kov (opM K n N) n i = .ref (N + 1 + i) := fun i hi => by
          unfold kov
          rw [if_pos hi, opM7, upI_s]
          congr 1
        have z : ∀ i, 6 ≤ i → i < 15 → kov (opM K n N) n i = .int 0 := fun i hi hi2 => by
          unfold kov
          rw [if_neg (by omega), opMo (by omega), upI_s]
          rfl
        rw [r 0 (by decide), r 1 (by decide), r 2 (by decide), r 3 (by decide), r 4 (by decide), r 5 (by decide), z 6 (by decide) (by decide), z 7 (by decide) (by decide), z 8 (by decide) (by decide), z 9 (by decide) (by decide), z 10 (by decide) (by decide), z 11 (by decide) (by decide), z 12 (by decide) (by decide), z 13 (by decide) (by decide), z 14 (by decide) (by decide)]
      | i + 1, hj =>
        rw [show N + (i + 1) = N + 1 + i by omega, e1 i (by omega)]
        show _ = some (kar1 (opM K n N) (oty i) (oln i) (100 + i) n)
        have za : ka1 (opM K n N) (100 + i) n = fun _ => 0 := by
          funext j
          unfold ka1
          rw [opMv (by omega)]
          dsimp only
          split
          · rw [if_pos (by omega)]
          · rfl
        unfold kar1
        rw [za]
        have hi6 : i < 6 := by omega
        match i, hi6 with
        | 0, _ => rfl
        | 1, _ => rfl
        | 2, _ => rfl
        | 3, _ => rfl
        | 4, _ => rfl
        | 5, _ => rfl
    · rw [e2 p (by omega)]
      unfold khp
      by_cases h9 : p < 189
      · rw [if_pos h9, if_pos h9]
        unfold klo
        split
        · next h => exact congrArg some (ktb_c (by omega) (fun _ i hi => by rw [opMl (by omega)]) (fun i e n _ => by rw [opMl (by omega)])).symm
        · rw [opM_fx h9 (kow6 h9 hp) hb]
      · have e8 : (opM K n N).2 108 p = K.2 108 p := if_neg (show ¬ ((N : Int) ≤ p ∧ (p : Int) < N + 7) by omega)
        rw [if_neg h9, if_neg h9, e8]
        split
        · next hpos =>
          have hup := H.1 p hpos
          have hn : (K.2 108 p - 1) / 8 ≠ n := by
            intro e
            rw [e] at hup
            unfold obr at hup
            rw [hb] at hup
            omega
          congr 1
          generalize (K.2 108 p - 1) / 8 = r at hn ⊢
          have hj8 : ((K.2 108 p - 1) % 8).toNat < 7 := by have := H.2.2.2 p hpos; omega
          generalize ((K.2 108 p - 1) % 8).toNat = j at hj8 ⊢
          unfold kob
          match j, hj8 with
          | 0, _ =>
            show Sum.inr (4, kof K r) = Sum.inr (4, kof (opM K n N) r)
            congr 2
            unfold kof
            apply List.map_congr_left
            intro i hi
            have := List.mem_range.mp hi
            unfold kov
            split
            · rw [opM7, upI_n hn]
            · rw [opMo (by omega), upI_n hn]
          | i + 1, h8 =>
            show kar1 K (oty i) (oln i) (100 + i) r = kar1 (opM K n N) (oty i) (oln i) (100 + i) r
            refine (kar1_c (fun x hx => ?_)).symm
            rw [opMv (by omega)]
            dsimp only
            rw [if_neg (by omega)]
        · rfl

def kopi (f g : Int → Int) (n : Int) : Int := if f n < 0 then -1 else if g (f n) ≤ 0 then -1 else f n
theorem kopi_M {f h : Int → Int} {n N g : Int} (hb : h n = 0) (n0 : 0 ≤ n) : kopi (fun j => if f j = n then -1 else f j) (upI h n N) g = kopi f h g := by
  have key : ∀ F : Int → Int, F g = (if f g = n then -1 else f g) → kopi F (upI h n N) g = kopi f h g := by
    intro F hF
    unfold kopi
    by_cases e : f g = n
    · rw [if_pos e] at hF
      rw [hF, if_pos (show (-1 : Int) < 0 by decide), e, if_neg (show ¬ n < 0 by omega), hb, if_pos (show (0 : Int) ≤ 0 by decide)]
    · rw [if_neg e] at hF
      rw [hF, upI_n e]
  exact key _ rfl
section KNO
variable {w : wX} {D : Nat} {Q : ag_Re af_T → Prop} {nc ns N : Nat} {lv : List (Nat × Value)} {c : Nat → Option am_C} {m : mR} {l : List (Nat × Int)} {a : List (Nat × (Int → Int))}
def fNo : List Nat := [91, 92, 93, 94, 95, 96, 97, 98, 99, 100, 101, 102, 103, 104, 105, 106, 107, 108]
theorem K_newop {n : Int} (hD : 1 ≤ D) (hT : KTy (mO m l a)) (hF : FRp N (mO m l a)) (hb : (mO m l a).2 107 n = 0) (h0 : 0 ≤ n) (h1 : n < 128) (hN : 327 ≤ N ∧ N ≤ 8100)
    (H : ∀ M, KTy M → fr [] fNo (mO m l a) M → OKr M n → FRp (N + 7) M → (∀ k v, 91 ≤ k → k < 100 → v ≠ n → M.2 k v = (mO m l a).2 k v) → (∀ g, M.2 106 g = (mO m l a).2 106 g ∨ M.2 106 g < 0) → (∀ v, v ≠ n → M.2 107 v = (mO m l a).2 107 v) → (∀ g, kopi (M.2 106) (M.2 107) g = kopi ((mO m l a).2 106) ((mO m l a).2 107) g) → (∀ k j, 100 ≤ k → k < 106 → j < 65536 * n ∨ 65536 * n + 65536 ≤ j → M.2 k j = (mO m l a).2 k j) → TT w D pm_163 (31, lv, [], (khp (mO M [] []) c, N + 7), nc + 7, ns + 1192) Q) : TT w D pm_163 (23, lv, [.int (i32 n), .ref 186], (khp (mO m l a) c, N), nc, ns) Q := by
  obtain ⟨hN, hN2⟩ := hN
  have H := H (opM (mO m l a) n N) (opM_Ty hT hF hb h0 h1 hN (by omega)) ⟨fun k hk => rfl, fun k hk => opMl (by
    by_cases h9 : k < 91
    · exact Or.inl h9
    · right
      by_cases h8 : 109 ≤ k
      · exact h8
      · exfalso
        have : k = 91 ∨ k = 92 ∨ k = 93 ∨ k = 94 ∨ k = 95 ∨ k = 96 ∨ k = 97 ∨ k = 98 ∨ k = 99 ∨ k = 100 ∨ k = 101 ∨ k = 102 ∨ k = 103 ∨ k = 104 ∨ k = 105 ∨ k = 106 ∨ k = 107 ∨ k = 108 := by omega
        rcases this with rfl | rfl | rfl | rfl | rfl | rfl | rfl | rfl | rfl | rfl | rfl | rfl | rfl | rfl | rfl | rfl | rfl | rfl <;> exact absurd hk (by decide))⟩ (opM_OK h0 h1 hN (by omega)) (opM_FR hF) (fun k v k0 k1 hv => by rw [opMo ⟨k0, k1⟩, upI_n hv]) (fun g => by
      rw [opM6]
      dsimp only
      split
      · right; decide
      · exact Or.inl rfl) (fun v hv => by rw [opM7, upI_n hv]) (fun g => by
      rw [opM6, opM7]
      exact kopi_M hb h0) (fun k j k0 k1 hj => by
      rw [opMv ⟨k0, k1⟩]
      exact if_neg (fun q => by omega))
  rw [mO_nil] at H
  refine G_new 26 opd rfl rfl (by omega) rfl ?_
  refine T_ld 27 (.ref N) rfl (fun _ => rfl) ?_
  refine T_callx 30 164 [.ref N] [.ref N, .int (i32 n), .ref 186] rfl (fun _ => rfl) rfl rfl (c_op_init w _ (N + 1) D N hD (by omega) (by omega) up1_s) (fun r hr => ?_)
  obtain ⟨h', e0, e1, e2, rfl⟩ := hr
  refine Or.inl ⟨_, _, _, _, rfl, ?_⟩
  refine T_ns (st' := [.ref N, .int (i32 n), .ref 186]) rfl ?_
  have hc : h' 186 = some (kfx (mO m l a) (6, 128, [])) := by
    rw [e2 186 (by omega) (Or.inl (by omega)), up1_n (by omega), khp_lo _ c (by omega), klo_fx _ (by decide), kd_186]
  refine G_aast 31 rfl e0 hc h0 (by omega) (by omega) (opM_hp (c := c) hT.2.2 hb h0 h1 hN e0 e1 (fun p hp => ?_)) rfl ?_
  · rw [e2 p (by omega) (by omega), up1_n (by omega)]
  · rw [Nat.add_assoc N 1 6, Nat.add_assoc nc 1 6, Nat.add_assoc ns _ 1177]
    exact H
theorem K_aaopO (pc' : Nat) {me : am_M} {pc : Nat} {st : List Value} {len p p' p'' q : Nat} {n : Int} (hi : me.2.2.2.2.2 pc = some (.aaload, len, p, p', p'')) (hp : pc + 1 = pc') (hr : OKr (mO m l a) n) (hq : obr (mO m l a) n = q) (H : TT w D me (pc', lv, .ref q :: st, (khp (mO m l a) c, N), nc, ns) Q) : TT w D me (pc, lv, .int (i32 n) :: .ref 186 :: st, (khp (mO m l a) c, N), nc, ns) Q := by
  subst hq
  have h2 := hr.2.2.1
  exact K_aaop pc' _ hi hr.1 hr.2.1 (by unfold kor; rw [if_neg (by omega)]; rfl) hp H
theorem OKr_b {K : mR} {r : Int} (h : OKr K r) : 1 ≤ K.2 107 r := by
  have := h.2.2.1
  omega
theorem OKr_b2 {K : mR} {r : Int} (h : OKr (mO K [] []) r) : 1 ≤ K.2 107 r := OKr_b (K := mO K [] []) h
end KNO
