/-! ===== what heaps say of records ===== -/
section HEQ
variable {K1 K2 M1 M2 : mR} {c c' : Nat → Option am_C} {k n t : Nat}
theorem i32_inj {x y : Int} (hx : R32 x) (hy : R32 y) (h : i32 x = i32 y) : x = y := by
  rw [← i32_to hx, ← i32_to hy, h]
theorem i64_inj {x y : Int} (hx : R64 x) (hy : R64 y) (h : i64 x = i64 y) : x = y := by
  rw [← i64_to hx, ← i64_to hy, h]
theorem rV_inj {b : Bool} {x y : Int} (hx : rV b x) (hy : rV b y) (h0 : b = false → i32 x = i32 y) (h1 : b = true → i64 x = i64 y) : x = y := by
  cases b with
  | false => exact i32_inj hx hy (h0 rfl)
  | true => exact i64_inj hx hy (h1 rfl)
theorem kdt_a0 : ∀ k : Fin 72, kac k.val < 189 ∧ (decide (kac k.val < 74) || decide (178 ≤ kac k.val)) = true ∧ kdt (kac k.val) = (kaT k.val + 1, kaL k.val, [k.val]) ∧ ((kaT k.val = 1 ∧ klg k.val = true) ∨ ((kaT k.val = 0 ∨ kaT k.val = 2) ∧ klg k.val = false)) := by decide +kernel
theorem HKa (h : khp K1 c = khp K2 c') (hk : k < 72) (r1 : rV (klg k) (K1.2 k n)) (r2 : rV (klg k) (K2.2 k n)) : K1.2 k n = K2.2 k n := by
  obtain ⟨a1, a2, a3, a4⟩ := kdt_a0 ⟨k, hk⟩
  dsimp only at a1 a2 a3 a4
  have h1 := congrFun h (kac k)
  rw [khp_lo _ _ a1, khp_lo _ _ a1, klo_fx _ a2, klo_fx _ a2, a3] at h1
  have h1 := Option.some.inj h1
  rcases a4 with ⟨b1, b2⟩ | ⟨b1 | b1, b2⟩
  · rw [b1] at h1
    have h1 : kar K1 1 (kaL k) k = kar K2 1 (kaL k) k := h1
    have h2 : (fun j : Nat => i64 (K1.2 k j)) = (fun j : Nat => i64 (K2.2 k j)) := by
      injection h1 with h1
      injection h1 with _ h1
      injection h1 with _ h1
      injection h1 with h1
      injection h1
    exact rV_inj r1 r2 (fun q => by rw [b2] at q; cases q) (fun _ => congrFun h2 n)
  · rw [b1] at h1
    have h1 : kar K1 0 (kaL k) k = kar K2 0 (kaL k) k := h1
    have h2 : (fun j : Nat => i32 (K1.2 k j)) = (fun j : Nat => i32 (K2.2 k j)) := by
      injection h1 with h1
      injection h1 with _ h1
      injection h1 with _ h1
      injection h1
    exact rV_inj r1 r2 (fun _ => congrFun h2 n) (fun q => by rw [b2] at q; cases q)
  · rw [b1] at h1
    have h1 : kar K1 2 (kaL k) k = kar K2 2 (kaL k) k := h1
    have h2 : (fun j : Nat => i32 (K1.2 k j)) = (fun j : Nat => i32 (K2.2 k j)) := by
      injection h1 with h1
      injection h1 with _ h1
      injection h1 with _ h1
      injection h1
    exact rV_inj r1 r2 (fun _ => congrFun h2 n) (fun q => by rw [b2] at q; cases q)
theorem kdt_f0 : ∀ k : Fin 36, kow (200 + k.val) < 189 ∧ (decide (kow (200 + k.val) < 74) || decide (178 ≤ kow (200 + k.val))) = true ∧ (kdt (kow (200 + k.val))).1 = 0 ∧ (kdt (kow (200 + k.val))).2.2[koj (200 + k.val)]? = some (4 * (200 + k.val) + (if klg (200 + k.val) then 1 else 0)) := by decide +kernel
theorem kval_0 {K : mR} : kval K (4 * k) = .int (i32 (K.1 k)) := by
  unfold kval
  rw [show 4 * k % 4 = 0 by omega, show 4 * k / 4 = k by omega]
  rfl
theorem kval_1 {K : mR} : kval K (4 * k + 1) = .long (i64 (K.1 k)) := by
  unfold kval
  rw [show (4 * k + 1) % 4 = 1 by omega, show (4 * k + 1) / 4 = k by omega]
  rfl
theorem HKf (h : khp K1 c = khp K2 c') (hk : 200 ≤ k) (hk2 : k < 236) (r1 : rV (klg k) (K1.1 k)) (r2 : rV (klg k) (K2.1 k)) : K1.1 k = K2.1 k := by
  obtain ⟨a1, a2, a3, a4⟩ := kdt_f0 ⟨k - 200, by omega⟩
  dsimp only at a1 a2 a3 a4
  rw [show 200 + (k - 200) = k by omega] at a1 a2 a3 a4
  have h1 := congrFun h (kow k)
  rw [khp_lo _ _ a1, khp_lo _ _ a1, klo_fx _ a2, klo_fx _ a2] at h1
  have h1 := Option.some.inj h1
  have ed : ∃ ci xs, kdt (kow k) = (0, ci, xs) := ⟨(kdt (kow k)).2.1, (kdt (kow k)).2.2, by rw [← a3]⟩
  obtain ⟨ci, xs, ed⟩ := ed
  rw [ed] at h1 a4
  have h1 : (Sum.inr (ci, xs.map (kval K1)) : am_C) = Sum.inr (ci, xs.map (kval K2)) := h1
  have h2 : xs.map (kval K1) = xs.map (kval K2) := (Prod.mk.inj (Sum.inr.inj h1)).2
  have h3 := congrArg (fun l => l[koj k]?) h2
  dsimp only at h3 a4
  rw [List.getElem?_map, List.getElem?_map, a4] at h3
  have h4 := Option.some.inj h3
  cases hl : klg k with
  | false =>
    rw [hl] at h4 r1 r2
    rw [if_neg (by decide), Nat.add_zero, kval_0, kval_0] at h4
    exact i32_inj r1 r2 (Value.int.inj h4)
  | true =>
    rw [hl] at h4 r1 r2
    rw [if_pos rfl, kval_1, kval_1] at h4
    exact i64_inj r1 r2 (Value.long.inj h4)
theorem HKt (h : khp K1 c = khp K2 c') (ht : t < 8) (hk : 72 ≤ k) (hk2 : k < 79) (r1 : R32 (K1.2 k t)) (r2 : R32 (K2.2 k t)) : K1.2 k t = K2.2 k t := by
  have h1 := congrFun h (74 + 13 * t + 0)
  rw [khp_lo _ _ (by omega), khp_lo _ _ (by omega), klo_tb _ ht (by omega), klo_tb _ ht (by omega)] at h1
  have h1 := Option.some.inj h1
  have h1 : (Sum.inr (10, ktf K1 t) : am_C) = Sum.inr (10, ktf K2 t) := h1
  have h2 : ktf K1 t = ktf K2 t := (Prod.mk.inj (Sum.inr.inj h1)).2
  have h3 := congrArg (fun l => l[k - 60]?) h2
  unfold ktf at h3
  try dsimp only at h3
  rw [List.getElem?_map, List.getElem?_map, List.getElem?_range (by omega)] at h3
  have h4 := Option.some.inj h3
  unfold ktv at h4
  rw [if_neg (by omega), if_neg (by omega), show 60 + (k - 60) = k by omega] at h4
  exact i32_inj r1 r2 (Value.int.inj h4)
theorem tty_a0 : ∀ i : Fin 12, (tty i.val = 1 ∧ klg (79 + i.val) = true) ∨ (tty i.val = 0 ∧ klg (79 + i.val) = false) := by decide +kernel
theorem HKu (h : khp K1 c = khp K2 c') (ht : t < 8) (hn : n < 65536) (hk : 79 ≤ k) (hk2 : k < 91) (r1 : rV (klg k) (K1.2 k (65536 * (t : Int) + n))) (r2 : rV (klg k) (K2.2 k (65536 * (t : Int) + n))) : K1.2 k (65536 * (t : Int) + n) = K2.2 k (65536 * (t : Int) + n) := by
  have h1 := congrFun h (74 + 13 * t + ((k - 79) + 1))
  rw [khp_lo _ _ (by omega), khp_lo _ _ (by omega), klo_tb _ ht (by omega), klo_tb _ ht (by omega)] at h1
  have h1 := Option.some.inj h1
  have h1 : kar1 K1 (tty (k - 79)) (tln (k - 79)) (79 + (k - 79)) t = kar1 K2 (tty (k - 79)) (tln (k - 79)) (79 + (k - 79)) t := h1
  have a4 := tty_a0 ⟨k - 79, by omega⟩
  dsimp only at a4
  rw [show 79 + (k - 79) = k by omega] at h1 a4
  rcases a4 with ⟨b1, b2⟩ | ⟨b1, b2⟩
  · rw [b1] at h1
    have h2 : (fun j : Nat => i64 (ka1 K1 k t j)) = (fun j : Nat => i64 (ka1 K2 k t j)) := by
      injection h1 with h1
      injection h1 with _ h1
      injection h1 with _ h1
      injection h1 with h1
      injection h1
    have h3 := congrFun h2 n
    try dsimp only at h3
    unfold ka1 at h3
    rw [if_pos hn, if_pos hn] at h3
    exact rV_inj r1 r2 (fun q => by rw [b2] at q; cases q) (fun _ => h3)
  · rw [b1] at h1
    have h2 : (fun j : Nat => i32 (ka1 K1 k t j)) = (fun j : Nat => i32 (ka1 K2 k t j)) := by
      injection h1 with h1
      injection h1 with _ h1
      injection h1 with _ h1
      injection h1
    have h3 := congrFun h2 n
    try dsimp only at h3
    unfold ka1 at h3
    rw [if_pos hn, if_pos hn] at h3
    exact rV_inj r1 r2 (fun _ => h3) (fun q => by rw [b2] at q; cases q)
theorem mkd_0 : ∀ k : Fin 179, (mkd k.val = 0 ∧ lg k.val = false) ∨ (mkd k.val = 1 ∧ lg k.val = true) ∨ (mkd k.val = 2 ∧ lg k.val = false) ∨ (mkd k.val = 3 ∧ lg k.val = false ∧ 190 ≤ mcl k.val ∧ mcl k.val < 326 ∧ mar.getD (mcl k.val - 190) 0 = k.val) ∨ (mkd k.val = 4 ∧ lg k.val = true ∧ 190 ≤ mcl k.val ∧ mcl k.val < 326 ∧ mar.getD (mcl k.val - 190) 0 = k.val) ∨ (mkd k.val = 5 ∧ lg k.val = false ∧ 190 ≤ mcl k.val ∧ mcl k.val < 326 ∧ mar.getD (mcl k.val - 190) 0 = k.val) := by decide +kernel
theorem HMf (h : mhp M1 c = mhp M2 c') (hk : k < 179) (h3 : mkd k < 3) (r1 : rV (lg k) (M1.1 k)) (r2 : rV (lg k) (M2.1 k)) : M1.1 k = M2.1 k := by
  have h1 := congrFun h 189
  unfold mhp at h1
  rw [if_neg (by decide), if_pos rfl, if_neg (by decide), if_pos rfl] at h1
  have h2 : mfl M1 = mfl M2 := (Prod.mk.inj (Sum.inr.inj (Option.some.inj h1))).2
  have h4 := congrArg (fun l => l[k]?) h2
  unfold mfl at h4
  try dsimp only at h4
  rw [List.getElem?_map, List.getElem?_map, List.getElem?_range hk] at h4
  have h4 := Option.some.inj h4
  unfold mfv at h4
  have a := mkd_0 ⟨k, hk⟩
  dsimp only at a
  rcases a with ⟨a, b⟩ | ⟨a, b⟩ | ⟨a, b⟩ | ⟨a, -⟩ | ⟨a, -⟩ | ⟨a, -⟩
  · rw [a] at h4
    exact rV_inj r1 r2 (fun _ => Value.int.inj h4) (fun q => by rw [b] at q; cases q)
  · rw [a] at h4
    exact rV_inj r1 r2 (fun q => by rw [b] at q; cases q) (fun _ => Value.long.inj h4)
  · rw [a] at h4
    exact rV_inj r1 r2 (fun _ => Value.int.inj h4) (fun q => by rw [b] at q; cases q)
  · omega
  · omega
  · omega
theorem HMa (h : mhp M1 c = mhp M2 c') (hk : k < 179) (h3 : 3 ≤ mkd k) (r1 : rV (lg k) (M1.2 k n)) (r2 : rV (lg k) (M2.2 k n)) : M1.2 k n = M2.2 k n := by
  have a := mkd_0 ⟨k, hk⟩
  dsimp only at a
  have go : 190 ≤ mcl k → mcl k < 326 → mar.getD (mcl k - 190) 0 = k → mce M1 k = mce M2 k := by
    intro q1 q2 q3
    have h1 := congrFun h (mcl k)
    unfold mhp at h1
    rw [if_neg (by omega), if_neg (by omega), if_pos (by omega), if_neg (by omega), if_neg (by omega), if_pos (by omega), show mcl k - (189 + 1) = mcl k - 190 from rfl, q3] at h1
    exact Option.some.inj h1
  rcases a with ⟨a, -⟩ | ⟨a, -⟩ | ⟨a, -⟩ | ⟨a, b, c1, c2, c3⟩ | ⟨a, b, c1, c2, c3⟩ | ⟨a, b, c1, c2, c3⟩
  · omega
  · omega
  · omega
  · have h1 := go c1 c2 c3
    unfold mce at h1
    rw [a] at h1
    have h2 : (fun j : Nat => i32 (M1.2 k j)) = (fun j : Nat => i32 (M2.2 k j)) := Sum.inl.inj (Prod.mk.inj (Prod.mk.inj (Sum.inl.inj h1)).2).2
    exact rV_inj r1 r2 (fun _ => congrFun h2 n) (fun q => by rw [b] at q; cases q)
  · have h1 := go c1 c2 c3
    unfold mce at h1
    rw [a] at h1
    have h2 : (fun j : Nat => i64 (M1.2 k j)) = (fun j : Nat => i64 (M2.2 k j)) := Sum.inl.inj (Sum.inr.inj (Prod.mk.inj (Prod.mk.inj (Sum.inl.inj h1)).2).2)
    exact rV_inj r1 r2 (fun q => by rw [b] at q; cases q) (fun _ => congrFun h2 n)
  · have h1 := go c1 c2 c3
    unfold mce at h1
    rw [a] at h1
    have h2 : (fun j : Nat => i32 (M1.2 k j)) = (fun j : Nat => i32 (M2.2 k j)) := Sum.inl.inj (Prod.mk.inj (Prod.mk.inj (Sum.inl.inj h1)).2).2
    exact rV_inj r1 r2 (fun _ => congrFun h2 n) (fun q => by rw [b] at q; cases q)
end HEQ
