def P_thrown (m : mR) (c : Nat → Option am_C) (N : Nat) : ag_Re af_T → Prop := fun R => ∃ (r : Int), ((-2147483648) ≤ r ∧ r ≤ 2147483647) ∧ R = (.inl (some (.int (i32 r))), (mhp m c, N), 0, 0)
theorem d_thrown (w : wX) (m : mR) (c : Nat → Option am_C) (N D : Nat) (hD : 1 ≤ D) (hT : Ty m) : TC w D 207 [.ref 189] (mhp m c, N) (P_thrown m c N) := by
  refine Tc_w (c_thrown w m c N D hD hT) (fun R h9 => ?_)
  obtain ⟨r, hr, rfl⟩ := h9
  exact ⟨r, hr, rfl⟩
def fF_wrong : List Nat := [10, 11]
def fA_wrong : List Nat := []
def P_wrong (m : mR) (c : Nat → Option am_C) (N : Nat) (a : Int) (b : Int) : ag_Re af_T → Prop := fun R => ∃ (M : mR), Ty M ∧ fr fF_wrong fA_wrong m M ∧ ((0 < (m.1 10) → (M.1 10) = (m.1 10) ∧ (M.1 11) = (m.1 11)) ∧ ((m.1 10) ≤ 0 → (M.1 10) = a ∧ (M.1 11) = b)) ∧ R = (.inl (none), (mhp M c, N), 0, 0)
theorem d_wrong (w : wX) (m : mR) (c : Nat → Option am_C) (N D : Nat) (hD : 1 ≤ D) (hT : Ty m) (a : Int) (b : Int) (qa : R32 a) (qb : R32 b) (p0 : 1 ≤ a ∧ a ≤ 8) (p1 : 0 ≤ b ∧ b ≤ 4000) : TC w D 222 [.ref 189, .int (i32 a), .int (i32 b)] (mhp m c, N) (P_wrong m c N a b) := by
  refine Tc_w (c_wrong w m c N D hD hT a b qa qb p0 p1) (fun R h9 => ?_)
  obtain ⟨y10, y11, g10, g11, h0, rfl⟩ := h9
  exact ⟨(mO m [(10, y10), (11, y11)] []), Ty_mO hT rfl rfl ⟨g10, g11, trivial⟩ trivial, fr_m fr_0 rfl rfl, h0, rfl⟩
def fF_bad : List Nat := [10, 11]
def fA_bad : List Nat := []
def P_bad (m : mR) (c : Nat → Option am_C) (N : Nat) : ag_Re af_T → Prop := fun R => ∃ (M : mR), Ty M ∧ fr fF_bad fA_bad m M ∧ ((0 < (m.1 10) → (M.1 10) = (m.1 10) ∧ (M.1 11) = (m.1 11)) ∧ ((m.1 10) ≤ 0 → (M.1 10) = 1 ∧ (M.1 11) = (m.1 8))) ∧ R = (.inl (none), (mhp M c, N), 0, 0)
theorem d_bad (w : wX) (m : mR) (c : Nat → Option am_C) (N D : Nat) (hD : 2 ≤ D) (hT : Ty m) : TC w D 226 [.ref 189] (mhp m c, N) (P_bad m c N) := by
  refine Tc_w (c_bad w m c N D hD hT) (fun R h9 => ?_)
  obtain ⟨y10, y11, g10, g11, h0, rfl⟩ := h9
  exact ⟨(mO m [(10, y10), (11, y11)] []), Ty_mO hT rfl rfl ⟨g10, g11, trivial⟩ trivial, fr_m fr_0 rfl rfl, h0, rfl⟩
def P_byteAt1 (m : mR) (c : Nat → Option am_C) (N : Nat) (p : Int) : ag_Re af_T → Prop := fun R => ∃ (r : Int), ((-2147483648) ≤ r ∧ r ≤ 2147483647) ∧ (-1 ≤ r ∧ r ≤ 255) ∧ (r = -1 ↔ (m.1 6) ≤ p) ∧ (p < (m.1 6) → r = (m.2 4) p) ∧ R = (.inl (some (.int (i32 r))), (mhp m c, N), 0, 0)
theorem d_byteAt1 (w : wX) (m : mR) (c : Nat → Option am_C) (N D : Nat) (hD : 1 ≤ D) (hT : Ty m) (p : Int) (qp : R32 p) (p0 : 0 ≤ p) : TC w D 213 [.ref 189, .int (i32 p)] (mhp m c, N) (P_byteAt1 m c N p) := by
  refine Tc_w (c_byteAt1 w m c N D hD hT p qp p0) (fun R h9 => ?_)
  obtain ⟨r, hr, h0, h1, h2, rfl⟩ := h9
  exact ⟨r, hr, h0, h1, h2, rfl⟩
def P_isSmall (m : mR) (c : Nat → Option am_C) (N : Nat) (x : Int) : ag_Re af_T → Prop := fun R => ∃ (r : Int), (0 ≤ r ∧ r ≤ 1) ∧ (r = 1 ↔ (97 ≤ x ∧ x ≤ 122)) ∧ R = (.inl (some (.int (i32 r))), (mhp m c, N), 0, 0)
theorem d_isSmall (w : wX) (m : mR) (c : Nat → Option am_C) (N D : Nat) (hD : 1 ≤ D) (hT : Ty m) (x : Int) (qx : R32 x) : TC w D 215 [.int (i32 x)] (mhp m c, N) (P_isSmall m c N x) := by
  refine Tc_w (c_isSmall w m c N D hD hT x qx) (fun R h9 => ?_)
  obtain ⟨r, hr, h0, rfl⟩ := h9
  exact ⟨r, hr, h0, rfl⟩
def P_isDigit (m : mR) (c : Nat → Option am_C) (N : Nat) (x : Int) : ag_Re af_T → Prop := fun R => ∃ (r : Int), (0 ≤ r ∧ r ≤ 1) ∧ (r = 1 ↔ (48 ≤ x ∧ x ≤ 57)) ∧ R = (.inl (some (.int (i32 r))), (mhp m c, N), 0, 0)
theorem d_isDigit (w : wX) (m : mR) (c : Nat → Option am_C) (N D : Nat) (hD : 1 ≤ D) (hT : Ty m) (x : Int) (qx : R32 x) : TC w D 216 [.int (i32 x)] (mhp m c, N) (P_isDigit m c N x) := by
  refine Tc_w (c_isDigit w m c N D hD hT x qx) (fun R h9 => ?_)
  obtain ⟨r, hr, h0, rfl⟩ := h9
  exact ⟨r, hr, h0, rfl⟩
def P_hex (m : mR) (c : Nat → Option am_C) (N : Nat) (x : Int) : ag_Re af_T → Prop := fun R => ∃ (r : Int), ((-2147483648) ≤ r ∧ r ≤ 2147483647) ∧ (-1 ≤ r ∧ r ≤ 15) ∧ (0 ≤ r → 0 ≤ x) ∧ R = (.inl (some (.int (i32 r))), (mhp m c, N), 0, 0)
theorem d_hex (w : wX) (m : mR) (c : Nat → Option am_C) (N D : Nat) (hD : 2 ≤ D) (hT : Ty m) (x : Int) (qx : R32 x) : TC w D 219 [.int (i32 x)] (mhp m c, N) (P_hex m c N x) := by
  refine Tc_w (c_hex w m c N D hD hT x qx) (fun R h9 => ?_)
  obtain ⟨r, hr, h0, h1, rfl⟩ := h9
  exact ⟨r, hr, h0, h1, rfl⟩
def P_twice (m : mR) (c : Nat → Option am_C) (N : Nat) (x : Int) (y : Int) : ag_Re af_T → Prop := fun R => ∃ (r : Int), ((-2147483648) ≤ r ∧ r ≤ 2147483647) ∧ (-1 ≤ r ∧ r ≤ 12) ∧ (0 ≤ r → (0 ≤ y ∧ 4 ≤ r)) ∧ (0 ≤ r ↔ ((y = 61 ∧ (x = 61 ∨ x = 33 ∨ x = 60 ∨ x = 62)) ∨ (y ≠ 61 ∧ x = y ∧ (x = 43 ∨ x = 38 ∨ x = 124 ∨ x = 60 ∨ x = 62)))) ∧ R = (.inl (some (.int (i32 r))), (mhp m c, N), 0, 0)
theorem d_twice (w : wX) (m : mR) (c : Nat → Option am_C) (N D : Nat) (hD : 1 ≤ D) (hT : Ty m) (x : Int) (y : Int) (qx : R32 x) (qy : R32 y) : TC w D 220 [.int (i32 x), .int (i32 y)] (mhp m c, N) (P_twice m c N x y) := by
  refine Tc_w (c_twice w m c N D hD hT x y qx qy) (fun R h9 => ?_)
  obtain ⟨r, hr, h0, h1, h2, rfl⟩ := h9
  exact ⟨r, hr, h0, h1, h2, rfl⟩
def P_isSign (m : mR) (c : Nat → Option am_C) (N : Nat) (x : Int) : ag_Re af_T → Prop := fun R => ∃ (r : Int), (0 ≤ r ∧ r ≤ 1) ∧ (r = 1 → 33 ≤ x ∧ x ≤ 126) ∧ R = (.inl (some (.int (i32 r))), (mhp m c, N), 0, 0)
theorem d_isSign (w : wX) (m : mR) (c : Nat → Option am_C) (N D : Nat) (hD : 1 ≤ D) (hT : Ty m) (x : Int) (qx : R32 x) : TC w D 221 [.int (i32 x)] (mhp m c, N) (P_isSign m c N x) := by
  refine Tc_w (c_isSign w m c N D hD hT x qx) (fun R h9 => ?_)
  obtain ⟨r, hr, h0, rfl⟩ := h9
  exact ⟨r, hr, h0, rfl⟩
def P_keyword (m : mR) (c : Nat → Option am_C) (N : Nat) : ag_Re af_T → Prop := fun R => ∃ (r : Int), ((-2147483648) ≤ r ∧ r ≤ 2147483647) ∧ (-1 ≤ r ∧ r ≤ 330) ∧ (0 ≤ r → 300 ≤ r) ∧ R = (.inl (some (.int (i32 r))), (mhp m c, N), 0, 0)
theorem d_keyword (w : wX) (m : mR) (c : Nat → Option am_C) (N D : Nat) (hD : 1 ≤ D) (hT : Ty m) (p0 : 0 ≤ (m.1 8)) (p1 : 1 ≤ (m.1 9)) (p2 : (m.1 8) + (m.1 9) ≤ (m.1 6)) : TC w D 217 [.ref 189] (mhp m c, N) (P_keyword m c N) := by
  refine Tc_w (c_keyword w m c N D hD hT p0 p1 p2) (fun R h9 => ?_)
  obtain ⟨r, hr, h0, h1, rfl⟩ := h9
  exact ⟨r, hr, h0, h1, rfl⟩
def fF_lookNumber : List Nat := [7, 9, 12]
def fA_lookNumber : List Nat := []
def P_lookNumber (m : mR) (c : Nat → Option am_C) (N : Nat) : ag_Re af_T → Prop := fun R => ∃ (M : mR), Ty M ∧ fr fF_lookNumber fA_lookNumber m M ∧ (((M.1 7) = 2 ∧ 1 ≤ (M.1 9) ∧ (m.1 8) + (M.1 9) ≤ (m.1 6) ∧ (M.1 9) ≤ 18) ∨ (M.1 7) = 3) ∧ R = (.inl (none), (mhp M c, N), 0, 0)
theorem d_lookNumber (w : wX) (m : mR) (c : Nat → Option am_C) (N D : Nat) (hD : 3 ≤ D) (hT : Ty m) (p0 : (m.1 8) < (m.1 6)) (p1 : 48 ≤ (m.2 4) (m.1 8) ∧ (m.2 4) (m.1 8) ≤ 57) : TC w D 218 [.ref 189] (mhp m c, N) (P_lookNumber m c N) := by
  refine Tc_w (c_lookNumber w m c N D hD hT p0 p1) (fun R h9 => ?_)
  obtain ⟨y7, y9, y12, g7, g9, g12, h0, rfl⟩ := h9
  exact ⟨(mO m [(7, y7), (9, y9), (12, y12)] []), Ty_mO hT rfl rfl ⟨g7, g9, g12, trivial⟩ trivial, fr_m fr_0 rfl rfl, h0, rfl⟩
def fF_look : List Nat := [7, 9, 10, 11, 12]
def fA_look : List Nat := []
def P_look (m : mR) (c : Nat → Option am_C) (N : Nat) : ag_Re af_T → Prop := fun R => ∃ (M : mR), Ty M ∧ fr fF_look fA_look m M ∧ (LxP (M.1 7) (m.1 8) (M.1 9) (m.1 6) (M.1 10)) ∧ ((M.1 10) = 0 → (m.1 10) = 0) ∧ R = (.inl (none), (mhp M c, N), 0, 0)
theorem d_look (w : wX) (m : mR) (c : Nat → Option am_C) (N D : Nat) (hD : 4 ≤ D) (hT : Ty m) (p0 : 0 ≤ (m.1 8) ∧ (m.1 8) ≤ (m.1 6)) : TC w D 214 [.ref 189] (mhp m c, N) (P_look m c N) := by
  refine Tc_w (c_look w m c N D hD hT p0) (fun R h9 => ?_)
  obtain ⟨y7, y9, y10, y11, y12, g7, g9, g10, g11, g12, h0, h1, rfl⟩ := h9
  exact ⟨(mO m [(7, y7), (9, y9), (10, y10), (11, y11), (12, y12)] []), Ty_mO hT rfl rfl ⟨g7, g9, g10, g11, g12, trivial⟩ trivial, fr_m fr_0 rfl rfl, h0, h1, rfl⟩
def fF_next : List Nat := [7, 8, 9, 10, 11, 12]
def fA_next : List Nat := []
def P_next (m : mR) (c : Nat → Option am_C) (N : Nat) : ag_Re af_T → Prop := fun R => ∃ (M : mR), Ty M ∧ fr fF_next fA_next m M ∧ (LxP (M.1 7) (M.1 8) (M.1 9) (m.1 6) (M.1 10)) ∧ ((M.1 10) = 0 → (m.1 10) = 0) ∧ ((m.1 8) ≤ (M.1 8)) ∧ ((M.1 10) = 0 → (m.1 8) + (m.1 9) ≤ (M.1 8)) ∧ R = (.inl (none), (mhp M c, N), 0, 0)
theorem d_next (w : wX) (m : mR) (c : Nat → Option am_C) (N D : Nat) (hD : 5 ≤ D) (hT : Ty m) (p0 : (m.1 10) = 0 → (m.1 8) + (m.1 9) ≤ (m.1 6)) : TC w D 212 [.ref 189] (mhp m c, N) (P_next m c N) := by
  refine Tc_w (c_next w m c N D hD hT p0) (fun R h9 => ?_)
  obtain ⟨y7, y8, y9, y10, y11, y12, g7, g8, g9, g10, g11, g12, h0, h1, h2, h3, rfl⟩ := h9
  exact ⟨(mO m [(7, y7), (8, y8), (9, y9), (10, y10), (11, y11), (12, y12)] []), Ty_mO hT rfl rfl ⟨g7, g8, g9, g10, g11, g12, trivial⟩ trivial, fr_m fr_0 rfl rfl, h0, h1, h2, h3, rfl⟩
def fF_need : List Nat := [7, 8, 9, 10, 11, 12]
def fA_need : List Nat := []
def P_need (m : mR) (c : Nat → Option am_C) (N : Nat) (x : Int) : ag_Re af_T → Prop := fun R => ∃ (M : mR), Ty M ∧ fr fF_need fA_need m M ∧ (LxP (M.1 7) (M.1 8) (M.1 9) (m.1 6) (M.1 10)) ∧ ((M.1 10) = 0 → (m.1 10) = 0 ∧ (m.1 7) = x) ∧ ((m.1 8) ≤ (M.1 8)) ∧ ((M.1 10) = 0 → (m.1 8) + (m.1 9) ≤ (M.1 8)) ∧ R = (.inl (none), (mhp M c, N), 0, 0)
theorem d_need (w : wX) (m : mR) (c : Nat → Option am_C) (N D : Nat) (hD : 6 ≤ D) (hT : Ty m) (x : Int) (qx : R32 x) (p0 : 1 ≤ x) (hLx0 : LxP (m.1 7) (m.1 8) (m.1 9) (m.1 6) (m.1 10)) : TC w D 232 [.ref 189, .int (i32 x)] (mhp m c, N) (P_need m c N x) := by
  refine Tc_w (c_need w m c N D hD hT x qx p0 hLx0) (fun R h9 => ?_)
  obtain ⟨y7, y8, y9, y10, y11, y12, g7, g8, g9, g10, g11, g12, h0, h1, h2, h3, rfl⟩ := h9
  exact ⟨(mO m [(7, y7), (8, y8), (9, y9), (10, y10), (11, y11), (12, y12)] []), Ty_mO hT rfl rfl ⟨g7, g8, g9, g10, g11, g12, trivial⟩ trivial, fr_m fr_0 rfl rfl, h0, h1, h2, h3, rfl⟩
def P_isHere (m : mR) (c : Nat → Option am_C) (N : Nat) (x : Int) (y : Int) : ag_Re af_T → Prop := fun R => ∃ (r : Int), (0 ≤ r ∧ r ≤ 1) ∧ ((r = 1 ∧ sameN (m.2 4) (m.1 8) (m.1 9) x y) ∨ (r = 0 ∧ ¬ sameN (m.2 4) (m.1 8) (m.1 9) x y)) ∧ R = (.inl (some (.int (i32 r))), (mhp m c, N), 0, 0)
theorem d_isHere (w : wX) (m : mR) (c : Nat → Option am_C) (N D : Nat) (hD : 1 ≤ D) (hT : Ty m) (x : Int) (y : Int) (qx : R32 x) (qy : R32 y) (p0 : 0 ≤ x) (p1 : 0 ≤ y) (p2 : x + y ≤ 4000) (p3 : 1 ≤ (m.1 9) ∧ (m.1 8) + (m.1 9) ≤ (m.1 6)) : TC w D 230 [.ref 189, .int (i32 x), .int (i32 y)] (mhp m c, N) (P_isHere m c N x y) := by
  refine Tc_w (c_isHere w m c N D hD hT x y qx qy p0 p1 p2 p3) (fun R h9 => ?_)
  obtain ⟨r, hr, h0, rfl⟩ := h9
  exact ⟨r, hr, h0, rfl⟩
def P_givenHere (m : mR) (c : Nat → Option am_C) (N : Nat) : ag_Re af_T → Prop := fun R => ∃ (r : Int), ((-2147483648) ≤ r ∧ r ≤ 2147483647) ∧ (isGH (m.2 4) (m.1 8) (m.1 9) r) ∧ (-1 ≤ r ∧ r ≤ 4) ∧ R = (.inl (some (.int (i32 r))), (mhp m c, N), 0, 0)
theorem d_givenHere (w : wX) (m : mR) (c : Nat → Option am_C) (N D : Nat) (hD : 1 ≤ D) (hT : Ty m) (p0 : 1 ≤ (m.1 9) ∧ (m.1 8) + (m.1 9) ≤ (m.1 6)) : TC w D 228 [.ref 189] (mhp m c, N) (P_givenHere m c N) := by
  refine Tc_w (c_givenHere w m c N D hD hT p0) (fun R h9 => ?_)
  obtain ⟨r, hr, h0, h1, rfl⟩ := h9
  exact ⟨r, hr, h0, h1, rfl⟩
def P_findHere (m : mR) (c : Nat → Option am_C) (N : Nat) : ag_Re af_T → Prop := fun R => ∃ (r : Int), ((-2147483648) ≤ r ∧ r ≤ 2147483647) ∧ (isFH (m.2 4) (m.2 14) (m.2 15) (m.1 8) (m.1 9) (m.1 13) r) ∧ (-1 ≤ r ∧ r < (m.1 13)) ∧ R = (.inl (some (.int (i32 r))), (mhp m c, N), 0, 0)
theorem d_findHere (w : wX) (m : mR) (c : Nat → Option am_C) (N D : Nat) (hD : 2 ≤ D) (hT : Ty m) (p0 : 1 ≤ (m.1 9) ∧ (m.1 8) + (m.1 9) ≤ (m.1 6)) (p1 : ∀ k, (m.2 14) k + (m.2 15) k ≤ 4000) : TC w D 229 [.ref 189] (mhp m c, N) (P_findHere m c N) := by
  refine Tc_w (c_findHere w m c N D hD hT p0 p1) (fun R h9 => ?_)
  obtain ⟨r, hr, h0, h1, rfl⟩ := h9
  exact ⟨r, hr, h0, h1, rfl⟩
def P_sortHere (m : mR) (c : Nat → Option am_C) (N : Nat) : ag_Re af_T → Prop := fun R => ∃ (r : Int), ((-2147483648) ≤ r ∧ r ≤ 2147483647) ∧ (∃ g k, isGH (m.2 4) (m.1 8) (m.1 9) g ∧ (g < 0 → isFH (m.2 4) (m.2 14) (m.2 15) (m.1 8) (m.1 9) (m.1 13) k) ∧ r = sortV (m.2 16) g k) ∧ (-1 ≤ r ∧ r ≤ 7) ∧ R = (.inl (some (.int (i32 r))), (mhp m c, N), 0, 0)
theorem d_sortHere (w : wX) (m : mR) (c : Nat → Option am_C) (N D : Nat) (hD : 3 ≤ D) (hT : Ty m) (p0 : 1 ≤ (m.1 9) ∧ (m.1 8) + (m.1 9) ≤ (m.1 6)) (p1 : ∀ k, (m.2 14) k + (m.2 15) k ≤ 4000) : TC w D 227 [.ref 189] (mhp m c, N) (P_sortHere m c N) := by
  refine Tc_w (c_sortHere w m c N D hD hT p0 p1) (fun R h9 => ?_)
  obtain ⟨r, hr, h0, h1, rfl⟩ := h9
  exact ⟨r, hr, h0, h1, rfl⟩
def P_whichHere (m : mR) (c : Nat → Option am_C) (N : Nat) : ag_Re af_T → Prop := fun R => ∃ (r : Int), ((-2147483648) ≤ r ∧ r ≤ 2147483647) ∧ (∃ g k, isGH (m.2 4) (m.1 8) (m.1 9) g ∧ (g < 0 → isFH (m.2 4) (m.2 14) (m.2 15) (m.1 8) (m.1 9) (m.1 13) k) ∧ r = whichV (m.2 17) g k) ∧ R = (.inl (some (.int (i32 r))), (mhp m c, N), 0, 0)
theorem d_whichHere (w : wX) (m : mR) (c : Nat → Option am_C) (N D : Nat) (hD : 3 ≤ D) (hT : Ty m) (p0 : 1 ≤ (m.1 9) ∧ (m.1 8) + (m.1 9) ≤ (m.1 6)) (p1 : ∀ k, (m.2 14) k + (m.2 15) k ≤ 4000) (p2 : ∀ g k, isGH (m.2 4) (m.1 8) (m.1 9) g → g < 0 → isFH (m.2 4) (m.2 14) (m.2 15) (m.1 8) (m.1 9) (m.1 13) k → 0 ≤ k) : TC w D 237 [.ref 189] (mhp m c, N) (P_whichHere m c N) := by
  refine Tc_w (c_whichHere w m c N D hD hT p0 p1 p2) (fun R h9 => ?_)
  obtain ⟨r, hr, h0, rfl⟩ := h9
  exact ⟨r, hr, h0, rfl⟩
def fF_enter : List Nat := [13]
def fA_enter : List Nat := [14, 15, 16, 17]
def P_enter (m : mR) (c : Nat → Option am_C) (N : Nat) (a : Int) (b : Int) : ag_Re af_T → Prop := fun R => ∃ (M : mR), Ty M ∧ fr fF_enter fA_enter m M ∧ ((M.1 13) = (m.1 13) + 1) ∧ ((M.2 14) = upI (m.2 14) (m.1 13) (m.1 8)) ∧ ((M.2 15) = upI (m.2 15) (m.1 13) (m.1 9)) ∧ ((M.2 16) = upI (m.2 16) (m.1 13) a) ∧ ((M.2 17) = upI (m.2 17) (m.1 13) b) ∧ R = (.inl (none), (mhp M c, N), 0, 0)
theorem d_enter (w : wX) (m : mR) (c : Nat → Option am_C) (N D : Nat) (hD : 1 ≤ D) (hT : Ty m) (a : Int) (b : Int) (qa : R32 a) (qb : R32 b) (p0 : (m.1 13) ≤ 119) (p1 : 1 ≤ a ∧ a ≤ 7) (p2 : 0 ≤ b ∧ b ≤ 15) : TC w D 231 [.ref 189, .int (i32 a), .int (i32 b)] (mhp m c, N) (P_enter m c N a b) := by
  refine Tc_w (c_enter w m c N D hD hT a b qa qb p0 p1 p2) (fun R h9 => ?_)
  obtain ⟨y13, F14, F15, F16, F17, g13, G14, G15, G16, G17, h0, h1, h2, h3, h4, rfl⟩ := h9
  exact ⟨(mO m [(13, y13)] [(14, F14), (15, F15), (16, F16), (17, F17)]), Ty_mO hT rfl rfl ⟨g13, trivial⟩ ⟨G14, G15, G16, G17, trivial⟩, fr_m fr_0 rfl rfl, h0, h1, h2, h3, h4, rfl⟩
def fF_newName : List Nat := [7, 8, 9, 10, 11, 12, 13]
def fA_newName : List Nat := [14, 15, 16, 17]
def P_newName (m : mR) (c : Nat → Option am_C) (N : Nat) (a : Int) (b : Int) (cc : Int) : ag_Re af_T → Prop := fun R => ∃ (M : mR) (r : Int), Ty M ∧ fr fF_newName fA_newName m M ∧ (0 ≤ r ∧ r ≤ 1) ∧ (LxP (M.1 7) (M.1 8) (M.1 9) (m.1 6) (M.1 10)) ∧ ((m.1 8) ≤ (M.1 8)) ∧ ((M.1 10) = 0 → (m.1 10) = 0 ∧ (m.1 8) + (m.1 9) ≤ (M.1 8)) ∧ ((M.1 10) = 0 → r = 1 ∧ (m.1 7) = 1) ∧ (r = 1 → b ≠ cc) ∧ (∀ k, (M.2 14) k + (M.2 15) k ≤ 4000) ∧ ((r = 1 ∧ (m.1 10) = 0 ∧ (M.1 13) = (m.1 13) + 1 ∧ (M.2 14) = upI (m.2 14) (m.1 13) (m.1 8) ∧ (M.2 15) = upI (m.2 15) (m.1 13) (m.1 9) ∧ (M.2 16) = upI (m.2 16) (m.1 13) a ∧ (M.2 17) = upI (m.2 17) (m.1 13) b) ∨ (r = 0 ∧ 0 < (M.1 10) ∧ (M.1 13) = (m.1 13) ∧ (M.2 14) = (m.2 14) ∧ (M.2 15) = (m.2 15) ∧ (M.2 16) = (m.2 16) ∧ (M.2 17) = (m.2 17))) ∧ R = (.inl (some (.int (i32 r))), (mhp M c, N), 0, 0)
theorem d_newName (w : wX) (m : mR) (c : Nat → Option am_C) (N D : Nat) (hD : 6 ≤ D) (hT : Ty m) (a : Int) (b : Int) (cc : Int) (qa : R32 a) (qb : R32 b) (qcc : R32 cc) (hLx0 : LxP (m.1 7) (m.1 8) (m.1 9) (m.1 6) (m.1 10)) (p1 : ∀ k, (m.2 14) k + (m.2 15) k ≤ 4000) (p2 : (m.1 10) = 0 → (m.1 13) ≤ 119) (p3 : 1 ≤ a ∧ a ≤ 7) (p4 : 0 ≤ b ∧ (b ≠ cc → b ≤ 15)) : TC w D 225 [.ref 189, .int (i32 a), .int (i32 b), .int (i32 cc)] (mhp m c, N) (P_newName m c N a b cc) := by
  refine Tc_w (c_newName w m c N D hD hT a b cc qa qb qcc hLx0 p1 p2 p3 p4) (fun R h9 => ?_)
  obtain ⟨y7, y8, y9, y10, y11, y12, y13, F14, F15, F16, F17, r, g7, g8, g9, g10, g11, g12, g13, G14, G15, G16, G17, hr, h0, h1, h2, h3, h4, h5, h6, rfl⟩ := h9
  exact ⟨(mO m [(7, y7), (8, y8), (9, y9), (10, y10), (11, y11), (12, y12), (13, y13)] [(14, F14), (15, F15), (16, F16), (17, F17)]), r, Ty_mO hT rfl rfl ⟨g7, g8, g9, g10, g11, g12, g13, trivial⟩ ⟨G14, G15, G16, G17, trivial⟩, fr_m fr_0 rfl rfl, hr, h0, h1, h2, h3, h4, h5, h6, rfl⟩
def fF_oldName : List Nat := [7, 8, 9, 10, 11, 12]
def fA_oldName : List Nat := []
def P_oldName (m : mR) (c : Nat → Option am_C) (N : Nat) (a : Int) (B : Int) : ag_Re af_T → Prop := fun R => ∃ (M : mR) (r : Int), Ty M ∧ fr fF_oldName fA_oldName m M ∧ ((-2147483648) ≤ r ∧ r ≤ 2147483647) ∧ (LxP (M.1 7) (M.1 8) (M.1 9) (m.1 6) (M.1 10)) ∧ ((m.1 8) ≤ (M.1 8)) ∧ ((M.1 10) = 0 → (m.1 10) = 0 ∧ (m.1 8) + (m.1 9) ≤ (M.1 8)) ∧ ((M.1 10) = 0 → (m.1 7) = 1) ∧ (0 ≤ r ∧ (r < B ∨ r = 0)) ∧ ((M.1 10) = 0 → r < B) ∧ R = (.inl (some (.int (i32 r))), (mhp M c, N), 0, 0)
theorem d_oldName (w : wX) (m : mR) (c : Nat → Option am_C) (N D : Nat) (hD : 6 ≤ D) (hT : Ty m) (a : Int) (B : Int) (qa : R32 a) (hLx0 : LxP (m.1 7) (m.1 8) (m.1 9) (m.1 6) (m.1 10)) (p1 : ∀ k, (m.2 14) k + (m.2 15) k ≤ 4000) (p2 : 1 ≤ a ∧ a ≤ 7 ∧ a ≠ 5) (p3 : B ≤ 16) (p4 : (m.1 10) = 0 → ∀ k, 0 ≤ k → k < (m.1 13) → (m.2 16) k = a → 0 ≤ (m.2 17) k ∧ (m.2 17) k < B) (p5 : a = 3 → 3 ≤ B) : TC w D 236 [.ref 189, .int (i32 a)] (mhp m c, N) (P_oldName m c N a B) := by
  refine Tc_w (c_oldName w m c N D hD hT a B qa hLx0 p1 p2 p3 p4 p5) (fun R h9 => ?_)
  obtain ⟨y7, y8, y9, y10, y11, y12, r, g7, g8, g9, g10, g11, g12, hr, h0, h1, h2, h3, h4, h5, rfl⟩ := h9
  exact ⟨(mO m [(7, y7), (8, y8), (9, y9), (10, y10), (11, y11), (12, y12)] []), r, Ty_mO hT rfl rfl ⟨g7, g8, g9, g10, g11, g12, trivial⟩ trivial, fr_m fr_0 rfl rfl, hr, h0, h1, h2, h3, h4, h5, rfl⟩
def fF_number : List Nat := [7, 8, 9, 10, 11, 12]
def fA_number : List Nat := []
def P_number (m : mR) (c : Nat → Option am_C) (N : Nat) (a : Int) (b : Int) : ag_Re af_T → Prop := fun R => ∃ (M : mR) (r : Int), Ty M ∧ fr fF_number fA_number m M ∧ ((-2147483648) ≤ r ∧ r ≤ 2147483647) ∧ (LxP (M.1 7) (M.1 8) (M.1 9) (m.1 6) (M.1 10)) ∧ ((m.1 8) ≤ (M.1 8)) ∧ ((M.1 10) = 0 → (m.1 10) = 0 ∧ (m.1 8) + (m.1 9) ≤ (M.1 8)) ∧ ((M.1 10) = 0 → (m.1 7) = 2) ∧ (a ≤ r ∧ r ≤ b) ∧ ((M.1 10) = 0 → r = (m.1 12)) ∧ R = (.inl (some (.int (i32 r))), (mhp M c, N), 0, 0)
theorem d_number (w : wX) (m : mR) (c : Nat → Option am_C) (N D : Nat) (hD : 6 ≤ D) (hT : Ty m) (a : Int) (b : Int) (qa : R32 a) (qb : R32 b) (hLx0 : LxP (m.1 7) (m.1 8) (m.1 9) (m.1 6) (m.1 10)) (p1 : a ≤ b) : TC w D 234 [.ref 189, .int (i32 a), .int (i32 b)] (mhp m c, N) (P_number m c N a b) := by
  refine Tc_w (c_number w m c N D hD hT a b qa qb hLx0 p1) (fun R h9 => ?_)
  obtain ⟨y7, y8, y9, y10, y11, y12, r, g7, g8, g9, g10, g11, g12, hr, h0, h1, h2, h3, h4, h5, rfl⟩ := h9
  exact ⟨(mO m [(7, y7), (8, y8), (9, y9), (10, y10), (11, y11), (12, y12)] []), r, Ty_mO hT rfl rfl ⟨g7, g8, g9, g10, g11, g12, trivial⟩ trivial, fr_m fr_0 rfl rfl, hr, h0, h1, h2, h3, h4, h5, rfl⟩
def fF_takeFieldOf : List Nat := [7, 8, 9, 10, 11, 12]
def fA_takeFieldOf : List Nat := [29, 30, 31, 32, 33]
def P_takeFieldOf (m : mR) (c : Nat → Option am_C) (N : Nat) (h : Int) : ag_Re af_T → Prop := fun R => ∃ (M : mR), Ty M ∧ fr fF_takeFieldOf fA_takeFieldOf m M ∧ (LxP (M.1 7) (M.1 8) (M.1 9) (m.1 6) (M.1 10)) ∧ ((m.1 8) ≤ (M.1 8)) ∧ ((M.1 10) = 0 → (m.1 10) = 0 ∧ (m.1 8) + (m.1 9) ≤ (M.1 8)) ∧ (HBi (M.2 29) (M.2 30) (M.2 33)) ∧ (∀ k, (M.2 31) k + (M.2 32) k ≤ 4000) ∧ (∀ g, g ≠ h → (M.2 30) g = (m.2 30) g) ∧ ((M.1 10) = 0 → (m.1 10) = 0 ∧ (m.1 8) + 1 ≤ (M.1 8)) ∧ R = (.inl (none), (mhp M c, N), 0, 0)
theorem d_takeFieldOf (w : wX) (m : mR) (c : Nat → Option am_C) (N D : Nat) (hD : 7 ≤ D) (hT : Ty m) (h : Int) (qh : R32 h) (hLx0 : LxP (m.1 7) (m.1 8) (m.1 9) (m.1 6) (m.1 10)) (p1 : 0 ≤ h ∧ h ≤ 11) (p2 : HBi (m.2 29) (m.2 30) (m.2 33)) (p3 : ∀ k, (m.2 31) k + (m.2 32) k ≤ 4000) : TC w D 233 [.ref 189, .int (i32 h)] (mhp m c, N) (P_takeFieldOf m c N h) := by
  refine Tc_w (c_takeFieldOf w m c N D hD hT h qh hLx0 p1 p2 p3) (fun R h9 => ?_)
  obtain ⟨y7, y8, y9, y10, y11, y12, F29, F30, F31, F32, F33, g7, g8, g9, g10, g11, g12, G29, G30, G31, G32, G33, h0, h1, h2, h3, h4, h5, h6, rfl⟩ := h9
  exact ⟨(mO m [(7, y7), (8, y8), (9, y9), (10, y10), (11, y11), (12, y12)] [(29, F29), (30, F30), (31, F31), (32, F32), (33, F33)]), Ty_mO hT rfl rfl ⟨g7, g8, g9, g10, g11, g12, trivial⟩ ⟨G29, G30, G31, G32, G33, trivial⟩, fr_m fr_0 rfl rfl, h0, h1, h2, h3, h4, h5, h6, rfl⟩
def fF_takeMeta : List Nat := [7, 8, 9, 10, 11, 12, 13, 21]
def fA_takeMeta : List Nat := [14, 15, 16, 17, 35]
def P_takeMeta (m : mR) (c : Nat → Option am_C) (N : Nat) : ag_Re af_T → Prop := fun R => ∃ (M : mR), Ty M ∧ fr fF_takeMeta fA_takeMeta m M ∧ (LxP (M.1 7) (M.1 8) (M.1 9) (m.1 6) (M.1 10)) ∧ ((m.1 8) ≤ (M.1 8)) ∧ ((M.1 10) = 0 → (m.1 10) = 0 ∧ (m.1 8) + (m.1 9) ≤ (M.1 8)) ∧ (∀ k, (M.2 14) k + (M.2 15) k ≤ 4000) ∧ ((M.1 10) = 0 → PN (M.1 13) (m.1 19) (m.1 20) (M.1 21) (m.1 22) (m.1 23) (m.1 25) (m.1 26) (M.2 16) (M.2 17)) ∧ R = (.inl (none), (mhp M c, N), 0, 0)
theorem d_takeMeta (w : wX) (m : mR) (c : Nat → Option am_C) (N D : Nat) (hD : 7 ≤ D) (hT : Ty m) (hLx0 : LxP (m.1 7) (m.1 8) (m.1 9) (m.1 6) (m.1 10)) (p1 : ∀ k, (m.2 14) k + (m.2 15) k ≤ 4000) (p2 : (m.1 7) ≠ 0) (pPN : (m.1 10) = 0 → PN (m.1 13) (m.1 19) (m.1 20) (m.1 21) (m.1 22) (m.1 23) (m.1 25) (m.1 26) (m.2 16) (m.2 17)) : TC w D 238 [.ref 189] (mhp m c, N) (P_takeMeta m c N) := by
  refine Tc_w (c_takeMeta w m c N D hD hT hLx0 p1 p2 pPN) (fun R h9 => ?_)
  obtain ⟨y7, y8, y9, y10, y11, y12, y13, y21, F14, F15, F16, F17, F35, g7, g8, g9, g10, g11, g12, g13, g21, G14, G15, G16, G17, G35, h0, h1, h2, h3, h4, rfl⟩ := h9
  exact ⟨(mO m [(7, y7), (8, y8), (9, y9), (10, y10), (11, y11), (12, y12), (13, y13), (21, y21)] [(14, F14), (15, F15), (16, F16), (17, F17), (35, F35)]), Ty_mO hT rfl rfl ⟨g7, g8, g9, g10, g11, g12, g13, g21, trivial⟩ ⟨G14, G15, G16, G17, G35, trivial⟩, fr_m fr_0 rfl rfl, h0, h1, h2, h3, h4, rfl⟩
def fF_takeArray : List Nat := [7, 8, 9, 10, 11, 12, 13, 22]
def fA_takeArray : List Nat := [14, 15, 16, 17, 36, 93]
def P_takeArray (m : mR) (c : Nat → Option am_C) (N : Nat) : ag_Re af_T → Prop := fun R => ∃ (M : mR), Ty M ∧ fr fF_takeArray fA_takeArray m M ∧ (LxP (M.1 7) (M.1 8) (M.1 9) (m.1 6) (M.1 10)) ∧ ((m.1 8) ≤ (M.1 8)) ∧ ((M.1 10) = 0 → (m.1 10) = 0 ∧ (m.1 8) + (m.1 9) ≤ (M.1 8)) ∧ (∀ k, (M.2 14) k + (M.2 15) k ≤ 4000) ∧ ((M.1 10) = 0 → PN (M.1 13) (m.1 19) (m.1 20) (m.1 21) (M.1 22) (m.1 23) (m.1 25) (m.1 26) (M.2 16) (M.2 17)) ∧ (∀ k, 0 ≤ k → k < (M.1 22) → 1 ≤ (M.2 93) k ∧ 1 ≤ (M.2 36) k) ∧ ((m.1 22) ≤ (M.1 22)) ∧ R = (.inl (none), (mhp M c, N), 0, 0)
theorem d_takeArray (w : wX) (m : mR) (c : Nat → Option am_C) (N D : Nat) (hD : 7 ≤ D) (hT : Ty m) (hLx0 : LxP (m.1 7) (m.1 8) (m.1 9) (m.1 6) (m.1 10)) (p1 : ∀ k, (m.2 14) k + (m.2 15) k ≤ 4000) (p2 : (m.1 7) ≠ 0) (pPN : (m.1 10) = 0 → PN (m.1 13) (m.1 19) (m.1 20) (m.1 21) (m.1 22) (m.1 23) (m.1 25) (m.1 26) (m.2 16) (m.2 17)) (pAR : ∀ k, 0 ≤ k → k < (m.1 22) → 1 ≤ (m.2 93) k ∧ 1 ≤ (m.2 36) k) : TC w D 239 [.ref 189] (mhp m c, N) (P_takeArray m c N) := by
  refine Tc_w (c_takeArray w m c N D hD hT hLx0 p1 p2 pPN pAR) (fun R h9 => ?_)
  obtain ⟨y7, y8, y9, y10, y11, y12, y13, y22, F14, F15, F16, F17, F36, F93, g7, g8, g9, g10, g11, g12, g13, g22, G14, G15, G16, G17, G36, G93, h0, h1, h2, h3, h4, h5, h6, rfl⟩ := h9
  exact ⟨(mO m [(7, y7), (8, y8), (9, y9), (10, y10), (11, y11), (12, y12), (13, y13), (22, y22)] [(14, F14), (15, F15), (16, F16), (17, F17), (36, F36), (93, F93)]), Ty_mO hT rfl rfl ⟨g7, g8, g9, g10, g11, g12, g13, g22, trivial⟩ ⟨G14, G15, G16, G17, G36, G93, trivial⟩, fr_m fr_0 rfl rfl, h0, h1, h2, h3, h4, h5, h6, rfl⟩
def fF_takeUse : List Nat := [7, 8, 9, 10, 11, 12, 13, 20]
def fA_takeUse : List Nat := [14, 15, 16, 17, 34]
def P_takeUse (m : mR) (c : Nat → Option am_C) (N : Nat) : ag_Re af_T → Prop := fun R => ∃ (M : mR), Ty M ∧ fr fF_takeUse fA_takeUse m M ∧ (LxP (M.1 7) (M.1 8) (M.1 9) (m.1 6) (M.1 10)) ∧ ((m.1 8) ≤ (M.1 8)) ∧ ((M.1 10) = 0 → (m.1 10) = 0 ∧ (m.1 8) + (m.1 9) ≤ (M.1 8)) ∧ (∀ k, (M.2 14) k + (M.2 15) k ≤ 4000) ∧ ((M.1 10) = 0 → PN (M.1 13) (m.1 19) (M.1 20) (m.1 21) (m.1 22) (m.1 23) (m.1 25) (m.1 26) (M.2 16) (M.2 17)) ∧ ((M.1 10) = 0 → ∀ k, 0 ≤ k → k < (M.1 20) → (M.2 34) k < (m.1 19)) ∧ R = (.inl (none), (mhp M c, N), 0, 0)
theorem d_takeUse (w : wX) (m : mR) (c : Nat → Option am_C) (N D : Nat) (hD : 7 ≤ D) (hT : Ty m) (hLx0 : LxP (m.1 7) (m.1 8) (m.1 9) (m.1 6) (m.1 10)) (p1 : ∀ k, (m.2 14) k + (m.2 15) k ≤ 4000) (p2 : (m.1 7) ≠ 0) (pPN : (m.1 10) = 0 → PN (m.1 13) (m.1 19) (m.1 20) (m.1 21) (m.1 22) (m.1 23) (m.1 25) (m.1 26) (m.2 16) (m.2 17)) (pIN : ∀ k, 0 ≤ k → k < (m.1 20) → (m.2 34) k < (m.1 19)) : TC w D 235 [.ref 189] (mhp m c, N) (P_takeUse m c N) := by
  refine Tc_w (c_takeUse w m c N D hD hT hLx0 p1 p2 pPN pIN) (fun R h9 => ?_)
  obtain ⟨y7, y8, y9, y10, y11, y12, y13, y20, F14, F15, F16, F17, F34, g7, g8, g9, g10, g11, g12, g13, g20, G14, G15, G16, G17, G34, h0, h1, h2, h3, h4, h5, rfl⟩ := h9
  exact ⟨(mO m [(7, y7), (8, y8), (9, y9), (10, y10), (11, y11), (12, y12), (13, y13), (20, y20)] [(14, F14), (15, F15), (16, F16), (17, F17), (34, F34)]), Ty_mO hT rfl rfl ⟨g7, g8, g9, g10, g11, g12, g13, g20, trivial⟩ ⟨G14, G15, G16, G17, G34, trivial⟩, fr_m fr_0 rfl rfl, h0, h1, h2, h3, h4, h5, rfl⟩
def fF_takeHeader : List Nat := [7, 8, 9, 10, 11, 12, 13, 19]
def fA_takeHeader : List Nat := [14, 15, 16, 17, 29, 30, 31, 32, 33]
def P_takeHeader (m : mR) (c : Nat → Option am_C) (N : Nat) : ag_Re af_T → Prop := fun R => ∃ (M : mR), Ty M ∧ fr fF_takeHeader fA_takeHeader m M ∧ (LxP (M.1 7) (M.1 8) (M.1 9) (m.1 6) (M.1 10)) ∧ ((m.1 8) ≤ (M.1 8)) ∧ ((M.1 10) = 0 → (m.1 10) = 0 ∧ (m.1 8) + (m.1 9) ≤ (M.1 8)) ∧ (∀ k, (M.2 14) k + (M.2 15) k ≤ 4000) ∧ ((M.1 10) = 0 → PN (M.1 13) (M.1 19) (m.1 20) (m.1 21) (m.1 22) (m.1 23) (m.1 25) (m.1 26) (M.2 16) (M.2 17)) ∧ (HBi (M.2 29) (M.2 30) (M.2 33)) ∧ (∀ k, (M.2 31) k + (M.2 32) k ≤ 4000) ∧ ((M.1 10) = 0 → ∀ g, 0 ≤ g → g < (M.1 19) → (M.2 30) g ≤ 512) ∧ ((m.1 19) ≤ (M.1 19)) ∧ R = (.inl (none), (mhp M c, N), 0, 0)
theorem d_takeHeader (w : wX) (m : mR) (c : Nat → Option am_C) (N D : Nat) (hD : 8 ≤ D) (hT : Ty m) (hLx0 : LxP (m.1 7) (m.1 8) (m.1 9) (m.1 6) (m.1 10)) (p1 : ∀ k, (m.2 14) k + (m.2 15) k ≤ 4000) (p2 : (m.1 7) ≠ 0) (pPN : (m.1 10) = 0 → PN (m.1 13) (m.1 19) (m.1 20) (m.1 21) (m.1 22) (m.1 23) (m.1 25) (m.1 26) (m.2 16) (m.2 17)) (hHB0 : HBi (m.2 29) (m.2 30) (m.2 33)) (hFA0 : ∀ k, (m.2 31) k + (m.2 32) k ≤ 4000) (pHO : (m.1 10) = 0 → ∀ g, 0 ≤ g → g < (m.1 19) → (m.2 30) g ≤ 512) : TC w D 224 [.ref 189] (mhp m c, N) (P_takeHeader m c N) := by
  refine Tc_w (c_takeHeader w m c N D hD hT hLx0 p1 p2 pPN hHB0 hFA0 pHO) (fun R h9 => ?_)
  obtain ⟨y7, y8, y9, y10, y11, y12, y13, y19, F14, F15, F16, F17, F29, F30, F31, F32, F33, g7, g8, g9, g10, g11, g12, g13, g19, G14, G15, G16, G17, G29, G30, G31, G32, G33, h0, h1, h2, h3, h4, h5, h6, h7, h8, rfl⟩ := h9
  exact ⟨(mO m [(7, y7), (8, y8), (9, y9), (10, y10), (11, y11), (12, y12), (13, y13), (19, y19)] [(14, F14), (15, F15), (16, F16), (17, F17), (29, F29), (30, F30), (31, F31), (32, F32), (33, F33)]), Ty_mO hT rfl rfl ⟨g7, g8, g9, g10, g11, g12, g13, g19, trivial⟩ ⟨G14, G15, G16, G17, G29, G30, G31, G32, G33, trivial⟩, fr_m fr_0 rfl rfl, h0, h1, h2, h3, h4, h5, h6, h7, h8, rfl⟩
