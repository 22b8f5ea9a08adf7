/-! ===== ROADS OF ONE CALL, by program (wip/gen/walk.py) ===== -/
def sh_1 (xs : Nat → Int32) (f : Nat → Nat → Int32) (g : Nat → Nat → Int64) : List (Nat × am_C) := (189, .inr (12, (sv_189).set 1 (.int 0))) :: sw f g
def sh_2 (xs : Nat → Int32) (f : Nat → Nat → Int32) (g : Nat → Nat → Int64) : List (Nat × am_C) := (189, .inr (12, (sv_189).set 1 (.int 0))) :: sw f g
def sh_3 (xs : Nat → Int32) (f : Nat → Nat → Int32) (g : Nat → Nat → Int64) : List (Nat × am_C) := (189, .inr (12, (sv_189).set 1 (.int 0))) :: sw f g
def sh_4 (xs : Nat → Int32) (f : Nat → Nat → Int32) (g : Nat → Nat → Int64) : List (Nat × am_C) := (189, .inr (12, (sv_189).set 1 (.int 0))) :: sw f g
set_option maxRecDepth 100000 in
theorem so_20 (xs : Nat → Int32) (sio : Value) (f : Nat → Nat → Int32) (g : Nat → Nat → Int64) (n : Nat) (hn : 11 ≤ n) : sR 6 xs sio 17 pm_0 n (40, [(4, .int 0), (3, .ref 326), (2, .ref 189), (1, .ref 0), (0, .ref 1000000)], [.int 20], (sw f g, 327), 327, 208818) = some (.inl (some (.int 1)), (sw f g, 327), 327, 208818) := by
  obtain ⟨m, rfl⟩ : ∃ m, n = m + 11 := ⟨n - 11, by omega⟩
  refine Eq.trans (st_go (pc' := 1172) (lv' := [(4, .int 0), (3, .ref 326), (2, .ref 189), (1, .ref 0), (0, .ref 1000000)]) (st' := []) (t' := (sw f g, 327)) (nc' := 327) (ns' := 208818) sl_0_40 rfl) ?_
  refine Eq.trans (st_go (pc' := 1175) (lv' := [(4, .int 6), (3, .ref 326), (2, .ref 189), (1, .ref 0), (0, .ref 1000000)]) (st' := []) (t' := (sw f g, 327)) (nc' := 327) (ns' := 208818) sl_0_1172 rfl) ?_
  refine Eq.trans (st_go (pc' := 23) (lv' := [(4, .int 6), (3, .ref 326), (2, .ref 189), (1, .ref 0), (0, .ref 1000000)]) (st' := []) (t' := (sw f g, 327)) (nc' := 327) (ns' := 208818) sl_0_1175 rfl) ?_
  refine Eq.trans (st_go (pc' := 25) (lv' := [(4, .int 6), (3, .ref 326), (2, .ref 189), (1, .ref 0), (0, .ref 1000000)]) (st' := [.int 6]) (t' := (sw f g, 327)) (nc' := 327) (ns' := 208818) sl_0_23 rfl) ?_
  refine Eq.trans (st_go (pc' := 26) (lv' := [(4, .int 6), (3, .ref 326), (2, .ref 189), (1, .ref 0), (0, .ref 1000000)]) (st' := [.ref 1000000, .int 6]) (t' := (sw f g, 327)) (nc' := 327) (ns' := 208818) sl_0_25 rfl) ?_
  refine Eq.trans (st_go (pc' := 27) (lv' := [(4, .int 6), (3, .ref 326), (2, .ref 189), (1, .ref 0), (0, .ref 1000000)]) (st' := [.int 6, .int 6]) (t' := (sw f g, 327)) (nc' := 327) (ns' := 208818) sl_0_26 rfl) ?_
  refine Eq.trans (st_go (pc' := 29) (lv' := [(4, .int 6), (3, .ref 326), (2, .ref 189), (1, .ref 0), (0, .ref 1000000)]) (st' := [.int 6, .int 6, .int 6]) (t' := (sw f g, 327)) (nc' := 327) (ns' := 208818) sl_0_27 rfl) ?_
  refine Eq.trans (st_go (pc' := 30) (lv' := [(4, .int 6), (3, .ref 326), (2, .ref 189), (1, .ref 0), (0, .ref 1000000)]) (st' := [.int 0, .int 6]) (t' := (sw f g, 327)) (nc' := 327) (ns' := 208818) sl_0_29 rfl) ?_
  refine Eq.trans (st_go (pc' := 1178) (lv' := [(4, .int 6), (3, .ref 326), (2, .ref 189), (1, .ref 0), (0, .ref 1000000)]) (st' := []) (t' := (sw f g, 327)) (nc' := 327) (ns' := 208818) sl_0_30 rfl) ?_
  refine Eq.trans (st_go (pc' := 1179) (lv' := [(4, .int 6), (3, .ref 326), (2, .ref 189), (1, .ref 0), (0, .ref 1000000)]) (st' := [.int 1]) (t' := (sw f g, 327)) (nc' := 327) (ns' := 208818) sl_0_1178 rfl) ?_
  exact st_end sl_0_1179 rfl
set_option maxRecDepth 100000 in
theorem so_21 (xs : Nat → Int32) (sio : Value) (f : Nat → Nat → Int32) (g : Nat → Nat → Int64) (n : Nat) (hn : 11 ≤ n) : sR 6 xs sio 17 pm_0 n (40, [(4, .int 0), (3, .ref 326), (2, .ref 189), (1, .ref 0), (0, .ref 1000000)], [.int 21], (sw f g, 327), 327, 208818) = some (.inl (some (.int 1)), (sw f g, 327), 327, 208818) := by
  obtain ⟨m, rfl⟩ : ∃ m, n = m + 11 := ⟨n - 11, by omega⟩
  refine Eq.trans (st_go (pc' := 1172) (lv' := [(4, .int 0), (3, .ref 326), (2, .ref 189), (1, .ref 0), (0, .ref 1000000)]) (st' := []) (t' := (sw f g, 327)) (nc' := 327) (ns' := 208818) sl_0_40 rfl) ?_
  refine Eq.trans (st_go (pc' := 1175) (lv' := [(4, .int 6), (3, .ref 326), (2, .ref 189), (1, .ref 0), (0, .ref 1000000)]) (st' := []) (t' := (sw f g, 327)) (nc' := 327) (ns' := 208818) sl_0_1172 rfl) ?_
  refine Eq.trans (st_go (pc' := 23) (lv' := [(4, .int 6), (3, .ref 326), (2, .ref 189), (1, .ref 0), (0, .ref 1000000)]) (st' := []) (t' := (sw f g, 327)) (nc' := 327) (ns' := 208818) sl_0_1175 rfl) ?_
  refine Eq.trans (st_go (pc' := 25) (lv' := [(4, .int 6), (3, .ref 326), (2, .ref 189), (1, .ref 0), (0, .ref 1000000)]) (st' := [.int 6]) (t' := (sw f g, 327)) (nc' := 327) (ns' := 208818) sl_0_23 rfl) ?_
  refine Eq.trans (st_go (pc' := 26) (lv' := [(4, .int 6), (3, .ref 326), (2, .ref 189), (1, .ref 0), (0, .ref 1000000)]) (st' := [.ref 1000000, .int 6]) (t' := (sw f g, 327)) (nc' := 327) (ns' := 208818) sl_0_25 rfl) ?_
  refine Eq.trans (st_go (pc' := 27) (lv' := [(4, .int 6), (3, .ref 326), (2, .ref 189), (1, .ref 0), (0, .ref 1000000)]) (st' := [.int 6, .int 6]) (t' := (sw f g, 327)) (nc' := 327) (ns' := 208818) sl_0_26 rfl) ?_
  refine Eq.trans (st_go (pc' := 29) (lv' := [(4, .int 6), (3, .ref 326), (2, .ref 189), (1, .ref 0), (0, .ref 1000000)]) (st' := [.int 6, .int 6, .int 6]) (t' := (sw f g, 327)) (nc' := 327) (ns' := 208818) sl_0_27 rfl) ?_
  refine Eq.trans (st_go (pc' := 30) (lv' := [(4, .int 6), (3, .ref 326), (2, .ref 189), (1, .ref 0), (0, .ref 1000000)]) (st' := [.int 0, .int 6]) (t' := (sw f g, 327)) (nc' := 327) (ns' := 208818) sl_0_29 rfl) ?_
  refine Eq.trans (st_go (pc' := 1178) (lv' := [(4, .int 6), (3, .ref 326), (2, .ref 189), (1, .ref 0), (0, .ref 1000000)]) (st' := []) (t' := (sw f g, 327)) (nc' := 327) (ns' := 208818) sl_0_30 rfl) ?_
  refine Eq.trans (st_go (pc' := 1179) (lv' := [(4, .int 6), (3, .ref 326), (2, .ref 189), (1, .ref 0), (0, .ref 1000000)]) (st' := [.int 1]) (t' := (sw f g, 327)) (nc' := 327) (ns' := 208818) sl_0_1178 rfl) ?_
  exact st_end sl_0_1179 rfl
set_option maxRecDepth 100000 in
theorem so_22 (xs : Nat → Int32) (sio : Value) (f : Nat → Nat → Int32) (g : Nat → Nat → Int64) (n : Nat) (hn : 11 ≤ n) : sR 6 xs sio 17 pm_0 n (40, [(4, .int 0), (3, .ref 326), (2, .ref 189), (1, .ref 0), (0, .ref 1000000)], [.int 22], (sw f g, 327), 327, 208818) = some (.inl (some (.int 1)), (sw f g, 327), 327, 208818) := by
  obtain ⟨m, rfl⟩ : ∃ m, n = m + 11 := ⟨n - 11, by omega⟩
  refine Eq.trans (st_go (pc' := 1172) (lv' := [(4, .int 0), (3, .ref 326), (2, .ref 189), (1, .ref 0), (0, .ref 1000000)]) (st' := []) (t' := (sw f g, 327)) (nc' := 327) (ns' := 208818) sl_0_40 rfl) ?_
  refine Eq.trans (st_go (pc' := 1175) (lv' := [(4, .int 6), (3, .ref 326), (2, .ref 189), (1, .ref 0), (0, .ref 1000000)]) (st' := []) (t' := (sw f g, 327)) (nc' := 327) (ns' := 208818) sl_0_1172 rfl) ?_
  refine Eq.trans (st_go (pc' := 23) (lv' := [(4, .int 6), (3, .ref 326), (2, .ref 189), (1, .ref 0), (0, .ref 1000000)]) (st' := []) (t' := (sw f g, 327)) (nc' := 327) (ns' := 208818) sl_0_1175 rfl) ?_
  refine Eq.trans (st_go (pc' := 25) (lv' := [(4, .int 6), (3, .ref 326), (2, .ref 189), (1, .ref 0), (0, .ref 1000000)]) (st' := [.int 6]) (t' := (sw f g, 327)) (nc' := 327) (ns' := 208818) sl_0_23 rfl) ?_
  refine Eq.trans (st_go (pc' := 26) (lv' := [(4, .int 6), (3, .ref 326), (2, .ref 189), (1, .ref 0), (0, .ref 1000000)]) (st' := [.ref 1000000, .int 6]) (t' := (sw f g, 327)) (nc' := 327) (ns' := 208818) sl_0_25 rfl) ?_
  refine Eq.trans (st_go (pc' := 27) (lv' := [(4, .int 6), (3, .ref 326), (2, .ref 189), (1, .ref 0), (0, .ref 1000000)]) (st' := [.int 6, .int 6]) (t' := (sw f g, 327)) (nc' := 327) (ns' := 208818) sl_0_26 rfl) ?_
  refine Eq.trans (st_go (pc' := 29) (lv' := [(4, .int 6), (3, .ref 326), (2, .ref 189), (1, .ref 0), (0, .ref 1000000)]) (st' := [.int 6, .int 6, .int 6]) (t' := (sw f g, 327)) (nc' := 327) (ns' := 208818) sl_0_27 rfl) ?_
  refine Eq.trans (st_go (pc' := 30) (lv' := [(4, .int 6), (3, .ref 326), (2, .ref 189), (1, .ref 0), (0, .ref 1000000)]) (st' := [.int 0, .int 6]) (t' := (sw f g, 327)) (nc' := 327) (ns' := 208818) sl_0_29 rfl) ?_
  refine Eq.trans (st_go (pc' := 1178) (lv' := [(4, .int 6), (3, .ref 326), (2, .ref 189), (1, .ref 0), (0, .ref 1000000)]) (st' := []) (t' := (sw f g, 327)) (nc' := 327) (ns' := 208818) sl_0_30 rfl) ?_
  refine Eq.trans (st_go (pc' := 1179) (lv' := [(4, .int 6), (3, .ref 326), (2, .ref 189), (1, .ref 0), (0, .ref 1000000)]) (st' := [.int 1]) (t' := (sw f g, 327)) (nc' := 327) (ns' := 208818) sl_0_1178 rfl) ?_
  exact st_end sl_0_1179 rfl
set_option maxRecDepth 100000 in
theorem so_23 (xs : Nat → Int32) (sio : Value) (f : Nat → Nat → Int32) (g : Nat → Nat → Int64) (n : Nat) (hn : 11 ≤ n) : sR 6 xs sio 17 pm_0 n (40, [(4, .int 0), (3, .ref 326), (2, .ref 189), (1, .ref 0), (0, .ref 1000000)], [.int 23], (sw f g, 327), 327, 208818) = some (.inl (some (.int 1)), (sw f g, 327), 327, 208818) := by
  obtain ⟨m, rfl⟩ : ∃ m, n = m + 11 := ⟨n - 11, by omega⟩
  refine Eq.trans (st_go (pc' := 1172) (lv' := [(4, .int 0), (3, .ref 326), (2, .ref 189), (1, .ref 0), (0, .ref 1000000)]) (st' := []) (t' := (sw f g, 327)) (nc' := 327) (ns' := 208818) sl_0_40 rfl) ?_
  refine Eq.trans (st_go (pc' := 1175) (lv' := [(4, .int 6), (3, .ref 326), (2, .ref 189), (1, .ref 0), (0, .ref 1000000)]) (st' := []) (t' := (sw f g, 327)) (nc' := 327) (ns' := 208818) sl_0_1172 rfl) ?_
  refine Eq.trans (st_go (pc' := 23) (lv' := [(4, .int 6), (3, .ref 326), (2, .ref 189), (1, .ref 0), (0, .ref 1000000)]) (st' := []) (t' := (sw f g, 327)) (nc' := 327) (ns' := 208818) sl_0_1175 rfl) ?_
  refine Eq.trans (st_go (pc' := 25) (lv' := [(4, .int 6), (3, .ref 326), (2, .ref 189), (1, .ref 0), (0, .ref 1000000)]) (st' := [.int 6]) (t' := (sw f g, 327)) (nc' := 327) (ns' := 208818) sl_0_23 rfl) ?_
  refine Eq.trans (st_go (pc' := 26) (lv' := [(4, .int 6), (3, .ref 326), (2, .ref 189), (1, .ref 0), (0, .ref 1000000)]) (st' := [.ref 1000000, .int 6]) (t' := (sw f g, 327)) (nc' := 327) (ns' := 208818) sl_0_25 rfl) ?_
  refine Eq.trans (st_go (pc' := 27) (lv' := [(4, .int 6), (3, .ref 326), (2, .ref 189), (1, .ref 0), (0, .ref 1000000)]) (st' := [.int 6, .int 6]) (t' := (sw f g, 327)) (nc' := 327) (ns' := 208818) sl_0_26 rfl) ?_
  refine Eq.trans (st_go (pc' := 29) (lv' := [(4, .int 6), (3, .ref 326), (2, .ref 189), (1, .ref 0), (0, .ref 1000000)]) (st' := [.int 6, .int 6, .int 6]) (t' := (sw f g, 327)) (nc' := 327) (ns' := 208818) sl_0_27 rfl) ?_
  refine Eq.trans (st_go (pc' := 30) (lv' := [(4, .int 6), (3, .ref 326), (2, .ref 189), (1, .ref 0), (0, .ref 1000000)]) (st' := [.int 0, .int 6]) (t' := (sw f g, 327)) (nc' := 327) (ns' := 208818) sl_0_29 rfl) ?_
  refine Eq.trans (st_go (pc' := 1178) (lv' := [(4, .int 6), (3, .ref 326), (2, .ref 189), (1, .ref 0), (0, .ref 1000000)]) (st' := []) (t' := (sw f g, 327)) (nc' := 327) (ns' := 208818) sl_0_30 rfl) ?_
  refine Eq.trans (st_go (pc' := 1179) (lv' := [(4, .int 6), (3, .ref 326), (2, .ref 189), (1, .ref 0), (0, .ref 1000000)]) (st' := [.int 1]) (t' := (sw f g, 327)) (nc' := 327) (ns' := 208818) sl_0_1178 rfl) ?_
  exact st_end sl_0_1179 rfl
set_option maxRecDepth 100000 in
theorem so_24 (xs : Nat → Int32) (sio : Value) (f : Nat → Nat → Int32) (g : Nat → Nat → Int64) (n : Nat) (hn : 11 ≤ n) : sR 6 xs sio 17 pm_0 n (40, [(4, .int 0), (3, .ref 326), (2, .ref 189), (1, .ref 0), (0, .ref 1000000)], [.int 24], (sw f g, 327), 327, 208818) = some (.inl (some (.int 1)), (sw f g, 327), 327, 208818) := by
  obtain ⟨m, rfl⟩ : ∃ m, n = m + 11 := ⟨n - 11, by omega⟩
  refine Eq.trans (st_go (pc' := 1172) (lv' := [(4, .int 0), (3, .ref 326), (2, .ref 189), (1, .ref 0), (0, .ref 1000000)]) (st' := []) (t' := (sw f g, 327)) (nc' := 327) (ns' := 208818) sl_0_40 rfl) ?_
  refine Eq.trans (st_go (pc' := 1175) (lv' := [(4, .int 6), (3, .ref 326), (2, .ref 189), (1, .ref 0), (0, .ref 1000000)]) (st' := []) (t' := (sw f g, 327)) (nc' := 327) (ns' := 208818) sl_0_1172 rfl) ?_
  refine Eq.trans (st_go (pc' := 23) (lv' := [(4, .int 6), (3, .ref 326), (2, .ref 189), (1, .ref 0), (0, .ref 1000000)]) (st' := []) (t' := (sw f g, 327)) (nc' := 327) (ns' := 208818) sl_0_1175 rfl) ?_
  refine Eq.trans (st_go (pc' := 25) (lv' := [(4, .int 6), (3, .ref 326), (2, .ref 189), (1, .ref 0), (0, .ref 1000000)]) (st' := [.int 6]) (t' := (sw f g, 327)) (nc' := 327) (ns' := 208818) sl_0_23 rfl) ?_
  refine Eq.trans (st_go (pc' := 26) (lv' := [(4, .int 6), (3, .ref 326), (2, .ref 189), (1, .ref 0), (0, .ref 1000000)]) (st' := [.ref 1000000, .int 6]) (t' := (sw f g, 327)) (nc' := 327) (ns' := 208818) sl_0_25 rfl) ?_
  refine Eq.trans (st_go (pc' := 27) (lv' := [(4, .int 6), (3, .ref 326), (2, .ref 189), (1, .ref 0), (0, .ref 1000000)]) (st' := [.int 6, .int 6]) (t' := (sw f g, 327)) (nc' := 327) (ns' := 208818) sl_0_26 rfl) ?_
  refine Eq.trans (st_go (pc' := 29) (lv' := [(4, .int 6), (3, .ref 326), (2, .ref 189), (1, .ref 0), (0, .ref 1000000)]) (st' := [.int 6, .int 6, .int 6]) (t' := (sw f g, 327)) (nc' := 327) (ns' := 208818) sl_0_27 rfl) ?_
  refine Eq.trans (st_go (pc' := 30) (lv' := [(4, .int 6), (3, .ref 326), (2, .ref 189), (1, .ref 0), (0, .ref 1000000)]) (st' := [.int 0, .int 6]) (t' := (sw f g, 327)) (nc' := 327) (ns' := 208818) sl_0_29 rfl) ?_
  refine Eq.trans (st_go (pc' := 1178) (lv' := [(4, .int 6), (3, .ref 326), (2, .ref 189), (1, .ref 0), (0, .ref 1000000)]) (st' := []) (t' := (sw f g, 327)) (nc' := 327) (ns' := 208818) sl_0_30 rfl) ?_
  refine Eq.trans (st_go (pc' := 1179) (lv' := [(4, .int 6), (3, .ref 326), (2, .ref 189), (1, .ref 0), (0, .ref 1000000)]) (st' := [.int 1]) (t' := (sw f g, 327)) (nc' := 327) (ns' := 208818) sl_0_1178 rfl) ?_
  exact st_end sl_0_1179 rfl
set_option maxRecDepth 100000 in
theorem so_25 (xs : Nat → Int32) (sio : Value) (f : Nat → Nat → Int32) (g : Nat → Nat → Int64) (n : Nat) (hn : 11 ≤ n) : sR 6 xs sio 17 pm_0 n (40, [(4, .int 0), (3, .ref 326), (2, .ref 189), (1, .ref 0), (0, .ref 1000000)], [.int 25], (sw f g, 327), 327, 208818) = some (.inl (some (.int 1)), (sw f g, 327), 327, 208818) := by
  obtain ⟨m, rfl⟩ : ∃ m, n = m + 11 := ⟨n - 11, by omega⟩
  refine Eq.trans (st_go (pc' := 1172) (lv' := [(4, .int 0), (3, .ref 326), (2, .ref 189), (1, .ref 0), (0, .ref 1000000)]) (st' := []) (t' := (sw f g, 327)) (nc' := 327) (ns' := 208818) sl_0_40 rfl) ?_
  refine Eq.trans (st_go (pc' := 1175) (lv' := [(4, .int 6), (3, .ref 326), (2, .ref 189), (1, .ref 0), (0, .ref 1000000)]) (st' := []) (t' := (sw f g, 327)) (nc' := 327) (ns' := 208818) sl_0_1172 rfl) ?_
  refine Eq.trans (st_go (pc' := 23) (lv' := [(4, .int 6), (3, .ref 326), (2, .ref 189), (1, .ref 0), (0, .ref 1000000)]) (st' := []) (t' := (sw f g, 327)) (nc' := 327) (ns' := 208818) sl_0_1175 rfl) ?_
  refine Eq.trans (st_go (pc' := 25) (lv' := [(4, .int 6), (3, .ref 326), (2, .ref 189), (1, .ref 0), (0, .ref 1000000)]) (st' := [.int 6]) (t' := (sw f g, 327)) (nc' := 327) (ns' := 208818) sl_0_23 rfl) ?_
  refine Eq.trans (st_go (pc' := 26) (lv' := [(4, .int 6), (3, .ref 326), (2, .ref 189), (1, .ref 0), (0, .ref 1000000)]) (st' := [.ref 1000000, .int 6]) (t' := (sw f g, 327)) (nc' := 327) (ns' := 208818) sl_0_25 rfl) ?_
  refine Eq.trans (st_go (pc' := 27) (lv' := [(4, .int 6), (3, .ref 326), (2, .ref 189), (1, .ref 0), (0, .ref 1000000)]) (st' := [.int 6, .int 6]) (t' := (sw f g, 327)) (nc' := 327) (ns' := 208818) sl_0_26 rfl) ?_
  refine Eq.trans (st_go (pc' := 29) (lv' := [(4, .int 6), (3, .ref 326), (2, .ref 189), (1, .ref 0), (0, .ref 1000000)]) (st' := [.int 6, .int 6, .int 6]) (t' := (sw f g, 327)) (nc' := 327) (ns' := 208818) sl_0_27 rfl) ?_
  refine Eq.trans (st_go (pc' := 30) (lv' := [(4, .int 6), (3, .ref 326), (2, .ref 189), (1, .ref 0), (0, .ref 1000000)]) (st' := [.int 0, .int 6]) (t' := (sw f g, 327)) (nc' := 327) (ns' := 208818) sl_0_29 rfl) ?_
  refine Eq.trans (st_go (pc' := 1178) (lv' := [(4, .int 6), (3, .ref 326), (2, .ref 189), (1, .ref 0), (0, .ref 1000000)]) (st' := []) (t' := (sw f g, 327)) (nc' := 327) (ns' := 208818) sl_0_30 rfl) ?_
  refine Eq.trans (st_go (pc' := 1179) (lv' := [(4, .int 6), (3, .ref 326), (2, .ref 189), (1, .ref 0), (0, .ref 1000000)]) (st' := [.int 1]) (t' := (sw f g, 327)) (nc' := 327) (ns' := 208818) sl_0_1178 rfl) ?_
  exact st_end sl_0_1179 rfl
set_option maxRecDepth 100000 in
theorem so_26 (xs : Nat → Int32) (sio : Value) (f : Nat → Nat → Int32) (g : Nat → Nat → Int64) (n : Nat) (hn : 11 ≤ n) : sR 6 xs sio 17 pm_0 n (40, [(4, .int 0), (3, .ref 326), (2, .ref 189), (1, .ref 0), (0, .ref 1000000)], [.int 26], (sw f g, 327), 327, 208818) = some (.inl (some (.int 1)), (sw f g, 327), 327, 208818) := by
  obtain ⟨m, rfl⟩ : ∃ m, n = m + 11 := ⟨n - 11, by omega⟩
  refine Eq.trans (st_go (pc' := 1172) (lv' := [(4, .int 0), (3, .ref 326), (2, .ref 189), (1, .ref 0), (0, .ref 1000000)]) (st' := []) (t' := (sw f g, 327)) (nc' := 327) (ns' := 208818) sl_0_40 rfl) ?_
  refine Eq.trans (st_go (pc' := 1175) (lv' := [(4, .int 6), (3, .ref 326), (2, .ref 189), (1, .ref 0), (0, .ref 1000000)]) (st' := []) (t' := (sw f g, 327)) (nc' := 327) (ns' := 208818) sl_0_1172 rfl) ?_
  refine Eq.trans (st_go (pc' := 23) (lv' := [(4, .int 6), (3, .ref 326), (2, .ref 189), (1, .ref 0), (0, .ref 1000000)]) (st' := []) (t' := (sw f g, 327)) (nc' := 327) (ns' := 208818) sl_0_1175 rfl) ?_
  refine Eq.trans (st_go (pc' := 25) (lv' := [(4, .int 6), (3, .ref 326), (2, .ref 189), (1, .ref 0), (0, .ref 1000000)]) (st' := [.int 6]) (t' := (sw f g, 327)) (nc' := 327) (ns' := 208818) sl_0_23 rfl) ?_
  refine Eq.trans (st_go (pc' := 26) (lv' := [(4, .int 6), (3, .ref 326), (2, .ref 189), (1, .ref 0), (0, .ref 1000000)]) (st' := [.ref 1000000, .int 6]) (t' := (sw f g, 327)) (nc' := 327) (ns' := 208818) sl_0_25 rfl) ?_
  refine Eq.trans (st_go (pc' := 27) (lv' := [(4, .int 6), (3, .ref 326), (2, .ref 189), (1, .ref 0), (0, .ref 1000000)]) (st' := [.int 6, .int 6]) (t' := (sw f g, 327)) (nc' := 327) (ns' := 208818) sl_0_26 rfl) ?_
  refine Eq.trans (st_go (pc' := 29) (lv' := [(4, .int 6), (3, .ref 326), (2, .ref 189), (1, .ref 0), (0, .ref 1000000)]) (st' := [.int 6, .int 6, .int 6]) (t' := (sw f g, 327)) (nc' := 327) (ns' := 208818) sl_0_27 rfl) ?_
  refine Eq.trans (st_go (pc' := 30) (lv' := [(4, .int 6), (3, .ref 326), (2, .ref 189), (1, .ref 0), (0, .ref 1000000)]) (st' := [.int 0, .int 6]) (t' := (sw f g, 327)) (nc' := 327) (ns' := 208818) sl_0_29 rfl) ?_
  refine Eq.trans (st_go (pc' := 1178) (lv' := [(4, .int 6), (3, .ref 326), (2, .ref 189), (1, .ref 0), (0, .ref 1000000)]) (st' := []) (t' := (sw f g, 327)) (nc' := 327) (ns' := 208818) sl_0_30 rfl) ?_
  refine Eq.trans (st_go (pc' := 1179) (lv' := [(4, .int 6), (3, .ref 326), (2, .ref 189), (1, .ref 0), (0, .ref 1000000)]) (st' := [.int 1]) (t' := (sw f g, 327)) (nc' := 327) (ns' := 208818) sl_0_1178 rfl) ?_
  exact st_end sl_0_1179 rfl
set_option maxRecDepth 100000 in
theorem so_27 (xs : Nat → Int32) (sio : Value) (f : Nat → Nat → Int32) (g : Nat → Nat → Int64) (n : Nat) (hn : 11 ≤ n) : sR 6 xs sio 17 pm_0 n (40, [(4, .int 0), (3, .ref 326), (2, .ref 189), (1, .ref 0), (0, .ref 1000000)], [.int 27], (sw f g, 327), 327, 208818) = some (.inl (some (.int 1)), (sw f g, 327), 327, 208818) := by
  obtain ⟨m, rfl⟩ : ∃ m, n = m + 11 := ⟨n - 11, by omega⟩
  refine Eq.trans (st_go (pc' := 1172) (lv' := [(4, .int 0), (3, .ref 326), (2, .ref 189), (1, .ref 0), (0, .ref 1000000)]) (st' := []) (t' := (sw f g, 327)) (nc' := 327) (ns' := 208818) sl_0_40 rfl) ?_
  refine Eq.trans (st_go (pc' := 1175) (lv' := [(4, .int 6), (3, .ref 326), (2, .ref 189), (1, .ref 0), (0, .ref 1000000)]) (st' := []) (t' := (sw f g, 327)) (nc' := 327) (ns' := 208818) sl_0_1172 rfl) ?_
  refine Eq.trans (st_go (pc' := 23) (lv' := [(4, .int 6), (3, .ref 326), (2, .ref 189), (1, .ref 0), (0, .ref 1000000)]) (st' := []) (t' := (sw f g, 327)) (nc' := 327) (ns' := 208818) sl_0_1175 rfl) ?_
  refine Eq.trans (st_go (pc' := 25) (lv' := [(4, .int 6), (3, .ref 326), (2, .ref 189), (1, .ref 0), (0, .ref 1000000)]) (st' := [.int 6]) (t' := (sw f g, 327)) (nc' := 327) (ns' := 208818) sl_0_23 rfl) ?_
  refine Eq.trans (st_go (pc' := 26) (lv' := [(4, .int 6), (3, .ref 326), (2, .ref 189), (1, .ref 0), (0, .ref 1000000)]) (st' := [.ref 1000000, .int 6]) (t' := (sw f g, 327)) (nc' := 327) (ns' := 208818) sl_0_25 rfl) ?_
  refine Eq.trans (st_go (pc' := 27) (lv' := [(4, .int 6), (3, .ref 326), (2, .ref 189), (1, .ref 0), (0, .ref 1000000)]) (st' := [.int 6, .int 6]) (t' := (sw f g, 327)) (nc' := 327) (ns' := 208818) sl_0_26 rfl) ?_
  refine Eq.trans (st_go (pc' := 29) (lv' := [(4, .int 6), (3, .ref 326), (2, .ref 189), (1, .ref 0), (0, .ref 1000000)]) (st' := [.int 6, .int 6, .int 6]) (t' := (sw f g, 327)) (nc' := 327) (ns' := 208818) sl_0_27 rfl) ?_
  refine Eq.trans (st_go (pc' := 30) (lv' := [(4, .int 6), (3, .ref 326), (2, .ref 189), (1, .ref 0), (0, .ref 1000000)]) (st' := [.int 0, .int 6]) (t' := (sw f g, 327)) (nc' := 327) (ns' := 208818) sl_0_29 rfl) ?_
  refine Eq.trans (st_go (pc' := 1178) (lv' := [(4, .int 6), (3, .ref 326), (2, .ref 189), (1, .ref 0), (0, .ref 1000000)]) (st' := []) (t' := (sw f g, 327)) (nc' := 327) (ns' := 208818) sl_0_30 rfl) ?_
  refine Eq.trans (st_go (pc' := 1179) (lv' := [(4, .int 6), (3, .ref 326), (2, .ref 189), (1, .ref 0), (0, .ref 1000000)]) (st' := [.int 1]) (t' := (sw f g, 327)) (nc' := 327) (ns' := 208818) sl_0_1178 rfl) ?_
  exact st_end sl_0_1179 rfl
set_option maxRecDepth 100000 in
theorem so_28 (xs : Nat → Int32) (sio : Value) (f : Nat → Nat → Int32) (g : Nat → Nat → Int64) (n : Nat) (hn : 11 ≤ n) : sR 6 xs sio 17 pm_0 n (40, [(4, .int 0), (3, .ref 326), (2, .ref 189), (1, .ref 0), (0, .ref 1000000)], [.int 28], (sw f g, 327), 327, 208818) = some (.inl (some (.int 1)), (sw f g, 327), 327, 208818) := by
  obtain ⟨m, rfl⟩ : ∃ m, n = m + 11 := ⟨n - 11, by omega⟩
  refine Eq.trans (st_go (pc' := 1172) (lv' := [(4, .int 0), (3, .ref 326), (2, .ref 189), (1, .ref 0), (0, .ref 1000000)]) (st' := []) (t' := (sw f g, 327)) (nc' := 327) (ns' := 208818) sl_0_40 rfl) ?_
  refine Eq.trans (st_go (pc' := 1175) (lv' := [(4, .int 6), (3, .ref 326), (2, .ref 189), (1, .ref 0), (0, .ref 1000000)]) (st' := []) (t' := (sw f g, 327)) (nc' := 327) (ns' := 208818) sl_0_1172 rfl) ?_
  refine Eq.trans (st_go (pc' := 23) (lv' := [(4, .int 6), (3, .ref 326), (2, .ref 189), (1, .ref 0), (0, .ref 1000000)]) (st' := []) (t' := (sw f g, 327)) (nc' := 327) (ns' := 208818) sl_0_1175 rfl) ?_
  refine Eq.trans (st_go (pc' := 25) (lv' := [(4, .int 6), (3, .ref 326), (2, .ref 189), (1, .ref 0), (0, .ref 1000000)]) (st' := [.int 6]) (t' := (sw f g, 327)) (nc' := 327) (ns' := 208818) sl_0_23 rfl) ?_
  refine Eq.trans (st_go (pc' := 26) (lv' := [(4, .int 6), (3, .ref 326), (2, .ref 189), (1, .ref 0), (0, .ref 1000000)]) (st' := [.ref 1000000, .int 6]) (t' := (sw f g, 327)) (nc' := 327) (ns' := 208818) sl_0_25 rfl) ?_
  refine Eq.trans (st_go (pc' := 27) (lv' := [(4, .int 6), (3, .ref 326), (2, .ref 189), (1, .ref 0), (0, .ref 1000000)]) (st' := [.int 6, .int 6]) (t' := (sw f g, 327)) (nc' := 327) (ns' := 208818) sl_0_26 rfl) ?_
  refine Eq.trans (st_go (pc' := 29) (lv' := [(4, .int 6), (3, .ref 326), (2, .ref 189), (1, .ref 0), (0, .ref 1000000)]) (st' := [.int 6, .int 6, .int 6]) (t' := (sw f g, 327)) (nc' := 327) (ns' := 208818) sl_0_27 rfl) ?_
  refine Eq.trans (st_go (pc' := 30) (lv' := [(4, .int 6), (3, .ref 326), (2, .ref 189), (1, .ref 0), (0, .ref 1000000)]) (st' := [.int 0, .int 6]) (t' := (sw f g, 327)) (nc' := 327) (ns' := 208818) sl_0_29 rfl) ?_
  refine Eq.trans (st_go (pc' := 1178) (lv' := [(4, .int 6), (3, .ref 326), (2, .ref 189), (1, .ref 0), (0, .ref 1000000)]) (st' := []) (t' := (sw f g, 327)) (nc' := 327) (ns' := 208818) sl_0_30 rfl) ?_
  refine Eq.trans (st_go (pc' := 1179) (lv' := [(4, .int 6), (3, .ref 326), (2, .ref 189), (1, .ref 0), (0, .ref 1000000)]) (st' := [.int 1]) (t' := (sw f g, 327)) (nc' := 327) (ns' := 208818) sl_0_1178 rfl) ?_
  exact st_end sl_0_1179 rfl
set_option maxRecDepth 100000 in
theorem so_29 (xs : Nat → Int32) (sio : Value) (f : Nat → Nat → Int32) (g : Nat → Nat → Int64) (n : Nat) (hn : 11 ≤ n) : sR 6 xs sio 17 pm_0 n (40, [(4, .int 0), (3, .ref 326), (2, .ref 189), (1, .ref 0), (0, .ref 1000000)], [.int 29], (sw f g, 327), 327, 208818) = some (.inl (some (.int 1)), (sw f g, 327), 327, 208818) := by
  obtain ⟨m, rfl⟩ : ∃ m, n = m + 11 := ⟨n - 11, by omega⟩
  refine Eq.trans (st_go (pc' := 1172) (lv' := [(4, .int 0), (3, .ref 326), (2, .ref 189), (1, .ref 0), (0, .ref 1000000)]) (st' := []) (t' := (sw f g, 327)) (nc' := 327) (ns' := 208818) sl_0_40 rfl) ?_
  refine Eq.trans (st_go (pc' := 1175) (lv' := [(4, .int 6), (3, .ref 326), (2, .ref 189), (1, .ref 0), (0, .ref 1000000)]) (st' := []) (t' := (sw f g, 327)) (nc' := 327) (ns' := 208818) sl_0_1172 rfl) ?_
  refine Eq.trans (st_go (pc' := 23) (lv' := [(4, .int 6), (3, .ref 326), (2, .ref 189), (1, .ref 0), (0, .ref 1000000)]) (st' := []) (t' := (sw f g, 327)) (nc' := 327) (ns' := 208818) sl_0_1175 rfl) ?_
  refine Eq.trans (st_go (pc' := 25) (lv' := [(4, .int 6), (3, .ref 326), (2, .ref 189), (1, .ref 0), (0, .ref 1000000)]) (st' := [.int 6]) (t' := (sw f g, 327)) (nc' := 327) (ns' := 208818) sl_0_23 rfl) ?_
  refine Eq.trans (st_go (pc' := 26) (lv' := [(4, .int 6), (3, .ref 326), (2, .ref 189), (1, .ref 0), (0, .ref 1000000)]) (st' := [.ref 1000000, .int 6]) (t' := (sw f g, 327)) (nc' := 327) (ns' := 208818) sl_0_25 rfl) ?_
  refine Eq.trans (st_go (pc' := 27) (lv' := [(4, .int 6), (3, .ref 326), (2, .ref 189), (1, .ref 0), (0, .ref 1000000)]) (st' := [.int 6, .int 6]) (t' := (sw f g, 327)) (nc' := 327) (ns' := 208818) sl_0_26 rfl) ?_
  refine Eq.trans (st_go (pc' := 29) (lv' := [(4, .int 6), (3, .ref 326), (2, .ref 189), (1, .ref 0), (0, .ref 1000000)]) (st' := [.int 6, .int 6, .int 6]) (t' := (sw f g, 327)) (nc' := 327) (ns' := 208818) sl_0_27 rfl) ?_
  refine Eq.trans (st_go (pc' := 30) (lv' := [(4, .int 6), (3, .ref 326), (2, .ref 189), (1, .ref 0), (0, .ref 1000000)]) (st' := [.int 0, .int 6]) (t' := (sw f g, 327)) (nc' := 327) (ns' := 208818) sl_0_29 rfl) ?_
  refine Eq.trans (st_go (pc' := 1178) (lv' := [(4, .int 6), (3, .ref 326), (2, .ref 189), (1, .ref 0), (0, .ref 1000000)]) (st' := []) (t' := (sw f g, 327)) (nc' := 327) (ns' := 208818) sl_0_30 rfl) ?_
  refine Eq.trans (st_go (pc' := 1179) (lv' := [(4, .int 6), (3, .ref 326), (2, .ref 189), (1, .ref 0), (0, .ref 1000000)]) (st' := [.int 1]) (t' := (sw f g, 327)) (nc' := 327) (ns' := 208818) sl_0_1178 rfl) ?_
  exact st_end sl_0_1179 rfl
set_option maxRecDepth 100000 in
theorem so_30 (xs : Nat → Int32) (sio : Value) (f : Nat → Nat → Int32) (g : Nat → Nat → Int64) (n : Nat) (hn : 11 ≤ n) : sR 6 xs sio 17 pm_0 n (40, [(4, .int 0), (3, .ref 326), (2, .ref 189), (1, .ref 0), (0, .ref 1000000)], [.int 30], (sw f g, 327), 327, 208818) = some (.inl (some (.int 1)), (sw f g, 327), 327, 208818) := by
  obtain ⟨m, rfl⟩ : ∃ m, n = m + 11 := ⟨n - 11, by omega⟩
  refine Eq.trans (st_go (pc' := 1172) (lv' := [(4, .int 0), (3, .ref 326), (2, .ref 189), (1, .ref 0), (0, .ref 1000000)]) (st' := []) (t' := (sw f g, 327)) (nc' := 327) (ns' := 208818) sl_0_40 rfl) ?_
  refine Eq.trans (st_go (pc' := 1175) (lv' := [(4, .int 6), (3, .ref 326), (2, .ref 189), (1, .ref 0), (0, .ref 1000000)]) (st' := []) (t' := (sw f g, 327)) (nc' := 327) (ns' := 208818) sl_0_1172 rfl) ?_
  refine Eq.trans (st_go (pc' := 23) (lv' := [(4, .int 6), (3, .ref 326), (2, .ref 189), (1, .ref 0), (0, .ref 1000000)]) (st' := []) (t' := (sw f g, 327)) (nc' := 327) (ns' := 208818) sl_0_1175 rfl) ?_
  refine Eq.trans (st_go (pc' := 25) (lv' := [(4, .int 6), (3, .ref 326), (2, .ref 189), (1, .ref 0), (0, .ref 1000000)]) (st' := [.int 6]) (t' := (sw f g, 327)) (nc' := 327) (ns' := 208818) sl_0_23 rfl) ?_
  refine Eq.trans (st_go (pc' := 26) (lv' := [(4, .int 6), (3, .ref 326), (2, .ref 189), (1, .ref 0), (0, .ref 1000000)]) (st' := [.ref 1000000, .int 6]) (t' := (sw f g, 327)) (nc' := 327) (ns' := 208818) sl_0_25 rfl) ?_
  refine Eq.trans (st_go (pc' := 27) (lv' := [(4, .int 6), (3, .ref 326), (2, .ref 189), (1, .ref 0), (0, .ref 1000000)]) (st' := [.int 6, .int 6]) (t' := (sw f g, 327)) (nc' := 327) (ns' := 208818) sl_0_26 rfl) ?_
  refine Eq.trans (st_go (pc' := 29) (lv' := [(4, .int 6), (3, .ref 326), (2, .ref 189), (1, .ref 0), (0, .ref 1000000)]) (st' := [.int 6, .int 6, .int 6]) (t' := (sw f g, 327)) (nc' := 327) (ns' := 208818) sl_0_27 rfl) ?_
  refine Eq.trans (st_go (pc' := 30) (lv' := [(4, .int 6), (3, .ref 326), (2, .ref 189), (1, .ref 0), (0, .ref 1000000)]) (st' := [.int 0, .int 6]) (t' := (sw f g, 327)) (nc' := 327) (ns' := 208818) sl_0_29 rfl) ?_
  refine Eq.trans (st_go (pc' := 1178) (lv' := [(4, .int 6), (3, .ref 326), (2, .ref 189), (1, .ref 0), (0, .ref 1000000)]) (st' := []) (t' := (sw f g, 327)) (nc' := 327) (ns' := 208818) sl_0_30 rfl) ?_
  refine Eq.trans (st_go (pc' := 1179) (lv' := [(4, .int 6), (3, .ref 326), (2, .ref 189), (1, .ref 0), (0, .ref 1000000)]) (st' := [.int 1]) (t' := (sw f g, 327)) (nc' := 327) (ns' := 208818) sl_0_1178 rfl) ?_
  exact st_end sl_0_1179 rfl
set_option maxRecDepth 100000 in
theorem so_31 (xs : Nat → Int32) (sio : Value) (f : Nat → Nat → Int32) (g : Nat → Nat → Int64) (n : Nat) (hn : 11 ≤ n) : sR 6 xs sio 17 pm_0 n (40, [(4, .int 0), (3, .ref 326), (2, .ref 189), (1, .ref 0), (0, .ref 1000000)], [.int 31], (sw f g, 327), 327, 208818) = some (.inl (some (.int 1)), (sw f g, 327), 327, 208818) := by
  obtain ⟨m, rfl⟩ : ∃ m, n = m + 11 := ⟨n - 11, by omega⟩
  refine Eq.trans (st_go (pc' := 1172) (lv' := [(4, .int 0), (3, .ref 326), (2, .ref 189), (1, .ref 0), (0, .ref 1000000)]) (st' := []) (t' := (sw f g, 327)) (nc' := 327) (ns' := 208818) sl_0_40 rfl) ?_
  refine Eq.trans (st_go (pc' := 1175) (lv' := [(4, .int 6), (3, .ref 326), (2, .ref 189), (1, .ref 0), (0, .ref 1000000)]) (st' := []) (t' := (sw f g, 327)) (nc' := 327) (ns' := 208818) sl_0_1172 rfl) ?_
  refine Eq.trans (st_go (pc' := 23) (lv' := [(4, .int 6), (3, .ref 326), (2, .ref 189), (1, .ref 0), (0, .ref 1000000)]) (st' := []) (t' := (sw f g, 327)) (nc' := 327) (ns' := 208818) sl_0_1175 rfl) ?_
  refine Eq.trans (st_go (pc' := 25) (lv' := [(4, .int 6), (3, .ref 326), (2, .ref 189), (1, .ref 0), (0, .ref 1000000)]) (st' := [.int 6]) (t' := (sw f g, 327)) (nc' := 327) (ns' := 208818) sl_0_23 rfl) ?_
  refine Eq.trans (st_go (pc' := 26) (lv' := [(4, .int 6), (3, .ref 326), (2, .ref 189), (1, .ref 0), (0, .ref 1000000)]) (st' := [.ref 1000000, .int 6]) (t' := (sw f g, 327)) (nc' := 327) (ns' := 208818) sl_0_25 rfl) ?_
  refine Eq.trans (st_go (pc' := 27) (lv' := [(4, .int 6), (3, .ref 326), (2, .ref 189), (1, .ref 0), (0, .ref 1000000)]) (st' := [.int 6, .int 6]) (t' := (sw f g, 327)) (nc' := 327) (ns' := 208818) sl_0_26 rfl) ?_
  refine Eq.trans (st_go (pc' := 29) (lv' := [(4, .int 6), (3, .ref 326), (2, .ref 189), (1, .ref 0), (0, .ref 1000000)]) (st' := [.int 6, .int 6, .int 6]) (t' := (sw f g, 327)) (nc' := 327) (ns' := 208818) sl_0_27 rfl) ?_
  refine Eq.trans (st_go (pc' := 30) (lv' := [(4, .int 6), (3, .ref 326), (2, .ref 189), (1, .ref 0), (0, .ref 1000000)]) (st' := [.int 0, .int 6]) (t' := (sw f g, 327)) (nc' := 327) (ns' := 208818) sl_0_29 rfl) ?_
  refine Eq.trans (st_go (pc' := 1178) (lv' := [(4, .int 6), (3, .ref 326), (2, .ref 189), (1, .ref 0), (0, .ref 1000000)]) (st' := []) (t' := (sw f g, 327)) (nc' := 327) (ns' := 208818) sl_0_30 rfl) ?_
  refine Eq.trans (st_go (pc' := 1179) (lv' := [(4, .int 6), (3, .ref 326), (2, .ref 189), (1, .ref 0), (0, .ref 1000000)]) (st' := [.int 1]) (t' := (sw f g, 327)) (nc' := 327) (ns' := 208818) sl_0_1178 rfl) ?_
  exact st_end sl_0_1179 rfl
set_option maxRecDepth 100000 in
/-- PacketWorks.homeless -/
theorem sw_1 (xs : Nat → Int32) (sio : Value) (f : Nat → Nat → Int32) (g : Nat → Nat → Int64) : sC 6 xs sio 17 30 [.ref 0] (sw f g, 327) = some (.inl (some (.int (-1))), (sw f g, 327), 0, 0) := by
  refine st_in sg_30 rfl rfl ?_
  refine Eq.trans (st_go (pc' := 1) (lv' := [(0, .ref 0)]) (st' := [.ref 0]) (t' := (sw f g, 327)) (nc' := 0) (ns' := 0) sl_30_0 rfl) ?_
  refine Eq.trans (st_go (pc' := 4) (lv' := [(0, .ref 0)]) (st' := [.int (-1)]) (t' := (sw f g, 327)) (nc' := 0) (ns' := 0) sl_30_1 rfl) ?_
  exact st_end sl_30_4 rfl
set_option maxRecDepth 100000 in
/-- PacketWorksModel.homeless -/
theorem sw_2 (xs : Nat → Int32) (sio : Value) (f : Nat → Nat → Int32) (g : Nat → Nat → Int64) : sC 6 xs sio 17 303 [.ref 189] (sw f g, 327) = some (.inl (some (.int (-1))), (sh_1 xs f g, 327), 0, 0) := by
  refine st_in sg_303 rfl rfl ?_
  refine Eq.trans (st_go (pc' := 1) (lv' := [(0, .ref 189)]) (st' := [.ref 189]) (t' := (sw f g, 327)) (nc' := 0) (ns' := 0) sl_303_0 rfl) ?_
  refine Eq.trans (st_go (pc' := 2) (lv' := [(0, .ref 189)]) (st' := [.int 0, .ref 189]) (t' := (sw f g, 327)) (nc' := 0) (ns' := 0) sl_303_1 rfl) ?_
  refine Eq.trans (st_go (pc' := 5) (lv' := [(0, .ref 189)]) (st' := []) (t' := (sh_1 xs f g, 327)) (nc' := 0) (ns' := 0) sl_303_2 rfl) ?_
  refine Eq.trans (st_go (pc' := 6) (lv' := [(0, .ref 189)]) (st' := [.ref 189]) (t' := (sh_1 xs f g, 327)) (nc' := 0) (ns' := 0) sl_303_5 rfl) ?_
  refine Eq.trans (st_go (pc' := 9) (lv' := [(0, .ref 189)]) (st' := [.int (-1)]) (t' := (sh_1 xs f g, 327)) (nc' := 0) (ns' := 0) sl_303_6 rfl) ?_
  exact st_end sl_303_9 rfl
set_option maxRecDepth 100000 in
theorem so_6 (xs : Nat → Int32) (sio : Value) (f : Nat → Nat → Int32) (g : Nat → Nat → Int64) (n : Nat) (hn : 16 ≤ n) : sR 6 xs sio 17 pm_0 n (40, [(4, .int 0), (3, .ref 326), (2, .ref 189), (1, .ref 0), (0, .ref 1000000)], [.int 6], (sw f g, 327), 327, 208818) = some (.inl (some (.int 1)), (sh_1 xs f g, 327), 327, 208818) := by
  obtain ⟨m, rfl⟩ : ∃ m, n = m + 16 := ⟨n - 16, by omega⟩
  refine Eq.trans (st_go (pc' := 406) (lv' := [(4, .int 0), (3, .ref 326), (2, .ref 189), (1, .ref 0), (0, .ref 1000000)]) (st' := []) (t' := (sw f g, 327)) (nc' := 327) (ns' := 208818) sl_0_40 rfl) ?_
  refine Eq.trans (st_go (pc' := 407) (lv' := [(4, .int 0), (3, .ref 326), (2, .ref 189), (1, .ref 0), (0, .ref 1000000)]) (st' := [.ref 0]) (t' := (sw f g, 327)) (nc' := 327) (ns' := 208818) sl_0_406 rfl) ?_
  refine Eq.trans (st_call (pc' := 410) (st' := [.int (-1)]) (nc' := 327) (ns' := 208818) (mi := 30) (av := [.ref 0]) (rest := []) sl_0_407 (fun _ => rfl) (sw_1 xs sio f g) rfl rfl rfl rfl) ?_
  refine Eq.trans (st_go (pc' := 411) (lv' := [(4, .int 0), (3, .ref 326), (2, .ref 189), (1, .ref 0), (0, .ref 1000000)]) (st' := [.ref 189, .int (-1)]) (t' := (sw f g, 327)) (nc' := 327) (ns' := 208818) sl_0_410 rfl) ?_
  refine Eq.trans (st_call (pc' := 414) (st' := [.int (-1), .int (-1)]) (nc' := 327) (ns' := 208818) (mi := 303) (av := [.ref 189]) (rest := [.int (-1)]) sl_0_411 (fun _ => rfl) (sw_2 xs sio f g) rfl rfl rfl rfl) ?_
  refine Eq.trans (st_go (pc' := 1172) (lv' := [(4, .int 0), (3, .ref 326), (2, .ref 189), (1, .ref 0), (0, .ref 1000000)]) (st' := []) (t' := (sh_1 xs f g, 327)) (nc' := 327) (ns' := 208818) sl_0_414 rfl) ?_
  refine Eq.trans (st_go (pc' := 1175) (lv' := [(4, .int 6), (3, .ref 326), (2, .ref 189), (1, .ref 0), (0, .ref 1000000)]) (st' := []) (t' := (sh_1 xs f g, 327)) (nc' := 327) (ns' := 208818) sl_0_1172 rfl) ?_
  refine Eq.trans (st_go (pc' := 23) (lv' := [(4, .int 6), (3, .ref 326), (2, .ref 189), (1, .ref 0), (0, .ref 1000000)]) (st' := []) (t' := (sh_1 xs f g, 327)) (nc' := 327) (ns' := 208818) sl_0_1175 rfl) ?_
  refine Eq.trans (st_go (pc' := 25) (lv' := [(4, .int 6), (3, .ref 326), (2, .ref 189), (1, .ref 0), (0, .ref 1000000)]) (st' := [.int 6]) (t' := (sh_1 xs f g, 327)) (nc' := 327) (ns' := 208818) sl_0_23 rfl) ?_
  refine Eq.trans (st_go (pc' := 26) (lv' := [(4, .int 6), (3, .ref 326), (2, .ref 189), (1, .ref 0), (0, .ref 1000000)]) (st' := [.ref 1000000, .int 6]) (t' := (sh_1 xs f g, 327)) (nc' := 327) (ns' := 208818) sl_0_25 rfl) ?_
  refine Eq.trans (st_go (pc' := 27) (lv' := [(4, .int 6), (3, .ref 326), (2, .ref 189), (1, .ref 0), (0, .ref 1000000)]) (st' := [.int 6, .int 6]) (t' := (sh_1 xs f g, 327)) (nc' := 327) (ns' := 208818) sl_0_26 rfl) ?_
  refine Eq.trans (st_go (pc' := 29) (lv' := [(4, .int 6), (3, .ref 326), (2, .ref 189), (1, .ref 0), (0, .ref 1000000)]) (st' := [.int 6, .int 6, .int 6]) (t' := (sh_1 xs f g, 327)) (nc' := 327) (ns' := 208818) sl_0_27 rfl) ?_
  refine Eq.trans (st_go (pc' := 30) (lv' := [(4, .int 6), (3, .ref 326), (2, .ref 189), (1, .ref 0), (0, .ref 1000000)]) (st' := [.int 0, .int 6]) (t' := (sh_1 xs f g, 327)) (nc' := 327) (ns' := 208818) sl_0_29 rfl) ?_
  refine Eq.trans (st_go (pc' := 1178) (lv' := [(4, .int 6), (3, .ref 326), (2, .ref 189), (1, .ref 0), (0, .ref 1000000)]) (st' := []) (t' := (sh_1 xs f g, 327)) (nc' := 327) (ns' := 208818) sl_0_30 rfl) ?_
  refine Eq.trans (st_go (pc' := 1179) (lv' := [(4, .int 6), (3, .ref 326), (2, .ref 189), (1, .ref 0), (0, .ref 1000000)]) (st' := [.int 1]) (t' := (sh_1 xs f g, 327)) (nc' := 327) (ns' := 208818) sl_0_1178 rfl) ?_
  exact st_end sl_0_1179 rfl
set_option maxRecDepth 100000 in
/-- PacketWorks.size -/
theorem sw_3 (xs : Nat → Int32) (sio : Value) (f : Nat → Nat → Int32) (g : Nat → Nat → Int64) : sC 6 xs sio 17 27 [.ref 0, .int (xs 1)] (sw f g, 327) = some (.inl (some (.int (-1))), (sw f g, 327), 0, 0) := by
  refine st_in sg_27 rfl rfl ?_
  refine Eq.trans (st_go (pc' := 1) (lv' := [(0, .ref 0), (1, .int (xs 1))]) (st' := [.ref 0]) (t' := (sw f g, 327)) (nc' := 0) (ns' := 0) sl_27_0 rfl) ?_
  refine Eq.trans (st_go (pc' := 4) (lv' := [(0, .ref 0), (1, .int (xs 1))]) (st' := [.int 0]) (t' := (sw f g, 327)) (nc' := 0) (ns' := 0) sl_27_1 rfl) ?_
  refine Eq.trans (st_go (pc' := 7) (lv' := [(0, .ref 0), (1, .int (xs 1))]) (st' := []) (t' := (sw f g, 327)) (nc' := 0) (ns' := 0) sl_27_4 rfl) ?_
  refine Eq.trans (st_go (pc' := 8) (lv' := [(0, .ref 0), (1, .int (xs 1))]) (st' := [.int (-1)]) (t' := (sw f g, 327)) (nc' := 0) (ns' := 0) sl_27_7 rfl) ?_
  exact st_end sl_27_8 rfl
set_option maxRecDepth 100000 in
/-- PacketWorksModel.size -/
theorem sw_4 (xs : Nat → Int32) (sio : Value) (f : Nat → Nat → Int32) (g : Nat → Nat → Int64) : sC 6 xs sio 17 288 [.ref 189, .int (xs 1)] (sw f g, 327) = some (.inl (some (.int (-1))), (sh_2 xs f g, 327), 0, 0) := by
  refine st_in sg_288 rfl rfl ?_
  refine Eq.trans (st_go (pc' := 1) (lv' := [(0, .ref 189), (1, .int (xs 1))]) (st' := [.ref 189]) (t' := (sw f g, 327)) (nc' := 0) (ns' := 0) sl_288_0 rfl) ?_
  refine Eq.trans (st_go (pc' := 2) (lv' := [(0, .ref 189), (1, .int (xs 1))]) (st' := [.int 0, .ref 189]) (t' := (sw f g, 327)) (nc' := 0) (ns' := 0) sl_288_1 rfl) ?_
  refine Eq.trans (st_go (pc' := 5) (lv' := [(0, .ref 189), (1, .int (xs 1))]) (st' := []) (t' := (sh_2 xs f g, 327)) (nc' := 0) (ns' := 0) sl_288_2 rfl) ?_
  refine Eq.trans (st_go (pc' := 6) (lv' := [(0, .ref 189), (1, .int (xs 1))]) (st' := [.ref 189]) (t' := (sh_2 xs f g, 327)) (nc' := 0) (ns' := 0) sl_288_5 rfl) ?_
  refine Eq.trans (st_go (pc' := 9) (lv' := [(0, .ref 189), (1, .int (xs 1))]) (st' := [.int 0]) (t' := (sh_2 xs f g, 327)) (nc' := 0) (ns' := 0) sl_288_6 rfl) ?_
  refine Eq.trans (st_go (pc' := 12) (lv' := [(0, .ref 189), (1, .int (xs 1))]) (st' := []) (t' := (sh_2 xs f g, 327)) (nc' := 0) (ns' := 0) sl_288_9 rfl) ?_
  refine Eq.trans (st_go (pc' := 13) (lv' := [(0, .ref 189), (1, .int (xs 1))]) (st' := [.int (-1)]) (t' := (sh_2 xs f g, 327)) (nc' := 0) (ns' := 0) sl_288_12 rfl) ?_
  exact st_end sl_288_13 rfl
set_option maxRecDepth 100000 in
theorem so_4 (xs : Nat → Int32) (sio : Value) (f : Nat → Nat → Int32) (g : Nat → Nat → Int64) (n : Nat) (hn : 26 ≤ n) : sR 6 xs sio 17 pm_0 n (40, [(4, .int 0), (3, .ref 326), (2, .ref 189), (1, .ref 0), (0, .ref 1000000)], [.int 4], (sw f g, 327), 327, 208818) = some (.inl (some (.int 1)), (sh_2 xs f g, 327), 327, 208818) := by
  obtain ⟨m, rfl⟩ : ∃ m, n = m + 26 := ⟨n - 26, by omega⟩
  refine Eq.trans (st_go (pc' := 301) (lv' := [(4, .int 0), (3, .ref 326), (2, .ref 189), (1, .ref 0), (0, .ref 1000000)]) (st' := []) (t' := (sw f g, 327)) (nc' := 327) (ns' := 208818) sl_0_40 rfl) ?_
  refine Eq.trans (st_go (pc' := 302) (lv' := [(4, .int 0), (3, .ref 326), (2, .ref 189), (1, .ref 0), (0, .ref 1000000)]) (st' := [.ref 0]) (t' := (sw f g, 327)) (nc' := 327) (ns' := 208818) sl_0_301 rfl) ?_
  refine Eq.trans (st_go (pc' := 303) (lv' := [(4, .int 0), (3, .ref 326), (2, .ref 189), (1, .ref 0), (0, .ref 1000000)]) (st' := [.ref 1000000, .ref 0]) (t' := (sw f g, 327)) (nc' := 327) (ns' := 208818) sl_0_302 rfl) ?_
  refine Eq.trans (st_go (pc' := 305) (lv' := [(4, .int 0), (3, .ref 326), (2, .ref 189), (1, .ref 0), (0, .ref 1000000)]) (st' := [.int 0, .ref 1000000, .ref 0]) (t' := (sw f g, 327)) (nc' := 327) (ns' := 208818) sl_0_303 rfl) ?_
  refine Eq.trans (st_go (pc' := 306) (lv' := [(4, .int 0), (3, .ref 326), (2, .ref 189), (1, .ref 0), (0, .ref 1000000)]) (st' := [.int 1, .int 0, .ref 1000000, .ref 0]) (t' := (sw f g, 327)) (nc' := 327) (ns' := 208818) sl_0_305 rfl) ?_
  refine Eq.trans (st_go (pc' := 307) (lv' := [(4, .int 0), (3, .ref 326), (2, .ref 189), (1, .ref 0), (0, .ref 1000000)]) (st' := [.int 1, .ref 1000000, .ref 0]) (t' := (sw f g, 327)) (nc' := 327) (ns' := 208818) sl_0_306 rfl) ?_
  refine Eq.trans (st_go (pc' := 308) (lv' := [(4, .int 0), (3, .ref 326), (2, .ref 189), (1, .ref 0), (0, .ref 1000000)]) (st' := [.int (xs 1), .ref 0]) (t' := (sw f g, 327)) (nc' := 327) (ns' := 208818) sl_0_307 rfl) ?_
  refine Eq.trans (st_call (pc' := 311) (st' := [.int (-1)]) (nc' := 327) (ns' := 208818) (mi := 27) (av := [.ref 0, .int (xs 1)]) (rest := []) sl_0_308 (fun _ => rfl) (sw_3 xs sio f g) rfl rfl rfl rfl) ?_
  refine Eq.trans (st_go (pc' := 312) (lv' := [(4, .int 0), (3, .ref 326), (2, .ref 189), (1, .ref 0), (0, .ref 1000000)]) (st' := [.ref 189, .int (-1)]) (t' := (sw f g, 327)) (nc' := 327) (ns' := 208818) sl_0_311 rfl) ?_
  refine Eq.trans (st_go (pc' := 313) (lv' := [(4, .int 0), (3, .ref 326), (2, .ref 189), (1, .ref 0), (0, .ref 1000000)]) (st' := [.ref 1000000, .ref 189, .int (-1)]) (t' := (sw f g, 327)) (nc' := 327) (ns' := 208818) sl_0_312 rfl) ?_
  refine Eq.trans (st_go (pc' := 315) (lv' := [(4, .int 0), (3, .ref 326), (2, .ref 189), (1, .ref 0), (0, .ref 1000000)]) (st' := [.int 0, .ref 1000000, .ref 189, .int (-1)]) (t' := (sw f g, 327)) (nc' := 327) (ns' := 208818) sl_0_313 rfl) ?_
  refine Eq.trans (st_go (pc' := 316) (lv' := [(4, .int 0), (3, .ref 326), (2, .ref 189), (1, .ref 0), (0, .ref 1000000)]) (st' := [.int 1, .int 0, .ref 1000000, .ref 189, .int (-1)]) (t' := (sw f g, 327)) (nc' := 327) (ns' := 208818) sl_0_315 rfl) ?_
  refine Eq.trans (st_go (pc' := 317) (lv' := [(4, .int 0), (3, .ref 326), (2, .ref 189), (1, .ref 0), (0, .ref 1000000)]) (st' := [.int 1, .ref 1000000, .ref 189, .int (-1)]) (t' := (sw f g, 327)) (nc' := 327) (ns' := 208818) sl_0_316 rfl) ?_
  refine Eq.trans (st_go (pc' := 318) (lv' := [(4, .int 0), (3, .ref 326), (2, .ref 189), (1, .ref 0), (0, .ref 1000000)]) (st' := [.int (xs 1), .ref 189, .int (-1)]) (t' := (sw f g, 327)) (nc' := 327) (ns' := 208818) sl_0_317 rfl) ?_
  refine Eq.trans (st_call (pc' := 321) (st' := [.int (-1), .int (-1)]) (nc' := 327) (ns' := 208818) (mi := 288) (av := [.ref 189, .int (xs 1)]) (rest := [.int (-1)]) sl_0_318 (fun _ => rfl) (sw_4 xs sio f g) rfl rfl rfl rfl) ?_
  refine Eq.trans (st_go (pc' := 1172) (lv' := [(4, .int 0), (3, .ref 326), (2, .ref 189), (1, .ref 0), (0, .ref 1000000)]) (st' := []) (t' := (sh_2 xs f g, 327)) (nc' := 327) (ns' := 208818) sl_0_321 rfl) ?_
  refine Eq.trans (st_go (pc' := 1175) (lv' := [(4, .int 6), (3, .ref 326), (2, .ref 189), (1, .ref 0), (0, .ref 1000000)]) (st' := []) (t' := (sh_2 xs f g, 327)) (nc' := 327) (ns' := 208818) sl_0_1172 rfl) ?_
  refine Eq.trans (st_go (pc' := 23) (lv' := [(4, .int 6), (3, .ref 326), (2, .ref 189), (1, .ref 0), (0, .ref 1000000)]) (st' := []) (t' := (sh_2 xs f g, 327)) (nc' := 327) (ns' := 208818) sl_0_1175 rfl) ?_
  refine Eq.trans (st_go (pc' := 25) (lv' := [(4, .int 6), (3, .ref 326), (2, .ref 189), (1, .ref 0), (0, .ref 1000000)]) (st' := [.int 6]) (t' := (sh_2 xs f g, 327)) (nc' := 327) (ns' := 208818) sl_0_23 rfl) ?_
  refine Eq.trans (st_go (pc' := 26) (lv' := [(4, .int 6), (3, .ref 326), (2, .ref 189), (1, .ref 0), (0, .ref 1000000)]) (st' := [.ref 1000000, .int 6]) (t' := (sh_2 xs f g, 327)) (nc' := 327) (ns' := 208818) sl_0_25 rfl) ?_
  refine Eq.trans (st_go (pc' := 27) (lv' := [(4, .int 6), (3, .ref 326), (2, .ref 189), (1, .ref 0), (0, .ref 1000000)]) (st' := [.int 6, .int 6]) (t' := (sh_2 xs f g, 327)) (nc' := 327) (ns' := 208818) sl_0_26 rfl) ?_
  refine Eq.trans (st_go (pc' := 29) (lv' := [(4, .int 6), (3, .ref 326), (2, .ref 189), (1, .ref 0), (0, .ref 1000000)]) (st' := [.int 6, .int 6, .int 6]) (t' := (sh_2 xs f g, 327)) (nc' := 327) (ns' := 208818) sl_0_27 rfl) ?_
  refine Eq.trans (st_go (pc' := 30) (lv' := [(4, .int 6), (3, .ref 326), (2, .ref 189), (1, .ref 0), (0, .ref 1000000)]) (st' := [.int 0, .int 6]) (t' := (sh_2 xs f g, 327)) (nc' := 327) (ns' := 208818) sl_0_29 rfl) ?_
  refine Eq.trans (st_go (pc' := 1178) (lv' := [(4, .int 6), (3, .ref 326), (2, .ref 189), (1, .ref 0), (0, .ref 1000000)]) (st' := []) (t' := (sh_2 xs f g, 327)) (nc' := 327) (ns' := 208818) sl_0_30 rfl) ?_
  refine Eq.trans (st_go (pc' := 1179) (lv' := [(4, .int 6), (3, .ref 326), (2, .ref 189), (1, .ref 0), (0, .ref 1000000)]) (st' := [.int 1]) (t' := (sh_2 xs f g, 327)) (nc' := 327) (ns' := 208818) sl_0_1178 rfl) ?_
  exact st_end sl_0_1179 rfl
set_option maxRecDepth 100000 in
/-- PacketWorks.step -/
theorem sw_5 (xs : Nat → Int32) (sio : Value) (f : Nat → Nat → Int32) (g : Nat → Nat → Int64) : sC 6 xs sio 17 31 [.ref 0, .int (xs 1), .int (xs 2)] (sw f g, 327) = some (.inl (some (.int (-1))), (sw f g, 327), 0, 0) := by
  refine st_in sg_31 rfl rfl ?_
  refine Eq.trans (st_go (pc' := 1) (lv' := [(0, .ref 0), (1, .int (xs 1)), (2, .int (xs 2))]) (st' := [.ref 0]) (t' := (sw f g, 327)) (nc' := 0) (ns' := 0) sl_31_0 rfl) ?_
  refine Eq.trans (st_go (pc' := 4) (lv' := [(0, .ref 0), (1, .int (xs 1)), (2, .int (xs 2))]) (st' := [.ref 12]) (t' := (sw f g, 327)) (nc' := 0) (ns' := 0) sl_31_1 rfl) ?_
  refine Eq.trans (st_go (pc' := 7) (lv' := [(0, .ref 0), (1, .int (xs 1)), (2, .int (xs 2))]) (st' := [.ref 59]) (t' := (sw f g, 327)) (nc' := 0) (ns' := 0) sl_31_4 rfl) ?_
  refine Eq.trans (st_go (pc' := 8) (lv' := [(3, .ref 59), (0, .ref 0), (1, .int (xs 1)), (2, .int (xs 2))]) (st' := []) (t' := (sw f g, 327)) (nc' := 0) (ns' := 0) sl_31_7 rfl) ?_
  refine Eq.trans (st_go (pc' := 9) (lv' := [(3, .ref 59), (0, .ref 0), (1, .int (xs 1)), (2, .int (xs 2))]) (st' := [.ref 0]) (t' := (sw f g, 327)) (nc' := 0) (ns' := 0) sl_31_8 rfl) ?_
  refine Eq.trans (st_go (pc' := 12) (lv' := [(3, .ref 59), (0, .ref 0), (1, .int (xs 1)), (2, .int (xs 2))]) (st' := [.int 0]) (t' := (sw f g, 327)) (nc' := 0) (ns' := 0) sl_31_9 rfl) ?_
  refine Eq.trans (st_go (pc' := 27) (lv' := [(3, .ref 59), (0, .ref 0), (1, .int (xs 1)), (2, .int (xs 2))]) (st' := []) (t' := (sw f g, 327)) (nc' := 0) (ns' := 0) sl_31_12 rfl) ?_
  refine Eq.trans (st_go (pc' := 28) (lv' := [(3, .ref 59), (0, .ref 0), (1, .int (xs 1)), (2, .int (xs 2))]) (st' := [.int (-1)]) (t' := (sw f g, 327)) (nc' := 0) (ns' := 0) sl_31_27 rfl) ?_
  exact st_end sl_31_28 rfl
set_option maxRecDepth 100000 in
/-- PacketWorksModel.step -/
theorem sw_6 (xs : Nat → Int32) (sio : Value) (f : Nat → Nat → Int32) (g : Nat → Nat → Int64) : sC 6 xs sio 17 304 [.ref 189, .int (xs 1), .int (xs 2)] (sw f g, 327) = some (.inl (some (.int (-1))), (sh_3 xs f g, 327), 0, 0) := by
  refine st_in sg_304 rfl rfl ?_
  refine Eq.trans (st_go (pc' := 1) (lv' := [(0, .ref 189), (1, .int (xs 1)), (2, .int (xs 2))]) (st' := [.ref 189]) (t' := (sw f g, 327)) (nc' := 0) (ns' := 0) sl_304_0 rfl) ?_
  refine Eq.trans (st_go (pc' := 2) (lv' := [(0, .ref 189), (1, .int (xs 1)), (2, .int (xs 2))]) (st' := [.int 0, .ref 189]) (t' := (sw f g, 327)) (nc' := 0) (ns' := 0) sl_304_1 rfl) ?_
  refine Eq.trans (st_go (pc' := 5) (lv' := [(0, .ref 189), (1, .int (xs 1)), (2, .int (xs 2))]) (st' := []) (t' := (sh_3 xs f g, 327)) (nc' := 0) (ns' := 0) sl_304_2 rfl) ?_
  refine Eq.trans (st_go (pc' := 6) (lv' := [(0, .ref 189), (1, .int (xs 1)), (2, .int (xs 2))]) (st' := [.ref 189]) (t' := (sh_3 xs f g, 327)) (nc' := 0) (ns' := 0) sl_304_5 rfl) ?_
  refine Eq.trans (st_go (pc' := 9) (lv' := [(0, .ref 189), (1, .int (xs 1)), (2, .int (xs 2))]) (st' := [.int 0]) (t' := (sh_3 xs f g, 327)) (nc' := 0) (ns' := 0) sl_304_6 rfl) ?_
  refine Eq.trans (st_go (pc' := 23) (lv' := [(0, .ref 189), (1, .int (xs 1)), (2, .int (xs 2))]) (st' := []) (t' := (sh_3 xs f g, 327)) (nc' := 0) (ns' := 0) sl_304_9 rfl) ?_
  refine Eq.trans (st_go (pc' := 24) (lv' := [(0, .ref 189), (1, .int (xs 1)), (2, .int (xs 2))]) (st' := [.int (-1)]) (t' := (sh_3 xs f g, 327)) (nc' := 0) (ns' := 0) sl_304_23 rfl) ?_
  exact st_end sl_304_24 rfl
set_option maxRecDepth 100000 in
theorem so_7 (xs : Nat → Int32) (sio : Value) (f : Nat → Nat → Int32) (g : Nat → Nat → Int64) (n : Nat) (hn : 36 ≤ n) : sR 6 xs sio 17 pm_0 n (40, [(4, .int 0), (3, .ref 326), (2, .ref 189), (1, .ref 0), (0, .ref 1000000)], [.int 7], (sw f g, 327), 327, 208818) = some (.inl (some (.int 1)), (sh_3 xs f g, 327), 327, 208818) := by
  obtain ⟨m, rfl⟩ : ∃ m, n = m + 36 := ⟨n - 36, by omega⟩
  refine Eq.trans (st_go (pc' := 419) (lv' := [(4, .int 0), (3, .ref 326), (2, .ref 189), (1, .ref 0), (0, .ref 1000000)]) (st' := []) (t' := (sw f g, 327)) (nc' := 327) (ns' := 208818) sl_0_40 rfl) ?_
  refine Eq.trans (st_go (pc' := 420) (lv' := [(4, .int 0), (3, .ref 326), (2, .ref 189), (1, .ref 0), (0, .ref 1000000)]) (st' := [.ref 0]) (t' := (sw f g, 327)) (nc' := 327) (ns' := 208818) sl_0_419 rfl) ?_
  refine Eq.trans (st_go (pc' := 421) (lv' := [(4, .int 0), (3, .ref 326), (2, .ref 189), (1, .ref 0), (0, .ref 1000000)]) (st' := [.ref 1000000, .ref 0]) (t' := (sw f g, 327)) (nc' := 327) (ns' := 208818) sl_0_420 rfl) ?_
  refine Eq.trans (st_go (pc' := 423) (lv' := [(4, .int 0), (3, .ref 326), (2, .ref 189), (1, .ref 0), (0, .ref 1000000)]) (st' := [.int 0, .ref 1000000, .ref 0]) (t' := (sw f g, 327)) (nc' := 327) (ns' := 208818) sl_0_421 rfl) ?_
  refine Eq.trans (st_go (pc' := 424) (lv' := [(4, .int 0), (3, .ref 326), (2, .ref 189), (1, .ref 0), (0, .ref 1000000)]) (st' := [.int 1, .int 0, .ref 1000000, .ref 0]) (t' := (sw f g, 327)) (nc' := 327) (ns' := 208818) sl_0_423 rfl) ?_
  refine Eq.trans (st_go (pc' := 425) (lv' := [(4, .int 0), (3, .ref 326), (2, .ref 189), (1, .ref 0), (0, .ref 1000000)]) (st' := [.int 1, .ref 1000000, .ref 0]) (t' := (sw f g, 327)) (nc' := 327) (ns' := 208818) sl_0_424 rfl) ?_
  refine Eq.trans (st_go (pc' := 426) (lv' := [(4, .int 0), (3, .ref 326), (2, .ref 189), (1, .ref 0), (0, .ref 1000000)]) (st' := [.int (xs 1), .ref 0]) (t' := (sw f g, 327)) (nc' := 327) (ns' := 208818) sl_0_425 rfl) ?_
  refine Eq.trans (st_go (pc' := 427) (lv' := [(4, .int 0), (3, .ref 326), (2, .ref 189), (1, .ref 0), (0, .ref 1000000)]) (st' := [.ref 1000000, .int (xs 1), .ref 0]) (t' := (sw f g, 327)) (nc' := 327) (ns' := 208818) sl_0_426 rfl) ?_
  refine Eq.trans (st_go (pc' := 429) (lv' := [(4, .int 0), (3, .ref 326), (2, .ref 189), (1, .ref 0), (0, .ref 1000000)]) (st' := [.int 0, .ref 1000000, .int (xs 1), .ref 0]) (t' := (sw f g, 327)) (nc' := 327) (ns' := 208818) sl_0_427 rfl) ?_
  refine Eq.trans (st_go (pc' := 430) (lv' := [(4, .int 0), (3, .ref 326), (2, .ref 189), (1, .ref 0), (0, .ref 1000000)]) (st' := [.int 2, .int 0, .ref 1000000, .int (xs 1), .ref 0]) (t' := (sw f g, 327)) (nc' := 327) (ns' := 208818) sl_0_429 rfl) ?_
  refine Eq.trans (st_go (pc' := 431) (lv' := [(4, .int 0), (3, .ref 326), (2, .ref 189), (1, .ref 0), (0, .ref 1000000)]) (st' := [.int 2, .ref 1000000, .int (xs 1), .ref 0]) (t' := (sw f g, 327)) (nc' := 327) (ns' := 208818) sl_0_430 rfl) ?_
  refine Eq.trans (st_go (pc' := 432) (lv' := [(4, .int 0), (3, .ref 326), (2, .ref 189), (1, .ref 0), (0, .ref 1000000)]) (st' := [.int (xs 2), .int (xs 1), .ref 0]) (t' := (sw f g, 327)) (nc' := 327) (ns' := 208818) sl_0_431 rfl) ?_
  refine Eq.trans (st_call (pc' := 435) (st' := [.int (-1)]) (nc' := 327) (ns' := 208818) (mi := 31) (av := [.ref 0, .int (xs 1), .int (xs 2)]) (rest := []) sl_0_432 (fun _ => rfl) (sw_5 xs sio f g) rfl rfl rfl rfl) ?_
  refine Eq.trans (st_go (pc' := 436) (lv' := [(4, .int 0), (3, .ref 326), (2, .ref 189), (1, .ref 0), (0, .ref 1000000)]) (st' := [.ref 189, .int (-1)]) (t' := (sw f g, 327)) (nc' := 327) (ns' := 208818) sl_0_435 rfl) ?_
  refine Eq.trans (st_go (pc' := 437) (lv' := [(4, .int 0), (3, .ref 326), (2, .ref 189), (1, .ref 0), (0, .ref 1000000)]) (st' := [.ref 1000000, .ref 189, .int (-1)]) (t' := (sw f g, 327)) (nc' := 327) (ns' := 208818) sl_0_436 rfl) ?_
  refine Eq.trans (st_go (pc' := 439) (lv' := [(4, .int 0), (3, .ref 326), (2, .ref 189), (1, .ref 0), (0, .ref 1000000)]) (st' := [.int 0, .ref 1000000, .ref 189, .int (-1)]) (t' := (sw f g, 327)) (nc' := 327) (ns' := 208818) sl_0_437 rfl) ?_
  refine Eq.trans (st_go (pc' := 440) (lv' := [(4, .int 0), (3, .ref 326), (2, .ref 189), (1, .ref 0), (0, .ref 1000000)]) (st' := [.int 1, .int 0, .ref 1000000, .ref 189, .int (-1)]) (t' := (sw f g, 327)) (nc' := 327) (ns' := 208818) sl_0_439 rfl) ?_
  refine Eq.trans (st_go (pc' := 441) (lv' := [(4, .int 0), (3, .ref 326), (2, .ref 189), (1, .ref 0), (0, .ref 1000000)]) (st' := [.int 1, .ref 1000000, .ref 189, .int (-1)]) (t' := (sw f g, 327)) (nc' := 327) (ns' := 208818) sl_0_440 rfl) ?_
  refine Eq.trans (st_go (pc' := 442) (lv' := [(4, .int 0), (3, .ref 326), (2, .ref 189), (1, .ref 0), (0, .ref 1000000)]) (st' := [.int (xs 1), .ref 189, .int (-1)]) (t' := (sw f g, 327)) (nc' := 327) (ns' := 208818) sl_0_441 rfl) ?_
  refine Eq.trans (st_go (pc' := 443) (lv' := [(4, .int 0), (3, .ref 326), (2, .ref 189), (1, .ref 0), (0, .ref 1000000)]) (st' := [.ref 1000000, .int (xs 1), .ref 189, .int (-1)]) (t' := (sw f g, 327)) (nc' := 327) (ns' := 208818) sl_0_442 rfl) ?_
  refine Eq.trans (st_go (pc' := 445) (lv' := [(4, .int 0), (3, .ref 326), (2, .ref 189), (1, .ref 0), (0, .ref 1000000)]) (st' := [.int 0, .ref 1000000, .int (xs 1), .ref 189, .int (-1)]) (t' := (sw f g, 327)) (nc' := 327) (ns' := 208818) sl_0_443 rfl) ?_
  refine Eq.trans (st_go (pc' := 446) (lv' := [(4, .int 0), (3, .ref 326), (2, .ref 189), (1, .ref 0), (0, .ref 1000000)]) (st' := [.int 2, .int 0, .ref 1000000, .int (xs 1), .ref 189, .int (-1)]) (t' := (sw f g, 327)) (nc' := 327) (ns' := 208818) sl_0_445 rfl) ?_
  refine Eq.trans (st_go (pc' := 447) (lv' := [(4, .int 0), (3, .ref 326), (2, .ref 189), (1, .ref 0), (0, .ref 1000000)]) (st' := [.int 2, .ref 1000000, .int (xs 1), .ref 189, .int (-1)]) (t' := (sw f g, 327)) (nc' := 327) (ns' := 208818) sl_0_446 rfl) ?_
  refine Eq.trans (st_go (pc' := 448) (lv' := [(4, .int 0), (3, .ref 326), (2, .ref 189), (1, .ref 0), (0, .ref 1000000)]) (st' := [.int (xs 2), .int (xs 1), .ref 189, .int (-1)]) (t' := (sw f g, 327)) (nc' := 327) (ns' := 208818) sl_0_447 rfl) ?_
  refine Eq.trans (st_call (pc' := 451) (st' := [.int (-1), .int (-1)]) (nc' := 327) (ns' := 208818) (mi := 304) (av := [.ref 189, .int (xs 1), .int (xs 2)]) (rest := [.int (-1)]) sl_0_448 (fun _ => rfl) (sw_6 xs sio f g) rfl rfl rfl rfl) ?_
  refine Eq.trans (st_go (pc' := 1172) (lv' := [(4, .int 0), (3, .ref 326), (2, .ref 189), (1, .ref 0), (0, .ref 1000000)]) (st' := []) (t' := (sh_3 xs f g, 327)) (nc' := 327) (ns' := 208818) sl_0_451 rfl) ?_
  refine Eq.trans (st_go (pc' := 1175) (lv' := [(4, .int 6), (3, .ref 326), (2, .ref 189), (1, .ref 0), (0, .ref 1000000)]) (st' := []) (t' := (sh_3 xs f g, 327)) (nc' := 327) (ns' := 208818) sl_0_1172 rfl) ?_
  refine Eq.trans (st_go (pc' := 23) (lv' := [(4, .int 6), (3, .ref 326), (2, .ref 189), (1, .ref 0), (0, .ref 1000000)]) (st' := []) (t' := (sh_3 xs f g, 327)) (nc' := 327) (ns' := 208818) sl_0_1175 rfl) ?_
  refine Eq.trans (st_go (pc' := 25) (lv' := [(4, .int 6), (3, .ref 326), (2, .ref 189), (1, .ref 0), (0, .ref 1000000)]) (st' := [.int 6]) (t' := (sh_3 xs f g, 327)) (nc' := 327) (ns' := 208818) sl_0_23 rfl) ?_
  refine Eq.trans (st_go (pc' := 26) (lv' := [(4, .int 6), (3, .ref 326), (2, .ref 189), (1, .ref 0), (0, .ref 1000000)]) (st' := [.ref 1000000, .int 6]) (t' := (sh_3 xs f g, 327)) (nc' := 327) (ns' := 208818) sl_0_25 rfl) ?_
  refine Eq.trans (st_go (pc' := 27) (lv' := [(4, .int 6), (3, .ref 326), (2, .ref 189), (1, .ref 0), (0, .ref 1000000)]) (st' := [.int 6, .int 6]) (t' := (sh_3 xs f g, 327)) (nc' := 327) (ns' := 208818) sl_0_26 rfl) ?_
  refine Eq.trans (st_go (pc' := 29) (lv' := [(4, .int 6), (3, .ref 326), (2, .ref 189), (1, .ref 0), (0, .ref 1000000)]) (st' := [.int 6, .int 6, .int 6]) (t' := (sh_3 xs f g, 327)) (nc' := 327) (ns' := 208818) sl_0_27 rfl) ?_
  refine Eq.trans (st_go (pc' := 30) (lv' := [(4, .int 6), (3, .ref 326), (2, .ref 189), (1, .ref 0), (0, .ref 1000000)]) (st' := [.int 0, .int 6]) (t' := (sh_3 xs f g, 327)) (nc' := 327) (ns' := 208818) sl_0_29 rfl) ?_
  refine Eq.trans (st_go (pc' := 1178) (lv' := [(4, .int 6), (3, .ref 326), (2, .ref 189), (1, .ref 0), (0, .ref 1000000)]) (st' := []) (t' := (sh_3 xs f g, 327)) (nc' := 327) (ns' := 208818) sl_0_30 rfl) ?_
  refine Eq.trans (st_go (pc' := 1179) (lv' := [(4, .int 6), (3, .ref 326), (2, .ref 189), (1, .ref 0), (0, .ref 1000000)]) (st' := [.int 1]) (t' := (sh_3 xs f g, 327)) (nc' := 327) (ns' := 208818) sl_0_1178 rfl) ?_
  exact st_end sl_0_1179 rfl
set_option maxRecDepth 100000 in
/-- PacketWorks.isLaid -/
theorem sw_7 (xs : Nat → Int32) (sio : Value) (f : Nat → Nat → Int32) (g : Nat → Nat → Int64) : sC 6 xs sio 16 33 [.ref 0] (sw f g, 327) = some (.inl (some (.int 0)), (sw f g, 327), 0, 0) := by
  refine st_in sg_33 rfl rfl ?_
  refine Eq.trans (st_go (pc' := 1) (lv' := [(0, .ref 0)]) (st' := [.ref 0]) (t' := (sw f g, 327)) (nc' := 0) (ns' := 0) sl_33_0 rfl) ?_
  refine Eq.trans (st_go (pc' := 4) (lv' := [(0, .ref 0)]) (st' := [.int 0]) (t' := (sw f g, 327)) (nc' := 0) (ns' := 0) sl_33_1 rfl) ?_
  refine Eq.trans (st_go (pc' := 24) (lv' := [(0, .ref 0)]) (st' := []) (t' := (sw f g, 327)) (nc' := 0) (ns' := 0) sl_33_4 rfl) ?_
  refine Eq.trans (st_go (pc' := 25) (lv' := [(0, .ref 0)]) (st' := [.int 0]) (t' := (sw f g, 327)) (nc' := 0) (ns' := 0) sl_33_24 rfl) ?_
  exact st_end sl_33_25 rfl
set_option maxRecDepth 100000 in
/-- PacketWorks.stage -/
theorem sw_8 (xs : Nat → Int32) (sio : Value) (f : Nat → Nat → Int32) (g : Nat → Nat → Int64) : sC 6 xs sio 17 32 [.ref 0, .int (xs 1), .int (xs 2)] (sw f g, 327) = some (.inl (some (.int (-1))), (sw f g, 327), 0, 0) := by
  refine st_in sg_32 rfl rfl ?_
  refine Eq.trans (st_go (pc' := 1) (lv' := [(0, .ref 0), (1, .int (xs 1)), (2, .int (xs 2))]) (st' := [.ref 0]) (t' := (sw f g, 327)) (nc' := 0) (ns' := 0) sl_32_0 rfl) ?_
  refine Eq.trans (st_go (pc' := 4) (lv' := [(0, .ref 0), (1, .int (xs 1)), (2, .int (xs 2))]) (st' := [.ref 12]) (t' := (sw f g, 327)) (nc' := 0) (ns' := 0) sl_32_1 rfl) ?_
  refine Eq.trans (st_go (pc' := 7) (lv' := [(0, .ref 0), (1, .int (xs 1)), (2, .int (xs 2))]) (st' := [.ref 59]) (t' := (sw f g, 327)) (nc' := 0) (ns' := 0) sl_32_4 rfl) ?_
  refine Eq.trans (st_go (pc' := 8) (lv' := [(3, .ref 59), (0, .ref 0), (1, .int (xs 1)), (2, .int (xs 2))]) (st' := []) (t' := (sw f g, 327)) (nc' := 0) (ns' := 0) sl_32_7 rfl) ?_
  refine Eq.trans (st_go (pc' := 9) (lv' := [(3, .ref 59), (0, .ref 0), (1, .int (xs 1)), (2, .int (xs 2))]) (st' := [.ref 0]) (t' := (sw f g, 327)) (nc' := 0) (ns' := 0) sl_32_8 rfl) ?_
  refine Eq.trans (st_call (pc' := 12) (st' := [.int 0]) (nc' := 0) (ns' := 0) (mi := 33) (av := [.ref 0]) (rest := []) sl_32_9 (fun _ => rfl) (sw_7 xs sio f g) rfl rfl rfl rfl) ?_
  refine Eq.trans (st_go (pc' := 27) (lv' := [(3, .ref 59), (0, .ref 0), (1, .int (xs 1)), (2, .int (xs 2))]) (st' := []) (t' := (sw f g, 327)) (nc' := 0) (ns' := 0) sl_32_12 rfl) ?_
  refine Eq.trans (st_go (pc' := 28) (lv' := [(3, .ref 59), (0, .ref 0), (1, .int (xs 1)), (2, .int (xs 2))]) (st' := [.int (-1)]) (t' := (sw f g, 327)) (nc' := 0) (ns' := 0) sl_32_27 rfl) ?_
  exact st_end sl_32_28 rfl
set_option maxRecDepth 100000 in
/-- PacketWorksModel.stage -/
theorem sw_9 (xs : Nat → Int32) (sio : Value) (f : Nat → Nat → Int32) (g : Nat → Nat → Int64) : sC 6 xs sio 17 306 [.ref 189, .int (xs 1), .int (xs 2)] (sw f g, 327) = some (.inl (some (.int (-1))), (sh_4 xs f g, 327), 0, 0) := by
  refine st_in sg_306 rfl rfl ?_
  refine Eq.trans (st_go (pc' := 1) (lv' := [(0, .ref 189), (1, .int (xs 1)), (2, .int (xs 2))]) (st' := [.ref 189]) (t' := (sw f g, 327)) (nc' := 0) (ns' := 0) sl_306_0 rfl) ?_
  refine Eq.trans (st_go (pc' := 2) (lv' := [(0, .ref 189), (1, .int (xs 1)), (2, .int (xs 2))]) (st' := [.int 0, .ref 189]) (t' := (sw f g, 327)) (nc' := 0) (ns' := 0) sl_306_1 rfl) ?_
  refine Eq.trans (st_go (pc' := 5) (lv' := [(0, .ref 189), (1, .int (xs 1)), (2, .int (xs 2))]) (st' := []) (t' := (sh_4 xs f g, 327)) (nc' := 0) (ns' := 0) sl_306_2 rfl) ?_
  refine Eq.trans (st_go (pc' := 6) (lv' := [(0, .ref 189), (1, .int (xs 1)), (2, .int (xs 2))]) (st' := [.ref 189]) (t' := (sh_4 xs f g, 327)) (nc' := 0) (ns' := 0) sl_306_5 rfl) ?_
  refine Eq.trans (st_go (pc' := 9) (lv' := [(0, .ref 189), (1, .int (xs 1)), (2, .int (xs 2))]) (st' := [.int 0]) (t' := (sh_4 xs f g, 327)) (nc' := 0) (ns' := 0) sl_306_6 rfl) ?_
  refine Eq.trans (st_go (pc' := 23) (lv' := [(0, .ref 189), (1, .int (xs 1)), (2, .int (xs 2))]) (st' := []) (t' := (sh_4 xs f g, 327)) (nc' := 0) (ns' := 0) sl_306_9 rfl) ?_
  refine Eq.trans (st_go (pc' := 24) (lv' := [(0, .ref 189), (1, .int (xs 1)), (2, .int (xs 2))]) (st' := [.int (-1)]) (t' := (sh_4 xs f g, 327)) (nc' := 0) (ns' := 0) sl_306_23 rfl) ?_
  exact st_end sl_306_24 rfl
set_option maxRecDepth 100000 in
theorem so_8 (xs : Nat → Int32) (sio : Value) (f : Nat → Nat → Int32) (g : Nat → Nat → Int64) (n : Nat) (hn : 36 ≤ n) : sR 6 xs sio 17 pm_0 n (40, [(4, .int 0), (3, .ref 326), (2, .ref 189), (1, .ref 0), (0, .ref 1000000)], [.int 8], (sw f g, 327), 327, 208818) = some (.inl (some (.int 1)), (sh_4 xs f g, 327), 327, 208818) := by
  obtain ⟨m, rfl⟩ : ∃ m, n = m + 36 := ⟨n - 36, by omega⟩
  refine Eq.trans (st_go (pc' := 456) (lv' := [(4, .int 0), (3, .ref 326), (2, .ref 189), (1, .ref 0), (0, .ref 1000000)]) (st' := []) (t' := (sw f g, 327)) (nc' := 327) (ns' := 208818) sl_0_40 rfl) ?_
  refine Eq.trans (st_go (pc' := 457) (lv' := [(4, .int 0), (3, .ref 326), (2, .ref 189), (1, .ref 0), (0, .ref 1000000)]) (st' := [.ref 0]) (t' := (sw f g, 327)) (nc' := 327) (ns' := 208818) sl_0_456 rfl) ?_
  refine Eq.trans (st_go (pc' := 458) (lv' := [(4, .int 0), (3, .ref 326), (2, .ref 189), (1, .ref 0), (0, .ref 1000000)]) (st' := [.ref 1000000, .ref 0]) (t' := (sw f g, 327)) (nc' := 327) (ns' := 208818) sl_0_457 rfl) ?_
  refine Eq.trans (st_go (pc' := 460) (lv' := [(4, .int 0), (3, .ref 326), (2, .ref 189), (1, .ref 0), (0, .ref 1000000)]) (st' := [.int 0, .ref 1000000, .ref 0]) (t' := (sw f g, 327)) (nc' := 327) (ns' := 208818) sl_0_458 rfl) ?_
  refine Eq.trans (st_go (pc' := 461) (lv' := [(4, .int 0), (3, .ref 326), (2, .ref 189), (1, .ref 0), (0, .ref 1000000)]) (st' := [.int 1, .int 0, .ref 1000000, .ref 0]) (t' := (sw f g, 327)) (nc' := 327) (ns' := 208818) sl_0_460 rfl) ?_
  refine Eq.trans (st_go (pc' := 462) (lv' := [(4, .int 0), (3, .ref 326), (2, .ref 189), (1, .ref 0), (0, .ref 1000000)]) (st' := [.int 1, .ref 1000000, .ref 0]) (t' := (sw f g, 327)) (nc' := 327) (ns' := 208818) sl_0_461 rfl) ?_
  refine Eq.trans (st_go (pc' := 463) (lv' := [(4, .int 0), (3, .ref 326), (2, .ref 189), (1, .ref 0), (0, .ref 1000000)]) (st' := [.int (xs 1), .ref 0]) (t' := (sw f g, 327)) (nc' := 327) (ns' := 208818) sl_0_462 rfl) ?_
  refine Eq.trans (st_go (pc' := 464) (lv' := [(4, .int 0), (3, .ref 326), (2, .ref 189), (1, .ref 0), (0, .ref 1000000)]) (st' := [.ref 1000000, .int (xs 1), .ref 0]) (t' := (sw f g, 327)) (nc' := 327) (ns' := 208818) sl_0_463 rfl) ?_
  refine Eq.trans (st_go (pc' := 466) (lv' := [(4, .int 0), (3, .ref 326), (2, .ref 189), (1, .ref 0), (0, .ref 1000000)]) (st' := [.int 0, .ref 1000000, .int (xs 1), .ref 0]) (t' := (sw f g, 327)) (nc' := 327) (ns' := 208818) sl_0_464 rfl) ?_
  refine Eq.trans (st_go (pc' := 467) (lv' := [(4, .int 0), (3, .ref 326), (2, .ref 189), (1, .ref 0), (0, .ref 1000000)]) (st' := [.int 2, .int 0, .ref 1000000, .int (xs 1), .ref 0]) (t' := (sw f g, 327)) (nc' := 327) (ns' := 208818) sl_0_466 rfl) ?_
  refine Eq.trans (st_go (pc' := 468) (lv' := [(4, .int 0), (3, .ref 326), (2, .ref 189), (1, .ref 0), (0, .ref 1000000)]) (st' := [.int 2, .ref 1000000, .int (xs 1), .ref 0]) (t' := (sw f g, 327)) (nc' := 327) (ns' := 208818) sl_0_467 rfl) ?_
  refine Eq.trans (st_go (pc' := 469) (lv' := [(4, .int 0), (3, .ref 326), (2, .ref 189), (1, .ref 0), (0, .ref 1000000)]) (st' := [.int (xs 2), .int (xs 1), .ref 0]) (t' := (sw f g, 327)) (nc' := 327) (ns' := 208818) sl_0_468 rfl) ?_
  refine Eq.trans (st_call (pc' := 472) (st' := [.int (-1)]) (nc' := 327) (ns' := 208818) (mi := 32) (av := [.ref 0, .int (xs 1), .int (xs 2)]) (rest := []) sl_0_469 (fun _ => rfl) (sw_8 xs sio f g) rfl rfl rfl rfl) ?_
  refine Eq.trans (st_go (pc' := 473) (lv' := [(4, .int 0), (3, .ref 326), (2, .ref 189), (1, .ref 0), (0, .ref 1000000)]) (st' := [.ref 189, .int (-1)]) (t' := (sw f g, 327)) (nc' := 327) (ns' := 208818) sl_0_472 rfl) ?_
  refine Eq.trans (st_go (pc' := 474) (lv' := [(4, .int 0), (3, .ref 326), (2, .ref 189), (1, .ref 0), (0, .ref 1000000)]) (st' := [.ref 1000000, .ref 189, .int (-1)]) (t' := (sw f g, 327)) (nc' := 327) (ns' := 208818) sl_0_473 rfl) ?_
  refine Eq.trans (st_go (pc' := 476) (lv' := [(4, .int 0), (3, .ref 326), (2, .ref 189), (1, .ref 0), (0, .ref 1000000)]) (st' := [.int 0, .ref 1000000, .ref 189, .int (-1)]) (t' := (sw f g, 327)) (nc' := 327) (ns' := 208818) sl_0_474 rfl) ?_
  refine Eq.trans (st_go (pc' := 477) (lv' := [(4, .int 0), (3, .ref 326), (2, .ref 189), (1, .ref 0), (0, .ref 1000000)]) (st' := [.int 1, .int 0, .ref 1000000, .ref 189, .int (-1)]) (t' := (sw f g, 327)) (nc' := 327) (ns' := 208818) sl_0_476 rfl) ?_
  refine Eq.trans (st_go (pc' := 478) (lv' := [(4, .int 0), (3, .ref 326), (2, .ref 189), (1, .ref 0), (0, .ref 1000000)]) (st' := [.int 1, .ref 1000000, .ref 189, .int (-1)]) (t' := (sw f g, 327)) (nc' := 327) (ns' := 208818) sl_0_477 rfl) ?_
  refine Eq.trans (st_go (pc' := 479) (lv' := [(4, .int 0), (3, .ref 326), (2, .ref 189), (1, .ref 0), (0, .ref 1000000)]) (st' := [.int (xs 1), .ref 189, .int (-1)]) (t' := (sw f g, 327)) (nc' := 327) (ns' := 208818) sl_0_478 rfl) ?_
  refine Eq.trans (st_go (pc' := 480) (lv' := [(4, .int 0), (3, .ref 326), (2, .ref 189), (1, .ref 0), (0, .ref 1000000)]) (st' := [.ref 1000000, .int (xs 1), .ref 189, .int (-1)]) (t' := (sw f g, 327)) (nc' := 327) (ns' := 208818) sl_0_479 rfl) ?_
  refine Eq.trans (st_go (pc' := 482) (lv' := [(4, .int 0), (3, .ref 326), (2, .ref 189), (1, .ref 0), (0, .ref 1000000)]) (st' := [.int 0, .ref 1000000, .int (xs 1), .ref 189, .int (-1)]) (t' := (sw f g, 327)) (nc' := 327) (ns' := 208818) sl_0_480 rfl) ?_
  refine Eq.trans (st_go (pc' := 483) (lv' := [(4, .int 0), (3, .ref 326), (2, .ref 189), (1, .ref 0), (0, .ref 1000000)]) (st' := [.int 2, .int 0, .ref 1000000, .int (xs 1), .ref 189, .int (-1)]) (t' := (sw f g, 327)) (nc' := 327) (ns' := 208818) sl_0_482 rfl) ?_
  refine Eq.trans (st_go (pc' := 484) (lv' := [(4, .int 0), (3, .ref 326), (2, .ref 189), (1, .ref 0), (0, .ref 1000000)]) (st' := [.int 2, .ref 1000000, .int (xs 1), .ref 189, .int (-1)]) (t' := (sw f g, 327)) (nc' := 327) (ns' := 208818) sl_0_483 rfl) ?_
  refine Eq.trans (st_go (pc' := 485) (lv' := [(4, .int 0), (3, .ref 326), (2, .ref 189), (1, .ref 0), (0, .ref 1000000)]) (st' := [.int (xs 2), .int (xs 1), .ref 189, .int (-1)]) (t' := (sw f g, 327)) (nc' := 327) (ns' := 208818) sl_0_484 rfl) ?_
  refine Eq.trans (st_call (pc' := 488) (st' := [.int (-1), .int (-1)]) (nc' := 327) (ns' := 208818) (mi := 306) (av := [.ref 189, .int (xs 1), .int (xs 2)]) (rest := [.int (-1)]) sl_0_485 (fun _ => rfl) (sw_9 xs sio f g) rfl rfl rfl rfl) ?_
  refine Eq.trans (st_go (pc' := 1172) (lv' := [(4, .int 0), (3, .ref 326), (2, .ref 189), (1, .ref 0), (0, .ref 1000000)]) (st' := []) (t' := (sh_4 xs f g, 327)) (nc' := 327) (ns' := 208818) sl_0_488 rfl) ?_
  refine Eq.trans (st_go (pc' := 1175) (lv' := [(4, .int 6), (3, .ref 326), (2, .ref 189), (1, .ref 0), (0, .ref 1000000)]) (st' := []) (t' := (sh_4 xs f g, 327)) (nc' := 327) (ns' := 208818) sl_0_1172 rfl) ?_
  refine Eq.trans (st_go (pc' := 23) (lv' := [(4, .int 6), (3, .ref 326), (2, .ref 189), (1, .ref 0), (0, .ref 1000000)]) (st' := []) (t' := (sh_4 xs f g, 327)) (nc' := 327) (ns' := 208818) sl_0_1175 rfl) ?_
  refine Eq.trans (st_go (pc' := 25) (lv' := [(4, .int 6), (3, .ref 326), (2, .ref 189), (1, .ref 0), (0, .ref 1000000)]) (st' := [.int 6]) (t' := (sh_4 xs f g, 327)) (nc' := 327) (ns' := 208818) sl_0_23 rfl) ?_
  refine Eq.trans (st_go (pc' := 26) (lv' := [(4, .int 6), (3, .ref 326), (2, .ref 189), (1, .ref 0), (0, .ref 1000000)]) (st' := [.ref 1000000, .int 6]) (t' := (sh_4 xs f g, 327)) (nc' := 327) (ns' := 208818) sl_0_25 rfl) ?_
  refine Eq.trans (st_go (pc' := 27) (lv' := [(4, .int 6), (3, .ref 326), (2, .ref 189), (1, .ref 0), (0, .ref 1000000)]) (st' := [.int 6, .int 6]) (t' := (sh_4 xs f g, 327)) (nc' := 327) (ns' := 208818) sl_0_26 rfl) ?_
  refine Eq.trans (st_go (pc' := 29) (lv' := [(4, .int 6), (3, .ref 326), (2, .ref 189), (1, .ref 0), (0, .ref 1000000)]) (st' := [.int 6, .int 6, .int 6]) (t' := (sh_4 xs f g, 327)) (nc' := 327) (ns' := 208818) sl_0_27 rfl) ?_
  refine Eq.trans (st_go (pc' := 30) (lv' := [(4, .int 6), (3, .ref 326), (2, .ref 189), (1, .ref 0), (0, .ref 1000000)]) (st' := [.int 0, .int 6]) (t' := (sh_4 xs f g, 327)) (nc' := 327) (ns' := 208818) sl_0_29 rfl) ?_
  refine Eq.trans (st_go (pc' := 1178) (lv' := [(4, .int 6), (3, .ref 326), (2, .ref 189), (1, .ref 0), (0, .ref 1000000)]) (st' := []) (t' := (sh_4 xs f g, 327)) (nc' := 327) (ns' := 208818) sl_0_30 rfl) ?_
  refine Eq.trans (st_go (pc' := 1179) (lv' := [(4, .int 6), (3, .ref 326), (2, .ref 189), (1, .ref 0), (0, .ref 1000000)]) (st' := [.int 1]) (t' := (sh_4 xs f g, 327)) (nc' := 327) (ns' := 208818) sl_0_1178 rfl) ?_
  exact st_end sl_0_1179 rfl
