/-! ===== TO THE SWITCH, by program (wip/gen/walk.py) ===== -/
set_option maxRecDepth 100000 in
theorem sl_end0 (xs : Nat → Int32) (sio : Value) (f : Nat → Nat → Int32) (g : Nat → Nat → Int64) (n : Nat) (hn : 8 ≤ n) : sR 0 xs sio 17 pm_0 n (23, [(4, .int 0), (3, .ref 326), (2, .ref 189), (1, .ref 0), (0, .ref 1000000)], [], (sw f g, 327), 327, 208818) = some (.inl (some (.int 1)), (sw f g, 327), 327, 208818) := by
  obtain ⟨m, rfl⟩ : ∃ m, n = m + 8 := ⟨n - 8, by omega⟩
  refine Eq.trans (st_go (pc' := 25) (lv' := [(4, .int 0), (3, .ref 326), (2, .ref 189), (1, .ref 0), (0, .ref 1000000)]) (st' := [.int 0]) (t' := (sw f g, 327)) (nc' := 327) (ns' := 208818) sl_0_23 rfl) ?_
  refine Eq.trans (st_go (pc' := 26) (lv' := [(4, .int 0), (3, .ref 326), (2, .ref 189), (1, .ref 0), (0, .ref 1000000)]) (st' := [.ref 1000000, .int 0]) (t' := (sw f g, 327)) (nc' := 327) (ns' := 208818) sl_0_25 rfl) ?_
  refine Eq.trans (st_go (pc' := 27) (lv' := [(4, .int 0), (3, .ref 326), (2, .ref 189), (1, .ref 0), (0, .ref 1000000)]) (st' := [.int 0, .int 0]) (t' := (sw f g, 327)) (nc' := 327) (ns' := 208818) sl_0_26 rfl) ?_
  refine Eq.trans (st_go (pc' := 29) (lv' := [(4, .int 0), (3, .ref 326), (2, .ref 189), (1, .ref 0), (0, .ref 1000000)]) (st' := [.int 6, .int 0, .int 0]) (t' := (sw f g, 327)) (nc' := 327) (ns' := 208818) sl_0_27 rfl) ?_
  refine Eq.trans (st_go (pc' := 30) (lv' := [(4, .int 0), (3, .ref 326), (2, .ref 189), (1, .ref 0), (0, .ref 1000000)]) (st' := [.int (-6), .int 0]) (t' := (sw f g, 327)) (nc' := 327) (ns' := 208818) sl_0_29 rfl) ?_
  refine Eq.trans (st_go (pc' := 1178) (lv' := [(4, .int 0), (3, .ref 326), (2, .ref 189), (1, .ref 0), (0, .ref 1000000)]) (st' := []) (t' := (sw f g, 327)) (nc' := 327) (ns' := 208818) sl_0_30 rfl) ?_
  refine Eq.trans (st_go (pc' := 1179) (lv' := [(4, .int 0), (3, .ref 326), (2, .ref 189), (1, .ref 0), (0, .ref 1000000)]) (st' := [.int 1]) (t' := (sw f g, 327)) (nc' := 327) (ns' := 208818) sl_0_1178 rfl) ?_
  exact st_end sl_0_1179 rfl
set_option maxRecDepth 100000 in
theorem sl_end1 (xs : Nat → Int32) (sio : Value) (f : Nat → Nat → Int32) (g : Nat → Nat → Int64) (n : Nat) (hn : 8 ≤ n) : sR 1 xs sio 17 pm_0 n (23, [(4, .int 0), (3, .ref 326), (2, .ref 189), (1, .ref 0), (0, .ref 1000000)], [], (sw f g, 327), 327, 208818) = some (.inl (some (.int 1)), (sw f g, 327), 327, 208818) := by
  obtain ⟨m, rfl⟩ : ∃ m, n = m + 8 := ⟨n - 8, by omega⟩
  refine Eq.trans (st_go (pc' := 25) (lv' := [(4, .int 0), (3, .ref 326), (2, .ref 189), (1, .ref 0), (0, .ref 1000000)]) (st' := [.int 0]) (t' := (sw f g, 327)) (nc' := 327) (ns' := 208818) sl_0_23 rfl) ?_
  refine Eq.trans (st_go (pc' := 26) (lv' := [(4, .int 0), (3, .ref 326), (2, .ref 189), (1, .ref 0), (0, .ref 1000000)]) (st' := [.ref 1000000, .int 0]) (t' := (sw f g, 327)) (nc' := 327) (ns' := 208818) sl_0_25 rfl) ?_
  refine Eq.trans (st_go (pc' := 27) (lv' := [(4, .int 0), (3, .ref 326), (2, .ref 189), (1, .ref 0), (0, .ref 1000000)]) (st' := [.int 1, .int 0]) (t' := (sw f g, 327)) (nc' := 327) (ns' := 208818) sl_0_26 rfl) ?_
  refine Eq.trans (st_go (pc' := 29) (lv' := [(4, .int 0), (3, .ref 326), (2, .ref 189), (1, .ref 0), (0, .ref 1000000)]) (st' := [.int 6, .int 1, .int 0]) (t' := (sw f g, 327)) (nc' := 327) (ns' := 208818) sl_0_27 rfl) ?_
  refine Eq.trans (st_go (pc' := 30) (lv' := [(4, .int 0), (3, .ref 326), (2, .ref 189), (1, .ref 0), (0, .ref 1000000)]) (st' := [.int (-5), .int 0]) (t' := (sw f g, 327)) (nc' := 327) (ns' := 208818) sl_0_29 rfl) ?_
  refine Eq.trans (st_go (pc' := 1178) (lv' := [(4, .int 0), (3, .ref 326), (2, .ref 189), (1, .ref 0), (0, .ref 1000000)]) (st' := []) (t' := (sw f g, 327)) (nc' := 327) (ns' := 208818) sl_0_30 rfl) ?_
  refine Eq.trans (st_go (pc' := 1179) (lv' := [(4, .int 0), (3, .ref 326), (2, .ref 189), (1, .ref 0), (0, .ref 1000000)]) (st' := [.int 1]) (t' := (sw f g, 327)) (nc' := 327) (ns' := 208818) sl_0_1178 rfl) ?_
  exact st_end sl_0_1179 rfl
set_option maxRecDepth 100000 in
theorem sl_end2 (xs : Nat → Int32) (sio : Value) (f : Nat → Nat → Int32) (g : Nat → Nat → Int64) (n : Nat) (hn : 8 ≤ n) : sR 2 xs sio 17 pm_0 n (23, [(4, .int 0), (3, .ref 326), (2, .ref 189), (1, .ref 0), (0, .ref 1000000)], [], (sw f g, 327), 327, 208818) = some (.inl (some (.int 1)), (sw f g, 327), 327, 208818) := by
  obtain ⟨m, rfl⟩ : ∃ m, n = m + 8 := ⟨n - 8, by omega⟩
  refine Eq.trans (st_go (pc' := 25) (lv' := [(4, .int 0), (3, .ref 326), (2, .ref 189), (1, .ref 0), (0, .ref 1000000)]) (st' := [.int 0]) (t' := (sw f g, 327)) (nc' := 327) (ns' := 208818) sl_0_23 rfl) ?_
  refine Eq.trans (st_go (pc' := 26) (lv' := [(4, .int 0), (3, .ref 326), (2, .ref 189), (1, .ref 0), (0, .ref 1000000)]) (st' := [.ref 1000000, .int 0]) (t' := (sw f g, 327)) (nc' := 327) (ns' := 208818) sl_0_25 rfl) ?_
  refine Eq.trans (st_go (pc' := 27) (lv' := [(4, .int 0), (3, .ref 326), (2, .ref 189), (1, .ref 0), (0, .ref 1000000)]) (st' := [.int 2, .int 0]) (t' := (sw f g, 327)) (nc' := 327) (ns' := 208818) sl_0_26 rfl) ?_
  refine Eq.trans (st_go (pc' := 29) (lv' := [(4, .int 0), (3, .ref 326), (2, .ref 189), (1, .ref 0), (0, .ref 1000000)]) (st' := [.int 6, .int 2, .int 0]) (t' := (sw f g, 327)) (nc' := 327) (ns' := 208818) sl_0_27 rfl) ?_
  refine Eq.trans (st_go (pc' := 30) (lv' := [(4, .int 0), (3, .ref 326), (2, .ref 189), (1, .ref 0), (0, .ref 1000000)]) (st' := [.int (-4), .int 0]) (t' := (sw f g, 327)) (nc' := 327) (ns' := 208818) sl_0_29 rfl) ?_
  refine Eq.trans (st_go (pc' := 1178) (lv' := [(4, .int 0), (3, .ref 326), (2, .ref 189), (1, .ref 0), (0, .ref 1000000)]) (st' := []) (t' := (sw f g, 327)) (nc' := 327) (ns' := 208818) sl_0_30 rfl) ?_
  refine Eq.trans (st_go (pc' := 1179) (lv' := [(4, .int 0), (3, .ref 326), (2, .ref 189), (1, .ref 0), (0, .ref 1000000)]) (st' := [.int 1]) (t' := (sw f g, 327)) (nc' := 327) (ns' := 208818) sl_0_1178 rfl) ?_
  exact st_end sl_0_1179 rfl
set_option maxRecDepth 100000 in
theorem sl_end3 (xs : Nat → Int32) (sio : Value) (f : Nat → Nat → Int32) (g : Nat → Nat → Int64) (n : Nat) (hn : 8 ≤ n) : sR 3 xs sio 17 pm_0 n (23, [(4, .int 0), (3, .ref 326), (2, .ref 189), (1, .ref 0), (0, .ref 1000000)], [], (sw f g, 327), 327, 208818) = some (.inl (some (.int 1)), (sw f g, 327), 327, 208818) := by
  obtain ⟨m, rfl⟩ : ∃ m, n = m + 8 := ⟨n - 8, by omega⟩
  refine Eq.trans (st_go (pc' := 25) (lv' := [(4, .int 0), (3, .ref 326), (2, .ref 189), (1, .ref 0), (0, .ref 1000000)]) (st' := [.int 0]) (t' := (sw f g, 327)) (nc' := 327) (ns' := 208818) sl_0_23 rfl) ?_
  refine Eq.trans (st_go (pc' := 26) (lv' := [(4, .int 0), (3, .ref 326), (2, .ref 189), (1, .ref 0), (0, .ref 1000000)]) (st' := [.ref 1000000, .int 0]) (t' := (sw f g, 327)) (nc' := 327) (ns' := 208818) sl_0_25 rfl) ?_
  refine Eq.trans (st_go (pc' := 27) (lv' := [(4, .int 0), (3, .ref 326), (2, .ref 189), (1, .ref 0), (0, .ref 1000000)]) (st' := [.int 3, .int 0]) (t' := (sw f g, 327)) (nc' := 327) (ns' := 208818) sl_0_26 rfl) ?_
  refine Eq.trans (st_go (pc' := 29) (lv' := [(4, .int 0), (3, .ref 326), (2, .ref 189), (1, .ref 0), (0, .ref 1000000)]) (st' := [.int 6, .int 3, .int 0]) (t' := (sw f g, 327)) (nc' := 327) (ns' := 208818) sl_0_27 rfl) ?_
  refine Eq.trans (st_go (pc' := 30) (lv' := [(4, .int 0), (3, .ref 326), (2, .ref 189), (1, .ref 0), (0, .ref 1000000)]) (st' := [.int (-3), .int 0]) (t' := (sw f g, 327)) (nc' := 327) (ns' := 208818) sl_0_29 rfl) ?_
  refine Eq.trans (st_go (pc' := 1178) (lv' := [(4, .int 0), (3, .ref 326), (2, .ref 189), (1, .ref 0), (0, .ref 1000000)]) (st' := []) (t' := (sw f g, 327)) (nc' := 327) (ns' := 208818) sl_0_30 rfl) ?_
  refine Eq.trans (st_go (pc' := 1179) (lv' := [(4, .int 0), (3, .ref 326), (2, .ref 189), (1, .ref 0), (0, .ref 1000000)]) (st' := [.int 1]) (t' := (sw f g, 327)) (nc' := 327) (ns' := 208818) sl_0_1178 rfl) ?_
  exact st_end sl_0_1179 rfl
set_option maxRecDepth 100000 in
theorem sl_end4 (xs : Nat → Int32) (sio : Value) (f : Nat → Nat → Int32) (g : Nat → Nat → Int64) (n : Nat) (hn : 8 ≤ n) : sR 4 xs sio 17 pm_0 n (23, [(4, .int 0), (3, .ref 326), (2, .ref 189), (1, .ref 0), (0, .ref 1000000)], [], (sw f g, 327), 327, 208818) = some (.inl (some (.int 1)), (sw f g, 327), 327, 208818) := by
  obtain ⟨m, rfl⟩ : ∃ m, n = m + 8 := ⟨n - 8, by omega⟩
  refine Eq.trans (st_go (pc' := 25) (lv' := [(4, .int 0), (3, .ref 326), (2, .ref 189), (1, .ref 0), (0, .ref 1000000)]) (st' := [.int 0]) (t' := (sw f g, 327)) (nc' := 327) (ns' := 208818) sl_0_23 rfl) ?_
  refine Eq.trans (st_go (pc' := 26) (lv' := [(4, .int 0), (3, .ref 326), (2, .ref 189), (1, .ref 0), (0, .ref 1000000)]) (st' := [.ref 1000000, .int 0]) (t' := (sw f g, 327)) (nc' := 327) (ns' := 208818) sl_0_25 rfl) ?_
  refine Eq.trans (st_go (pc' := 27) (lv' := [(4, .int 0), (3, .ref 326), (2, .ref 189), (1, .ref 0), (0, .ref 1000000)]) (st' := [.int 4, .int 0]) (t' := (sw f g, 327)) (nc' := 327) (ns' := 208818) sl_0_26 rfl) ?_
  refine Eq.trans (st_go (pc' := 29) (lv' := [(4, .int 0), (3, .ref 326), (2, .ref 189), (1, .ref 0), (0, .ref 1000000)]) (st' := [.int 6, .int 4, .int 0]) (t' := (sw f g, 327)) (nc' := 327) (ns' := 208818) sl_0_27 rfl) ?_
  refine Eq.trans (st_go (pc' := 30) (lv' := [(4, .int 0), (3, .ref 326), (2, .ref 189), (1, .ref 0), (0, .ref 1000000)]) (st' := [.int (-2), .int 0]) (t' := (sw f g, 327)) (nc' := 327) (ns' := 208818) sl_0_29 rfl) ?_
  refine Eq.trans (st_go (pc' := 1178) (lv' := [(4, .int 0), (3, .ref 326), (2, .ref 189), (1, .ref 0), (0, .ref 1000000)]) (st' := []) (t' := (sw f g, 327)) (nc' := 327) (ns' := 208818) sl_0_30 rfl) ?_
  refine Eq.trans (st_go (pc' := 1179) (lv' := [(4, .int 0), (3, .ref 326), (2, .ref 189), (1, .ref 0), (0, .ref 1000000)]) (st' := [.int 1]) (t' := (sw f g, 327)) (nc' := 327) (ns' := 208818) sl_0_1178 rfl) ?_
  exact st_end sl_0_1179 rfl
set_option maxRecDepth 100000 in
theorem sl_end5 (xs : Nat → Int32) (sio : Value) (f : Nat → Nat → Int32) (g : Nat → Nat → Int64) (n : Nat) (hn : 8 ≤ n) : sR 5 xs sio 17 pm_0 n (23, [(4, .int 0), (3, .ref 326), (2, .ref 189), (1, .ref 0), (0, .ref 1000000)], [], (sw f g, 327), 327, 208818) = some (.inl (some (.int 1)), (sw f g, 327), 327, 208818) := by
  obtain ⟨m, rfl⟩ : ∃ m, n = m + 8 := ⟨n - 8, by omega⟩
  refine Eq.trans (st_go (pc' := 25) (lv' := [(4, .int 0), (3, .ref 326), (2, .ref 189), (1, .ref 0), (0, .ref 1000000)]) (st' := [.int 0]) (t' := (sw f g, 327)) (nc' := 327) (ns' := 208818) sl_0_23 rfl) ?_
  refine Eq.trans (st_go (pc' := 26) (lv' := [(4, .int 0), (3, .ref 326), (2, .ref 189), (1, .ref 0), (0, .ref 1000000)]) (st' := [.ref 1000000, .int 0]) (t' := (sw f g, 327)) (nc' := 327) (ns' := 208818) sl_0_25 rfl) ?_
  refine Eq.trans (st_go (pc' := 27) (lv' := [(4, .int 0), (3, .ref 326), (2, .ref 189), (1, .ref 0), (0, .ref 1000000)]) (st' := [.int 5, .int 0]) (t' := (sw f g, 327)) (nc' := 327) (ns' := 208818) sl_0_26 rfl) ?_
  refine Eq.trans (st_go (pc' := 29) (lv' := [(4, .int 0), (3, .ref 326), (2, .ref 189), (1, .ref 0), (0, .ref 1000000)]) (st' := [.int 6, .int 5, .int 0]) (t' := (sw f g, 327)) (nc' := 327) (ns' := 208818) sl_0_27 rfl) ?_
  refine Eq.trans (st_go (pc' := 30) (lv' := [(4, .int 0), (3, .ref 326), (2, .ref 189), (1, .ref 0), (0, .ref 1000000)]) (st' := [.int (-1), .int 0]) (t' := (sw f g, 327)) (nc' := 327) (ns' := 208818) sl_0_29 rfl) ?_
  refine Eq.trans (st_go (pc' := 1178) (lv' := [(4, .int 0), (3, .ref 326), (2, .ref 189), (1, .ref 0), (0, .ref 1000000)]) (st' := []) (t' := (sw f g, 327)) (nc' := 327) (ns' := 208818) sl_0_30 rfl) ?_
  refine Eq.trans (st_go (pc' := 1179) (lv' := [(4, .int 0), (3, .ref 326), (2, .ref 189), (1, .ref 0), (0, .ref 1000000)]) (st' := [.int 1]) (t' := (sw f g, 327)) (nc' := 327) (ns' := 208818) sl_0_1178 rfl) ?_
  exact st_end sl_0_1179 rfl
set_option maxRecDepth 100000 in
theorem sl_to (xs : Nat → Int32) (sio : Value) (f : Nat → Nat → Int32) (g : Nat → Nat → Int64) (n : Nat) : sR 6 xs sio 17 pm_0 (n + 11) (23, [(4, .int 0), (3, .ref 326), (2, .ref 189), (1, .ref 0), (0, .ref 1000000)], [], (sw f g, 327), 327, 208818) = sR 6 xs sio 17 pm_0 n (40, [(4, .int 0), (3, .ref 326), (2, .ref 189), (1, .ref 0), (0, .ref 1000000)], [.int ((xs 0) &&& (31 : Int32))], (sw f g, 327), 327, 208818) := by
  refine Eq.trans (st_go (pc' := 25) (lv' := [(4, .int 0), (3, .ref 326), (2, .ref 189), (1, .ref 0), (0, .ref 1000000)]) (st' := [.int 0]) (t' := (sw f g, 327)) (nc' := 327) (ns' := 208818) sl_0_23 rfl) ?_
  refine Eq.trans (st_go (pc' := 26) (lv' := [(4, .int 0), (3, .ref 326), (2, .ref 189), (1, .ref 0), (0, .ref 1000000)]) (st' := [.ref 1000000, .int 0]) (t' := (sw f g, 327)) (nc' := 327) (ns' := 208818) sl_0_25 rfl) ?_
  refine Eq.trans (st_go (pc' := 27) (lv' := [(4, .int 0), (3, .ref 326), (2, .ref 189), (1, .ref 0), (0, .ref 1000000)]) (st' := [.int 6, .int 0]) (t' := (sw f g, 327)) (nc' := 327) (ns' := 208818) sl_0_26 rfl) ?_
  refine Eq.trans (st_go (pc' := 29) (lv' := [(4, .int 0), (3, .ref 326), (2, .ref 189), (1, .ref 0), (0, .ref 1000000)]) (st' := [.int 6, .int 6, .int 0]) (t' := (sw f g, 327)) (nc' := 327) (ns' := 208818) sl_0_27 rfl) ?_
  refine Eq.trans (st_go (pc' := 30) (lv' := [(4, .int 0), (3, .ref 326), (2, .ref 189), (1, .ref 0), (0, .ref 1000000)]) (st' := [.int 0, .int 0]) (t' := (sw f g, 327)) (nc' := 327) (ns' := 208818) sl_0_29 rfl) ?_
  refine Eq.trans (st_go (pc' := 33) (lv' := [(4, .int 0), (3, .ref 326), (2, .ref 189), (1, .ref 0), (0, .ref 1000000)]) (st' := []) (t' := (sw f g, 327)) (nc' := 327) (ns' := 208818) sl_0_30 rfl) ?_
  refine Eq.trans (st_go (pc' := 34) (lv' := [(4, .int 0), (3, .ref 326), (2, .ref 189), (1, .ref 0), (0, .ref 1000000)]) (st' := [.ref 1000000]) (t' := (sw f g, 327)) (nc' := 327) (ns' := 208818) sl_0_33 rfl) ?_
  refine Eq.trans (st_go (pc' := 36) (lv' := [(4, .int 0), (3, .ref 326), (2, .ref 189), (1, .ref 0), (0, .ref 1000000)]) (st' := [.int 0, .ref 1000000]) (t' := (sw f g, 327)) (nc' := 327) (ns' := 208818) sl_0_34 rfl) ?_
  refine Eq.trans (st_go (pc' := 37) (lv' := [(4, .int 0), (3, .ref 326), (2, .ref 189), (1, .ref 0), (0, .ref 1000000)]) (st' := [.int (xs 0)]) (t' := (sw f g, 327)) (nc' := 327) (ns' := 208818) sl_0_36 rfl) ?_
  refine Eq.trans (st_go (pc' := 39) (lv' := [(4, .int 0), (3, .ref 326), (2, .ref 189), (1, .ref 0), (0, .ref 1000000)]) (st' := [.int 31, .int (xs 0)]) (t' := (sw f g, 327)) (nc' := 327) (ns' := 208818) sl_0_37 rfl) ?_
  refine Eq.trans (st_go (pc' := 40) (lv' := [(4, .int 0), (3, .ref 326), (2, .ref 189), (1, .ref 0), (0, .ref 1000000)]) (st' := [.int ((xs 0) &&& (31 : Int32))]) (t' := (sw f g, 327)) (nc' := 327) (ns' := 208818) sl_0_39 rfl) ?_
  rfl
set_option maxRecDepth 100000 in
theorem sl_go (xs : Nat → Int32) (sio : Value) (f : Nat → Nat → Int32) (g : Nat → Nat → Int64) : sG 6 xs sio 17 pm_0 11 (23, [(4, .int 0), (3, .ref 326), (2, .ref 189), (1, .ref 0), (0, .ref 1000000)], [], (sw f g, 327), 327, 208818) = some (40, [(4, .int 0), (3, .ref 326), (2, .ref 189), (1, .ref 0), (0, .ref 1000000)], [.int ((xs 0) &&& (31 : Int32))], (sw f g, 327), 327, 208818) := by
  refine Eq.trans (st_gg (pc' := 25) (lv' := [(4, .int 0), (3, .ref 326), (2, .ref 189), (1, .ref 0), (0, .ref 1000000)]) (st' := [.int 0]) (t' := (sw f g, 327)) (nc' := 327) (ns' := 208818) sl_0_23 rfl) ?_
  refine Eq.trans (st_gg (pc' := 26) (lv' := [(4, .int 0), (3, .ref 326), (2, .ref 189), (1, .ref 0), (0, .ref 1000000)]) (st' := [.ref 1000000, .int 0]) (t' := (sw f g, 327)) (nc' := 327) (ns' := 208818) sl_0_25 rfl) ?_
  refine Eq.trans (st_gg (pc' := 27) (lv' := [(4, .int 0), (3, .ref 326), (2, .ref 189), (1, .ref 0), (0, .ref 1000000)]) (st' := [.int 6, .int 0]) (t' := (sw f g, 327)) (nc' := 327) (ns' := 208818) sl_0_26 rfl) ?_
  refine Eq.trans (st_gg (pc' := 29) (lv' := [(4, .int 0), (3, .ref 326), (2, .ref 189), (1, .ref 0), (0, .ref 1000000)]) (st' := [.int 6, .int 6, .int 0]) (t' := (sw f g, 327)) (nc' := 327) (ns' := 208818) sl_0_27 rfl) ?_
  refine Eq.trans (st_gg (pc' := 30) (lv' := [(4, .int 0), (3, .ref 326), (2, .ref 189), (1, .ref 0), (0, .ref 1000000)]) (st' := [.int 0, .int 0]) (t' := (sw f g, 327)) (nc' := 327) (ns' := 208818) sl_0_29 rfl) ?_
  refine Eq.trans (st_gg (pc' := 33) (lv' := [(4, .int 0), (3, .ref 326), (2, .ref 189), (1, .ref 0), (0, .ref 1000000)]) (st' := []) (t' := (sw f g, 327)) (nc' := 327) (ns' := 208818) sl_0_30 rfl) ?_
  refine Eq.trans (st_gg (pc' := 34) (lv' := [(4, .int 0), (3, .ref 326), (2, .ref 189), (1, .ref 0), (0, .ref 1000000)]) (st' := [.ref 1000000]) (t' := (sw f g, 327)) (nc' := 327) (ns' := 208818) sl_0_33 rfl) ?_
  refine Eq.trans (st_gg (pc' := 36) (lv' := [(4, .int 0), (3, .ref 326), (2, .ref 189), (1, .ref 0), (0, .ref 1000000)]) (st' := [.int 0, .ref 1000000]) (t' := (sw f g, 327)) (nc' := 327) (ns' := 208818) sl_0_34 rfl) ?_
  refine Eq.trans (st_gg (pc' := 37) (lv' := [(4, .int 0), (3, .ref 326), (2, .ref 189), (1, .ref 0), (0, .ref 1000000)]) (st' := [.int (xs 0)]) (t' := (sw f g, 327)) (nc' := 327) (ns' := 208818) sl_0_36 rfl) ?_
  refine Eq.trans (st_gg (pc' := 39) (lv' := [(4, .int 0), (3, .ref 326), (2, .ref 189), (1, .ref 0), (0, .ref 1000000)]) (st' := [.int 31, .int (xs 0)]) (t' := (sw f g, 327)) (nc' := 327) (ns' := 208818) sl_0_37 rfl) ?_
  refine Eq.trans (st_gg (pc' := 40) (lv' := [(4, .int 0), (3, .ref 326), (2, .ref 189), (1, .ref 0), (0, .ref 1000000)]) (st' := [.int ((xs 0) &&& (31 : Int32))]) (t' := (sw f g, 327)) (nc' := 327) (ns' := 208818) sl_0_39 rfl) ?_
  rfl
