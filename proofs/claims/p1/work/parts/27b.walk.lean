/-! ===== ROADS OF ONE CALL, by program (wip/gen/walk.py) ===== -/
def sh_5 (xs : Nat → Int32) (f : Nat → Nat → Int32) (g : Nat → Nat → Int64) : List (Nat × am_C) := (189, .inr (12, (sv_189).set 1 (.int 0))) :: sw f g
def sh_6 (xs : Nat → Int32) (f : Nat → Nat → Int32) (g : Nat → Nat → Int64) : List (Nat × am_C) := (189, .inr (12, (sv_189).set 1 (.int 0))) :: sw f g
def sh_7 (xs : Nat → Int32) (f : Nat → Nat → Int32) (g : Nat → Nat → Int64) : List (Nat × am_C) := (189, .inr (12, (sv_189).set 1 (.int 0))) :: sw f g
def sh_8 (xs : Nat → Int32) (f : Nat → Nat → Int32) (g : Nat → Nat → Int64) : List (Nat × am_C) := (189, .inr (12, (sv_189).set 1 (.int 0))) :: sw f g
def sh_9 (xs : Nat → Int32) (f : Nat → Nat → Int32) (g : Nat → Nat → Int64) : List (Nat × am_C) := (189, .inr (12, (sv_189).set 1 (.int 0))) :: sw f g
def sh_10 (xs : Nat → Int32) (f : Nat → Nat → Int32) (g : Nat → Nat → Int64) : List (Nat × am_C) := (189, .inr (12, (sv_189).set 1 (.int 0))) :: sw f g
def sh_11 (xs : Nat → Int32) (f : Nat → Nat → Int32) (g : Nat → Nat → Int64) : List (Nat × am_C) := (189, .inr (12, (sv_189).set 1 (.int 0))) :: sw f g
def sh_12 (xs : Nat → Int32) (f : Nat → Nat → Int32) (g : Nat → Nat → Int64) : List (Nat × am_C) := (189, .inr (12, (sv_189).set 1 (.int 0))) :: sw f g
def sh_13 (xs : Nat → Int32) (f : Nat → Nat → Int32) (g : Nat → Nat → Int64) : List (Nat × am_C) := (189, .inr (12, (sv_189).set 1 (.int 0))) :: sw f g
def sh_14 (xs : Nat → Int32) (f : Nat → Nat → Int32) (g : Nat → Nat → Int64) : List (Nat × am_C) := (189, .inr (12, (sv_189).set 1 (.int 0))) :: sw f g
def sh_15 (xs : Nat → Int32) (f : Nat → Nat → Int32) (g : Nat → Nat → Int64) : List (Nat × am_C) := (189, .inr (12, (sv_189).set 1 (.int 0))) :: sw f g
def sh_16 (xs : Nat → Int32) (f : Nat → Nat → Int32) (g : Nat → Nat → Int64) : List (Nat × am_C) := (189, .inr (12, (sv_189).set 1 (.int 0))) :: sw f g
set_option maxRecDepth 100000 in
/-- PacketWorks.fault -/
theorem sw_10 (xs : Nat → Int32) (sio : Value) (f : Nat → Nat → Int32) (g : Nat → Nat → Int64) : sC 6 xs sio 17 26 [.ref 0, .int 0] (sw f g, 327) = some (.inl (some (.int 0)), (sw f g, 327), 0, 0) := by
  refine st_in sg_26 rfl rfl ?_
  refine Eq.trans (st_go (pc' := 1) (lv' := [(0, .ref 0), (1, .int 0)]) (st' := [.int 0]) (t' := (sw f g, 327)) (nc' := 0) (ns' := 0) sl_26_0 rfl) ?_
  refine Eq.trans (st_go (pc' := 4) (lv' := [(0, .ref 0), (1, .int 0)]) (st' := []) (t' := (sw f g, 327)) (nc' := 0) (ns' := 0) sl_26_1 rfl) ?_
  refine Eq.trans (st_go (pc' := 5) (lv' := [(0, .ref 0), (1, .int 0)]) (st' := [.ref 0]) (t' := (sw f g, 327)) (nc' := 0) (ns' := 0) sl_26_4 rfl) ?_
  refine Eq.trans (st_go (pc' := 8) (lv' := [(0, .ref 0), (1, .int 0)]) (st' := [.ref 6]) (t' := (sw f g, 327)) (nc' := 0) (ns' := 0) sl_26_5 rfl) ?_
  refine Eq.trans (st_go (pc' := 11) (lv' := [(0, .ref 0), (1, .int 0)]) (st' := [.int 0]) (t' := (sw f g, 327)) (nc' := 0) (ns' := 0) sl_26_8 rfl) ?_
  refine Eq.trans (st_go (pc' := 30) (lv' := [(0, .ref 0), (1, .int 0)]) (st' := [.int 0]) (t' := (sw f g, 327)) (nc' := 0) (ns' := 0) sl_26_11 rfl) ?_
  exact st_end sl_26_30 rfl
set_option maxRecDepth 100000 in
/-- PacketWorksModel.fault -/
theorem sw_11 (xs : Nat → Int32) (sio : Value) (f : Nat → Nat → Int32) (g : Nat → Nat → Int64) : sC 6 xs sio 17 287 [.ref 189, .int 0] (sw f g, 327) = some (.inl (some (.int 0)), (sh_5 xs f g, 327), 0, 0) := by
  refine st_in sg_287 rfl rfl ?_
  refine Eq.trans (st_go (pc' := 1) (lv' := [(0, .ref 189), (1, .int 0)]) (st' := [.ref 189]) (t' := (sw f g, 327)) (nc' := 0) (ns' := 0) sl_287_0 rfl) ?_
  refine Eq.trans (st_go (pc' := 2) (lv' := [(0, .ref 189), (1, .int 0)]) (st' := [.int 0, .ref 189]) (t' := (sw f g, 327)) (nc' := 0) (ns' := 0) sl_287_1 rfl) ?_
  refine Eq.trans (st_go (pc' := 5) (lv' := [(0, .ref 189), (1, .int 0)]) (st' := []) (t' := (sh_5 xs f g, 327)) (nc' := 0) (ns' := 0) sl_287_2 rfl) ?_
  refine Eq.trans (st_go (pc' := 6) (lv' := [(0, .ref 189), (1, .int 0)]) (st' := [.int 0]) (t' := (sh_5 xs f g, 327)) (nc' := 0) (ns' := 0) sl_287_5 rfl) ?_
  refine Eq.trans (st_go (pc' := 9) (lv' := [(0, .ref 189), (1, .int 0)]) (st' := []) (t' := (sh_5 xs f g, 327)) (nc' := 0) (ns' := 0) sl_287_6 rfl) ?_
  refine Eq.trans (st_go (pc' := 10) (lv' := [(0, .ref 189), (1, .int 0)]) (st' := [.ref 189]) (t' := (sh_5 xs f g, 327)) (nc' := 0) (ns' := 0) sl_287_9 rfl) ?_
  refine Eq.trans (st_go (pc' := 13) (lv' := [(0, .ref 189), (1, .int 0)]) (st' := [.int 0]) (t' := (sh_5 xs f g, 327)) (nc' := 0) (ns' := 0) sl_287_10 rfl) ?_
  refine Eq.trans (st_go (pc' := 29) (lv' := [(0, .ref 189), (1, .int 0)]) (st' := [.int 0]) (t' := (sh_5 xs f g, 327)) (nc' := 0) (ns' := 0) sl_287_13 rfl) ?_
  exact st_end sl_287_29 rfl
set_option maxRecDepth 100000 in
theorem so_3_0 (xs : Nat → Int32) (sio : Value) (f : Nat → Nat → Int32) (g : Nat → Nat → Int64) (n : Nat) (hn : 26 ≤ n) (q0 : xs 1 = 0) : sR 6 xs sio 17 pm_0 n (40, [(4, .int 0), (3, .ref 326), (2, .ref 189), (1, .ref 0), (0, .ref 1000000)], [.int 3], (sw f g, 327), 327, 208818) = some (.inl (some (.int 1)), (sh_5 xs f g, 327), 327, 208818) := by
  obtain ⟨m, rfl⟩ : ∃ m, n = m + 26 := ⟨n - 26, by omega⟩
  refine Eq.trans (st_go (pc' := 276) (lv' := [(4, .int 0), (3, .ref 326), (2, .ref 189), (1, .ref 0), (0, .ref 1000000)]) (st' := []) (t' := (sw f g, 327)) (nc' := 327) (ns' := 208818) sl_0_40 rfl) ?_
  refine Eq.trans (st_go (pc' := 277) (lv' := [(4, .int 0), (3, .ref 326), (2, .ref 189), (1, .ref 0), (0, .ref 1000000)]) (st' := [.ref 0]) (t' := (sw f g, 327)) (nc' := 327) (ns' := 208818) sl_0_276 rfl) ?_
  refine Eq.trans (st_go (pc' := 278) (lv' := [(4, .int 0), (3, .ref 326), (2, .ref 189), (1, .ref 0), (0, .ref 1000000)]) (st' := [.ref 1000000, .ref 0]) (t' := (sw f g, 327)) (nc' := 327) (ns' := 208818) sl_0_277 rfl) ?_
  refine Eq.trans (st_go (pc' := 280) (lv' := [(4, .int 0), (3, .ref 326), (2, .ref 189), (1, .ref 0), (0, .ref 1000000)]) (st' := [.int 0, .ref 1000000, .ref 0]) (t' := (sw f g, 327)) (nc' := 327) (ns' := 208818) sl_0_278 rfl) ?_
  refine Eq.trans (st_go (pc' := 281) (lv' := [(4, .int 0), (3, .ref 326), (2, .ref 189), (1, .ref 0), (0, .ref 1000000)]) (st' := [.int 1, .int 0, .ref 1000000, .ref 0]) (t' := (sw f g, 327)) (nc' := 327) (ns' := 208818) sl_0_280 rfl) ?_
  refine Eq.trans (st_go (pc' := 282) (lv' := [(4, .int 0), (3, .ref 326), (2, .ref 189), (1, .ref 0), (0, .ref 1000000)]) (st' := [.int 1, .ref 1000000, .ref 0]) (t' := (sw f g, 327)) (nc' := 327) (ns' := 208818) sl_0_281 rfl) ?_
  refine Eq.trans (st_go (pc' := 283) (lv' := [(4, .int 0), (3, .ref 326), (2, .ref 189), (1, .ref 0), (0, .ref 1000000)]) (st' := [.int (xs 1), .ref 0]) (t' := (sw f g, 327)) (nc' := 327) (ns' := 208818) sl_0_282 rfl) ?_
  rw [q0]
  refine Eq.trans (st_call (pc' := 286) (st' := [.int 0]) (nc' := 327) (ns' := 208818) (mi := 26) (av := [.ref 0, .int 0]) (rest := []) sl_0_283 (fun _ => rfl) (sw_10 xs sio f g) rfl rfl rfl rfl) ?_
  refine Eq.trans (st_go (pc' := 287) (lv' := [(4, .int 0), (3, .ref 326), (2, .ref 189), (1, .ref 0), (0, .ref 1000000)]) (st' := [.ref 189, .int 0]) (t' := (sw f g, 327)) (nc' := 327) (ns' := 208818) sl_0_286 rfl) ?_
  refine Eq.trans (st_go (pc' := 288) (lv' := [(4, .int 0), (3, .ref 326), (2, .ref 189), (1, .ref 0), (0, .ref 1000000)]) (st' := [.ref 1000000, .ref 189, .int 0]) (t' := (sw f g, 327)) (nc' := 327) (ns' := 208818) sl_0_287 rfl) ?_
  refine Eq.trans (st_go (pc' := 290) (lv' := [(4, .int 0), (3, .ref 326), (2, .ref 189), (1, .ref 0), (0, .ref 1000000)]) (st' := [.int 0, .ref 1000000, .ref 189, .int 0]) (t' := (sw f g, 327)) (nc' := 327) (ns' := 208818) sl_0_288 rfl) ?_
  refine Eq.trans (st_go (pc' := 291) (lv' := [(4, .int 0), (3, .ref 326), (2, .ref 189), (1, .ref 0), (0, .ref 1000000)]) (st' := [.int 1, .int 0, .ref 1000000, .ref 189, .int 0]) (t' := (sw f g, 327)) (nc' := 327) (ns' := 208818) sl_0_290 rfl) ?_
  refine Eq.trans (st_go (pc' := 292) (lv' := [(4, .int 0), (3, .ref 326), (2, .ref 189), (1, .ref 0), (0, .ref 1000000)]) (st' := [.int 1, .ref 1000000, .ref 189, .int 0]) (t' := (sw f g, 327)) (nc' := 327) (ns' := 208818) sl_0_291 rfl) ?_
  refine Eq.trans (st_go (pc' := 293) (lv' := [(4, .int 0), (3, .ref 326), (2, .ref 189), (1, .ref 0), (0, .ref 1000000)]) (st' := [.int (xs 1), .ref 189, .int 0]) (t' := (sw f g, 327)) (nc' := 327) (ns' := 208818) sl_0_292 rfl) ?_
  rw [q0]
  refine Eq.trans (st_call (pc' := 296) (st' := [.int 0, .int 0]) (nc' := 327) (ns' := 208818) (mi := 287) (av := [.ref 189, .int 0]) (rest := [.int 0]) sl_0_293 (fun _ => rfl) (sw_11 xs sio f g) rfl rfl rfl rfl) ?_
  refine Eq.trans (st_go (pc' := 1172) (lv' := [(4, .int 0), (3, .ref 326), (2, .ref 189), (1, .ref 0), (0, .ref 1000000)]) (st' := []) (t' := (sh_5 xs f g, 327)) (nc' := 327) (ns' := 208818) sl_0_296 rfl) ?_
  refine Eq.trans (st_go (pc' := 1175) (lv' := [(4, .int 6), (3, .ref 326), (2, .ref 189), (1, .ref 0), (0, .ref 1000000)]) (st' := []) (t' := (sh_5 xs f g, 327)) (nc' := 327) (ns' := 208818) sl_0_1172 rfl) ?_
  refine Eq.trans (st_go (pc' := 23) (lv' := [(4, .int 6), (3, .ref 326), (2, .ref 189), (1, .ref 0), (0, .ref 1000000)]) (st' := []) (t' := (sh_5 xs f g, 327)) (nc' := 327) (ns' := 208818) sl_0_1175 rfl) ?_
  refine Eq.trans (st_go (pc' := 25) (lv' := [(4, .int 6), (3, .ref 326), (2, .ref 189), (1, .ref 0), (0, .ref 1000000)]) (st' := [.int 6]) (t' := (sh_5 xs f g, 327)) (nc' := 327) (ns' := 208818) sl_0_23 rfl) ?_
  refine Eq.trans (st_go (pc' := 26) (lv' := [(4, .int 6), (3, .ref 326), (2, .ref 189), (1, .ref 0), (0, .ref 1000000)]) (st' := [.ref 1000000, .int 6]) (t' := (sh_5 xs f g, 327)) (nc' := 327) (ns' := 208818) sl_0_25 rfl) ?_
  refine Eq.trans (st_go (pc' := 27) (lv' := [(4, .int 6), (3, .ref 326), (2, .ref 189), (1, .ref 0), (0, .ref 1000000)]) (st' := [.int 6, .int 6]) (t' := (sh_5 xs f g, 327)) (nc' := 327) (ns' := 208818) sl_0_26 rfl) ?_
  refine Eq.trans (st_go (pc' := 29) (lv' := [(4, .int 6), (3, .ref 326), (2, .ref 189), (1, .ref 0), (0, .ref 1000000)]) (st' := [.int 6, .int 6, .int 6]) (t' := (sh_5 xs f g, 327)) (nc' := 327) (ns' := 208818) sl_0_27 rfl) ?_
  refine Eq.trans (st_go (pc' := 30) (lv' := [(4, .int 6), (3, .ref 326), (2, .ref 189), (1, .ref 0), (0, .ref 1000000)]) (st' := [.int 0, .int 6]) (t' := (sh_5 xs f g, 327)) (nc' := 327) (ns' := 208818) sl_0_29 rfl) ?_
  refine Eq.trans (st_go (pc' := 1178) (lv' := [(4, .int 6), (3, .ref 326), (2, .ref 189), (1, .ref 0), (0, .ref 1000000)]) (st' := []) (t' := (sh_5 xs f g, 327)) (nc' := 327) (ns' := 208818) sl_0_30 rfl) ?_
  refine Eq.trans (st_go (pc' := 1179) (lv' := [(4, .int 6), (3, .ref 326), (2, .ref 189), (1, .ref 0), (0, .ref 1000000)]) (st' := [.int 1]) (t' := (sh_5 xs f g, 327)) (nc' := 327) (ns' := 208818) sl_0_1178 rfl) ?_
  exact st_end sl_0_1179 rfl
set_option maxRecDepth 100000 in
/-- PacketWorks.fault -/
theorem sw_12 (xs : Nat → Int32) (sio : Value) (f : Nat → Nat → Int32) (g : Nat → Nat → Int64) : sC 6 xs sio 17 26 [.ref 0, .int 1] (sw f g, 327) = some (.inl (some (.int (-1))), (sw f g, 327), 0, 0) := by
  refine st_in sg_26 rfl rfl ?_
  refine Eq.trans (st_go (pc' := 1) (lv' := [(0, .ref 0), (1, .int 1)]) (st' := [.int 1]) (t' := (sw f g, 327)) (nc' := 0) (ns' := 0) sl_26_0 rfl) ?_
  refine Eq.trans (st_go (pc' := 14) (lv' := [(0, .ref 0), (1, .int 1)]) (st' := []) (t' := (sw f g, 327)) (nc' := 0) (ns' := 0) sl_26_1 rfl) ?_
  refine Eq.trans (st_go (pc' := 15) (lv' := [(0, .ref 0), (1, .int 1)]) (st' := [.int 1]) (t' := (sw f g, 327)) (nc' := 0) (ns' := 0) sl_26_14 rfl) ?_
  refine Eq.trans (st_go (pc' := 16) (lv' := [(0, .ref 0), (1, .int 1)]) (st' := [.int 1, .int 1]) (t' := (sw f g, 327)) (nc' := 0) (ns' := 0) sl_26_15 rfl) ?_
  refine Eq.trans (st_go (pc' := 19) (lv' := [(0, .ref 0), (1, .int 1)]) (st' := []) (t' := (sw f g, 327)) (nc' := 0) (ns' := 0) sl_26_16 rfl) ?_
  refine Eq.trans (st_go (pc' := 20) (lv' := [(0, .ref 0), (1, .int 1)]) (st' := [.ref 0]) (t' := (sw f g, 327)) (nc' := 0) (ns' := 0) sl_26_19 rfl) ?_
  refine Eq.trans (st_go (pc' := 23) (lv' := [(0, .ref 0), (1, .int 1)]) (st' := [.ref 6]) (t' := (sw f g, 327)) (nc' := 0) (ns' := 0) sl_26_20 rfl) ?_
  refine Eq.trans (st_go (pc' := 26) (lv' := [(0, .ref 0), (1, .int 1)]) (st' := [.int (-1)]) (t' := (sw f g, 327)) (nc' := 0) (ns' := 0) sl_26_23 rfl) ?_
  refine Eq.trans (st_go (pc' := 30) (lv' := [(0, .ref 0), (1, .int 1)]) (st' := [.int (-1)]) (t' := (sw f g, 327)) (nc' := 0) (ns' := 0) sl_26_26 rfl) ?_
  exact st_end sl_26_30 rfl
set_option maxRecDepth 100000 in
/-- PacketWorksModel.fault -/
theorem sw_13 (xs : Nat → Int32) (sio : Value) (f : Nat → Nat → Int32) (g : Nat → Nat → Int64) : sC 6 xs sio 17 287 [.ref 189, .int 1] (sw f g, 327) = some (.inl (some (.int (-1))), (sh_6 xs f g, 327), 0, 0) := by
  refine st_in sg_287 rfl rfl ?_
  refine Eq.trans (st_go (pc' := 1) (lv' := [(0, .ref 189), (1, .int 1)]) (st' := [.ref 189]) (t' := (sw f g, 327)) (nc' := 0) (ns' := 0) sl_287_0 rfl) ?_
  refine Eq.trans (st_go (pc' := 2) (lv' := [(0, .ref 189), (1, .int 1)]) (st' := [.int 0, .ref 189]) (t' := (sw f g, 327)) (nc' := 0) (ns' := 0) sl_287_1 rfl) ?_
  refine Eq.trans (st_go (pc' := 5) (lv' := [(0, .ref 189), (1, .int 1)]) (st' := []) (t' := (sh_6 xs f g, 327)) (nc' := 0) (ns' := 0) sl_287_2 rfl) ?_
  refine Eq.trans (st_go (pc' := 6) (lv' := [(0, .ref 189), (1, .int 1)]) (st' := [.int 1]) (t' := (sh_6 xs f g, 327)) (nc' := 0) (ns' := 0) sl_287_5 rfl) ?_
  refine Eq.trans (st_go (pc' := 16) (lv' := [(0, .ref 189), (1, .int 1)]) (st' := []) (t' := (sh_6 xs f g, 327)) (nc' := 0) (ns' := 0) sl_287_6 rfl) ?_
  refine Eq.trans (st_go (pc' := 17) (lv' := [(0, .ref 189), (1, .int 1)]) (st' := [.int 1]) (t' := (sh_6 xs f g, 327)) (nc' := 0) (ns' := 0) sl_287_16 rfl) ?_
  refine Eq.trans (st_go (pc' := 18) (lv' := [(0, .ref 189), (1, .int 1)]) (st' := [.int 1, .int 1]) (t' := (sh_6 xs f g, 327)) (nc' := 0) (ns' := 0) sl_287_17 rfl) ?_
  refine Eq.trans (st_go (pc' := 21) (lv' := [(0, .ref 189), (1, .int 1)]) (st' := []) (t' := (sh_6 xs f g, 327)) (nc' := 0) (ns' := 0) sl_287_18 rfl) ?_
  refine Eq.trans (st_go (pc' := 22) (lv' := [(0, .ref 189), (1, .int 1)]) (st' := [.ref 189]) (t' := (sh_6 xs f g, 327)) (nc' := 0) (ns' := 0) sl_287_21 rfl) ?_
  refine Eq.trans (st_go (pc' := 25) (lv' := [(0, .ref 189), (1, .int 1)]) (st' := [.int (-1)]) (t' := (sh_6 xs f g, 327)) (nc' := 0) (ns' := 0) sl_287_22 rfl) ?_
  refine Eq.trans (st_go (pc' := 29) (lv' := [(0, .ref 189), (1, .int 1)]) (st' := [.int (-1)]) (t' := (sh_6 xs f g, 327)) (nc' := 0) (ns' := 0) sl_287_25 rfl) ?_
  exact st_end sl_287_29 rfl
set_option maxRecDepth 100000 in
theorem so_3_1 (xs : Nat → Int32) (sio : Value) (f : Nat → Nat → Int32) (g : Nat → Nat → Int64) (n : Nat) (hn : 26 ≤ n) (q0 : xs 1 = 1) : sR 6 xs sio 17 pm_0 n (40, [(4, .int 0), (3, .ref 326), (2, .ref 189), (1, .ref 0), (0, .ref 1000000)], [.int 3], (sw f g, 327), 327, 208818) = some (.inl (some (.int 1)), (sh_6 xs f g, 327), 327, 208818) := by
  obtain ⟨m, rfl⟩ : ∃ m, n = m + 26 := ⟨n - 26, by omega⟩
  refine Eq.trans (st_go (pc' := 276) (lv' := [(4, .int 0), (3, .ref 326), (2, .ref 189), (1, .ref 0), (0, .ref 1000000)]) (st' := []) (t' := (sw f g, 327)) (nc' := 327) (ns' := 208818) sl_0_40 rfl) ?_
  refine Eq.trans (st_go (pc' := 277) (lv' := [(4, .int 0), (3, .ref 326), (2, .ref 189), (1, .ref 0), (0, .ref 1000000)]) (st' := [.ref 0]) (t' := (sw f g, 327)) (nc' := 327) (ns' := 208818) sl_0_276 rfl) ?_
  refine Eq.trans (st_go (pc' := 278) (lv' := [(4, .int 0), (3, .ref 326), (2, .ref 189), (1, .ref 0), (0, .ref 1000000)]) (st' := [.ref 1000000, .ref 0]) (t' := (sw f g, 327)) (nc' := 327) (ns' := 208818) sl_0_277 rfl) ?_
  refine Eq.trans (st_go (pc' := 280) (lv' := [(4, .int 0), (3, .ref 326), (2, .ref 189), (1, .ref 0), (0, .ref 1000000)]) (st' := [.int 0, .ref 1000000, .ref 0]) (t' := (sw f g, 327)) (nc' := 327) (ns' := 208818) sl_0_278 rfl) ?_
  refine Eq.trans (st_go (pc' := 281) (lv' := [(4, .int 0), (3, .ref 326), (2, .ref 189), (1, .ref 0), (0, .ref 1000000)]) (st' := [.int 1, .int 0, .ref 1000000, .ref 0]) (t' := (sw f g, 327)) (nc' := 327) (ns' := 208818) sl_0_280 rfl) ?_
  refine Eq.trans (st_go (pc' := 282) (lv' := [(4, .int 0), (3, .ref 326), (2, .ref 189), (1, .ref 0), (0, .ref 1000000)]) (st' := [.int 1, .ref 1000000, .ref 0]) (t' := (sw f g, 327)) (nc' := 327) (ns' := 208818) sl_0_281 rfl) ?_
  refine Eq.trans (st_go (pc' := 283) (lv' := [(4, .int 0), (3, .ref 326), (2, .ref 189), (1, .ref 0), (0, .ref 1000000)]) (st' := [.int (xs 1), .ref 0]) (t' := (sw f g, 327)) (nc' := 327) (ns' := 208818) sl_0_282 rfl) ?_
  rw [q0]
  refine Eq.trans (st_call (pc' := 286) (st' := [.int (-1)]) (nc' := 327) (ns' := 208818) (mi := 26) (av := [.ref 0, .int 1]) (rest := []) sl_0_283 (fun _ => rfl) (sw_12 xs sio f g) rfl rfl rfl rfl) ?_
  refine Eq.trans (st_go (pc' := 287) (lv' := [(4, .int 0), (3, .ref 326), (2, .ref 189), (1, .ref 0), (0, .ref 1000000)]) (st' := [.ref 189, .int (-1)]) (t' := (sw f g, 327)) (nc' := 327) (ns' := 208818) sl_0_286 rfl) ?_
  refine Eq.trans (st_go (pc' := 288) (lv' := [(4, .int 0), (3, .ref 326), (2, .ref 189), (1, .ref 0), (0, .ref 1000000)]) (st' := [.ref 1000000, .ref 189, .int (-1)]) (t' := (sw f g, 327)) (nc' := 327) (ns' := 208818) sl_0_287 rfl) ?_
  refine Eq.trans (st_go (pc' := 290) (lv' := [(4, .int 0), (3, .ref 326), (2, .ref 189), (1, .ref 0), (0, .ref 1000000)]) (st' := [.int 0, .ref 1000000, .ref 189, .int (-1)]) (t' := (sw f g, 327)) (nc' := 327) (ns' := 208818) sl_0_288 rfl) ?_
  refine Eq.trans (st_go (pc' := 291) (lv' := [(4, .int 0), (3, .ref 326), (2, .ref 189), (1, .ref 0), (0, .ref 1000000)]) (st' := [.int 1, .int 0, .ref 1000000, .ref 189, .int (-1)]) (t' := (sw f g, 327)) (nc' := 327) (ns' := 208818) sl_0_290 rfl) ?_
  refine Eq.trans (st_go (pc' := 292) (lv' := [(4, .int 0), (3, .ref 326), (2, .ref 189), (1, .ref 0), (0, .ref 1000000)]) (st' := [.int 1, .ref 1000000, .ref 189, .int (-1)]) (t' := (sw f g, 327)) (nc' := 327) (ns' := 208818) sl_0_291 rfl) ?_
  refine Eq.trans (st_go (pc' := 293) (lv' := [(4, .int 0), (3, .ref 326), (2, .ref 189), (1, .ref 0), (0, .ref 1000000)]) (st' := [.int (xs 1), .ref 189, .int (-1)]) (t' := (sw f g, 327)) (nc' := 327) (ns' := 208818) sl_0_292 rfl) ?_
  rw [q0]
  refine Eq.trans (st_call (pc' := 296) (st' := [.int (-1), .int (-1)]) (nc' := 327) (ns' := 208818) (mi := 287) (av := [.ref 189, .int 1]) (rest := [.int (-1)]) sl_0_293 (fun _ => rfl) (sw_13 xs sio f g) rfl rfl rfl rfl) ?_
  refine Eq.trans (st_go (pc' := 1172) (lv' := [(4, .int 0), (3, .ref 326), (2, .ref 189), (1, .ref 0), (0, .ref 1000000)]) (st' := []) (t' := (sh_6 xs f g, 327)) (nc' := 327) (ns' := 208818) sl_0_296 rfl) ?_
  refine Eq.trans (st_go (pc' := 1175) (lv' := [(4, .int 6), (3, .ref 326), (2, .ref 189), (1, .ref 0), (0, .ref 1000000)]) (st' := []) (t' := (sh_6 xs f g, 327)) (nc' := 327) (ns' := 208818) sl_0_1172 rfl) ?_
  refine Eq.trans (st_go (pc' := 23) (lv' := [(4, .int 6), (3, .ref 326), (2, .ref 189), (1, .ref 0), (0, .ref 1000000)]) (st' := []) (t' := (sh_6 xs f g, 327)) (nc' := 327) (ns' := 208818) sl_0_1175 rfl) ?_
  refine Eq.trans (st_go (pc' := 25) (lv' := [(4, .int 6), (3, .ref 326), (2, .ref 189), (1, .ref 0), (0, .ref 1000000)]) (st' := [.int 6]) (t' := (sh_6 xs f g, 327)) (nc' := 327) (ns' := 208818) sl_0_23 rfl) ?_
  refine Eq.trans (st_go (pc' := 26) (lv' := [(4, .int 6), (3, .ref 326), (2, .ref 189), (1, .ref 0), (0, .ref 1000000)]) (st' := [.ref 1000000, .int 6]) (t' := (sh_6 xs f g, 327)) (nc' := 327) (ns' := 208818) sl_0_25 rfl) ?_
  refine Eq.trans (st_go (pc' := 27) (lv' := [(4, .int 6), (3, .ref 326), (2, .ref 189), (1, .ref 0), (0, .ref 1000000)]) (st' := [.int 6, .int 6]) (t' := (sh_6 xs f g, 327)) (nc' := 327) (ns' := 208818) sl_0_26 rfl) ?_
  refine Eq.trans (st_go (pc' := 29) (lv' := [(4, .int 6), (3, .ref 326), (2, .ref 189), (1, .ref 0), (0, .ref 1000000)]) (st' := [.int 6, .int 6, .int 6]) (t' := (sh_6 xs f g, 327)) (nc' := 327) (ns' := 208818) sl_0_27 rfl) ?_
  refine Eq.trans (st_go (pc' := 30) (lv' := [(4, .int 6), (3, .ref 326), (2, .ref 189), (1, .ref 0), (0, .ref 1000000)]) (st' := [.int 0, .int 6]) (t' := (sh_6 xs f g, 327)) (nc' := 327) (ns' := 208818) sl_0_29 rfl) ?_
  refine Eq.trans (st_go (pc' := 1178) (lv' := [(4, .int 6), (3, .ref 326), (2, .ref 189), (1, .ref 0), (0, .ref 1000000)]) (st' := []) (t' := (sh_6 xs f g, 327)) (nc' := 327) (ns' := 208818) sl_0_30 rfl) ?_
  refine Eq.trans (st_go (pc' := 1179) (lv' := [(4, .int 6), (3, .ref 326), (2, .ref 189), (1, .ref 0), (0, .ref 1000000)]) (st' := [.int 1]) (t' := (sh_6 xs f g, 327)) (nc' := 327) (ns' := 208818) sl_0_1178 rfl) ?_
  exact st_end sl_0_1179 rfl
set_option maxRecDepth 100000 in
/-- PacketWorks.fault -/
theorem sw_14 (xs : Nat → Int32) (sio : Value) (f : Nat → Nat → Int32) (g : Nat → Nat → Int64) (q0 : am_c0 .ne (xs 1) = true) (q1 : am_c2 .ne (xs 1) (1) = true) : sC 6 xs sio 17 26 [.ref 0, .int (xs 1)] (sw f g, 327) = some (.inl (some (.int (-1))), (sw f g, 327), 0, 0) := by
  refine st_in sg_26 rfl rfl ?_
  refine Eq.trans (st_go (pc' := 1) (lv' := [(0, .ref 0), (1, .int (xs 1))]) (st' := [.int (xs 1)]) (t' := (sw f g, 327)) (nc' := 0) (ns' := 0) sl_26_0 rfl) ?_
  refine Eq.trans (st_if (pc' := 14) sl_26_1 q0 rfl) ?_
  refine Eq.trans (st_go (pc' := 15) (lv' := [(0, .ref 0), (1, .int (xs 1))]) (st' := [.int (xs 1)]) (t' := (sw f g, 327)) (nc' := 0) (ns' := 0) sl_26_14 rfl) ?_
  refine Eq.trans (st_go (pc' := 16) (lv' := [(0, .ref 0), (1, .int (xs 1))]) (st' := [.int 1, .int (xs 1)]) (t' := (sw f g, 327)) (nc' := 0) (ns' := 0) sl_26_15 rfl) ?_
  refine Eq.trans (st_ic (pc' := 29) sl_26_16 q1 rfl) ?_
  refine Eq.trans (st_go (pc' := 30) (lv' := [(0, .ref 0), (1, .int (xs 1))]) (st' := [.int (-1)]) (t' := (sw f g, 327)) (nc' := 0) (ns' := 0) sl_26_29 rfl) ?_
  exact st_end sl_26_30 rfl
set_option maxRecDepth 100000 in
/-- PacketWorksModel.fault -/
theorem sw_15 (xs : Nat → Int32) (sio : Value) (f : Nat → Nat → Int32) (g : Nat → Nat → Int64) (q0 : am_c0 .ne (xs 1) = true) (q1 : am_c2 .ne (xs 1) (1) = true) : sC 6 xs sio 17 287 [.ref 189, .int (xs 1)] (sw f g, 327) = some (.inl (some (.int (-1))), (sh_7 xs f g, 327), 0, 0) := by
  refine st_in sg_287 rfl rfl ?_
  refine Eq.trans (st_go (pc' := 1) (lv' := [(0, .ref 189), (1, .int (xs 1))]) (st' := [.ref 189]) (t' := (sw f g, 327)) (nc' := 0) (ns' := 0) sl_287_0 rfl) ?_
  refine Eq.trans (st_go (pc' := 2) (lv' := [(0, .ref 189), (1, .int (xs 1))]) (st' := [.int 0, .ref 189]) (t' := (sw f g, 327)) (nc' := 0) (ns' := 0) sl_287_1 rfl) ?_
  refine Eq.trans (st_go (pc' := 5) (lv' := [(0, .ref 189), (1, .int (xs 1))]) (st' := []) (t' := (sh_7 xs f g, 327)) (nc' := 0) (ns' := 0) sl_287_2 rfl) ?_
  refine Eq.trans (st_go (pc' := 6) (lv' := [(0, .ref 189), (1, .int (xs 1))]) (st' := [.int (xs 1)]) (t' := (sh_7 xs f g, 327)) (nc' := 0) (ns' := 0) sl_287_5 rfl) ?_
  refine Eq.trans (st_if (pc' := 16) sl_287_6 q0 rfl) ?_
  refine Eq.trans (st_go (pc' := 17) (lv' := [(0, .ref 189), (1, .int (xs 1))]) (st' := [.int (xs 1)]) (t' := (sh_7 xs f g, 327)) (nc' := 0) (ns' := 0) sl_287_16 rfl) ?_
  refine Eq.trans (st_go (pc' := 18) (lv' := [(0, .ref 189), (1, .int (xs 1))]) (st' := [.int 1, .int (xs 1)]) (t' := (sh_7 xs f g, 327)) (nc' := 0) (ns' := 0) sl_287_17 rfl) ?_
  refine Eq.trans (st_ic (pc' := 28) sl_287_18 q1 rfl) ?_
  refine Eq.trans (st_go (pc' := 29) (lv' := [(0, .ref 189), (1, .int (xs 1))]) (st' := [.int (-1)]) (t' := (sh_7 xs f g, 327)) (nc' := 0) (ns' := 0) sl_287_28 rfl) ?_
  exact st_end sl_287_29 rfl
set_option maxRecDepth 100000 in
theorem so_3_x (xs : Nat → Int32) (sio : Value) (f : Nat → Nat → Int32) (g : Nat → Nat → Int64) (n : Nat) (hn : 26 ≤ n) (q0 : am_c0 .ne (xs 1) = true) (q1 : am_c2 .ne (xs 1) (1) = true) : sR 6 xs sio 17 pm_0 n (40, [(4, .int 0), (3, .ref 326), (2, .ref 189), (1, .ref 0), (0, .ref 1000000)], [.int 3], (sw f g, 327), 327, 208818) = some (.inl (some (.int 1)), (sh_7 xs f g, 327), 327, 208818) := by
  obtain ⟨m, rfl⟩ : ∃ m, n = m + 26 := ⟨n - 26, by omega⟩
  refine Eq.trans (st_go (pc' := 276) (lv' := [(4, .int 0), (3, .ref 326), (2, .ref 189), (1, .ref 0), (0, .ref 1000000)]) (st' := []) (t' := (sw f g, 327)) (nc' := 327) (ns' := 208818) sl_0_40 rfl) ?_
  refine Eq.trans (st_go (pc' := 277) (lv' := [(4, .int 0), (3, .ref 326), (2, .ref 189), (1, .ref 0), (0, .ref 1000000)]) (st' := [.ref 0]) (t' := (sw f g, 327)) (nc' := 327) (ns' := 208818) sl_0_276 rfl) ?_
  refine Eq.trans (st_go (pc' := 278) (lv' := [(4, .int 0), (3, .ref 326), (2, .ref 189), (1, .ref 0), (0, .ref 1000000)]) (st' := [.ref 1000000, .ref 0]) (t' := (sw f g, 327)) (nc' := 327) (ns' := 208818) sl_0_277 rfl) ?_
  refine Eq.trans (st_go (pc' := 280) (lv' := [(4, .int 0), (3, .ref 326), (2, .ref 189), (1, .ref 0), (0, .ref 1000000)]) (st' := [.int 0, .ref 1000000, .ref 0]) (t' := (sw f g, 327)) (nc' := 327) (ns' := 208818) sl_0_278 rfl) ?_
  refine Eq.trans (st_go (pc' := 281) (lv' := [(4, .int 0), (3, .ref 326), (2, .ref 189), (1, .ref 0), (0, .ref 1000000)]) (st' := [.int 1, .int 0, .ref 1000000, .ref 0]) (t' := (sw f g, 327)) (nc' := 327) (ns' := 208818) sl_0_280 rfl) ?_
  refine Eq.trans (st_go (pc' := 282) (lv' := [(4, .int 0), (3, .ref 326), (2, .ref 189), (1, .ref 0), (0, .ref 1000000)]) (st' := [.int 1, .ref 1000000, .ref 0]) (t' := (sw f g, 327)) (nc' := 327) (ns' := 208818) sl_0_281 rfl) ?_
  refine Eq.trans (st_go (pc' := 283) (lv' := [(4, .int 0), (3, .ref 326), (2, .ref 189), (1, .ref 0), (0, .ref 1000000)]) (st' := [.int (xs 1), .ref 0]) (t' := (sw f g, 327)) (nc' := 327) (ns' := 208818) sl_0_282 rfl) ?_
  refine Eq.trans (st_call (pc' := 286) (st' := [.int (-1)]) (nc' := 327) (ns' := 208818) (mi := 26) (av := [.ref 0, .int (xs 1)]) (rest := []) sl_0_283 (fun _ => rfl) (sw_14 xs sio f g q0 q1) rfl rfl rfl rfl) ?_
  refine Eq.trans (st_go (pc' := 287) (lv' := [(4, .int 0), (3, .ref 326), (2, .ref 189), (1, .ref 0), (0, .ref 1000000)]) (st' := [.ref 189, .int (-1)]) (t' := (sw f g, 327)) (nc' := 327) (ns' := 208818) sl_0_286 rfl) ?_
  refine Eq.trans (st_go (pc' := 288) (lv' := [(4, .int 0), (3, .ref 326), (2, .ref 189), (1, .ref 0), (0, .ref 1000000)]) (st' := [.ref 1000000, .ref 189, .int (-1)]) (t' := (sw f g, 327)) (nc' := 327) (ns' := 208818) sl_0_287 rfl) ?_
  refine Eq.trans (st_go (pc' := 290) (lv' := [(4, .int 0), (3, .ref 326), (2, .ref 189), (1, .ref 0), (0, .ref 1000000)]) (st' := [.int 0, .ref 1000000, .ref 189, .int (-1)]) (t' := (sw f g, 327)) (nc' := 327) (ns' := 208818) sl_0_288 rfl) ?_
  refine Eq.trans (st_go (pc' := 291) (lv' := [(4, .int 0), (3, .ref 326), (2, .ref 189), (1, .ref 0), (0, .ref 1000000)]) (st' := [.int 1, .int 0, .ref 1000000, .ref 189, .int (-1)]) (t' := (sw f g, 327)) (nc' := 327) (ns' := 208818) sl_0_290 rfl) ?_
  refine Eq.trans (st_go (pc' := 292) (lv' := [(4, .int 0), (3, .ref 326), (2, .ref 189), (1, .ref 0), (0, .ref 1000000)]) (st' := [.int 1, .ref 1000000, .ref 189, .int (-1)]) (t' := (sw f g, 327)) (nc' := 327) (ns' := 208818) sl_0_291 rfl) ?_
  refine Eq.trans (st_go (pc' := 293) (lv' := [(4, .int 0), (3, .ref 326), (2, .ref 189), (1, .ref 0), (0, .ref 1000000)]) (st' := [.int (xs 1), .ref 189, .int (-1)]) (t' := (sw f g, 327)) (nc' := 327) (ns' := 208818) sl_0_292 rfl) ?_
  refine Eq.trans (st_call (pc' := 296) (st' := [.int (-1), .int (-1)]) (nc' := 327) (ns' := 208818) (mi := 287) (av := [.ref 189, .int (xs 1)]) (rest := [.int (-1)]) sl_0_293 (fun _ => rfl) (sw_15 xs sio f g q0 q1) rfl rfl rfl rfl) ?_
  refine Eq.trans (st_go (pc' := 1172) (lv' := [(4, .int 0), (3, .ref 326), (2, .ref 189), (1, .ref 0), (0, .ref 1000000)]) (st' := []) (t' := (sh_7 xs f g, 327)) (nc' := 327) (ns' := 208818) sl_0_296 rfl) ?_
  refine Eq.trans (st_go (pc' := 1175) (lv' := [(4, .int 6), (3, .ref 326), (2, .ref 189), (1, .ref 0), (0, .ref 1000000)]) (st' := []) (t' := (sh_7 xs f g, 327)) (nc' := 327) (ns' := 208818) sl_0_1172 rfl) ?_
  refine Eq.trans (st_go (pc' := 23) (lv' := [(4, .int 6), (3, .ref 326), (2, .ref 189), (1, .ref 0), (0, .ref 1000000)]) (st' := []) (t' := (sh_7 xs f g, 327)) (nc' := 327) (ns' := 208818) sl_0_1175 rfl) ?_
  refine Eq.trans (st_go (pc' := 25) (lv' := [(4, .int 6), (3, .ref 326), (2, .ref 189), (1, .ref 0), (0, .ref 1000000)]) (st' := [.int 6]) (t' := (sh_7 xs f g, 327)) (nc' := 327) (ns' := 208818) sl_0_23 rfl) ?_
  refine Eq.trans (st_go (pc' := 26) (lv' := [(4, .int 6), (3, .ref 326), (2, .ref 189), (1, .ref 0), (0, .ref 1000000)]) (st' := [.ref 1000000, .int 6]) (t' := (sh_7 xs f g, 327)) (nc' := 327) (ns' := 208818) sl_0_25 rfl) ?_
  refine Eq.trans (st_go (pc' := 27) (lv' := [(4, .int 6), (3, .ref 326), (2, .ref 189), (1, .ref 0), (0, .ref 1000000)]) (st' := [.int 6, .int 6]) (t' := (sh_7 xs f g, 327)) (nc' := 327) (ns' := 208818) sl_0_26 rfl) ?_
  refine Eq.trans (st_go (pc' := 29) (lv' := [(4, .int 6), (3, .ref 326), (2, .ref 189), (1, .ref 0), (0, .ref 1000000)]) (st' := [.int 6, .int 6, .int 6]) (t' := (sh_7 xs f g, 327)) (nc' := 327) (ns' := 208818) sl_0_27 rfl) ?_
  refine Eq.trans (st_go (pc' := 30) (lv' := [(4, .int 6), (3, .ref 326), (2, .ref 189), (1, .ref 0), (0, .ref 1000000)]) (st' := [.int 0, .int 6]) (t' := (sh_7 xs f g, 327)) (nc' := 327) (ns' := 208818) sl_0_29 rfl) ?_
  refine Eq.trans (st_go (pc' := 1178) (lv' := [(4, .int 6), (3, .ref 326), (2, .ref 189), (1, .ref 0), (0, .ref 1000000)]) (st' := []) (t' := (sh_7 xs f g, 327)) (nc' := 327) (ns' := 208818) sl_0_30 rfl) ?_
  refine Eq.trans (st_go (pc' := 1179) (lv' := [(4, .int 6), (3, .ref 326), (2, .ref 189), (1, .ref 0), (0, .ref 1000000)]) (st' := [.int 1]) (t' := (sh_7 xs f g, 327)) (nc' := 327) (ns' := 208818) sl_0_1178 rfl) ?_
  exact st_end sl_0_1179 rfl
set_option maxRecDepth 100000 in
/-- PacketWorks.end -/
theorem sw_16 (xs : Nat → Int32) (sio : Value) (f : Nat → Nat → Int32) (g : Nat → Nat → Int64) (q0 : am_c0 .lt (xs 1) = true) : sC 6 xs sio 17 24 [.ref 0, .int (xs 1)] (sw f g, 327) = some (.inl (some (.int (-1))), (sw f g, 327), 0, 0) := by
  refine st_in sg_24 rfl rfl ?_
  refine Eq.trans (st_go (pc' := 1) (lv' := [(0, .ref 0), (1, .int (xs 1))]) (st' := [.int (xs 1)]) (t' := (sw f g, 327)) (nc' := 0) (ns' := 0) sl_24_0 rfl) ?_
  refine Eq.trans (st_if (pc' := 22) sl_24_1 q0 rfl) ?_
  refine Eq.trans (st_go (pc' := 23) (lv' := [(0, .ref 0), (1, .int (xs 1))]) (st' := [.int (-1)]) (t' := (sw f g, 327)) (nc' := 0) (ns' := 0) sl_24_22 rfl) ?_
  exact st_end sl_24_23 rfl
set_option maxRecDepth 100000 in
/-- PacketWorksModel.end -/
theorem sw_17 (xs : Nat → Int32) (sio : Value) (f : Nat → Nat → Int32) (g : Nat → Nat → Int64) (q0 : am_c0 .lt (xs 1) = true) : sC 6 xs sio 17 209 [.ref 189, .int (xs 1)] (sw f g, 327) = some (.inl (some (.int (-1))), (sh_8 xs f g, 327), 0, 0) := by
  refine st_in sg_209 rfl rfl ?_
  refine Eq.trans (st_go (pc' := 1) (lv' := [(0, .ref 189), (1, .int (xs 1))]) (st' := [.ref 189]) (t' := (sw f g, 327)) (nc' := 0) (ns' := 0) sl_209_0 rfl) ?_
  refine Eq.trans (st_go (pc' := 2) (lv' := [(0, .ref 189), (1, .int (xs 1))]) (st' := [.int 0, .ref 189]) (t' := (sw f g, 327)) (nc' := 0) (ns' := 0) sl_209_1 rfl) ?_
  refine Eq.trans (st_go (pc' := 5) (lv' := [(0, .ref 189), (1, .int (xs 1))]) (st' := []) (t' := (sh_8 xs f g, 327)) (nc' := 0) (ns' := 0) sl_209_2 rfl) ?_
  refine Eq.trans (st_go (pc' := 6) (lv' := [(0, .ref 189), (1, .int (xs 1))]) (st' := [.int (xs 1)]) (t' := (sh_8 xs f g, 327)) (nc' := 0) (ns' := 0) sl_209_5 rfl) ?_
  refine Eq.trans (st_if (pc' := 27) sl_209_6 q0 rfl) ?_
  refine Eq.trans (st_go (pc' := 28) (lv' := [(0, .ref 189), (1, .int (xs 1))]) (st' := [.int (-1)]) (t' := (sh_8 xs f g, 327)) (nc' := 0) (ns' := 0) sl_209_27 rfl) ?_
  exact st_end sl_209_28 rfl
set_option maxRecDepth 100000 in
theorem so_1_n (xs : Nat → Int32) (sio : Value) (f : Nat → Nat → Int32) (g : Nat → Nat → Int64) (n : Nat) (hn : 26 ≤ n) (q0 : am_c0 .lt (xs 1) = true) : sR 6 xs sio 17 pm_0 n (40, [(4, .int 0), (3, .ref 326), (2, .ref 189), (1, .ref 0), (0, .ref 1000000)], [.int 1], (sw f g, 327), 327, 208818) = some (.inl (some (.int 1)), (sh_8 xs f g, 327), 327, 208818) := by
  obtain ⟨m, rfl⟩ : ∃ m, n = m + 26 := ⟨n - 26, by omega⟩
  refine Eq.trans (st_go (pc' := 207) (lv' := [(4, .int 0), (3, .ref 326), (2, .ref 189), (1, .ref 0), (0, .ref 1000000)]) (st' := []) (t' := (sw f g, 327)) (nc' := 327) (ns' := 208818) sl_0_40 rfl) ?_
  refine Eq.trans (st_go (pc' := 208) (lv' := [(4, .int 0), (3, .ref 326), (2, .ref 189), (1, .ref 0), (0, .ref 1000000)]) (st' := [.ref 0]) (t' := (sw f g, 327)) (nc' := 327) (ns' := 208818) sl_0_207 rfl) ?_
  refine Eq.trans (st_go (pc' := 209) (lv' := [(4, .int 0), (3, .ref 326), (2, .ref 189), (1, .ref 0), (0, .ref 1000000)]) (st' := [.ref 1000000, .ref 0]) (t' := (sw f g, 327)) (nc' := 327) (ns' := 208818) sl_0_208 rfl) ?_
  refine Eq.trans (st_go (pc' := 211) (lv' := [(4, .int 0), (3, .ref 326), (2, .ref 189), (1, .ref 0), (0, .ref 1000000)]) (st' := [.int 0, .ref 1000000, .ref 0]) (t' := (sw f g, 327)) (nc' := 327) (ns' := 208818) sl_0_209 rfl) ?_
  refine Eq.trans (st_go (pc' := 212) (lv' := [(4, .int 0), (3, .ref 326), (2, .ref 189), (1, .ref 0), (0, .ref 1000000)]) (st' := [.int 1, .int 0, .ref 1000000, .ref 0]) (t' := (sw f g, 327)) (nc' := 327) (ns' := 208818) sl_0_211 rfl) ?_
  refine Eq.trans (st_go (pc' := 213) (lv' := [(4, .int 0), (3, .ref 326), (2, .ref 189), (1, .ref 0), (0, .ref 1000000)]) (st' := [.int 1, .ref 1000000, .ref 0]) (t' := (sw f g, 327)) (nc' := 327) (ns' := 208818) sl_0_212 rfl) ?_
  refine Eq.trans (st_go (pc' := 214) (lv' := [(4, .int 0), (3, .ref 326), (2, .ref 189), (1, .ref 0), (0, .ref 1000000)]) (st' := [.int (xs 1), .ref 0]) (t' := (sw f g, 327)) (nc' := 327) (ns' := 208818) sl_0_213 rfl) ?_
  refine Eq.trans (st_call (pc' := 217) (st' := [.int (-1)]) (nc' := 327) (ns' := 208818) (mi := 24) (av := [.ref 0, .int (xs 1)]) (rest := []) sl_0_214 (fun _ => rfl) (sw_16 xs sio f g q0) rfl rfl rfl rfl) ?_
  refine Eq.trans (st_go (pc' := 218) (lv' := [(4, .int 0), (3, .ref 326), (2, .ref 189), (1, .ref 0), (0, .ref 1000000)]) (st' := [.ref 189, .int (-1)]) (t' := (sw f g, 327)) (nc' := 327) (ns' := 208818) sl_0_217 rfl) ?_
  refine Eq.trans (st_go (pc' := 219) (lv' := [(4, .int 0), (3, .ref 326), (2, .ref 189), (1, .ref 0), (0, .ref 1000000)]) (st' := [.ref 1000000, .ref 189, .int (-1)]) (t' := (sw f g, 327)) (nc' := 327) (ns' := 208818) sl_0_218 rfl) ?_
  refine Eq.trans (st_go (pc' := 221) (lv' := [(4, .int 0), (3, .ref 326), (2, .ref 189), (1, .ref 0), (0, .ref 1000000)]) (st' := [.int 0, .ref 1000000, .ref 189, .int (-1)]) (t' := (sw f g, 327)) (nc' := 327) (ns' := 208818) sl_0_219 rfl) ?_
  refine Eq.trans (st_go (pc' := 222) (lv' := [(4, .int 0), (3, .ref 326), (2, .ref 189), (1, .ref 0), (0, .ref 1000000)]) (st' := [.int 1, .int 0, .ref 1000000, .ref 189, .int (-1)]) (t' := (sw f g, 327)) (nc' := 327) (ns' := 208818) sl_0_221 rfl) ?_
  refine Eq.trans (st_go (pc' := 223) (lv' := [(4, .int 0), (3, .ref 326), (2, .ref 189), (1, .ref 0), (0, .ref 1000000)]) (st' := [.int 1, .ref 1000000, .ref 189, .int (-1)]) (t' := (sw f g, 327)) (nc' := 327) (ns' := 208818) sl_0_222 rfl) ?_
  refine Eq.trans (st_go (pc' := 224) (lv' := [(4, .int 0), (3, .ref 326), (2, .ref 189), (1, .ref 0), (0, .ref 1000000)]) (st' := [.int (xs 1), .ref 189, .int (-1)]) (t' := (sw f g, 327)) (nc' := 327) (ns' := 208818) sl_0_223 rfl) ?_
  refine Eq.trans (st_call (pc' := 227) (st' := [.int (-1), .int (-1)]) (nc' := 327) (ns' := 208818) (mi := 209) (av := [.ref 189, .int (xs 1)]) (rest := [.int (-1)]) sl_0_224 (fun _ => rfl) (sw_17 xs sio f g q0) rfl rfl rfl rfl) ?_
  refine Eq.trans (st_go (pc' := 1172) (lv' := [(4, .int 0), (3, .ref 326), (2, .ref 189), (1, .ref 0), (0, .ref 1000000)]) (st' := []) (t' := (sh_8 xs f g, 327)) (nc' := 327) (ns' := 208818) sl_0_227 rfl) ?_
  refine Eq.trans (st_go (pc' := 1175) (lv' := [(4, .int 6), (3, .ref 326), (2, .ref 189), (1, .ref 0), (0, .ref 1000000)]) (st' := []) (t' := (sh_8 xs f g, 327)) (nc' := 327) (ns' := 208818) sl_0_1172 rfl) ?_
  refine Eq.trans (st_go (pc' := 23) (lv' := [(4, .int 6), (3, .ref 326), (2, .ref 189), (1, .ref 0), (0, .ref 1000000)]) (st' := []) (t' := (sh_8 xs f g, 327)) (nc' := 327) (ns' := 208818) sl_0_1175 rfl) ?_
  refine Eq.trans (st_go (pc' := 25) (lv' := [(4, .int 6), (3, .ref 326), (2, .ref 189), (1, .ref 0), (0, .ref 1000000)]) (st' := [.int 6]) (t' := (sh_8 xs f g, 327)) (nc' := 327) (ns' := 208818) sl_0_23 rfl) ?_
  refine Eq.trans (st_go (pc' := 26) (lv' := [(4, .int 6), (3, .ref 326), (2, .ref 189), (1, .ref 0), (0, .ref 1000000)]) (st' := [.ref 1000000, .int 6]) (t' := (sh_8 xs f g, 327)) (nc' := 327) (ns' := 208818) sl_0_25 rfl) ?_
  refine Eq.trans (st_go (pc' := 27) (lv' := [(4, .int 6), (3, .ref 326), (2, .ref 189), (1, .ref 0), (0, .ref 1000000)]) (st' := [.int 6, .int 6]) (t' := (sh_8 xs f g, 327)) (nc' := 327) (ns' := 208818) sl_0_26 rfl) ?_
  refine Eq.trans (st_go (pc' := 29) (lv' := [(4, .int 6), (3, .ref 326), (2, .ref 189), (1, .ref 0), (0, .ref 1000000)]) (st' := [.int 6, .int 6, .int 6]) (t' := (sh_8 xs f g, 327)) (nc' := 327) (ns' := 208818) sl_0_27 rfl) ?_
  refine Eq.trans (st_go (pc' := 30) (lv' := [(4, .int 6), (3, .ref 326), (2, .ref 189), (1, .ref 0), (0, .ref 1000000)]) (st' := [.int 0, .int 6]) (t' := (sh_8 xs f g, 327)) (nc' := 327) (ns' := 208818) sl_0_29 rfl) ?_
  refine Eq.trans (st_go (pc' := 1178) (lv' := [(4, .int 6), (3, .ref 326), (2, .ref 189), (1, .ref 0), (0, .ref 1000000)]) (st' := []) (t' := (sh_8 xs f g, 327)) (nc' := 327) (ns' := 208818) sl_0_30 rfl) ?_
  refine Eq.trans (st_go (pc' := 1179) (lv' := [(4, .int 6), (3, .ref 326), (2, .ref 189), (1, .ref 0), (0, .ref 1000000)]) (st' := [.int 1]) (t' := (sh_8 xs f g, 327)) (nc' := 327) (ns' := 208818) sl_0_1178 rfl) ?_
  exact st_end sl_0_1179 rfl
set_option maxRecDepth 100000 in
/-- PacketWorks.end -/
theorem sw_18 (xs : Nat → Int32) (sio : Value) (f : Nat → Nat → Int32) (g : Nat → Nat → Int64) (q0 : am_c0 .lt (xs 1) = false) (q1 : am_c2 .gt (xs 1) (20) = true) : sC 6 xs sio 17 24 [.ref 0, .int (xs 1)] (sw f g, 327) = some (.inl (some (.int (-1))), (sw f g, 327), 0, 0) := by
  refine st_in sg_24 rfl rfl ?_
  refine Eq.trans (st_go (pc' := 1) (lv' := [(0, .ref 0), (1, .int (xs 1))]) (st' := [.int (xs 1)]) (t' := (sw f g, 327)) (nc' := 0) (ns' := 0) sl_24_0 rfl) ?_
  refine Eq.trans (st_if (pc' := 4) sl_24_1 q0 rfl) ?_
  refine Eq.trans (st_go (pc' := 5) (lv' := [(0, .ref 0), (1, .int (xs 1))]) (st' := [.int (xs 1)]) (t' := (sw f g, 327)) (nc' := 0) (ns' := 0) sl_24_4 rfl) ?_
  refine Eq.trans (st_go (pc' := 7) (lv' := [(0, .ref 0), (1, .int (xs 1))]) (st' := [.int 20, .int (xs 1)]) (t' := (sw f g, 327)) (nc' := 0) (ns' := 0) sl_24_5 rfl) ?_
  refine Eq.trans (st_ic (pc' := 22) sl_24_7 q1 rfl) ?_
  refine Eq.trans (st_go (pc' := 23) (lv' := [(0, .ref 0), (1, .int (xs 1))]) (st' := [.int (-1)]) (t' := (sw f g, 327)) (nc' := 0) (ns' := 0) sl_24_22 rfl) ?_
  exact st_end sl_24_23 rfl
set_option maxRecDepth 100000 in
/-- PacketWorksModel.end -/
theorem sw_19 (xs : Nat → Int32) (sio : Value) (f : Nat → Nat → Int32) (g : Nat → Nat → Int64) (q0 : am_c0 .lt (xs 1) = false) (q1 : am_c2 .gt (xs 1) (20) = true) : sC 6 xs sio 17 209 [.ref 189, .int (xs 1)] (sw f g, 327) = some (.inl (some (.int (-1))), (sh_9 xs f g, 327), 0, 0) := by
  refine st_in sg_209 rfl rfl ?_
  refine Eq.trans (st_go (pc' := 1) (lv' := [(0, .ref 189), (1, .int (xs 1))]) (st' := [.ref 189]) (t' := (sw f g, 327)) (nc' := 0) (ns' := 0) sl_209_0 rfl) ?_
  refine Eq.trans (st_go (pc' := 2) (lv' := [(0, .ref 189), (1, .int (xs 1))]) (st' := [.int 0, .ref 189]) (t' := (sw f g, 327)) (nc' := 0) (ns' := 0) sl_209_1 rfl) ?_
  refine Eq.trans (st_go (pc' := 5) (lv' := [(0, .ref 189), (1, .int (xs 1))]) (st' := []) (t' := (sh_9 xs f g, 327)) (nc' := 0) (ns' := 0) sl_209_2 rfl) ?_
  refine Eq.trans (st_go (pc' := 6) (lv' := [(0, .ref 189), (1, .int (xs 1))]) (st' := [.int (xs 1)]) (t' := (sh_9 xs f g, 327)) (nc' := 0) (ns' := 0) sl_209_5 rfl) ?_
  refine Eq.trans (st_if (pc' := 9) sl_209_6 q0 rfl) ?_
  refine Eq.trans (st_go (pc' := 10) (lv' := [(0, .ref 189), (1, .int (xs 1))]) (st' := [.int (xs 1)]) (t' := (sh_9 xs f g, 327)) (nc' := 0) (ns' := 0) sl_209_9 rfl) ?_
  refine Eq.trans (st_go (pc' := 12) (lv' := [(0, .ref 189), (1, .int (xs 1))]) (st' := [.int 20, .int (xs 1)]) (t' := (sh_9 xs f g, 327)) (nc' := 0) (ns' := 0) sl_209_10 rfl) ?_
  refine Eq.trans (st_ic (pc' := 27) sl_209_12 q1 rfl) ?_
  refine Eq.trans (st_go (pc' := 28) (lv' := [(0, .ref 189), (1, .int (xs 1))]) (st' := [.int (-1)]) (t' := (sh_9 xs f g, 327)) (nc' := 0) (ns' := 0) sl_209_27 rfl) ?_
  exact st_end sl_209_28 rfl
set_option maxRecDepth 100000 in
theorem so_1_p (xs : Nat → Int32) (sio : Value) (f : Nat → Nat → Int32) (g : Nat → Nat → Int64) (n : Nat) (hn : 26 ≤ n) (q0 : am_c0 .lt (xs 1) = false) (q1 : am_c2 .gt (xs 1) (20) = true) : sR 6 xs sio 17 pm_0 n (40, [(4, .int 0), (3, .ref 326), (2, .ref 189), (1, .ref 0), (0, .ref 1000000)], [.int 1], (sw f g, 327), 327, 208818) = some (.inl (some (.int 1)), (sh_9 xs f g, 327), 327, 208818) := by
  obtain ⟨m, rfl⟩ : ∃ m, n = m + 26 := ⟨n - 26, by omega⟩
  refine Eq.trans (st_go (pc' := 207) (lv' := [(4, .int 0), (3, .ref 326), (2, .ref 189), (1, .ref 0), (0, .ref 1000000)]) (st' := []) (t' := (sw f g, 327)) (nc' := 327) (ns' := 208818) sl_0_40 rfl) ?_
  refine Eq.trans (st_go (pc' := 208) (lv' := [(4, .int 0), (3, .ref 326), (2, .ref 189), (1, .ref 0), (0, .ref 1000000)]) (st' := [.ref 0]) (t' := (sw f g, 327)) (nc' := 327) (ns' := 208818) sl_0_207 rfl) ?_
  refine Eq.trans (st_go (pc' := 209) (lv' := [(4, .int 0), (3, .ref 326), (2, .ref 189), (1, .ref 0), (0, .ref 1000000)]) (st' := [.ref 1000000, .ref 0]) (t' := (sw f g, 327)) (nc' := 327) (ns' := 208818) sl_0_208 rfl) ?_
  refine Eq.trans (st_go (pc' := 211) (lv' := [(4, .int 0), (3, .ref 326), (2, .ref 189), (1, .ref 0), (0, .ref 1000000)]) (st' := [.int 0, .ref 1000000, .ref 0]) (t' := (sw f g, 327)) (nc' := 327) (ns' := 208818) sl_0_209 rfl) ?_
  refine Eq.trans (st_go (pc' := 212) (lv' := [(4, .int 0), (3, .ref 326), (2, .ref 189), (1, .ref 0), (0, .ref 1000000)]) (st' := [.int 1, .int 0, .ref 1000000, .ref 0]) (t' := (sw f g, 327)) (nc' := 327) (ns' := 208818) sl_0_211 rfl) ?_
  refine Eq.trans (st_go (pc' := 213) (lv' := [(4, .int 0), (3, .ref 326), (2, .ref 189), (1, .ref 0), (0, .ref 1000000)]) (st' := [.int 1, .ref 1000000, .ref 0]) (t' := (sw f g, 327)) (nc' := 327) (ns' := 208818) sl_0_212 rfl) ?_
  refine Eq.trans (st_go (pc' := 214) (lv' := [(4, .int 0), (3, .ref 326), (2, .ref 189), (1, .ref 0), (0, .ref 1000000)]) (st' := [.int (xs 1), .ref 0]) (t' := (sw f g, 327)) (nc' := 327) (ns' := 208818) sl_0_213 rfl) ?_
  refine Eq.trans (st_call (pc' := 217) (st' := [.int (-1)]) (nc' := 327) (ns' := 208818) (mi := 24) (av := [.ref 0, .int (xs 1)]) (rest := []) sl_0_214 (fun _ => rfl) (sw_18 xs sio f g q0 q1) rfl rfl rfl rfl) ?_
  refine Eq.trans (st_go (pc' := 218) (lv' := [(4, .int 0), (3, .ref 326), (2, .ref 189), (1, .ref 0), (0, .ref 1000000)]) (st' := [.ref 189, .int (-1)]) (t' := (sw f g, 327)) (nc' := 327) (ns' := 208818) sl_0_217 rfl) ?_
  refine Eq.trans (st_go (pc' := 219) (lv' := [(4, .int 0), (3, .ref 326), (2, .ref 189), (1, .ref 0), (0, .ref 1000000)]) (st' := [.ref 1000000, .ref 189, .int (-1)]) (t' := (sw f g, 327)) (nc' := 327) (ns' := 208818) sl_0_218 rfl) ?_
  refine Eq.trans (st_go (pc' := 221) (lv' := [(4, .int 0), (3, .ref 326), (2, .ref 189), (1, .ref 0), (0, .ref 1000000)]) (st' := [.int 0, .ref 1000000, .ref 189, .int (-1)]) (t' := (sw f g, 327)) (nc' := 327) (ns' := 208818) sl_0_219 rfl) ?_
  refine Eq.trans (st_go (pc' := 222) (lv' := [(4, .int 0), (3, .ref 326), (2, .ref 189), (1, .ref 0), (0, .ref 1000000)]) (st' := [.int 1, .int 0, .ref 1000000, .ref 189, .int (-1)]) (t' := (sw f g, 327)) (nc' := 327) (ns' := 208818) sl_0_221 rfl) ?_
  refine Eq.trans (st_go (pc' := 223) (lv' := [(4, .int 0), (3, .ref 326), (2, .ref 189), (1, .ref 0), (0, .ref 1000000)]) (st' := [.int 1, .ref 1000000, .ref 189, .int (-1)]) (t' := (sw f g, 327)) (nc' := 327) (ns' := 208818) sl_0_222 rfl) ?_
  refine Eq.trans (st_go (pc' := 224) (lv' := [(4, .int 0), (3, .ref 326), (2, .ref 189), (1, .ref 0), (0, .ref 1000000)]) (st' := [.int (xs 1), .ref 189, .int (-1)]) (t' := (sw f g, 327)) (nc' := 327) (ns' := 208818) sl_0_223 rfl) ?_
  refine Eq.trans (st_call (pc' := 227) (st' := [.int (-1), .int (-1)]) (nc' := 327) (ns' := 208818) (mi := 209) (av := [.ref 189, .int (xs 1)]) (rest := [.int (-1)]) sl_0_224 (fun _ => rfl) (sw_19 xs sio f g q0 q1) rfl rfl rfl rfl) ?_
  refine Eq.trans (st_go (pc' := 1172) (lv' := [(4, .int 0), (3, .ref 326), (2, .ref 189), (1, .ref 0), (0, .ref 1000000)]) (st' := []) (t' := (sh_9 xs f g, 327)) (nc' := 327) (ns' := 208818) sl_0_227 rfl) ?_
  refine Eq.trans (st_go (pc' := 1175) (lv' := [(4, .int 6), (3, .ref 326), (2, .ref 189), (1, .ref 0), (0, .ref 1000000)]) (st' := []) (t' := (sh_9 xs f g, 327)) (nc' := 327) (ns' := 208818) sl_0_1172 rfl) ?_
  refine Eq.trans (st_go (pc' := 23) (lv' := [(4, .int 6), (3, .ref 326), (2, .ref 189), (1, .ref 0), (0, .ref 1000000)]) (st' := []) (t' := (sh_9 xs f g, 327)) (nc' := 327) (ns' := 208818) sl_0_1175 rfl) ?_
  refine Eq.trans (st_go (pc' := 25) (lv' := [(4, .int 6), (3, .ref 326), (2, .ref 189), (1, .ref 0), (0, .ref 1000000)]) (st' := [.int 6]) (t' := (sh_9 xs f g, 327)) (nc' := 327) (ns' := 208818) sl_0_23 rfl) ?_
  refine Eq.trans (st_go (pc' := 26) (lv' := [(4, .int 6), (3, .ref 326), (2, .ref 189), (1, .ref 0), (0, .ref 1000000)]) (st' := [.ref 1000000, .int 6]) (t' := (sh_9 xs f g, 327)) (nc' := 327) (ns' := 208818) sl_0_25 rfl) ?_
  refine Eq.trans (st_go (pc' := 27) (lv' := [(4, .int 6), (3, .ref 326), (2, .ref 189), (1, .ref 0), (0, .ref 1000000)]) (st' := [.int 6, .int 6]) (t' := (sh_9 xs f g, 327)) (nc' := 327) (ns' := 208818) sl_0_26 rfl) ?_
  refine Eq.trans (st_go (pc' := 29) (lv' := [(4, .int 6), (3, .ref 326), (2, .ref 189), (1, .ref 0), (0, .ref 1000000)]) (st' := [.int 6, .int 6, .int 6]) (t' := (sh_9 xs f g, 327)) (nc' := 327) (ns' := 208818) sl_0_27 rfl) ?_
  refine Eq.trans (st_go (pc' := 30) (lv' := [(4, .int 6), (3, .ref 326), (2, .ref 189), (1, .ref 0), (0, .ref 1000000)]) (st' := [.int 0, .int 6]) (t' := (sh_9 xs f g, 327)) (nc' := 327) (ns' := 208818) sl_0_29 rfl) ?_
  refine Eq.trans (st_go (pc' := 1178) (lv' := [(4, .int 6), (3, .ref 326), (2, .ref 189), (1, .ref 0), (0, .ref 1000000)]) (st' := []) (t' := (sh_9 xs f g, 327)) (nc' := 327) (ns' := 208818) sl_0_30 rfl) ?_
  refine Eq.trans (st_go (pc' := 1179) (lv' := [(4, .int 6), (3, .ref 326), (2, .ref 189), (1, .ref 0), (0, .ref 1000000)]) (st' := [.int 1]) (t' := (sh_9 xs f g, 327)) (nc' := 327) (ns' := 208818) sl_0_1178 rfl) ?_
  exact st_end sl_0_1179 rfl
set_option maxRecDepth 100000 in
/-- PacketWorks.count -/
theorem sw_20 (xs : Nat → Int32) (sio : Value) (f : Nat → Nat → Int32) (g : Nat → Nat → Int64) : sC 6 xs sio 17 39 [.ref 0, .int 0] (sw f g, 327) = some (.inl (some (.int 0)), (sw f g, 327), 0, 0) := by
  refine st_in sg_39 rfl rfl ?_
  refine Eq.trans (st_go (pc' := 1) (lv' := [(0, .ref 0), (1, .int 0)]) (st' := [.int 0]) (t' := (sw f g, 327)) (nc' := 0) (ns' := 0) sl_39_0 rfl) ?_
  refine Eq.trans (st_go (pc' := 40) (lv' := [(0, .ref 0), (1, .int 0)]) (st' := []) (t' := (sw f g, 327)) (nc' := 0) (ns' := 0) sl_39_1 rfl) ?_
  refine Eq.trans (st_go (pc' := 41) (lv' := [(0, .ref 0), (1, .int 0)]) (st' := [.ref 0]) (t' := (sw f g, 327)) (nc' := 0) (ns' := 0) sl_39_40 rfl) ?_
  refine Eq.trans (st_go (pc' := 44) (lv' := [(0, .ref 0), (1, .int 0)]) (st' := [.ref 185]) (t' := (sw f g, 327)) (nc' := 0) (ns' := 0) sl_39_41 rfl) ?_
  refine Eq.trans (st_go (pc' := 47) (lv' := [(0, .ref 0), (1, .int 0)]) (st' := [.int 0]) (t' := (sw f g, 327)) (nc' := 0) (ns' := 0) sl_39_44 rfl) ?_
  exact st_end sl_39_47 rfl
set_option maxRecDepth 100000 in
/-- PacketWorksModel.count -/
theorem sw_21 (xs : Nat → Int32) (sio : Value) (f : Nat → Nat → Int32) (g : Nat → Nat → Int64) : sC 6 xs sio 17 348 [.ref 189, .int 0] (sw f g, 327) = some (.inl (some (.int 0)), (sh_10 xs f g, 327), 0, 0) := by
  refine st_in sg_348 rfl rfl ?_
  refine Eq.trans (st_go (pc' := 1) (lv' := [(0, .ref 189), (1, .int 0)]) (st' := [.ref 189]) (t' := (sw f g, 327)) (nc' := 0) (ns' := 0) sl_348_0 rfl) ?_
  refine Eq.trans (st_go (pc' := 2) (lv' := [(0, .ref 189), (1, .int 0)]) (st' := [.int 0, .ref 189]) (t' := (sw f g, 327)) (nc' := 0) (ns' := 0) sl_348_1 rfl) ?_
  refine Eq.trans (st_go (pc' := 5) (lv' := [(0, .ref 189), (1, .int 0)]) (st' := []) (t' := (sh_10 xs f g, 327)) (nc' := 0) (ns' := 0) sl_348_2 rfl) ?_
  refine Eq.trans (st_go (pc' := 6) (lv' := [(0, .ref 189), (1, .int 0)]) (st' := [.int 0]) (t' := (sh_10 xs f g, 327)) (nc' := 0) (ns' := 0) sl_348_5 rfl) ?_
  refine Eq.trans (st_go (pc' := 44) (lv' := [(0, .ref 189), (1, .int 0)]) (st' := []) (t' := (sh_10 xs f g, 327)) (nc' := 0) (ns' := 0) sl_348_6 rfl) ?_
  refine Eq.trans (st_go (pc' := 45) (lv' := [(0, .ref 189), (1, .int 0)]) (st' := [.ref 189]) (t' := (sh_10 xs f g, 327)) (nc' := 0) (ns' := 0) sl_348_44 rfl) ?_
  refine Eq.trans (st_go (pc' := 48) (lv' := [(0, .ref 189), (1, .int 0)]) (st' := [.int 0]) (t' := (sh_10 xs f g, 327)) (nc' := 0) (ns' := 0) sl_348_45 rfl) ?_
  exact st_end sl_348_48 rfl
set_option maxRecDepth 100000 in
theorem so_19_0 (xs : Nat → Int32) (sio : Value) (f : Nat → Nat → Int32) (g : Nat → Nat → Int64) (n : Nat) (hn : 26 ≤ n) (q0 : xs 1 = 0) : sR 6 xs sio 17 pm_0 n (40, [(4, .int 0), (3, .ref 326), (2, .ref 189), (1, .ref 0), (0, .ref 1000000)], [.int 19], (sw f g, 327), 327, 208818) = some (.inl (some (.int 1)), (sh_10 xs f g, 327), 327, 208818) := by
  obtain ⟨m, rfl⟩ : ∃ m, n = m + 26 := ⟨n - 26, by omega⟩
  refine Eq.trans (st_go (pc' := 1147) (lv' := [(4, .int 0), (3, .ref 326), (2, .ref 189), (1, .ref 0), (0, .ref 1000000)]) (st' := []) (t' := (sw f g, 327)) (nc' := 327) (ns' := 208818) sl_0_40 rfl) ?_
  refine Eq.trans (st_go (pc' := 1148) (lv' := [(4, .int 0), (3, .ref 326), (2, .ref 189), (1, .ref 0), (0, .ref 1000000)]) (st' := [.ref 0]) (t' := (sw f g, 327)) (nc' := 327) (ns' := 208818) sl_0_1147 rfl) ?_
  refine Eq.trans (st_go (pc' := 1149) (lv' := [(4, .int 0), (3, .ref 326), (2, .ref 189), (1, .ref 0), (0, .ref 1000000)]) (st' := [.ref 1000000, .ref 0]) (t' := (sw f g, 327)) (nc' := 327) (ns' := 208818) sl_0_1148 rfl) ?_
  refine Eq.trans (st_go (pc' := 1151) (lv' := [(4, .int 0), (3, .ref 326), (2, .ref 189), (1, .ref 0), (0, .ref 1000000)]) (st' := [.int 0, .ref 1000000, .ref 0]) (t' := (sw f g, 327)) (nc' := 327) (ns' := 208818) sl_0_1149 rfl) ?_
  refine Eq.trans (st_go (pc' := 1152) (lv' := [(4, .int 0), (3, .ref 326), (2, .ref 189), (1, .ref 0), (0, .ref 1000000)]) (st' := [.int 1, .int 0, .ref 1000000, .ref 0]) (t' := (sw f g, 327)) (nc' := 327) (ns' := 208818) sl_0_1151 rfl) ?_
  refine Eq.trans (st_go (pc' := 1153) (lv' := [(4, .int 0), (3, .ref 326), (2, .ref 189), (1, .ref 0), (0, .ref 1000000)]) (st' := [.int 1, .ref 1000000, .ref 0]) (t' := (sw f g, 327)) (nc' := 327) (ns' := 208818) sl_0_1152 rfl) ?_
  refine Eq.trans (st_go (pc' := 1154) (lv' := [(4, .int 0), (3, .ref 326), (2, .ref 189), (1, .ref 0), (0, .ref 1000000)]) (st' := [.int (xs 1), .ref 0]) (t' := (sw f g, 327)) (nc' := 327) (ns' := 208818) sl_0_1153 rfl) ?_
  rw [q0]
  refine Eq.trans (st_call (pc' := 1157) (st' := [.int 0]) (nc' := 327) (ns' := 208818) (mi := 39) (av := [.ref 0, .int 0]) (rest := []) sl_0_1154 (fun _ => rfl) (sw_20 xs sio f g) rfl rfl rfl rfl) ?_
  refine Eq.trans (st_go (pc' := 1158) (lv' := [(4, .int 0), (3, .ref 326), (2, .ref 189), (1, .ref 0), (0, .ref 1000000)]) (st' := [.ref 189, .int 0]) (t' := (sw f g, 327)) (nc' := 327) (ns' := 208818) sl_0_1157 rfl) ?_
  refine Eq.trans (st_go (pc' := 1159) (lv' := [(4, .int 0), (3, .ref 326), (2, .ref 189), (1, .ref 0), (0, .ref 1000000)]) (st' := [.ref 1000000, .ref 189, .int 0]) (t' := (sw f g, 327)) (nc' := 327) (ns' := 208818) sl_0_1158 rfl) ?_
  refine Eq.trans (st_go (pc' := 1161) (lv' := [(4, .int 0), (3, .ref 326), (2, .ref 189), (1, .ref 0), (0, .ref 1000000)]) (st' := [.int 0, .ref 1000000, .ref 189, .int 0]) (t' := (sw f g, 327)) (nc' := 327) (ns' := 208818) sl_0_1159 rfl) ?_
  refine Eq.trans (st_go (pc' := 1162) (lv' := [(4, .int 0), (3, .ref 326), (2, .ref 189), (1, .ref 0), (0, .ref 1000000)]) (st' := [.int 1, .int 0, .ref 1000000, .ref 189, .int 0]) (t' := (sw f g, 327)) (nc' := 327) (ns' := 208818) sl_0_1161 rfl) ?_
  refine Eq.trans (st_go (pc' := 1163) (lv' := [(4, .int 0), (3, .ref 326), (2, .ref 189), (1, .ref 0), (0, .ref 1000000)]) (st' := [.int 1, .ref 1000000, .ref 189, .int 0]) (t' := (sw f g, 327)) (nc' := 327) (ns' := 208818) sl_0_1162 rfl) ?_
  refine Eq.trans (st_go (pc' := 1164) (lv' := [(4, .int 0), (3, .ref 326), (2, .ref 189), (1, .ref 0), (0, .ref 1000000)]) (st' := [.int (xs 1), .ref 189, .int 0]) (t' := (sw f g, 327)) (nc' := 327) (ns' := 208818) sl_0_1163 rfl) ?_
  rw [q0]
  refine Eq.trans (st_call (pc' := 1167) (st' := [.int 0, .int 0]) (nc' := 327) (ns' := 208818) (mi := 348) (av := [.ref 189, .int 0]) (rest := [.int 0]) sl_0_1164 (fun _ => rfl) (sw_21 xs sio f g) rfl rfl rfl rfl) ?_
  refine Eq.trans (st_go (pc' := 1172) (lv' := [(4, .int 0), (3, .ref 326), (2, .ref 189), (1, .ref 0), (0, .ref 1000000)]) (st' := []) (t' := (sh_10 xs f g, 327)) (nc' := 327) (ns' := 208818) sl_0_1167 rfl) ?_
  refine Eq.trans (st_go (pc' := 1175) (lv' := [(4, .int 6), (3, .ref 326), (2, .ref 189), (1, .ref 0), (0, .ref 1000000)]) (st' := []) (t' := (sh_10 xs f g, 327)) (nc' := 327) (ns' := 208818) sl_0_1172 rfl) ?_
  refine Eq.trans (st_go (pc' := 23) (lv' := [(4, .int 6), (3, .ref 326), (2, .ref 189), (1, .ref 0), (0, .ref 1000000)]) (st' := []) (t' := (sh_10 xs f g, 327)) (nc' := 327) (ns' := 208818) sl_0_1175 rfl) ?_
  refine Eq.trans (st_go (pc' := 25) (lv' := [(4, .int 6), (3, .ref 326), (2, .ref 189), (1, .ref 0), (0, .ref 1000000)]) (st' := [.int 6]) (t' := (sh_10 xs f g, 327)) (nc' := 327) (ns' := 208818) sl_0_23 rfl) ?_
  refine Eq.trans (st_go (pc' := 26) (lv' := [(4, .int 6), (3, .ref 326), (2, .ref 189), (1, .ref 0), (0, .ref 1000000)]) (st' := [.ref 1000000, .int 6]) (t' := (sh_10 xs f g, 327)) (nc' := 327) (ns' := 208818) sl_0_25 rfl) ?_
  refine Eq.trans (st_go (pc' := 27) (lv' := [(4, .int 6), (3, .ref 326), (2, .ref 189), (1, .ref 0), (0, .ref 1000000)]) (st' := [.int 6, .int 6]) (t' := (sh_10 xs f g, 327)) (nc' := 327) (ns' := 208818) sl_0_26 rfl) ?_
  refine Eq.trans (st_go (pc' := 29) (lv' := [(4, .int 6), (3, .ref 326), (2, .ref 189), (1, .ref 0), (0, .ref 1000000)]) (st' := [.int 6, .int 6, .int 6]) (t' := (sh_10 xs f g, 327)) (nc' := 327) (ns' := 208818) sl_0_27 rfl) ?_
  refine Eq.trans (st_go (pc' := 30) (lv' := [(4, .int 6), (3, .ref 326), (2, .ref 189), (1, .ref 0), (0, .ref 1000000)]) (st' := [.int 0, .int 6]) (t' := (sh_10 xs f g, 327)) (nc' := 327) (ns' := 208818) sl_0_29 rfl) ?_
  refine Eq.trans (st_go (pc' := 1178) (lv' := [(4, .int 6), (3, .ref 326), (2, .ref 189), (1, .ref 0), (0, .ref 1000000)]) (st' := []) (t' := (sh_10 xs f g, 327)) (nc' := 327) (ns' := 208818) sl_0_30 rfl) ?_
  refine Eq.trans (st_go (pc' := 1179) (lv' := [(4, .int 6), (3, .ref 326), (2, .ref 189), (1, .ref 0), (0, .ref 1000000)]) (st' := [.int 1]) (t' := (sh_10 xs f g, 327)) (nc' := 327) (ns' := 208818) sl_0_1178 rfl) ?_
  exact st_end sl_0_1179 rfl
set_option maxRecDepth 100000 in
/-- PacketWorks$Pipe.inLine -/
theorem sw_22 (xs : Nat → Int32) (sio : Value) (f : Nat → Nat → Int32) (g : Nat → Nat → Int64) : sC 6 xs sio 16 40 [.ref 185] (sw f g, 327) = some (.inl (some (.int 0)), (sw f g, 327), 0, 0) := by
  refine st_in sg_40 rfl rfl ?_
  refine Eq.trans (st_go (pc' := 1) (lv' := [(0, .ref 185)]) (st' := [.ref 185]) (t' := (sw f g, 327)) (nc' := 0) (ns' := 0) sl_40_0 rfl) ?_
  refine Eq.trans (st_go (pc' := 4) (lv' := [(0, .ref 185)]) (st' := [.int 0]) (t' := (sw f g, 327)) (nc' := 0) (ns' := 0) sl_40_1 rfl) ?_
  refine Eq.trans (st_go (pc' := 5) (lv' := [(0, .ref 185)]) (st' := [.ref 185, .int 0]) (t' := (sw f g, 327)) (nc' := 0) (ns' := 0) sl_40_4 rfl) ?_
  refine Eq.trans (st_go (pc' := 8) (lv' := [(0, .ref 185)]) (st' := [.int 0, .int 0]) (t' := (sw f g, 327)) (nc' := 0) (ns' := 0) sl_40_5 rfl) ?_
  refine Eq.trans (st_go (pc' := 9) (lv' := [(0, .ref 185)]) (st' := [.int 0]) (t' := (sw f g, 327)) (nc' := 0) (ns' := 0) sl_40_8 rfl) ?_
  exact st_end sl_40_9 rfl
set_option maxRecDepth 100000 in
/-- PacketWorks.count -/
theorem sw_23 (xs : Nat → Int32) (sio : Value) (f : Nat → Nat → Int32) (g : Nat → Nat → Int64) : sC 6 xs sio 17 39 [.ref 0, .int 1] (sw f g, 327) = some (.inl (some (.int 0)), (sw f g, 327), 0, 0) := by
  refine st_in sg_39 rfl rfl ?_
  refine Eq.trans (st_go (pc' := 1) (lv' := [(0, .ref 0), (1, .int 1)]) (st' := [.int 1]) (t' := (sw f g, 327)) (nc' := 0) (ns' := 0) sl_39_0 rfl) ?_
  refine Eq.trans (st_go (pc' := 48) (lv' := [(0, .ref 0), (1, .int 1)]) (st' := []) (t' := (sw f g, 327)) (nc' := 0) (ns' := 0) sl_39_1 rfl) ?_
  refine Eq.trans (st_go (pc' := 49) (lv' := [(0, .ref 0), (1, .int 1)]) (st' := [.ref 0]) (t' := (sw f g, 327)) (nc' := 0) (ns' := 0) sl_39_48 rfl) ?_
  refine Eq.trans (st_go (pc' := 52) (lv' := [(0, .ref 0), (1, .int 1)]) (st' := [.ref 185]) (t' := (sw f g, 327)) (nc' := 0) (ns' := 0) sl_39_49 rfl) ?_
  refine Eq.trans (st_call (pc' := 55) (st' := [.int 0]) (nc' := 0) (ns' := 0) (mi := 40) (av := [.ref 185]) (rest := []) sl_39_52 (fun _ => rfl) (sw_22 xs sio f g) rfl rfl rfl rfl) ?_
  exact st_end sl_39_55 rfl
set_option maxRecDepth 100000 in
/-- PacketWorksModel.count -/
theorem sw_24 (xs : Nat → Int32) (sio : Value) (f : Nat → Nat → Int32) (g : Nat → Nat → Int64) : sC 6 xs sio 17 348 [.ref 189, .int 1] (sw f g, 327) = some (.inl (some (.int 0)), (sh_11 xs f g, 327), 0, 0) := by
  refine st_in sg_348 rfl rfl ?_
  refine Eq.trans (st_go (pc' := 1) (lv' := [(0, .ref 189), (1, .int 1)]) (st' := [.ref 189]) (t' := (sw f g, 327)) (nc' := 0) (ns' := 0) sl_348_0 rfl) ?_
  refine Eq.trans (st_go (pc' := 2) (lv' := [(0, .ref 189), (1, .int 1)]) (st' := [.int 0, .ref 189]) (t' := (sw f g, 327)) (nc' := 0) (ns' := 0) sl_348_1 rfl) ?_
  refine Eq.trans (st_go (pc' := 5) (lv' := [(0, .ref 189), (1, .int 1)]) (st' := []) (t' := (sh_11 xs f g, 327)) (nc' := 0) (ns' := 0) sl_348_2 rfl) ?_
  refine Eq.trans (st_go (pc' := 6) (lv' := [(0, .ref 189), (1, .int 1)]) (st' := [.int 1]) (t' := (sh_11 xs f g, 327)) (nc' := 0) (ns' := 0) sl_348_5 rfl) ?_
  refine Eq.trans (st_go (pc' := 49) (lv' := [(0, .ref 189), (1, .int 1)]) (st' := []) (t' := (sh_11 xs f g, 327)) (nc' := 0) (ns' := 0) sl_348_6 rfl) ?_
  refine Eq.trans (st_go (pc' := 50) (lv' := [(0, .ref 189), (1, .int 1)]) (st' := [.ref 189]) (t' := (sh_11 xs f g, 327)) (nc' := 0) (ns' := 0) sl_348_49 rfl) ?_
  refine Eq.trans (st_go (pc' := 53) (lv' := [(0, .ref 189), (1, .int 1)]) (st' := [.int 0]) (t' := (sh_11 xs f g, 327)) (nc' := 0) (ns' := 0) sl_348_50 rfl) ?_
  exact st_end sl_348_53 rfl
set_option maxRecDepth 100000 in
theorem so_19_1 (xs : Nat → Int32) (sio : Value) (f : Nat → Nat → Int32) (g : Nat → Nat → Int64) (n : Nat) (hn : 26 ≤ n) (q0 : xs 1 = 1) : sR 6 xs sio 17 pm_0 n (40, [(4, .int 0), (3, .ref 326), (2, .ref 189), (1, .ref 0), (0, .ref 1000000)], [.int 19], (sw f g, 327), 327, 208818) = some (.inl (some (.int 1)), (sh_11 xs f g, 327), 327, 208818) := by
  obtain ⟨m, rfl⟩ : ∃ m, n = m + 26 := ⟨n - 26, by omega⟩
  refine Eq.trans (st_go (pc' := 1147) (lv' := [(4, .int 0), (3, .ref 326), (2, .ref 189), (1, .ref 0), (0, .ref 1000000)]) (st' := []) (t' := (sw f g, 327)) (nc' := 327) (ns' := 208818) sl_0_40 rfl) ?_
  refine Eq.trans (st_go (pc' := 1148) (lv' := [(4, .int 0), (3, .ref 326), (2, .ref 189), (1, .ref 0), (0, .ref 1000000)]) (st' := [.ref 0]) (t' := (sw f g, 327)) (nc' := 327) (ns' := 208818) sl_0_1147 rfl) ?_
  refine Eq.trans (st_go (pc' := 1149) (lv' := [(4, .int 0), (3, .ref 326), (2, .ref 189), (1, .ref 0), (0, .ref 1000000)]) (st' := [.ref 1000000, .ref 0]) (t' := (sw f g, 327)) (nc' := 327) (ns' := 208818) sl_0_1148 rfl) ?_
  refine Eq.trans (st_go (pc' := 1151) (lv' := [(4, .int 0), (3, .ref 326), (2, .ref 189), (1, .ref 0), (0, .ref 1000000)]) (st' := [.int 0, .ref 1000000, .ref 0]) (t' := (sw f g, 327)) (nc' := 327) (ns' := 208818) sl_0_1149 rfl) ?_
  refine Eq.trans (st_go (pc' := 1152) (lv' := [(4, .int 0), (3, .ref 326), (2, .ref 189), (1, .ref 0), (0, .ref 1000000)]) (st' := [.int 1, .int 0, .ref 1000000, .ref 0]) (t' := (sw f g, 327)) (nc' := 327) (ns' := 208818) sl_0_1151 rfl) ?_
  refine Eq.trans (st_go (pc' := 1153) (lv' := [(4, .int 0), (3, .ref 326), (2, .ref 189), (1, .ref 0), (0, .ref 1000000)]) (st' := [.int 1, .ref 1000000, .ref 0]) (t' := (sw f g, 327)) (nc' := 327) (ns' := 208818) sl_0_1152 rfl) ?_
  refine Eq.trans (st_go (pc' := 1154) (lv' := [(4, .int 0), (3, .ref 326), (2, .ref 189), (1, .ref 0), (0, .ref 1000000)]) (st' := [.int (xs 1), .ref 0]) (t' := (sw f g, 327)) (nc' := 327) (ns' := 208818) sl_0_1153 rfl) ?_
  rw [q0]
  refine Eq.trans (st_call (pc' := 1157) (st' := [.int 0]) (nc' := 327) (ns' := 208818) (mi := 39) (av := [.ref 0, .int 1]) (rest := []) sl_0_1154 (fun _ => rfl) (sw_23 xs sio f g) rfl rfl rfl rfl) ?_
  refine Eq.trans (st_go (pc' := 1158) (lv' := [(4, .int 0), (3, .ref 326), (2, .ref 189), (1, .ref 0), (0, .ref 1000000)]) (st' := [.ref 189, .int 0]) (t' := (sw f g, 327)) (nc' := 327) (ns' := 208818) sl_0_1157 rfl) ?_
  refine Eq.trans (st_go (pc' := 1159) (lv' := [(4, .int 0), (3, .ref 326), (2, .ref 189), (1, .ref 0), (0, .ref 1000000)]) (st' := [.ref 1000000, .ref 189, .int 0]) (t' := (sw f g, 327)) (nc' := 327) (ns' := 208818) sl_0_1158 rfl) ?_
  refine Eq.trans (st_go (pc' := 1161) (lv' := [(4, .int 0), (3, .ref 326), (2, .ref 189), (1, .ref 0), (0, .ref 1000000)]) (st' := [.int 0, .ref 1000000, .ref 189, .int 0]) (t' := (sw f g, 327)) (nc' := 327) (ns' := 208818) sl_0_1159 rfl) ?_
  refine Eq.trans (st_go (pc' := 1162) (lv' := [(4, .int 0), (3, .ref 326), (2, .ref 189), (1, .ref 0), (0, .ref 1000000)]) (st' := [.int 1, .int 0, .ref 1000000, .ref 189, .int 0]) (t' := (sw f g, 327)) (nc' := 327) (ns' := 208818) sl_0_1161 rfl) ?_
  refine Eq.trans (st_go (pc' := 1163) (lv' := [(4, .int 0), (3, .ref 326), (2, .ref 189), (1, .ref 0), (0, .ref 1000000)]) (st' := [.int 1, .ref 1000000, .ref 189, .int 0]) (t' := (sw f g, 327)) (nc' := 327) (ns' := 208818) sl_0_1162 rfl) ?_
  refine Eq.trans (st_go (pc' := 1164) (lv' := [(4, .int 0), (3, .ref 326), (2, .ref 189), (1, .ref 0), (0, .ref 1000000)]) (st' := [.int (xs 1), .ref 189, .int 0]) (t' := (sw f g, 327)) (nc' := 327) (ns' := 208818) sl_0_1163 rfl) ?_
  rw [q0]
  refine Eq.trans (st_call (pc' := 1167) (st' := [.int 0, .int 0]) (nc' := 327) (ns' := 208818) (mi := 348) (av := [.ref 189, .int 1]) (rest := [.int 0]) sl_0_1164 (fun _ => rfl) (sw_24 xs sio f g) rfl rfl rfl rfl) ?_
  refine Eq.trans (st_go (pc' := 1172) (lv' := [(4, .int 0), (3, .ref 326), (2, .ref 189), (1, .ref 0), (0, .ref 1000000)]) (st' := []) (t' := (sh_11 xs f g, 327)) (nc' := 327) (ns' := 208818) sl_0_1167 rfl) ?_
  refine Eq.trans (st_go (pc' := 1175) (lv' := [(4, .int 6), (3, .ref 326), (2, .ref 189), (1, .ref 0), (0, .ref 1000000)]) (st' := []) (t' := (sh_11 xs f g, 327)) (nc' := 327) (ns' := 208818) sl_0_1172 rfl) ?_
  refine Eq.trans (st_go (pc' := 23) (lv' := [(4, .int 6), (3, .ref 326), (2, .ref 189), (1, .ref 0), (0, .ref 1000000)]) (st' := []) (t' := (sh_11 xs f g, 327)) (nc' := 327) (ns' := 208818) sl_0_1175 rfl) ?_
  refine Eq.trans (st_go (pc' := 25) (lv' := [(4, .int 6), (3, .ref 326), (2, .ref 189), (1, .ref 0), (0, .ref 1000000)]) (st' := [.int 6]) (t' := (sh_11 xs f g, 327)) (nc' := 327) (ns' := 208818) sl_0_23 rfl) ?_
  refine Eq.trans (st_go (pc' := 26) (lv' := [(4, .int 6), (3, .ref 326), (2, .ref 189), (1, .ref 0), (0, .ref 1000000)]) (st' := [.ref 1000000, .int 6]) (t' := (sh_11 xs f g, 327)) (nc' := 327) (ns' := 208818) sl_0_25 rfl) ?_
  refine Eq.trans (st_go (pc' := 27) (lv' := [(4, .int 6), (3, .ref 326), (2, .ref 189), (1, .ref 0), (0, .ref 1000000)]) (st' := [.int 6, .int 6]) (t' := (sh_11 xs f g, 327)) (nc' := 327) (ns' := 208818) sl_0_26 rfl) ?_
  refine Eq.trans (st_go (pc' := 29) (lv' := [(4, .int 6), (3, .ref 326), (2, .ref 189), (1, .ref 0), (0, .ref 1000000)]) (st' := [.int 6, .int 6, .int 6]) (t' := (sh_11 xs f g, 327)) (nc' := 327) (ns' := 208818) sl_0_27 rfl) ?_
  refine Eq.trans (st_go (pc' := 30) (lv' := [(4, .int 6), (3, .ref 326), (2, .ref 189), (1, .ref 0), (0, .ref 1000000)]) (st' := [.int 0, .int 6]) (t' := (sh_11 xs f g, 327)) (nc' := 327) (ns' := 208818) sl_0_29 rfl) ?_
  refine Eq.trans (st_go (pc' := 1178) (lv' := [(4, .int 6), (3, .ref 326), (2, .ref 189), (1, .ref 0), (0, .ref 1000000)]) (st' := []) (t' := (sh_11 xs f g, 327)) (nc' := 327) (ns' := 208818) sl_0_30 rfl) ?_
  refine Eq.trans (st_go (pc' := 1179) (lv' := [(4, .int 6), (3, .ref 326), (2, .ref 189), (1, .ref 0), (0, .ref 1000000)]) (st' := [.int 1]) (t' := (sh_11 xs f g, 327)) (nc' := 327) (ns' := 208818) sl_0_1178 rfl) ?_
  exact st_end sl_0_1179 rfl
set_option maxRecDepth 100000 in
/-- PacketWorks$Pipe.inStages -/
theorem sw_25 (xs : Nat → Int32) (sio : Value) (f : Nat → Nat → Int32) (g : Nat → Nat → Int64) : sC 6 xs sio 16 41 [.ref 185] (sw f g, 327) = some (.inl (some (.int 0)), (sw f g, 327), 0, 0) := by
  refine st_in sg_41 rfl rfl ?_
  refine Eq.trans (st_go (pc' := 1) (lv' := [(0, .ref 185)]) (st' := [.ref 185]) (t' := (sw f g, 327)) (nc' := 0) (ns' := 0) sl_41_0 rfl) ?_
  refine Eq.trans (st_go (pc' := 4) (lv' := [(0, .ref 185)]) (st' := [.int 0]) (t' := (sw f g, 327)) (nc' := 0) (ns' := 0) sl_41_1 rfl) ?_
  refine Eq.trans (st_go (pc' := 5) (lv' := [(0, .ref 185)]) (st' := [.ref 185, .int 0]) (t' := (sw f g, 327)) (nc' := 0) (ns' := 0) sl_41_4 rfl) ?_
  refine Eq.trans (st_go (pc' := 8) (lv' := [(0, .ref 185)]) (st' := [.int 0, .int 0]) (t' := (sw f g, 327)) (nc' := 0) (ns' := 0) sl_41_5 rfl) ?_
  refine Eq.trans (st_go (pc' := 9) (lv' := [(0, .ref 185)]) (st' := [.int 0]) (t' := (sw f g, 327)) (nc' := 0) (ns' := 0) sl_41_8 rfl) ?_
  exact st_end sl_41_9 rfl
set_option maxRecDepth 100000 in
/-- PacketWorks.count -/
theorem sw_26 (xs : Nat → Int32) (sio : Value) (f : Nat → Nat → Int32) (g : Nat → Nat → Int64) : sC 6 xs sio 17 39 [.ref 0, .int 2] (sw f g, 327) = some (.inl (some (.int 0)), (sw f g, 327), 0, 0) := by
  refine st_in sg_39 rfl rfl ?_
  refine Eq.trans (st_go (pc' := 1) (lv' := [(0, .ref 0), (1, .int 2)]) (st' := [.int 2]) (t' := (sw f g, 327)) (nc' := 0) (ns' := 0) sl_39_0 rfl) ?_
  refine Eq.trans (st_go (pc' := 56) (lv' := [(0, .ref 0), (1, .int 2)]) (st' := []) (t' := (sw f g, 327)) (nc' := 0) (ns' := 0) sl_39_1 rfl) ?_
  refine Eq.trans (st_go (pc' := 57) (lv' := [(0, .ref 0), (1, .int 2)]) (st' := [.ref 0]) (t' := (sw f g, 327)) (nc' := 0) (ns' := 0) sl_39_56 rfl) ?_
  refine Eq.trans (st_go (pc' := 60) (lv' := [(0, .ref 0), (1, .int 2)]) (st' := [.ref 185]) (t' := (sw f g, 327)) (nc' := 0) (ns' := 0) sl_39_57 rfl) ?_
  refine Eq.trans (st_call (pc' := 63) (st' := [.int 0]) (nc' := 0) (ns' := 0) (mi := 41) (av := [.ref 185]) (rest := []) sl_39_60 (fun _ => rfl) (sw_25 xs sio f g) rfl rfl rfl rfl) ?_
  exact st_end sl_39_63 rfl
set_option maxRecDepth 100000 in
/-- PacketWorksModel.count -/
theorem sw_27 (xs : Nat → Int32) (sio : Value) (f : Nat → Nat → Int32) (g : Nat → Nat → Int64) : sC 6 xs sio 17 348 [.ref 189, .int 2] (sw f g, 327) = some (.inl (some (.int 0)), (sh_12 xs f g, 327), 0, 0) := by
  refine st_in sg_348 rfl rfl ?_
  refine Eq.trans (st_go (pc' := 1) (lv' := [(0, .ref 189), (1, .int 2)]) (st' := [.ref 189]) (t' := (sw f g, 327)) (nc' := 0) (ns' := 0) sl_348_0 rfl) ?_
  refine Eq.trans (st_go (pc' := 2) (lv' := [(0, .ref 189), (1, .int 2)]) (st' := [.int 0, .ref 189]) (t' := (sw f g, 327)) (nc' := 0) (ns' := 0) sl_348_1 rfl) ?_
  refine Eq.trans (st_go (pc' := 5) (lv' := [(0, .ref 189), (1, .int 2)]) (st' := []) (t' := (sh_12 xs f g, 327)) (nc' := 0) (ns' := 0) sl_348_2 rfl) ?_
  refine Eq.trans (st_go (pc' := 6) (lv' := [(0, .ref 189), (1, .int 2)]) (st' := [.int 2]) (t' := (sh_12 xs f g, 327)) (nc' := 0) (ns' := 0) sl_348_5 rfl) ?_
  refine Eq.trans (st_go (pc' := 54) (lv' := [(0, .ref 189), (1, .int 2)]) (st' := []) (t' := (sh_12 xs f g, 327)) (nc' := 0) (ns' := 0) sl_348_6 rfl) ?_
  refine Eq.trans (st_go (pc' := 55) (lv' := [(0, .ref 189), (1, .int 2)]) (st' := [.ref 189]) (t' := (sh_12 xs f g, 327)) (nc' := 0) (ns' := 0) sl_348_54 rfl) ?_
  refine Eq.trans (st_go (pc' := 58) (lv' := [(0, .ref 189), (1, .int 2)]) (st' := [.int 0]) (t' := (sh_12 xs f g, 327)) (nc' := 0) (ns' := 0) sl_348_55 rfl) ?_
  refine Eq.trans (st_go (pc' := 59) (lv' := [(0, .ref 189), (1, .int 2)]) (st' := [.ref 189, .int 0]) (t' := (sh_12 xs f g, 327)) (nc' := 0) (ns' := 0) sl_348_58 rfl) ?_
  refine Eq.trans (st_go (pc' := 62) (lv' := [(0, .ref 189), (1, .int 2)]) (st' := [.int 0, .int 0]) (t' := (sh_12 xs f g, 327)) (nc' := 0) (ns' := 0) sl_348_59 rfl) ?_
  refine Eq.trans (st_go (pc' := 63) (lv' := [(0, .ref 189), (1, .int 2)]) (st' := [.int 0]) (t' := (sh_12 xs f g, 327)) (nc' := 0) (ns' := 0) sl_348_62 rfl) ?_
  exact st_end sl_348_63 rfl
set_option maxRecDepth 100000 in
theorem so_19_2 (xs : Nat → Int32) (sio : Value) (f : Nat → Nat → Int32) (g : Nat → Nat → Int64) (n : Nat) (hn : 26 ≤ n) (q0 : xs 1 = 2) : sR 6 xs sio 17 pm_0 n (40, [(4, .int 0), (3, .ref 326), (2, .ref 189), (1, .ref 0), (0, .ref 1000000)], [.int 19], (sw f g, 327), 327, 208818) = some (.inl (some (.int 1)), (sh_12 xs f g, 327), 327, 208818) := by
  obtain ⟨m, rfl⟩ : ∃ m, n = m + 26 := ⟨n - 26, by omega⟩
  refine Eq.trans (st_go (pc' := 1147) (lv' := [(4, .int 0), (3, .ref 326), (2, .ref 189), (1, .ref 0), (0, .ref 1000000)]) (st' := []) (t' := (sw f g, 327)) (nc' := 327) (ns' := 208818) sl_0_40 rfl) ?_
  refine Eq.trans (st_go (pc' := 1148) (lv' := [(4, .int 0), (3, .ref 326), (2, .ref 189), (1, .ref 0), (0, .ref 1000000)]) (st' := [.ref 0]) (t' := (sw f g, 327)) (nc' := 327) (ns' := 208818) sl_0_1147 rfl) ?_
  refine Eq.trans (st_go (pc' := 1149) (lv' := [(4, .int 0), (3, .ref 326), (2, .ref 189), (1, .ref 0), (0, .ref 1000000)]) (st' := [.ref 1000000, .ref 0]) (t' := (sw f g, 327)) (nc' := 327) (ns' := 208818) sl_0_1148 rfl) ?_
  refine Eq.trans (st_go (pc' := 1151) (lv' := [(4, .int 0), (3, .ref 326), (2, .ref 189), (1, .ref 0), (0, .ref 1000000)]) (st' := [.int 0, .ref 1000000, .ref 0]) (t' := (sw f g, 327)) (nc' := 327) (ns' := 208818) sl_0_1149 rfl) ?_
  refine Eq.trans (st_go (pc' := 1152) (lv' := [(4, .int 0), (3, .ref 326), (2, .ref 189), (1, .ref 0), (0, .ref 1000000)]) (st' := [.int 1, .int 0, .ref 1000000, .ref 0]) (t' := (sw f g, 327)) (nc' := 327) (ns' := 208818) sl_0_1151 rfl) ?_
  refine Eq.trans (st_go (pc' := 1153) (lv' := [(4, .int 0), (3, .ref 326), (2, .ref 189), (1, .ref 0), (0, .ref 1000000)]) (st' := [.int 1, .ref 1000000, .ref 0]) (t' := (sw f g, 327)) (nc' := 327) (ns' := 208818) sl_0_1152 rfl) ?_
  refine Eq.trans (st_go (pc' := 1154) (lv' := [(4, .int 0), (3, .ref 326), (2, .ref 189), (1, .ref 0), (0, .ref 1000000)]) (st' := [.int (xs 1), .ref 0]) (t' := (sw f g, 327)) (nc' := 327) (ns' := 208818) sl_0_1153 rfl) ?_
  rw [q0]
  refine Eq.trans (st_call (pc' := 1157) (st' := [.int 0]) (nc' := 327) (ns' := 208818) (mi := 39) (av := [.ref 0, .int 2]) (rest := []) sl_0_1154 (fun _ => rfl) (sw_26 xs sio f g) rfl rfl rfl rfl) ?_
  refine Eq.trans (st_go (pc' := 1158) (lv' := [(4, .int 0), (3, .ref 326), (2, .ref 189), (1, .ref 0), (0, .ref 1000000)]) (st' := [.ref 189, .int 0]) (t' := (sw f g, 327)) (nc' := 327) (ns' := 208818) sl_0_1157 rfl) ?_
  refine Eq.trans (st_go (pc' := 1159) (lv' := [(4, .int 0), (3, .ref 326), (2, .ref 189), (1, .ref 0), (0, .ref 1000000)]) (st' := [.ref 1000000, .ref 189, .int 0]) (t' := (sw f g, 327)) (nc' := 327) (ns' := 208818) sl_0_1158 rfl) ?_
  refine Eq.trans (st_go (pc' := 1161) (lv' := [(4, .int 0), (3, .ref 326), (2, .ref 189), (1, .ref 0), (0, .ref 1000000)]) (st' := [.int 0, .ref 1000000, .ref 189, .int 0]) (t' := (sw f g, 327)) (nc' := 327) (ns' := 208818) sl_0_1159 rfl) ?_
  refine Eq.trans (st_go (pc' := 1162) (lv' := [(4, .int 0), (3, .ref 326), (2, .ref 189), (1, .ref 0), (0, .ref 1000000)]) (st' := [.int 1, .int 0, .ref 1000000, .ref 189, .int 0]) (t' := (sw f g, 327)) (nc' := 327) (ns' := 208818) sl_0_1161 rfl) ?_
  refine Eq.trans (st_go (pc' := 1163) (lv' := [(4, .int 0), (3, .ref 326), (2, .ref 189), (1, .ref 0), (0, .ref 1000000)]) (st' := [.int 1, .ref 1000000, .ref 189, .int 0]) (t' := (sw f g, 327)) (nc' := 327) (ns' := 208818) sl_0_1162 rfl) ?_
  refine Eq.trans (st_go (pc' := 1164) (lv' := [(4, .int 0), (3, .ref 326), (2, .ref 189), (1, .ref 0), (0, .ref 1000000)]) (st' := [.int (xs 1), .ref 189, .int 0]) (t' := (sw f g, 327)) (nc' := 327) (ns' := 208818) sl_0_1163 rfl) ?_
  rw [q0]
  refine Eq.trans (st_call (pc' := 1167) (st' := [.int 0, .int 0]) (nc' := 327) (ns' := 208818) (mi := 348) (av := [.ref 189, .int 2]) (rest := [.int 0]) sl_0_1164 (fun _ => rfl) (sw_27 xs sio f g) rfl rfl rfl rfl) ?_
  refine Eq.trans (st_go (pc' := 1172) (lv' := [(4, .int 0), (3, .ref 326), (2, .ref 189), (1, .ref 0), (0, .ref 1000000)]) (st' := []) (t' := (sh_12 xs f g, 327)) (nc' := 327) (ns' := 208818) sl_0_1167 rfl) ?_
  refine Eq.trans (st_go (pc' := 1175) (lv' := [(4, .int 6), (3, .ref 326), (2, .ref 189), (1, .ref 0), (0, .ref 1000000)]) (st' := []) (t' := (sh_12 xs f g, 327)) (nc' := 327) (ns' := 208818) sl_0_1172 rfl) ?_
  refine Eq.trans (st_go (pc' := 23) (lv' := [(4, .int 6), (3, .ref 326), (2, .ref 189), (1, .ref 0), (0, .ref 1000000)]) (st' := []) (t' := (sh_12 xs f g, 327)) (nc' := 327) (ns' := 208818) sl_0_1175 rfl) ?_
  refine Eq.trans (st_go (pc' := 25) (lv' := [(4, .int 6), (3, .ref 326), (2, .ref 189), (1, .ref 0), (0, .ref 1000000)]) (st' := [.int 6]) (t' := (sh_12 xs f g, 327)) (nc' := 327) (ns' := 208818) sl_0_23 rfl) ?_
  refine Eq.trans (st_go (pc' := 26) (lv' := [(4, .int 6), (3, .ref 326), (2, .ref 189), (1, .ref 0), (0, .ref 1000000)]) (st' := [.ref 1000000, .int 6]) (t' := (sh_12 xs f g, 327)) (nc' := 327) (ns' := 208818) sl_0_25 rfl) ?_
  refine Eq.trans (st_go (pc' := 27) (lv' := [(4, .int 6), (3, .ref 326), (2, .ref 189), (1, .ref 0), (0, .ref 1000000)]) (st' := [.int 6, .int 6]) (t' := (sh_12 xs f g, 327)) (nc' := 327) (ns' := 208818) sl_0_26 rfl) ?_
  refine Eq.trans (st_go (pc' := 29) (lv' := [(4, .int 6), (3, .ref 326), (2, .ref 189), (1, .ref 0), (0, .ref 1000000)]) (st' := [.int 6, .int 6, .int 6]) (t' := (sh_12 xs f g, 327)) (nc' := 327) (ns' := 208818) sl_0_27 rfl) ?_
  refine Eq.trans (st_go (pc' := 30) (lv' := [(4, .int 6), (3, .ref 326), (2, .ref 189), (1, .ref 0), (0, .ref 1000000)]) (st' := [.int 0, .int 6]) (t' := (sh_12 xs f g, 327)) (nc' := 327) (ns' := 208818) sl_0_29 rfl) ?_
  refine Eq.trans (st_go (pc' := 1178) (lv' := [(4, .int 6), (3, .ref 326), (2, .ref 189), (1, .ref 0), (0, .ref 1000000)]) (st' := []) (t' := (sh_12 xs f g, 327)) (nc' := 327) (ns' := 208818) sl_0_30 rfl) ?_
  refine Eq.trans (st_go (pc' := 1179) (lv' := [(4, .int 6), (3, .ref 326), (2, .ref 189), (1, .ref 0), (0, .ref 1000000)]) (st' := [.int 1]) (t' := (sh_12 xs f g, 327)) (nc' := 327) (ns' := 208818) sl_0_1178 rfl) ?_
  exact st_end sl_0_1179 rfl
set_option maxRecDepth 100000 in
/-- PacketWorks.count -/
theorem sw_28 (xs : Nat → Int32) (sio : Value) (f : Nat → Nat → Int32) (g : Nat → Nat → Int64) : sC 6 xs sio 17 39 [.ref 0, .int 3] (sw f g, 327) = some (.inl (some (.int 0)), (sw f g, 327), 0, 0) := by
  refine st_in sg_39 rfl rfl ?_
  refine Eq.trans (st_go (pc' := 1) (lv' := [(0, .ref 0), (1, .int 3)]) (st' := [.int 3]) (t' := (sw f g, 327)) (nc' := 0) (ns' := 0) sl_39_0 rfl) ?_
  refine Eq.trans (st_go (pc' := 64) (lv' := [(0, .ref 0), (1, .int 3)]) (st' := []) (t' := (sw f g, 327)) (nc' := 0) (ns' := 0) sl_39_1 rfl) ?_
  refine Eq.trans (st_go (pc' := 65) (lv' := [(0, .ref 0), (1, .int 3)]) (st' := [.ref 0]) (t' := (sw f g, 327)) (nc' := 0) (ns' := 0) sl_39_64 rfl) ?_
  refine Eq.trans (st_go (pc' := 68) (lv' := [(0, .ref 0), (1, .int 3)]) (st' := [.ref 185]) (t' := (sw f g, 327)) (nc' := 0) (ns' := 0) sl_39_65 rfl) ?_
  refine Eq.trans (st_go (pc' := 71) (lv' := [(0, .ref 0), (1, .int 3)]) (st' := [.int 0]) (t' := (sw f g, 327)) (nc' := 0) (ns' := 0) sl_39_68 rfl) ?_
  exact st_end sl_39_71 rfl
set_option maxRecDepth 100000 in
/-- PacketWorksModel.count -/
theorem sw_29 (xs : Nat → Int32) (sio : Value) (f : Nat → Nat → Int32) (g : Nat → Nat → Int64) : sC 6 xs sio 17 348 [.ref 189, .int 3] (sw f g, 327) = some (.inl (some (.int 0)), (sh_13 xs f g, 327), 0, 0) := by
  refine st_in sg_348 rfl rfl ?_
  refine Eq.trans (st_go (pc' := 1) (lv' := [(0, .ref 189), (1, .int 3)]) (st' := [.ref 189]) (t' := (sw f g, 327)) (nc' := 0) (ns' := 0) sl_348_0 rfl) ?_
  refine Eq.trans (st_go (pc' := 2) (lv' := [(0, .ref 189), (1, .int 3)]) (st' := [.int 0, .ref 189]) (t' := (sw f g, 327)) (nc' := 0) (ns' := 0) sl_348_1 rfl) ?_
  refine Eq.trans (st_go (pc' := 5) (lv' := [(0, .ref 189), (1, .int 3)]) (st' := []) (t' := (sh_13 xs f g, 327)) (nc' := 0) (ns' := 0) sl_348_2 rfl) ?_
  refine Eq.trans (st_go (pc' := 6) (lv' := [(0, .ref 189), (1, .int 3)]) (st' := [.int 3]) (t' := (sh_13 xs f g, 327)) (nc' := 0) (ns' := 0) sl_348_5 rfl) ?_
  refine Eq.trans (st_go (pc' := 64) (lv' := [(0, .ref 189), (1, .int 3)]) (st' := []) (t' := (sh_13 xs f g, 327)) (nc' := 0) (ns' := 0) sl_348_6 rfl) ?_
  refine Eq.trans (st_go (pc' := 65) (lv' := [(0, .ref 189), (1, .int 3)]) (st' := [.ref 189]) (t' := (sh_13 xs f g, 327)) (nc' := 0) (ns' := 0) sl_348_64 rfl) ?_
  refine Eq.trans (st_go (pc' := 68) (lv' := [(0, .ref 189), (1, .int 3)]) (st' := [.int 0]) (t' := (sh_13 xs f g, 327)) (nc' := 0) (ns' := 0) sl_348_65 rfl) ?_
  exact st_end sl_348_68 rfl
set_option maxRecDepth 100000 in
theorem so_19_3 (xs : Nat → Int32) (sio : Value) (f : Nat → Nat → Int32) (g : Nat → Nat → Int64) (n : Nat) (hn : 26 ≤ n) (q0 : xs 1 = 3) : sR 6 xs sio 17 pm_0 n (40, [(4, .int 0), (3, .ref 326), (2, .ref 189), (1, .ref 0), (0, .ref 1000000)], [.int 19], (sw f g, 327), 327, 208818) = some (.inl (some (.int 1)), (sh_13 xs f g, 327), 327, 208818) := by
  obtain ⟨m, rfl⟩ : ∃ m, n = m + 26 := ⟨n - 26, by omega⟩
  refine Eq.trans (st_go (pc' := 1147) (lv' := [(4, .int 0), (3, .ref 326), (2, .ref 189), (1, .ref 0), (0, .ref 1000000)]) (st' := []) (t' := (sw f g, 327)) (nc' := 327) (ns' := 208818) sl_0_40 rfl) ?_
  refine Eq.trans (st_go (pc' := 1148) (lv' := [(4, .int 0), (3, .ref 326), (2, .ref 189), (1, .ref 0), (0, .ref 1000000)]) (st' := [.ref 0]) (t' := (sw f g, 327)) (nc' := 327) (ns' := 208818) sl_0_1147 rfl) ?_
  refine Eq.trans (st_go (pc' := 1149) (lv' := [(4, .int 0), (3, .ref 326), (2, .ref 189), (1, .ref 0), (0, .ref 1000000)]) (st' := [.ref 1000000, .ref 0]) (t' := (sw f g, 327)) (nc' := 327) (ns' := 208818) sl_0_1148 rfl) ?_
  refine Eq.trans (st_go (pc' := 1151) (lv' := [(4, .int 0), (3, .ref 326), (2, .ref 189), (1, .ref 0), (0, .ref 1000000)]) (st' := [.int 0, .ref 1000000, .ref 0]) (t' := (sw f g, 327)) (nc' := 327) (ns' := 208818) sl_0_1149 rfl) ?_
  refine Eq.trans (st_go (pc' := 1152) (lv' := [(4, .int 0), (3, .ref 326), (2, .ref 189), (1, .ref 0), (0, .ref 1000000)]) (st' := [.int 1, .int 0, .ref 1000000, .ref 0]) (t' := (sw f g, 327)) (nc' := 327) (ns' := 208818) sl_0_1151 rfl) ?_
  refine Eq.trans (st_go (pc' := 1153) (lv' := [(4, .int 0), (3, .ref 326), (2, .ref 189), (1, .ref 0), (0, .ref 1000000)]) (st' := [.int 1, .ref 1000000, .ref 0]) (t' := (sw f g, 327)) (nc' := 327) (ns' := 208818) sl_0_1152 rfl) ?_
  refine Eq.trans (st_go (pc' := 1154) (lv' := [(4, .int 0), (3, .ref 326), (2, .ref 189), (1, .ref 0), (0, .ref 1000000)]) (st' := [.int (xs 1), .ref 0]) (t' := (sw f g, 327)) (nc' := 327) (ns' := 208818) sl_0_1153 rfl) ?_
  rw [q0]
  refine Eq.trans (st_call (pc' := 1157) (st' := [.int 0]) (nc' := 327) (ns' := 208818) (mi := 39) (av := [.ref 0, .int 3]) (rest := []) sl_0_1154 (fun _ => rfl) (sw_28 xs sio f g) rfl rfl rfl rfl) ?_
  refine Eq.trans (st_go (pc' := 1158) (lv' := [(4, .int 0), (3, .ref 326), (2, .ref 189), (1, .ref 0), (0, .ref 1000000)]) (st' := [.ref 189, .int 0]) (t' := (sw f g, 327)) (nc' := 327) (ns' := 208818) sl_0_1157 rfl) ?_
  refine Eq.trans (st_go (pc' := 1159) (lv' := [(4, .int 0), (3, .ref 326), (2, .ref 189), (1, .ref 0), (0, .ref 1000000)]) (st' := [.ref 1000000, .ref 189, .int 0]) (t' := (sw f g, 327)) (nc' := 327) (ns' := 208818) sl_0_1158 rfl) ?_
  refine Eq.trans (st_go (pc' := 1161) (lv' := [(4, .int 0), (3, .ref 326), (2, .ref 189), (1, .ref 0), (0, .ref 1000000)]) (st' := [.int 0, .ref 1000000, .ref 189, .int 0]) (t' := (sw f g, 327)) (nc' := 327) (ns' := 208818) sl_0_1159 rfl) ?_
  refine Eq.trans (st_go (pc' := 1162) (lv' := [(4, .int 0), (3, .ref 326), (2, .ref 189), (1, .ref 0), (0, .ref 1000000)]) (st' := [.int 1, .int 0, .ref 1000000, .ref 189, .int 0]) (t' := (sw f g, 327)) (nc' := 327) (ns' := 208818) sl_0_1161 rfl) ?_
  refine Eq.trans (st_go (pc' := 1163) (lv' := [(4, .int 0), (3, .ref 326), (2, .ref 189), (1, .ref 0), (0, .ref 1000000)]) (st' := [.int 1, .ref 1000000, .ref 189, .int 0]) (t' := (sw f g, 327)) (nc' := 327) (ns' := 208818) sl_0_1162 rfl) ?_
  refine Eq.trans (st_go (pc' := 1164) (lv' := [(4, .int 0), (3, .ref 326), (2, .ref 189), (1, .ref 0), (0, .ref 1000000)]) (st' := [.int (xs 1), .ref 189, .int 0]) (t' := (sw f g, 327)) (nc' := 327) (ns' := 208818) sl_0_1163 rfl) ?_
  rw [q0]
  refine Eq.trans (st_call (pc' := 1167) (st' := [.int 0, .int 0]) (nc' := 327) (ns' := 208818) (mi := 348) (av := [.ref 189, .int 3]) (rest := [.int 0]) sl_0_1164 (fun _ => rfl) (sw_29 xs sio f g) rfl rfl rfl rfl) ?_
  refine Eq.trans (st_go (pc' := 1172) (lv' := [(4, .int 0), (3, .ref 326), (2, .ref 189), (1, .ref 0), (0, .ref 1000000)]) (st' := []) (t' := (sh_13 xs f g, 327)) (nc' := 327) (ns' := 208818) sl_0_1167 rfl) ?_
  refine Eq.trans (st_go (pc' := 1175) (lv' := [(4, .int 6), (3, .ref 326), (2, .ref 189), (1, .ref 0), (0, .ref 1000000)]) (st' := []) (t' := (sh_13 xs f g, 327)) (nc' := 327) (ns' := 208818) sl_0_1172 rfl) ?_
  refine Eq.trans (st_go (pc' := 23) (lv' := [(4, .int 6), (3, .ref 326), (2, .ref 189), (1, .ref 0), (0, .ref 1000000)]) (st' := []) (t' := (sh_13 xs f g, 327)) (nc' := 327) (ns' := 208818) sl_0_1175 rfl) ?_
  refine Eq.trans (st_go (pc' := 25) (lv' := [(4, .int 6), (3, .ref 326), (2, .ref 189), (1, .ref 0), (0, .ref 1000000)]) (st' := [.int 6]) (t' := (sh_13 xs f g, 327)) (nc' := 327) (ns' := 208818) sl_0_23 rfl) ?_
  refine Eq.trans (st_go (pc' := 26) (lv' := [(4, .int 6), (3, .ref 326), (2, .ref 189), (1, .ref 0), (0, .ref 1000000)]) (st' := [.ref 1000000, .int 6]) (t' := (sh_13 xs f g, 327)) (nc' := 327) (ns' := 208818) sl_0_25 rfl) ?_
  refine Eq.trans (st_go (pc' := 27) (lv' := [(4, .int 6), (3, .ref 326), (2, .ref 189), (1, .ref 0), (0, .ref 1000000)]) (st' := [.int 6, .int 6]) (t' := (sh_13 xs f g, 327)) (nc' := 327) (ns' := 208818) sl_0_26 rfl) ?_
  refine Eq.trans (st_go (pc' := 29) (lv' := [(4, .int 6), (3, .ref 326), (2, .ref 189), (1, .ref 0), (0, .ref 1000000)]) (st' := [.int 6, .int 6, .int 6]) (t' := (sh_13 xs f g, 327)) (nc' := 327) (ns' := 208818) sl_0_27 rfl) ?_
  refine Eq.trans (st_go (pc' := 30) (lv' := [(4, .int 6), (3, .ref 326), (2, .ref 189), (1, .ref 0), (0, .ref 1000000)]) (st' := [.int 0, .int 6]) (t' := (sh_13 xs f g, 327)) (nc' := 327) (ns' := 208818) sl_0_29 rfl) ?_
  refine Eq.trans (st_go (pc' := 1178) (lv' := [(4, .int 6), (3, .ref 326), (2, .ref 189), (1, .ref 0), (0, .ref 1000000)]) (st' := []) (t' := (sh_13 xs f g, 327)) (nc' := 327) (ns' := 208818) sl_0_30 rfl) ?_
  refine Eq.trans (st_go (pc' := 1179) (lv' := [(4, .int 6), (3, .ref 326), (2, .ref 189), (1, .ref 0), (0, .ref 1000000)]) (st' := [.int 1]) (t' := (sh_13 xs f g, 327)) (nc' := 327) (ns' := 208818) sl_0_1178 rfl) ?_
  exact st_end sl_0_1179 rfl
set_option maxRecDepth 100000 in
/-- PacketWorks.count -/
theorem sw_30 (xs : Nat → Int32) (sio : Value) (f : Nat → Nat → Int32) (g : Nat → Nat → Int64) : sC 6 xs sio 17 39 [.ref 0, .int 4] (sw f g, 327) = some (.inl (some (.int 0)), (sw f g, 327), 0, 0) := by
  refine st_in sg_39 rfl rfl ?_
  refine Eq.trans (st_go (pc' := 1) (lv' := [(0, .ref 0), (1, .int 4)]) (st' := [.int 4]) (t' := (sw f g, 327)) (nc' := 0) (ns' := 0) sl_39_0 rfl) ?_
  refine Eq.trans (st_go (pc' := 72) (lv' := [(0, .ref 0), (1, .int 4)]) (st' := []) (t' := (sw f g, 327)) (nc' := 0) (ns' := 0) sl_39_1 rfl) ?_
  refine Eq.trans (st_go (pc' := 73) (lv' := [(0, .ref 0), (1, .int 4)]) (st' := [.ref 0]) (t' := (sw f g, 327)) (nc' := 0) (ns' := 0) sl_39_72 rfl) ?_
  refine Eq.trans (st_go (pc' := 76) (lv' := [(0, .ref 0), (1, .int 4)]) (st' := [.ref 185]) (t' := (sw f g, 327)) (nc' := 0) (ns' := 0) sl_39_73 rfl) ?_
  refine Eq.trans (st_go (pc' := 79) (lv' := [(0, .ref 0), (1, .int 4)]) (st' := [.int 0]) (t' := (sw f g, 327)) (nc' := 0) (ns' := 0) sl_39_76 rfl) ?_
  exact st_end sl_39_79 rfl
set_option maxRecDepth 100000 in
/-- PacketWorksModel.count -/
theorem sw_31 (xs : Nat → Int32) (sio : Value) (f : Nat → Nat → Int32) (g : Nat → Nat → Int64) : sC 6 xs sio 17 348 [.ref 189, .int 4] (sw f g, 327) = some (.inl (some (.int 0)), (sh_14 xs f g, 327), 0, 0) := by
  refine st_in sg_348 rfl rfl ?_
  refine Eq.trans (st_go (pc' := 1) (lv' := [(0, .ref 189), (1, .int 4)]) (st' := [.ref 189]) (t' := (sw f g, 327)) (nc' := 0) (ns' := 0) sl_348_0 rfl) ?_
  refine Eq.trans (st_go (pc' := 2) (lv' := [(0, .ref 189), (1, .int 4)]) (st' := [.int 0, .ref 189]) (t' := (sw f g, 327)) (nc' := 0) (ns' := 0) sl_348_1 rfl) ?_
  refine Eq.trans (st_go (pc' := 5) (lv' := [(0, .ref 189), (1, .int 4)]) (st' := []) (t' := (sh_14 xs f g, 327)) (nc' := 0) (ns' := 0) sl_348_2 rfl) ?_
  refine Eq.trans (st_go (pc' := 6) (lv' := [(0, .ref 189), (1, .int 4)]) (st' := [.int 4]) (t' := (sh_14 xs f g, 327)) (nc' := 0) (ns' := 0) sl_348_5 rfl) ?_
  refine Eq.trans (st_go (pc' := 69) (lv' := [(0, .ref 189), (1, .int 4)]) (st' := []) (t' := (sh_14 xs f g, 327)) (nc' := 0) (ns' := 0) sl_348_6 rfl) ?_
  refine Eq.trans (st_go (pc' := 70) (lv' := [(0, .ref 189), (1, .int 4)]) (st' := [.ref 189]) (t' := (sh_14 xs f g, 327)) (nc' := 0) (ns' := 0) sl_348_69 rfl) ?_
  refine Eq.trans (st_go (pc' := 73) (lv' := [(0, .ref 189), (1, .int 4)]) (st' := [.int 0]) (t' := (sh_14 xs f g, 327)) (nc' := 0) (ns' := 0) sl_348_70 rfl) ?_
  exact st_end sl_348_73 rfl
set_option maxRecDepth 100000 in
theorem so_19_4 (xs : Nat → Int32) (sio : Value) (f : Nat → Nat → Int32) (g : Nat → Nat → Int64) (n : Nat) (hn : 26 ≤ n) (q0 : xs 1 = 4) : sR 6 xs sio 17 pm_0 n (40, [(4, .int 0), (3, .ref 326), (2, .ref 189), (1, .ref 0), (0, .ref 1000000)], [.int 19], (sw f g, 327), 327, 208818) = some (.inl (some (.int 1)), (sh_14 xs f g, 327), 327, 208818) := by
  obtain ⟨m, rfl⟩ : ∃ m, n = m + 26 := ⟨n - 26, by omega⟩
  refine Eq.trans (st_go (pc' := 1147) (lv' := [(4, .int 0), (3, .ref 326), (2, .ref 189), (1, .ref 0), (0, .ref 1000000)]) (st' := []) (t' := (sw f g, 327)) (nc' := 327) (ns' := 208818) sl_0_40 rfl) ?_
  refine Eq.trans (st_go (pc' := 1148) (lv' := [(4, .int 0), (3, .ref 326), (2, .ref 189), (1, .ref 0), (0, .ref 1000000)]) (st' := [.ref 0]) (t' := (sw f g, 327)) (nc' := 327) (ns' := 208818) sl_0_1147 rfl) ?_
  refine Eq.trans (st_go (pc' := 1149) (lv' := [(4, .int 0), (3, .ref 326), (2, .ref 189), (1, .ref 0), (0, .ref 1000000)]) (st' := [.ref 1000000, .ref 0]) (t' := (sw f g, 327)) (nc' := 327) (ns' := 208818) sl_0_1148 rfl) ?_
  refine Eq.trans (st_go (pc' := 1151) (lv' := [(4, .int 0), (3, .ref 326), (2, .ref 189), (1, .ref 0), (0, .ref 1000000)]) (st' := [.int 0, .ref 1000000, .ref 0]) (t' := (sw f g, 327)) (nc' := 327) (ns' := 208818) sl_0_1149 rfl) ?_
  refine Eq.trans (st_go (pc' := 1152) (lv' := [(4, .int 0), (3, .ref 326), (2, .ref 189), (1, .ref 0), (0, .ref 1000000)]) (st' := [.int 1, .int 0, .ref 1000000, .ref 0]) (t' := (sw f g, 327)) (nc' := 327) (ns' := 208818) sl_0_1151 rfl) ?_
  refine Eq.trans (st_go (pc' := 1153) (lv' := [(4, .int 0), (3, .ref 326), (2, .ref 189), (1, .ref 0), (0, .ref 1000000)]) (st' := [.int 1, .ref 1000000, .ref 0]) (t' := (sw f g, 327)) (nc' := 327) (ns' := 208818) sl_0_1152 rfl) ?_
  refine Eq.trans (st_go (pc' := 1154) (lv' := [(4, .int 0), (3, .ref 326), (2, .ref 189), (1, .ref 0), (0, .ref 1000000)]) (st' := [.int (xs 1), .ref 0]) (t' := (sw f g, 327)) (nc' := 327) (ns' := 208818) sl_0_1153 rfl) ?_
  rw [q0]
  refine Eq.trans (st_call (pc' := 1157) (st' := [.int 0]) (nc' := 327) (ns' := 208818) (mi := 39) (av := [.ref 0, .int 4]) (rest := []) sl_0_1154 (fun _ => rfl) (sw_30 xs sio f g) rfl rfl rfl rfl) ?_
  refine Eq.trans (st_go (pc' := 1158) (lv' := [(4, .int 0), (3, .ref 326), (2, .ref 189), (1, .ref 0), (0, .ref 1000000)]) (st' := [.ref 189, .int 0]) (t' := (sw f g, 327)) (nc' := 327) (ns' := 208818) sl_0_1157 rfl) ?_
  refine Eq.trans (st_go (pc' := 1159) (lv' := [(4, .int 0), (3, .ref 326), (2, .ref 189), (1, .ref 0), (0, .ref 1000000)]) (st' := [.ref 1000000, .ref 189, .int 0]) (t' := (sw f g, 327)) (nc' := 327) (ns' := 208818) sl_0_1158 rfl) ?_
  refine Eq.trans (st_go (pc' := 1161) (lv' := [(4, .int 0), (3, .ref 326), (2, .ref 189), (1, .ref 0), (0, .ref 1000000)]) (st' := [.int 0, .ref 1000000, .ref 189, .int 0]) (t' := (sw f g, 327)) (nc' := 327) (ns' := 208818) sl_0_1159 rfl) ?_
  refine Eq.trans (st_go (pc' := 1162) (lv' := [(4, .int 0), (3, .ref 326), (2, .ref 189), (1, .ref 0), (0, .ref 1000000)]) (st' := [.int 1, .int 0, .ref 1000000, .ref 189, .int 0]) (t' := (sw f g, 327)) (nc' := 327) (ns' := 208818) sl_0_1161 rfl) ?_
  refine Eq.trans (st_go (pc' := 1163) (lv' := [(4, .int 0), (3, .ref 326), (2, .ref 189), (1, .ref 0), (0, .ref 1000000)]) (st' := [.int 1, .ref 1000000, .ref 189, .int 0]) (t' := (sw f g, 327)) (nc' := 327) (ns' := 208818) sl_0_1162 rfl) ?_
  refine Eq.trans (st_go (pc' := 1164) (lv' := [(4, .int 0), (3, .ref 326), (2, .ref 189), (1, .ref 0), (0, .ref 1000000)]) (st' := [.int (xs 1), .ref 189, .int 0]) (t' := (sw f g, 327)) (nc' := 327) (ns' := 208818) sl_0_1163 rfl) ?_
  rw [q0]
  refine Eq.trans (st_call (pc' := 1167) (st' := [.int 0, .int 0]) (nc' := 327) (ns' := 208818) (mi := 348) (av := [.ref 189, .int 4]) (rest := [.int 0]) sl_0_1164 (fun _ => rfl) (sw_31 xs sio f g) rfl rfl rfl rfl) ?_
  refine Eq.trans (st_go (pc' := 1172) (lv' := [(4, .int 0), (3, .ref 326), (2, .ref 189), (1, .ref 0), (0, .ref 1000000)]) (st' := []) (t' := (sh_14 xs f g, 327)) (nc' := 327) (ns' := 208818) sl_0_1167 rfl) ?_
  refine Eq.trans (st_go (pc' := 1175) (lv' := [(4, .int 6), (3, .ref 326), (2, .ref 189), (1, .ref 0), (0, .ref 1000000)]) (st' := []) (t' := (sh_14 xs f g, 327)) (nc' := 327) (ns' := 208818) sl_0_1172 rfl) ?_
  refine Eq.trans (st_go (pc' := 23) (lv' := [(4, .int 6), (3, .ref 326), (2, .ref 189), (1, .ref 0), (0, .ref 1000000)]) (st' := []) (t' := (sh_14 xs f g, 327)) (nc' := 327) (ns' := 208818) sl_0_1175 rfl) ?_
  refine Eq.trans (st_go (pc' := 25) (lv' := [(4, .int 6), (3, .ref 326), (2, .ref 189), (1, .ref 0), (0, .ref 1000000)]) (st' := [.int 6]) (t' := (sh_14 xs f g, 327)) (nc' := 327) (ns' := 208818) sl_0_23 rfl) ?_
  refine Eq.trans (st_go (pc' := 26) (lv' := [(4, .int 6), (3, .ref 326), (2, .ref 189), (1, .ref 0), (0, .ref 1000000)]) (st' := [.ref 1000000, .int 6]) (t' := (sh_14 xs f g, 327)) (nc' := 327) (ns' := 208818) sl_0_25 rfl) ?_
  refine Eq.trans (st_go (pc' := 27) (lv' := [(4, .int 6), (3, .ref 326), (2, .ref 189), (1, .ref 0), (0, .ref 1000000)]) (st' := [.int 6, .int 6]) (t' := (sh_14 xs f g, 327)) (nc' := 327) (ns' := 208818) sl_0_26 rfl) ?_
  refine Eq.trans (st_go (pc' := 29) (lv' := [(4, .int 6), (3, .ref 326), (2, .ref 189), (1, .ref 0), (0, .ref 1000000)]) (st' := [.int 6, .int 6, .int 6]) (t' := (sh_14 xs f g, 327)) (nc' := 327) (ns' := 208818) sl_0_27 rfl) ?_
  refine Eq.trans (st_go (pc' := 30) (lv' := [(4, .int 6), (3, .ref 326), (2, .ref 189), (1, .ref 0), (0, .ref 1000000)]) (st' := [.int 0, .int 6]) (t' := (sh_14 xs f g, 327)) (nc' := 327) (ns' := 208818) sl_0_29 rfl) ?_
  refine Eq.trans (st_go (pc' := 1178) (lv' := [(4, .int 6), (3, .ref 326), (2, .ref 189), (1, .ref 0), (0, .ref 1000000)]) (st' := []) (t' := (sh_14 xs f g, 327)) (nc' := 327) (ns' := 208818) sl_0_30 rfl) ?_
  refine Eq.trans (st_go (pc' := 1179) (lv' := [(4, .int 6), (3, .ref 326), (2, .ref 189), (1, .ref 0), (0, .ref 1000000)]) (st' := [.int 1]) (t' := (sh_14 xs f g, 327)) (nc' := 327) (ns' := 208818) sl_0_1178 rfl) ?_
  exact st_end sl_0_1179 rfl
set_option maxRecDepth 100000 in
/-- PacketWorks.count -/
theorem sw_32 (xs : Nat → Int32) (sio : Value) (f : Nat → Nat → Int32) (g : Nat → Nat → Int64) : sC 6 xs sio 17 39 [.ref 0, .int 5] (sw f g, 327) = some (.inl (some (.int 0)), (sw f g, 327), 0, 0) := by
  refine st_in sg_39 rfl rfl ?_
  refine Eq.trans (st_go (pc' := 1) (lv' := [(0, .ref 0), (1, .int 5)]) (st' := [.int 5]) (t' := (sw f g, 327)) (nc' := 0) (ns' := 0) sl_39_0 rfl) ?_
  refine Eq.trans (st_go (pc' := 80) (lv' := [(0, .ref 0), (1, .int 5)]) (st' := []) (t' := (sw f g, 327)) (nc' := 0) (ns' := 0) sl_39_1 rfl) ?_
  refine Eq.trans (st_go (pc' := 81) (lv' := [(0, .ref 0), (1, .int 5)]) (st' := [.ref 0]) (t' := (sw f g, 327)) (nc' := 0) (ns' := 0) sl_39_80 rfl) ?_
  refine Eq.trans (st_go (pc' := 84) (lv' := [(0, .ref 0), (1, .int 5)]) (st' := [.int 0]) (t' := (sw f g, 327)) (nc' := 0) (ns' := 0) sl_39_81 rfl) ?_
  refine Eq.trans (st_go (pc' := 100) (lv' := [(0, .ref 0), (1, .int 5)]) (st' := []) (t' := (sw f g, 327)) (nc' := 0) (ns' := 0) sl_39_84 rfl) ?_
  refine Eq.trans (st_go (pc' := 101) (lv' := [(0, .ref 0), (1, .int 5)]) (st' := [.int 0]) (t' := (sw f g, 327)) (nc' := 0) (ns' := 0) sl_39_100 rfl) ?_
  exact st_end sl_39_101 rfl
set_option maxRecDepth 100000 in
/-- PacketWorksModel.count -/
theorem sw_33 (xs : Nat → Int32) (sio : Value) (f : Nat → Nat → Int32) (g : Nat → Nat → Int64) : sC 6 xs sio 17 348 [.ref 189, .int 5] (sw f g, 327) = some (.inl (some (.int 0)), (sh_15 xs f g, 327), 0, 0) := by
  refine st_in sg_348 rfl rfl ?_
  refine Eq.trans (st_go (pc' := 1) (lv' := [(0, .ref 189), (1, .int 5)]) (st' := [.ref 189]) (t' := (sw f g, 327)) (nc' := 0) (ns' := 0) sl_348_0 rfl) ?_
  refine Eq.trans (st_go (pc' := 2) (lv' := [(0, .ref 189), (1, .int 5)]) (st' := [.int 0, .ref 189]) (t' := (sw f g, 327)) (nc' := 0) (ns' := 0) sl_348_1 rfl) ?_
  refine Eq.trans (st_go (pc' := 5) (lv' := [(0, .ref 189), (1, .int 5)]) (st' := []) (t' := (sh_15 xs f g, 327)) (nc' := 0) (ns' := 0) sl_348_2 rfl) ?_
  refine Eq.trans (st_go (pc' := 6) (lv' := [(0, .ref 189), (1, .int 5)]) (st' := [.int 5]) (t' := (sh_15 xs f g, 327)) (nc' := 0) (ns' := 0) sl_348_5 rfl) ?_
  refine Eq.trans (st_go (pc' := 74) (lv' := [(0, .ref 189), (1, .int 5)]) (st' := []) (t' := (sh_15 xs f g, 327)) (nc' := 0) (ns' := 0) sl_348_6 rfl) ?_
  refine Eq.trans (st_go (pc' := 75) (lv' := [(0, .ref 189), (1, .int 5)]) (st' := [.ref 189]) (t' := (sh_15 xs f g, 327)) (nc' := 0) (ns' := 0) sl_348_74 rfl) ?_
  refine Eq.trans (st_go (pc' := 78) (lv' := [(0, .ref 189), (1, .int 5)]) (st' := [.int 0]) (t' := (sh_15 xs f g, 327)) (nc' := 0) (ns' := 0) sl_348_75 rfl) ?_
  refine Eq.trans (st_go (pc' := 88) (lv' := [(0, .ref 189), (1, .int 5)]) (st' := []) (t' := (sh_15 xs f g, 327)) (nc' := 0) (ns' := 0) sl_348_78 rfl) ?_
  refine Eq.trans (st_go (pc' := 89) (lv' := [(0, .ref 189), (1, .int 5)]) (st' := [.int 0]) (t' := (sh_15 xs f g, 327)) (nc' := 0) (ns' := 0) sl_348_88 rfl) ?_
  exact st_end sl_348_89 rfl
set_option maxRecDepth 100000 in
theorem so_19_5 (xs : Nat → Int32) (sio : Value) (f : Nat → Nat → Int32) (g : Nat → Nat → Int64) (n : Nat) (hn : 26 ≤ n) (q0 : xs 1 = 5) : sR 6 xs sio 17 pm_0 n (40, [(4, .int 0), (3, .ref 326), (2, .ref 189), (1, .ref 0), (0, .ref 1000000)], [.int 19], (sw f g, 327), 327, 208818) = some (.inl (some (.int 1)), (sh_15 xs f g, 327), 327, 208818) := by
  obtain ⟨m, rfl⟩ : ∃ m, n = m + 26 := ⟨n - 26, by omega⟩
  refine Eq.trans (st_go (pc' := 1147) (lv' := [(4, .int 0), (3, .ref 326), (2, .ref 189), (1, .ref 0), (0, .ref 1000000)]) (st' := []) (t' := (sw f g, 327)) (nc' := 327) (ns' := 208818) sl_0_40 rfl) ?_
  refine Eq.trans (st_go (pc' := 1148) (lv' := [(4, .int 0), (3, .ref 326), (2, .ref 189), (1, .ref 0), (0, .ref 1000000)]) (st' := [.ref 0]) (t' := (sw f g, 327)) (nc' := 327) (ns' := 208818) sl_0_1147 rfl) ?_
  refine Eq.trans (st_go (pc' := 1149) (lv' := [(4, .int 0), (3, .ref 326), (2, .ref 189), (1, .ref 0), (0, .ref 1000000)]) (st' := [.ref 1000000, .ref 0]) (t' := (sw f g, 327)) (nc' := 327) (ns' := 208818) sl_0_1148 rfl) ?_
  refine Eq.trans (st_go (pc' := 1151) (lv' := [(4, .int 0), (3, .ref 326), (2, .ref 189), (1, .ref 0), (0, .ref 1000000)]) (st' := [.int 0, .ref 1000000, .ref 0]) (t' := (sw f g, 327)) (nc' := 327) (ns' := 208818) sl_0_1149 rfl) ?_
  refine Eq.trans (st_go (pc' := 1152) (lv' := [(4, .int 0), (3, .ref 326), (2, .ref 189), (1, .ref 0), (0, .ref 1000000)]) (st' := [.int 1, .int 0, .ref 1000000, .ref 0]) (t' := (sw f g, 327)) (nc' := 327) (ns' := 208818) sl_0_1151 rfl) ?_
  refine Eq.trans (st_go (pc' := 1153) (lv' := [(4, .int 0), (3, .ref 326), (2, .ref 189), (1, .ref 0), (0, .ref 1000000)]) (st' := [.int 1, .ref 1000000, .ref 0]) (t' := (sw f g, 327)) (nc' := 327) (ns' := 208818) sl_0_1152 rfl) ?_
  refine Eq.trans (st_go (pc' := 1154) (lv' := [(4, .int 0), (3, .ref 326), (2, .ref 189), (1, .ref 0), (0, .ref 1000000)]) (st' := [.int (xs 1), .ref 0]) (t' := (sw f g, 327)) (nc' := 327) (ns' := 208818) sl_0_1153 rfl) ?_
  rw [q0]
  refine Eq.trans (st_call (pc' := 1157) (st' := [.int 0]) (nc' := 327) (ns' := 208818) (mi := 39) (av := [.ref 0, .int 5]) (rest := []) sl_0_1154 (fun _ => rfl) (sw_32 xs sio f g) rfl rfl rfl rfl) ?_
  refine Eq.trans (st_go (pc' := 1158) (lv' := [(4, .int 0), (3, .ref 326), (2, .ref 189), (1, .ref 0), (0, .ref 1000000)]) (st' := [.ref 189, .int 0]) (t' := (sw f g, 327)) (nc' := 327) (ns' := 208818) sl_0_1157 rfl) ?_
  refine Eq.trans (st_go (pc' := 1159) (lv' := [(4, .int 0), (3, .ref 326), (2, .ref 189), (1, .ref 0), (0, .ref 1000000)]) (st' := [.ref 1000000, .ref 189, .int 0]) (t' := (sw f g, 327)) (nc' := 327) (ns' := 208818) sl_0_1158 rfl) ?_
  refine Eq.trans (st_go (pc' := 1161) (lv' := [(4, .int 0), (3, .ref 326), (2, .ref 189), (1, .ref 0), (0, .ref 1000000)]) (st' := [.int 0, .ref 1000000, .ref 189, .int 0]) (t' := (sw f g, 327)) (nc' := 327) (ns' := 208818) sl_0_1159 rfl) ?_
  refine Eq.trans (st_go (pc' := 1162) (lv' := [(4, .int 0), (3, .ref 326), (2, .ref 189), (1, .ref 0), (0, .ref 1000000)]) (st' := [.int 1, .int 0, .ref 1000000, .ref 189, .int 0]) (t' := (sw f g, 327)) (nc' := 327) (ns' := 208818) sl_0_1161 rfl) ?_
  refine Eq.trans (st_go (pc' := 1163) (lv' := [(4, .int 0), (3, .ref 326), (2, .ref 189), (1, .ref 0), (0, .ref 1000000)]) (st' := [.int 1, .ref 1000000, .ref 189, .int 0]) (t' := (sw f g, 327)) (nc' := 327) (ns' := 208818) sl_0_1162 rfl) ?_
  refine Eq.trans (st_go (pc' := 1164) (lv' := [(4, .int 0), (3, .ref 326), (2, .ref 189), (1, .ref 0), (0, .ref 1000000)]) (st' := [.int (xs 1), .ref 189, .int 0]) (t' := (sw f g, 327)) (nc' := 327) (ns' := 208818) sl_0_1163 rfl) ?_
  rw [q0]
  refine Eq.trans (st_call (pc' := 1167) (st' := [.int 0, .int 0]) (nc' := 327) (ns' := 208818) (mi := 348) (av := [.ref 189, .int 5]) (rest := [.int 0]) sl_0_1164 (fun _ => rfl) (sw_33 xs sio f g) rfl rfl rfl rfl) ?_
  refine Eq.trans (st_go (pc' := 1172) (lv' := [(4, .int 0), (3, .ref 326), (2, .ref 189), (1, .ref 0), (0, .ref 1000000)]) (st' := []) (t' := (sh_15 xs f g, 327)) (nc' := 327) (ns' := 208818) sl_0_1167 rfl) ?_
  refine Eq.trans (st_go (pc' := 1175) (lv' := [(4, .int 6), (3, .ref 326), (2, .ref 189), (1, .ref 0), (0, .ref 1000000)]) (st' := []) (t' := (sh_15 xs f g, 327)) (nc' := 327) (ns' := 208818) sl_0_1172 rfl) ?_
  refine Eq.trans (st_go (pc' := 23) (lv' := [(4, .int 6), (3, .ref 326), (2, .ref 189), (1, .ref 0), (0, .ref 1000000)]) (st' := []) (t' := (sh_15 xs f g, 327)) (nc' := 327) (ns' := 208818) sl_0_1175 rfl) ?_
  refine Eq.trans (st_go (pc' := 25) (lv' := [(4, .int 6), (3, .ref 326), (2, .ref 189), (1, .ref 0), (0, .ref 1000000)]) (st' := [.int 6]) (t' := (sh_15 xs f g, 327)) (nc' := 327) (ns' := 208818) sl_0_23 rfl) ?_
  refine Eq.trans (st_go (pc' := 26) (lv' := [(4, .int 6), (3, .ref 326), (2, .ref 189), (1, .ref 0), (0, .ref 1000000)]) (st' := [.ref 1000000, .int 6]) (t' := (sh_15 xs f g, 327)) (nc' := 327) (ns' := 208818) sl_0_25 rfl) ?_
  refine Eq.trans (st_go (pc' := 27) (lv' := [(4, .int 6), (3, .ref 326), (2, .ref 189), (1, .ref 0), (0, .ref 1000000)]) (st' := [.int 6, .int 6]) (t' := (sh_15 xs f g, 327)) (nc' := 327) (ns' := 208818) sl_0_26 rfl) ?_
  refine Eq.trans (st_go (pc' := 29) (lv' := [(4, .int 6), (3, .ref 326), (2, .ref 189), (1, .ref 0), (0, .ref 1000000)]) (st' := [.int 6, .int 6, .int 6]) (t' := (sh_15 xs f g, 327)) (nc' := 327) (ns' := 208818) sl_0_27 rfl) ?_
  refine Eq.trans (st_go (pc' := 30) (lv' := [(4, .int 6), (3, .ref 326), (2, .ref 189), (1, .ref 0), (0, .ref 1000000)]) (st' := [.int 0, .int 6]) (t' := (sh_15 xs f g, 327)) (nc' := 327) (ns' := 208818) sl_0_29 rfl) ?_
  refine Eq.trans (st_go (pc' := 1178) (lv' := [(4, .int 6), (3, .ref 326), (2, .ref 189), (1, .ref 0), (0, .ref 1000000)]) (st' := []) (t' := (sh_15 xs f g, 327)) (nc' := 327) (ns' := 208818) sl_0_30 rfl) ?_
  refine Eq.trans (st_go (pc' := 1179) (lv' := [(4, .int 6), (3, .ref 326), (2, .ref 189), (1, .ref 0), (0, .ref 1000000)]) (st' := [.int 1]) (t' := (sh_15 xs f g, 327)) (nc' := 327) (ns' := 208818) sl_0_1178 rfl) ?_
  exact st_end sl_0_1179 rfl
set_option maxRecDepth 100000 in
/-- PacketWorks.count -/
theorem sw_34 (xs : Nat → Int32) (sio : Value) (f : Nat → Nat → Int32) (g : Nat → Nat → Int64) (q0 : (xs 1).toInt < 0 ∨ 5 < (xs 1).toInt) : sC 6 xs sio 17 39 [.ref 0, .int (xs 1)] (sw f g, 327) = some (.inl (some (.int (-1))), (sw f g, 327), 0, 0) := by
  refine st_in sg_39 rfl rfl ?_
  refine Eq.trans (st_go (pc' := 1) (lv' := [(0, .ref 0), (1, .int (xs 1))]) (st' := [.int (xs 1)]) (t' := (sw f g, 327)) (nc' := 0) (ns' := 0) sl_39_0 rfl) ?_
  refine Eq.trans (st_tab (pc' := 102) sl_39_1 q0 rfl) ?_
  refine Eq.trans (st_go (pc' := 103) (lv' := [(0, .ref 0), (1, .int (xs 1))]) (st' := [.int (-1)]) (t' := (sw f g, 327)) (nc' := 0) (ns' := 0) sl_39_102 rfl) ?_
  exact st_end sl_39_103 rfl
set_option maxRecDepth 100000 in
/-- PacketWorksModel.count -/
theorem sw_35 (xs : Nat → Int32) (sio : Value) (f : Nat → Nat → Int32) (g : Nat → Nat → Int64) (q0 : (xs 1).toInt < 0 ∨ 5 < (xs 1).toInt) : sC 6 xs sio 17 348 [.ref 189, .int (xs 1)] (sw f g, 327) = some (.inl (some (.int (-1))), (sh_16 xs f g, 327), 0, 0) := by
  refine st_in sg_348 rfl rfl ?_
  refine Eq.trans (st_go (pc' := 1) (lv' := [(0, .ref 189), (1, .int (xs 1))]) (st' := [.ref 189]) (t' := (sw f g, 327)) (nc' := 0) (ns' := 0) sl_348_0 rfl) ?_
  refine Eq.trans (st_go (pc' := 2) (lv' := [(0, .ref 189), (1, .int (xs 1))]) (st' := [.int 0, .ref 189]) (t' := (sw f g, 327)) (nc' := 0) (ns' := 0) sl_348_1 rfl) ?_
  refine Eq.trans (st_go (pc' := 5) (lv' := [(0, .ref 189), (1, .int (xs 1))]) (st' := []) (t' := (sh_16 xs f g, 327)) (nc' := 0) (ns' := 0) sl_348_2 rfl) ?_
  refine Eq.trans (st_go (pc' := 6) (lv' := [(0, .ref 189), (1, .int (xs 1))]) (st' := [.int (xs 1)]) (t' := (sh_16 xs f g, 327)) (nc' := 0) (ns' := 0) sl_348_5 rfl) ?_
  refine Eq.trans (st_tab (pc' := 90) sl_348_6 q0 rfl) ?_
  refine Eq.trans (st_go (pc' := 91) (lv' := [(0, .ref 189), (1, .int (xs 1))]) (st' := [.int (-1)]) (t' := (sh_16 xs f g, 327)) (nc' := 0) (ns' := 0) sl_348_90 rfl) ?_
  exact st_end sl_348_91 rfl
set_option maxRecDepth 100000 in
theorem so_19_x (xs : Nat → Int32) (sio : Value) (f : Nat → Nat → Int32) (g : Nat → Nat → Int64) (n : Nat) (hn : 26 ≤ n) (q0 : (xs 1).toInt < 0 ∨ 5 < (xs 1).toInt) : sR 6 xs sio 17 pm_0 n (40, [(4, .int 0), (3, .ref 326), (2, .ref 189), (1, .ref 0), (0, .ref 1000000)], [.int 19], (sw f g, 327), 327, 208818) = some (.inl (some (.int 1)), (sh_16 xs f g, 327), 327, 208818) := by
  obtain ⟨m, rfl⟩ : ∃ m, n = m + 26 := ⟨n - 26, by omega⟩
  refine Eq.trans (st_go (pc' := 1147) (lv' := [(4, .int 0), (3, .ref 326), (2, .ref 189), (1, .ref 0), (0, .ref 1000000)]) (st' := []) (t' := (sw f g, 327)) (nc' := 327) (ns' := 208818) sl_0_40 rfl) ?_
  refine Eq.trans (st_go (pc' := 1148) (lv' := [(4, .int 0), (3, .ref 326), (2, .ref 189), (1, .ref 0), (0, .ref 1000000)]) (st' := [.ref 0]) (t' := (sw f g, 327)) (nc' := 327) (ns' := 208818) sl_0_1147 rfl) ?_
  refine Eq.trans (st_go (pc' := 1149) (lv' := [(4, .int 0), (3, .ref 326), (2, .ref 189), (1, .ref 0), (0, .ref 1000000)]) (st' := [.ref 1000000, .ref 0]) (t' := (sw f g, 327)) (nc' := 327) (ns' := 208818) sl_0_1148 rfl) ?_
  refine Eq.trans (st_go (pc' := 1151) (lv' := [(4, .int 0), (3, .ref 326), (2, .ref 189), (1, .ref 0), (0, .ref 1000000)]) (st' := [.int 0, .ref 1000000, .ref 0]) (t' := (sw f g, 327)) (nc' := 327) (ns' := 208818) sl_0_1149 rfl) ?_
  refine Eq.trans (st_go (pc' := 1152) (lv' := [(4, .int 0), (3, .ref 326), (2, .ref 189), (1, .ref 0), (0, .ref 1000000)]) (st' := [.int 1, .int 0, .ref 1000000, .ref 0]) (t' := (sw f g, 327)) (nc' := 327) (ns' := 208818) sl_0_1151 rfl) ?_
  refine Eq.trans (st_go (pc' := 1153) (lv' := [(4, .int 0), (3, .ref 326), (2, .ref 189), (1, .ref 0), (0, .ref 1000000)]) (st' := [.int 1, .ref 1000000, .ref 0]) (t' := (sw f g, 327)) (nc' := 327) (ns' := 208818) sl_0_1152 rfl) ?_
  refine Eq.trans (st_go (pc' := 1154) (lv' := [(4, .int 0), (3, .ref 326), (2, .ref 189), (1, .ref 0), (0, .ref 1000000)]) (st' := [.int (xs 1), .ref 0]) (t' := (sw f g, 327)) (nc' := 327) (ns' := 208818) sl_0_1153 rfl) ?_
  refine Eq.trans (st_call (pc' := 1157) (st' := [.int (-1)]) (nc' := 327) (ns' := 208818) (mi := 39) (av := [.ref 0, .int (xs 1)]) (rest := []) sl_0_1154 (fun _ => rfl) (sw_34 xs sio f g q0) rfl rfl rfl rfl) ?_
  refine Eq.trans (st_go (pc' := 1158) (lv' := [(4, .int 0), (3, .ref 326), (2, .ref 189), (1, .ref 0), (0, .ref 1000000)]) (st' := [.ref 189, .int (-1)]) (t' := (sw f g, 327)) (nc' := 327) (ns' := 208818) sl_0_1157 rfl) ?_
  refine Eq.trans (st_go (pc' := 1159) (lv' := [(4, .int 0), (3, .ref 326), (2, .ref 189), (1, .ref 0), (0, .ref 1000000)]) (st' := [.ref 1000000, .ref 189, .int (-1)]) (t' := (sw f g, 327)) (nc' := 327) (ns' := 208818) sl_0_1158 rfl) ?_
  refine Eq.trans (st_go (pc' := 1161) (lv' := [(4, .int 0), (3, .ref 326), (2, .ref 189), (1, .ref 0), (0, .ref 1000000)]) (st' := [.int 0, .ref 1000000, .ref 189, .int (-1)]) (t' := (sw f g, 327)) (nc' := 327) (ns' := 208818) sl_0_1159 rfl) ?_
  refine Eq.trans (st_go (pc' := 1162) (lv' := [(4, .int 0), (3, .ref 326), (2, .ref 189), (1, .ref 0), (0, .ref 1000000)]) (st' := [.int 1, .int 0, .ref 1000000, .ref 189, .int (-1)]) (t' := (sw f g, 327)) (nc' := 327) (ns' := 208818) sl_0_1161 rfl) ?_
  refine Eq.trans (st_go (pc' := 1163) (lv' := [(4, .int 0), (3, .ref 326), (2, .ref 189), (1, .ref 0), (0, .ref 1000000)]) (st' := [.int 1, .ref 1000000, .ref 189, .int (-1)]) (t' := (sw f g, 327)) (nc' := 327) (ns' := 208818) sl_0_1162 rfl) ?_
  refine Eq.trans (st_go (pc' := 1164) (lv' := [(4, .int 0), (3, .ref 326), (2, .ref 189), (1, .ref 0), (0, .ref 1000000)]) (st' := [.int (xs 1), .ref 189, .int (-1)]) (t' := (sw f g, 327)) (nc' := 327) (ns' := 208818) sl_0_1163 rfl) ?_
  refine Eq.trans (st_call (pc' := 1167) (st' := [.int (-1), .int (-1)]) (nc' := 327) (ns' := 208818) (mi := 348) (av := [.ref 189, .int (xs 1)]) (rest := [.int (-1)]) sl_0_1164 (fun _ => rfl) (sw_35 xs sio f g q0) rfl rfl rfl rfl) ?_
  refine Eq.trans (st_go (pc' := 1172) (lv' := [(4, .int 0), (3, .ref 326), (2, .ref 189), (1, .ref 0), (0, .ref 1000000)]) (st' := []) (t' := (sh_16 xs f g, 327)) (nc' := 327) (ns' := 208818) sl_0_1167 rfl) ?_
  refine Eq.trans (st_go (pc' := 1175) (lv' := [(4, .int 6), (3, .ref 326), (2, .ref 189), (1, .ref 0), (0, .ref 1000000)]) (st' := []) (t' := (sh_16 xs f g, 327)) (nc' := 327) (ns' := 208818) sl_0_1172 rfl) ?_
  refine Eq.trans (st_go (pc' := 23) (lv' := [(4, .int 6), (3, .ref 326), (2, .ref 189), (1, .ref 0), (0, .ref 1000000)]) (st' := []) (t' := (sh_16 xs f g, 327)) (nc' := 327) (ns' := 208818) sl_0_1175 rfl) ?_
  refine Eq.trans (st_go (pc' := 25) (lv' := [(4, .int 6), (3, .ref 326), (2, .ref 189), (1, .ref 0), (0, .ref 1000000)]) (st' := [.int 6]) (t' := (sh_16 xs f g, 327)) (nc' := 327) (ns' := 208818) sl_0_23 rfl) ?_
  refine Eq.trans (st_go (pc' := 26) (lv' := [(4, .int 6), (3, .ref 326), (2, .ref 189), (1, .ref 0), (0, .ref 1000000)]) (st' := [.ref 1000000, .int 6]) (t' := (sh_16 xs f g, 327)) (nc' := 327) (ns' := 208818) sl_0_25 rfl) ?_
  refine Eq.trans (st_go (pc' := 27) (lv' := [(4, .int 6), (3, .ref 326), (2, .ref 189), (1, .ref 0), (0, .ref 1000000)]) (st' := [.int 6, .int 6]) (t' := (sh_16 xs f g, 327)) (nc' := 327) (ns' := 208818) sl_0_26 rfl) ?_
  refine Eq.trans (st_go (pc' := 29) (lv' := [(4, .int 6), (3, .ref 326), (2, .ref 189), (1, .ref 0), (0, .ref 1000000)]) (st' := [.int 6, .int 6, .int 6]) (t' := (sh_16 xs f g, 327)) (nc' := 327) (ns' := 208818) sl_0_27 rfl) ?_
  refine Eq.trans (st_go (pc' := 30) (lv' := [(4, .int 6), (3, .ref 326), (2, .ref 189), (1, .ref 0), (0, .ref 1000000)]) (st' := [.int 0, .int 6]) (t' := (sh_16 xs f g, 327)) (nc' := 327) (ns' := 208818) sl_0_29 rfl) ?_
  refine Eq.trans (st_go (pc' := 1178) (lv' := [(4, .int 6), (3, .ref 326), (2, .ref 189), (1, .ref 0), (0, .ref 1000000)]) (st' := []) (t' := (sh_16 xs f g, 327)) (nc' := 327) (ns' := 208818) sl_0_30 rfl) ?_
  refine Eq.trans (st_go (pc' := 1179) (lv' := [(4, .int 6), (3, .ref 326), (2, .ref 189), (1, .ref 0), (0, .ref 1000000)]) (st' := [.int 1]) (t' := (sh_16 xs f g, 327)) (nc' := 327) (ns' := 208818) sl_0_1178 rfl) ?_
  exact st_end sl_0_1179 rfl
