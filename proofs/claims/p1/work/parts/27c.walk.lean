/-! ===== ROADS OF ONE CALL, by program (wip/gen/walk.py) ===== -/
def sh_17 (xs : Nat → Int32) (f : Nat → Nat → Int32) (g : Nat → Nat → Int64) : List (Nat × am_C) := (327, .inr (14, [])) :: sw f g
def sh_18 (xs : Nat → Int32) (f : Nat → Nat → Int32) (g : Nat → Nat → Int64) : List (Nat × am_C) := (189, .inr (12, (sv_189).set 1 (.int 1))) :: sh_17 xs f g
def sh_19 (xs : Nat → Int32) (f : Nat → Nat → Int32) (g : Nat → Nat → Int64) : List (Nat × am_C) := (327, .inr (14, [])) :: sw f g
def sh_20 (xs : Nat → Int32) (f : Nat → Nat → Int32) (g : Nat → Nat → Int64) : List (Nat × am_C) := (189, .inr (12, (sv_189).set 1 (.int 1))) :: sh_19 xs f g
def sh_21 (xs : Nat → Int32) (f : Nat → Nat → Int32) (g : Nat → Nat → Int64) : List (Nat × am_C) := (327, .inr (14, [])) :: sw f g
def sh_22 (xs : Nat → Int32) (f : Nat → Nat → Int32) (g : Nat → Nat → Int64) : List (Nat × am_C) := (189, .inr (12, (sv_189).set 1 (.int 1))) :: sh_21 xs f g
def sa_23 (xs : Nat → Int32) (f : Nat → Nat → Int32) (g : Nat → Nat → Int64) : Nat → Int64 := vp_updL (g 326) 0 (0)
def sh_24 (xs : Nat → Int32) (f : Nat → Nat → Int32) (g : Nat → Nat → Int64) : List (Nat × am_C) := (326, .inl (1, 1, .inr (.inl (sa_23 xs f g)))) :: sw f g
def sh_25 (xs : Nat → Int32) (f : Nat → Nat → Int32) (g : Nat → Nat → Int64) : List (Nat × am_C) := (189, .inr (12, (sv_189).set 1 (.int 0))) :: sh_24 xs f g
def sa_26 (xs : Nat → Int32) (f : Nat → Nat → Int32) (g : Nat → Nat → Int64) : Nat → Int64 := vp_updL (g 326) 0 ((-1))
def sh_27 (xs : Nat → Int32) (f : Nat → Nat → Int32) (g : Nat → Nat → Int64) : List (Nat × am_C) := (326, .inl (1, 1, .inr (.inl (sa_26 xs f g)))) :: sw f g
def sh_28 (xs : Nat → Int32) (f : Nat → Nat → Int32) (g : Nat → Nat → Int64) : List (Nat × am_C) := (189, .inr (12, (sv_189).set 1 (.int 0))) :: sh_27 xs f g
set_option maxRecDepth 100000 in
/-- PacketWorks.lay -/
theorem sw_36 (xs : Nat → Int32) (sio : Value) (f : Nat → Nat → Int32) (g : Nat → Nat → Int64) : sC 6 xs sio 16 149 [.ref 0, .int (xs 1), .int (xs 2), .int (xs 3)] (sw f g, 327) = some (.inr 1, (sw f g, 327), 1, 6) := by
  refine st_in sg_149 rfl rfl ?_
  refine Eq.trans (st_go (pc' := 1) (lv' := [(0, .ref 0), (1, .int (xs 1)), (2, .int (xs 2)), (3, .int (xs 3))]) (st' := [.ref 0]) (t' := (sw f g, 327)) (nc' := 0) (ns' := 0) sl_149_0 rfl) ?_
  refine Eq.trans (st_go (pc' := 4) (lv' := [(0, .ref 0), (1, .int (xs 1)), (2, .int (xs 2)), (3, .int (xs 3))]) (st' := [.int 0]) (t' := (sw f g, 327)) (nc' := 0) (ns' := 0) sl_149_1 rfl) ?_
  refine Eq.trans (st_go (pc' := 20) (lv' := [(0, .ref 0), (1, .int (xs 1)), (2, .int (xs 2)), (3, .int (xs 3))]) (st' := []) (t' := (sw f g, 327)) (nc' := 0) (ns' := 0) sl_149_4 rfl) ?_
  exact st_end sl_149_20 rfl
set_option maxRecDepth 100000 in
/-- PacketWorksLaw.lay -/
theorem sw_37 (xs : Nat → Int32) (sio : Value) (f : Nat → Nat → Int32) (g : Nat → Nat → Int64) : sC 6 xs sio 17 148 [.ref 0, .int (xs 1), .int (xs 2), .int (xs 3), .ref 326] (sw f g, 327) = some (.inl (some (.int 1)), (sh_17 xs f g, 328), 1, 6) := by
  refine st_in sg_148 rfl rfl ?_
  refine Eq.trans (st_go (pc' := 2) (lv' := [(0, .ref 0), (1, .int (xs 1)), (2, .int (xs 2)), (3, .int (xs 3)), (4, .ref 326)]) (st' := [.ref 326]) (t' := (sw f g, 327)) (nc' := 0) (ns' := 0) sl_148_0 rfl) ?_
  refine Eq.trans (st_go (pc' := 3) (lv' := [(0, .ref 0), (1, .int (xs 1)), (2, .int (xs 2)), (3, .int (xs 3)), (4, .ref 326)]) (st' := [.int 0, .ref 326]) (t' := (sw f g, 327)) (nc' := 0) (ns' := 0) sl_148_2 rfl) ?_
  refine Eq.trans (st_go (pc' := 4) (lv' := [(0, .ref 0), (1, .int (xs 1)), (2, .int (xs 2)), (3, .int (xs 3)), (4, .ref 326)]) (st' := [.ref 0, .int 0, .ref 326]) (t' := (sw f g, 327)) (nc' := 0) (ns' := 0) sl_148_3 rfl) ?_
  refine Eq.trans (st_go (pc' := 5) (lv' := [(0, .ref 0), (1, .int (xs 1)), (2, .int (xs 2)), (3, .int (xs 3)), (4, .ref 326)]) (st' := [.int (xs 1), .ref 0, .int 0, .ref 326]) (t' := (sw f g, 327)) (nc' := 0) (ns' := 0) sl_148_4 rfl) ?_
  refine Eq.trans (st_go (pc' := 6) (lv' := [(0, .ref 0), (1, .int (xs 1)), (2, .int (xs 2)), (3, .int (xs 3)), (4, .ref 326)]) (st' := [.int (xs 2), .int (xs 1), .ref 0, .int 0, .ref 326]) (t' := (sw f g, 327)) (nc' := 0) (ns' := 0) sl_148_5 rfl) ?_
  refine Eq.trans (st_go (pc' := 7) (lv' := [(0, .ref 0), (1, .int (xs 1)), (2, .int (xs 2)), (3, .int (xs 3)), (4, .ref 326)]) (st' := [.int (xs 3), .int (xs 2), .int (xs 1), .ref 0, .int 0, .ref 326]) (t' := (sw f g, 327)) (nc' := 0) (ns' := 0) sl_148_6 rfl) ?_
  refine Eq.trans (st_catch (pc' := 15) (nc' := 1) (ns' := 6) (c := .inr (14, [])) (mi := 149) (av := [.ref 0, .int (xs 1), .int (xs 2), .int (xs 3)]) (rest := [.int 0, .ref 326]) sl_148_7 (fun _ => rfl) (sw_36 xs sio f g) rfl rfl rfl rfl rfl rfl) ?_
  show sR 6 xs sio 16 pm_148 _ (15, [(0, .ref 0), (1, .int (xs 1)), (2, .int (xs 2)), (3, .int (xs 3)), (4, .ref 326)], [.ref 327], (sh_17 xs f g, 328), 1, 6) = _
  refine Eq.trans (st_go (pc' := 17) (lv' := [(5, .ref 327), (0, .ref 0), (1, .int (xs 1)), (2, .int (xs 2)), (3, .int (xs 3)), (4, .ref 326)]) (st' := []) (t' := (sh_17 xs f g, 328)) (nc' := 1) (ns' := 6) sl_148_15 rfl) ?_
  refine Eq.trans (st_go (pc' := 18) (lv' := [(5, .ref 327), (0, .ref 0), (1, .int (xs 1)), (2, .int (xs 2)), (3, .int (xs 3)), (4, .ref 326)]) (st' := [.int 1]) (t' := (sh_17 xs f g, 328)) (nc' := 1) (ns' := 6) sl_148_17 rfl) ?_
  exact st_end sl_148_18 rfl
set_option maxRecDepth 100000 in
/-- PacketWorksModel.lay -/
theorem sw_38 (xs : Nat → Int32) (sio : Value) (f : Nat → Nat → Int32) (g : Nat → Nat → Int64) : sC 6 xs sio 17 289 [.ref 189, .int (xs 1), .int (xs 2), .int (xs 3)] (sh_17 xs f g, 328) = some (.inl (some (.int 0)), (sh_18 xs f g, 328), 0, 0) := by
  refine st_in sg_289 rfl rfl ?_
  refine Eq.trans (st_go (pc' := 1) (lv' := [(0, .ref 189), (1, .int (xs 1)), (2, .int (xs 2)), (3, .int (xs 3))]) (st' := [.ref 189]) (t' := (sh_17 xs f g, 328)) (nc' := 0) (ns' := 0) sl_289_0 rfl) ?_
  refine Eq.trans (st_go (pc' := 2) (lv' := [(0, .ref 189), (1, .int (xs 1)), (2, .int (xs 2)), (3, .int (xs 3))]) (st' := [.ref 189, .ref 189]) (t' := (sh_17 xs f g, 328)) (nc' := 0) (ns' := 0) sl_289_1 rfl) ?_
  refine Eq.trans (st_go (pc' := 5) (lv' := [(0, .ref 189), (1, .int (xs 1)), (2, .int (xs 2)), (3, .int (xs 3))]) (st' := [.int 0, .ref 189]) (t' := (sh_17 xs f g, 328)) (nc' := 0) (ns' := 0) sl_289_2 rfl) ?_
  refine Eq.trans (st_go (pc' := 15) (lv' := [(0, .ref 189), (1, .int (xs 1)), (2, .int (xs 2)), (3, .int (xs 3))]) (st' := [.ref 189]) (t' := (sh_17 xs f g, 328)) (nc' := 0) (ns' := 0) sl_289_5 rfl) ?_
  refine Eq.trans (st_go (pc' := 16) (lv' := [(0, .ref 189), (1, .int (xs 1)), (2, .int (xs 2)), (3, .int (xs 3))]) (st' := [.int 1, .ref 189]) (t' := (sh_17 xs f g, 328)) (nc' := 0) (ns' := 0) sl_289_15 rfl) ?_
  refine Eq.trans (st_go (pc' := 43) (lv' := [(0, .ref 189), (1, .int (xs 1)), (2, .int (xs 2)), (3, .int (xs 3))]) (st' := [.int 1, .ref 189]) (t' := (sh_17 xs f g, 328)) (nc' := 0) (ns' := 0) sl_289_16 rfl) ?_
  refine Eq.trans (st_go (pc' := 46) (lv' := [(0, .ref 189), (1, .int (xs 1)), (2, .int (xs 2)), (3, .int (xs 3))]) (st' := []) (t' := (sh_18 xs f g, 328)) (nc' := 0) (ns' := 0) sl_289_43 rfl) ?_
  refine Eq.trans (st_go (pc' := 47) (lv' := [(0, .ref 189), (1, .int (xs 1)), (2, .int (xs 2)), (3, .int (xs 3))]) (st' := [.ref 189]) (t' := (sh_18 xs f g, 328)) (nc' := 0) (ns' := 0) sl_289_46 rfl) ?_
  refine Eq.trans (st_go (pc' := 50) (lv' := [(0, .ref 189), (1, .int (xs 1)), (2, .int (xs 2)), (3, .int (xs 3))]) (st' := [.int 1]) (t' := (sh_18 xs f g, 328)) (nc' := 0) (ns' := 0) sl_289_47 rfl) ?_
  refine Eq.trans (st_go (pc' := 53) (lv' := [(0, .ref 189), (1, .int (xs 1)), (2, .int (xs 2)), (3, .int (xs 3))]) (st' := []) (t' := (sh_18 xs f g, 328)) (nc' := 0) (ns' := 0) sl_289_50 rfl) ?_
  refine Eq.trans (st_go (pc' := 54) (lv' := [(0, .ref 189), (1, .int (xs 1)), (2, .int (xs 2)), (3, .int (xs 3))]) (st' := [.int 0]) (t' := (sh_18 xs f g, 328)) (nc' := 0) (ns' := 0) sl_289_53 rfl) ?_
  exact st_end sl_289_54 rfl
set_option maxRecDepth 100000 in
/-- PacketWorksModel.thrown -/
theorem sw_39 (xs : Nat → Int32) (sio : Value) (f : Nat → Nat → Int32) (g : Nat → Nat → Int64) : sC 6 xs sio 17 207 [.ref 189] (sh_18 xs f g, 328) = some (.inl (some (.int 1)), (sh_18 xs f g, 328), 0, 0) := by
  refine st_in sg_207 rfl rfl ?_
  refine Eq.trans (st_go (pc' := 1) (lv' := [(0, .ref 189)]) (st' := [.ref 189]) (t' := (sh_18 xs f g, 328)) (nc' := 0) (ns' := 0) sl_207_0 rfl) ?_
  refine Eq.trans (st_go (pc' := 4) (lv' := [(0, .ref 189)]) (st' := [.int 1]) (t' := (sh_18 xs f g, 328)) (nc' := 0) (ns' := 0) sl_207_1 rfl) ?_
  exact st_end sl_207_4 rfl
set_option maxRecDepth 100000 in
theorem so_5 (xs : Nat → Int32) (sio : Value) (f : Nat → Nat → Int32) (g : Nat → Nat → Int64) (n : Nat) (hn : 55 ≤ n) : sR 6 xs sio 17 pm_0 n (40, [(4, .int 0), (3, .ref 326), (2, .ref 189), (1, .ref 0), (0, .ref 1000000)], [.int 5], (sw f g, 327), 327, 208818) = some (.inl (some (.int 1)), (sh_18 xs f g, 328), 328, 208824) := by
  obtain ⟨m, rfl⟩ : ∃ m, n = m + 55 := ⟨n - 55, by omega⟩
  refine Eq.trans (st_go (pc' := 326) (lv' := [(4, .int 0), (3, .ref 326), (2, .ref 189), (1, .ref 0), (0, .ref 1000000)]) (st' := []) (t' := (sw f g, 327)) (nc' := 327) (ns' := 208818) sl_0_40 rfl) ?_
  refine Eq.trans (st_go (pc' := 327) (lv' := [(4, .int 0), (3, .ref 326), (2, .ref 189), (1, .ref 0), (0, .ref 1000000)]) (st' := [.ref 0]) (t' := (sw f g, 327)) (nc' := 327) (ns' := 208818) sl_0_326 rfl) ?_
  refine Eq.trans (st_go (pc' := 328) (lv' := [(4, .int 0), (3, .ref 326), (2, .ref 189), (1, .ref 0), (0, .ref 1000000)]) (st' := [.ref 1000000, .ref 0]) (t' := (sw f g, 327)) (nc' := 327) (ns' := 208818) sl_0_327 rfl) ?_
  refine Eq.trans (st_go (pc' := 330) (lv' := [(4, .int 0), (3, .ref 326), (2, .ref 189), (1, .ref 0), (0, .ref 1000000)]) (st' := [.int 0, .ref 1000000, .ref 0]) (t' := (sw f g, 327)) (nc' := 327) (ns' := 208818) sl_0_328 rfl) ?_
  refine Eq.trans (st_go (pc' := 331) (lv' := [(4, .int 0), (3, .ref 326), (2, .ref 189), (1, .ref 0), (0, .ref 1000000)]) (st' := [.int 1, .int 0, .ref 1000000, .ref 0]) (t' := (sw f g, 327)) (nc' := 327) (ns' := 208818) sl_0_330 rfl) ?_
  refine Eq.trans (st_go (pc' := 332) (lv' := [(4, .int 0), (3, .ref 326), (2, .ref 189), (1, .ref 0), (0, .ref 1000000)]) (st' := [.int 1, .ref 1000000, .ref 0]) (t' := (sw f g, 327)) (nc' := 327) (ns' := 208818) sl_0_331 rfl) ?_
  refine Eq.trans (st_go (pc' := 333) (lv' := [(4, .int 0), (3, .ref 326), (2, .ref 189), (1, .ref 0), (0, .ref 1000000)]) (st' := [.int (xs 1), .ref 0]) (t' := (sw f g, 327)) (nc' := 327) (ns' := 208818) sl_0_332 rfl) ?_
  refine Eq.trans (st_go (pc' := 334) (lv' := [(4, .int 0), (3, .ref 326), (2, .ref 189), (1, .ref 0), (0, .ref 1000000)]) (st' := [.ref 1000000, .int (xs 1), .ref 0]) (t' := (sw f g, 327)) (nc' := 327) (ns' := 208818) sl_0_333 rfl) ?_
  refine Eq.trans (st_go (pc' := 336) (lv' := [(4, .int 0), (3, .ref 326), (2, .ref 189), (1, .ref 0), (0, .ref 1000000)]) (st' := [.int 0, .ref 1000000, .int (xs 1), .ref 0]) (t' := (sw f g, 327)) (nc' := 327) (ns' := 208818) sl_0_334 rfl) ?_
  refine Eq.trans (st_go (pc' := 337) (lv' := [(4, .int 0), (3, .ref 326), (2, .ref 189), (1, .ref 0), (0, .ref 1000000)]) (st' := [.int 2, .int 0, .ref 1000000, .int (xs 1), .ref 0]) (t' := (sw f g, 327)) (nc' := 327) (ns' := 208818) sl_0_336 rfl) ?_
  refine Eq.trans (st_go (pc' := 338) (lv' := [(4, .int 0), (3, .ref 326), (2, .ref 189), (1, .ref 0), (0, .ref 1000000)]) (st' := [.int 2, .ref 1000000, .int (xs 1), .ref 0]) (t' := (sw f g, 327)) (nc' := 327) (ns' := 208818) sl_0_337 rfl) ?_
  refine Eq.trans (st_go (pc' := 339) (lv' := [(4, .int 0), (3, .ref 326), (2, .ref 189), (1, .ref 0), (0, .ref 1000000)]) (st' := [.int (xs 2), .int (xs 1), .ref 0]) (t' := (sw f g, 327)) (nc' := 327) (ns' := 208818) sl_0_338 rfl) ?_
  refine Eq.trans (st_go (pc' := 340) (lv' := [(4, .int 0), (3, .ref 326), (2, .ref 189), (1, .ref 0), (0, .ref 1000000)]) (st' := [.ref 1000000, .int (xs 2), .int (xs 1), .ref 0]) (t' := (sw f g, 327)) (nc' := 327) (ns' := 208818) sl_0_339 rfl) ?_
  refine Eq.trans (st_go (pc' := 342) (lv' := [(4, .int 0), (3, .ref 326), (2, .ref 189), (1, .ref 0), (0, .ref 1000000)]) (st' := [.int 0, .ref 1000000, .int (xs 2), .int (xs 1), .ref 0]) (t' := (sw f g, 327)) (nc' := 327) (ns' := 208818) sl_0_340 rfl) ?_
  refine Eq.trans (st_go (pc' := 343) (lv' := [(4, .int 0), (3, .ref 326), (2, .ref 189), (1, .ref 0), (0, .ref 1000000)]) (st' := [.int 3, .int 0, .ref 1000000, .int (xs 2), .int (xs 1), .ref 0]) (t' := (sw f g, 327)) (nc' := 327) (ns' := 208818) sl_0_342 rfl) ?_
  refine Eq.trans (st_go (pc' := 344) (lv' := [(4, .int 0), (3, .ref 326), (2, .ref 189), (1, .ref 0), (0, .ref 1000000)]) (st' := [.int 3, .ref 1000000, .int (xs 2), .int (xs 1), .ref 0]) (t' := (sw f g, 327)) (nc' := 327) (ns' := 208818) sl_0_343 rfl) ?_
  refine Eq.trans (st_go (pc' := 345) (lv' := [(4, .int 0), (3, .ref 326), (2, .ref 189), (1, .ref 0), (0, .ref 1000000)]) (st' := [.int (xs 3), .int (xs 2), .int (xs 1), .ref 0]) (t' := (sw f g, 327)) (nc' := 327) (ns' := 208818) sl_0_344 rfl) ?_
  refine Eq.trans (st_go (pc' := 346) (lv' := [(4, .int 0), (3, .ref 326), (2, .ref 189), (1, .ref 0), (0, .ref 1000000)]) (st' := [.ref 326, .int (xs 3), .int (xs 2), .int (xs 1), .ref 0]) (t' := (sw f g, 327)) (nc' := 327) (ns' := 208818) sl_0_345 rfl) ?_
  refine Eq.trans (st_call (pc' := 349) (st' := [.int 1]) (nc' := 328) (ns' := 208824) (mi := 148) (av := [.ref 0, .int (xs 1), .int (xs 2), .int (xs 3), .ref 326]) (rest := []) sl_0_346 (fun _ => rfl) (sw_37 xs sio f g) rfl rfl rfl rfl) ?_
  refine Eq.trans (st_go (pc' := 351) (lv' := [(5, .int 1), (4, .int 0), (3, .ref 326), (2, .ref 189), (1, .ref 0), (0, .ref 1000000)]) (st' := []) (t' := (sh_17 xs f g, 328)) (nc' := 328) (ns' := 208824) sl_0_349 rfl) ?_
  refine Eq.trans (st_go (pc' := 352) (lv' := [(5, .int 1), (4, .int 0), (3, .ref 326), (2, .ref 189), (1, .ref 0), (0, .ref 1000000)]) (st' := [.ref 189]) (t' := (sh_17 xs f g, 328)) (nc' := 328) (ns' := 208824) sl_0_351 rfl) ?_
  refine Eq.trans (st_go (pc' := 353) (lv' := [(5, .int 1), (4, .int 0), (3, .ref 326), (2, .ref 189), (1, .ref 0), (0, .ref 1000000)]) (st' := [.ref 1000000, .ref 189]) (t' := (sh_17 xs f g, 328)) (nc' := 328) (ns' := 208824) sl_0_352 rfl) ?_
  refine Eq.trans (st_go (pc' := 355) (lv' := [(5, .int 1), (4, .int 0), (3, .ref 326), (2, .ref 189), (1, .ref 0), (0, .ref 1000000)]) (st' := [.int 0, .ref 1000000, .ref 189]) (t' := (sh_17 xs f g, 328)) (nc' := 328) (ns' := 208824) sl_0_353 rfl) ?_
  refine Eq.trans (st_go (pc' := 356) (lv' := [(5, .int 1), (4, .int 0), (3, .ref 326), (2, .ref 189), (1, .ref 0), (0, .ref 1000000)]) (st' := [.int 1, .int 0, .ref 1000000, .ref 189]) (t' := (sh_17 xs f g, 328)) (nc' := 328) (ns' := 208824) sl_0_355 rfl) ?_
  refine Eq.trans (st_go (pc' := 357) (lv' := [(5, .int 1), (4, .int 0), (3, .ref 326), (2, .ref 189), (1, .ref 0), (0, .ref 1000000)]) (st' := [.int 1, .ref 1000000, .ref 189]) (t' := (sh_17 xs f g, 328)) (nc' := 328) (ns' := 208824) sl_0_356 rfl) ?_
  refine Eq.trans (st_go (pc' := 358) (lv' := [(5, .int 1), (4, .int 0), (3, .ref 326), (2, .ref 189), (1, .ref 0), (0, .ref 1000000)]) (st' := [.int (xs 1), .ref 189]) (t' := (sh_17 xs f g, 328)) (nc' := 328) (ns' := 208824) sl_0_357 rfl) ?_
  refine Eq.trans (st_go (pc' := 359) (lv' := [(5, .int 1), (4, .int 0), (3, .ref 326), (2, .ref 189), (1, .ref 0), (0, .ref 1000000)]) (st' := [.ref 1000000, .int (xs 1), .ref 189]) (t' := (sh_17 xs f g, 328)) (nc' := 328) (ns' := 208824) sl_0_358 rfl) ?_
  refine Eq.trans (st_go (pc' := 361) (lv' := [(5, .int 1), (4, .int 0), (3, .ref 326), (2, .ref 189), (1, .ref 0), (0, .ref 1000000)]) (st' := [.int 0, .ref 1000000, .int (xs 1), .ref 189]) (t' := (sh_17 xs f g, 328)) (nc' := 328) (ns' := 208824) sl_0_359 rfl) ?_
  refine Eq.trans (st_go (pc' := 362) (lv' := [(5, .int 1), (4, .int 0), (3, .ref 326), (2, .ref 189), (1, .ref 0), (0, .ref 1000000)]) (st' := [.int 2, .int 0, .ref 1000000, .int (xs 1), .ref 189]) (t' := (sh_17 xs f g, 328)) (nc' := 328) (ns' := 208824) sl_0_361 rfl) ?_
  refine Eq.trans (st_go (pc' := 363) (lv' := [(5, .int 1), (4, .int 0), (3, .ref 326), (2, .ref 189), (1, .ref 0), (0, .ref 1000000)]) (st' := [.int 2, .ref 1000000, .int (xs 1), .ref 189]) (t' := (sh_17 xs f g, 328)) (nc' := 328) (ns' := 208824) sl_0_362 rfl) ?_
  refine Eq.trans (st_go (pc' := 364) (lv' := [(5, .int 1), (4, .int 0), (3, .ref 326), (2, .ref 189), (1, .ref 0), (0, .ref 1000000)]) (st' := [.int (xs 2), .int (xs 1), .ref 189]) (t' := (sh_17 xs f g, 328)) (nc' := 328) (ns' := 208824) sl_0_363 rfl) ?_
  refine Eq.trans (st_go (pc' := 365) (lv' := [(5, .int 1), (4, .int 0), (3, .ref 326), (2, .ref 189), (1, .ref 0), (0, .ref 1000000)]) (st' := [.ref 1000000, .int (xs 2), .int (xs 1), .ref 189]) (t' := (sh_17 xs f g, 328)) (nc' := 328) (ns' := 208824) sl_0_364 rfl) ?_
  refine Eq.trans (st_go (pc' := 367) (lv' := [(5, .int 1), (4, .int 0), (3, .ref 326), (2, .ref 189), (1, .ref 0), (0, .ref 1000000)]) (st' := [.int 0, .ref 1000000, .int (xs 2), .int (xs 1), .ref 189]) (t' := (sh_17 xs f g, 328)) (nc' := 328) (ns' := 208824) sl_0_365 rfl) ?_
  refine Eq.trans (st_go (pc' := 368) (lv' := [(5, .int 1), (4, .int 0), (3, .ref 326), (2, .ref 189), (1, .ref 0), (0, .ref 1000000)]) (st' := [.int 3, .int 0, .ref 1000000, .int (xs 2), .int (xs 1), .ref 189]) (t' := (sh_17 xs f g, 328)) (nc' := 328) (ns' := 208824) sl_0_367 rfl) ?_
  refine Eq.trans (st_go (pc' := 369) (lv' := [(5, .int 1), (4, .int 0), (3, .ref 326), (2, .ref 189), (1, .ref 0), (0, .ref 1000000)]) (st' := [.int 3, .ref 1000000, .int (xs 2), .int (xs 1), .ref 189]) (t' := (sh_17 xs f g, 328)) (nc' := 328) (ns' := 208824) sl_0_368 rfl) ?_
  refine Eq.trans (st_go (pc' := 370) (lv' := [(5, .int 1), (4, .int 0), (3, .ref 326), (2, .ref 189), (1, .ref 0), (0, .ref 1000000)]) (st' := [.int (xs 3), .int (xs 2), .int (xs 1), .ref 189]) (t' := (sh_17 xs f g, 328)) (nc' := 328) (ns' := 208824) sl_0_369 rfl) ?_
  refine Eq.trans (st_call (pc' := 373) (st' := [.int 0]) (nc' := 328) (ns' := 208824) (mi := 289) (av := [.ref 189, .int (xs 1), .int (xs 2), .int (xs 3)]) (rest := []) sl_0_370 (fun _ => rfl) (sw_38 xs sio f g) rfl rfl rfl rfl) ?_
  refine Eq.trans (st_go (pc' := 375) (lv' := [(6, .int 0), (5, .int 1), (4, .int 0), (3, .ref 326), (2, .ref 189), (1, .ref 0), (0, .ref 1000000)]) (st' := []) (t' := (sh_18 xs f g, 328)) (nc' := 328) (ns' := 208824) sl_0_373 rfl) ?_
  refine Eq.trans (st_go (pc' := 376) (lv' := [(6, .int 0), (5, .int 1), (4, .int 0), (3, .ref 326), (2, .ref 189), (1, .ref 0), (0, .ref 1000000)]) (st' := [.ref 189]) (t' := (sh_18 xs f g, 328)) (nc' := 328) (ns' := 208824) sl_0_375 rfl) ?_
  refine Eq.trans (st_call (pc' := 379) (st' := [.int 1]) (nc' := 328) (ns' := 208824) (mi := 207) (av := [.ref 189]) (rest := []) sl_0_376 (fun _ => rfl) (sw_39 xs sio f g) rfl rfl rfl rfl) ?_
  refine Eq.trans (st_go (pc' := 381) (lv' := [(6, .int 0), (5, .int 1), (4, .int 0), (3, .ref 326), (2, .ref 189), (1, .ref 0), (0, .ref 1000000)]) (st' := [.int 1, .int 1]) (t' := (sh_18 xs f g, 328)) (nc' := 328) (ns' := 208824) sl_0_379 rfl) ?_
  refine Eq.trans (st_go (pc' := 386) (lv' := [(6, .int 0), (5, .int 1), (4, .int 0), (3, .ref 326), (2, .ref 189), (1, .ref 0), (0, .ref 1000000)]) (st' := []) (t' := (sh_18 xs f g, 328)) (nc' := 328) (ns' := 208824) sl_0_381 rfl) ?_
  refine Eq.trans (st_go (pc' := 388) (lv' := [(6, .int 0), (5, .int 1), (4, .int 0), (3, .ref 326), (2, .ref 189), (1, .ref 0), (0, .ref 1000000)]) (st' := [.int 1]) (t' := (sh_18 xs f g, 328)) (nc' := 328) (ns' := 208824) sl_0_386 rfl) ?_
  refine Eq.trans (st_go (pc' := 403) (lv' := [(6, .int 0), (5, .int 1), (4, .int 0), (3, .ref 326), (2, .ref 189), (1, .ref 0), (0, .ref 1000000)]) (st' := []) (t' := (sh_18 xs f g, 328)) (nc' := 328) (ns' := 208824) sl_0_388 rfl) ?_
  refine Eq.trans (st_go (pc' := 1172) (lv' := [(6, .int 0), (5, .int 1), (4, .int 0), (3, .ref 326), (2, .ref 189), (1, .ref 0), (0, .ref 1000000)]) (st' := []) (t' := (sh_18 xs f g, 328)) (nc' := 328) (ns' := 208824) sl_0_403 rfl) ?_
  refine Eq.trans (st_go (pc' := 1175) (lv' := [(4, .int 6), (6, .int 0), (5, .int 1), (3, .ref 326), (2, .ref 189), (1, .ref 0), (0, .ref 1000000)]) (st' := []) (t' := (sh_18 xs f g, 328)) (nc' := 328) (ns' := 208824) sl_0_1172 rfl) ?_
  refine Eq.trans (st_go (pc' := 23) (lv' := [(4, .int 6), (6, .int 0), (5, .int 1), (3, .ref 326), (2, .ref 189), (1, .ref 0), (0, .ref 1000000)]) (st' := []) (t' := (sh_18 xs f g, 328)) (nc' := 328) (ns' := 208824) sl_0_1175 rfl) ?_
  refine Eq.trans (st_go (pc' := 25) (lv' := [(4, .int 6), (6, .int 0), (5, .int 1), (3, .ref 326), (2, .ref 189), (1, .ref 0), (0, .ref 1000000)]) (st' := [.int 6]) (t' := (sh_18 xs f g, 328)) (nc' := 328) (ns' := 208824) sl_0_23 rfl) ?_
  refine Eq.trans (st_go (pc' := 26) (lv' := [(4, .int 6), (6, .int 0), (5, .int 1), (3, .ref 326), (2, .ref 189), (1, .ref 0), (0, .ref 1000000)]) (st' := [.ref 1000000, .int 6]) (t' := (sh_18 xs f g, 328)) (nc' := 328) (ns' := 208824) sl_0_25 rfl) ?_
  refine Eq.trans (st_go (pc' := 27) (lv' := [(4, .int 6), (6, .int 0), (5, .int 1), (3, .ref 326), (2, .ref 189), (1, .ref 0), (0, .ref 1000000)]) (st' := [.int 6, .int 6]) (t' := (sh_18 xs f g, 328)) (nc' := 328) (ns' := 208824) sl_0_26 rfl) ?_
  refine Eq.trans (st_go (pc' := 29) (lv' := [(4, .int 6), (6, .int 0), (5, .int 1), (3, .ref 326), (2, .ref 189), (1, .ref 0), (0, .ref 1000000)]) (st' := [.int 6, .int 6, .int 6]) (t' := (sh_18 xs f g, 328)) (nc' := 328) (ns' := 208824) sl_0_27 rfl) ?_
  refine Eq.trans (st_go (pc' := 30) (lv' := [(4, .int 6), (6, .int 0), (5, .int 1), (3, .ref 326), (2, .ref 189), (1, .ref 0), (0, .ref 1000000)]) (st' := [.int 0, .int 6]) (t' := (sh_18 xs f g, 328)) (nc' := 328) (ns' := 208824) sl_0_29 rfl) ?_
  refine Eq.trans (st_go (pc' := 1178) (lv' := [(4, .int 6), (6, .int 0), (5, .int 1), (3, .ref 326), (2, .ref 189), (1, .ref 0), (0, .ref 1000000)]) (st' := []) (t' := (sh_18 xs f g, 328)) (nc' := 328) (ns' := 208824) sl_0_30 rfl) ?_
  refine Eq.trans (st_go (pc' := 1179) (lv' := [(4, .int 6), (6, .int 0), (5, .int 1), (3, .ref 326), (2, .ref 189), (1, .ref 0), (0, .ref 1000000)]) (st' := [.int 1]) (t' := (sh_18 xs f g, 328)) (nc' := 328) (ns' := 208824) sl_0_1178 rfl) ?_
  exact st_end sl_0_1179 rfl
set_option maxRecDepth 100000 in
/-- PacketWorks.isLaid -/
theorem sw_40 (xs : Nat → Int32) (sio : Value) (f : Nat → Nat → Int32) (g : Nat → Nat → Int64) : sC 6 xs sio 15 33 [.ref 0] (sw f g, 327) = some (.inl (some (.int 0)), (sw f g, 327), 0, 0) := by
  refine st_in sg_33 rfl rfl ?_
  refine Eq.trans (st_go (pc' := 1) (lv' := [(0, .ref 0)]) (st' := [.ref 0]) (t' := (sw f g, 327)) (nc' := 0) (ns' := 0) sl_33_0 rfl) ?_
  refine Eq.trans (st_go (pc' := 4) (lv' := [(0, .ref 0)]) (st' := [.int 0]) (t' := (sw f g, 327)) (nc' := 0) (ns' := 0) sl_33_1 rfl) ?_
  refine Eq.trans (st_go (pc' := 24) (lv' := [(0, .ref 0)]) (st' := []) (t' := (sw f g, 327)) (nc' := 0) (ns' := 0) sl_33_4 rfl) ?_
  refine Eq.trans (st_go (pc' := 25) (lv' := [(0, .ref 0)]) (st' := [.int 0]) (t' := (sw f g, 327)) (nc' := 0) (ns' := 0) sl_33_24 rfl) ?_
  exact st_end sl_33_25 rfl
set_option maxRecDepth 100000 in
/-- PacketWorks.packet -/
theorem sw_41 (xs : Nat → Int32) (sio : Value) (f : Nat → Nat → Int32) (g : Nat → Nat → Int64) : sC 6 xs sio 16 162 [.ref 0, .int (xs 1)] (sw f g, 327) = some (.inr 1, (sw f g, 327), 1, 6) := by
  refine st_in sg_162 rfl rfl ?_
  refine Eq.trans (st_go (pc' := 1) (lv' := [(0, .ref 0), (1, .int (xs 1))]) (st' := [.ref 0]) (t' := (sw f g, 327)) (nc' := 0) (ns' := 0) sl_162_0 rfl) ?_
  refine Eq.trans (st_call (pc' := 4) (st' := [.int 0]) (nc' := 0) (ns' := 0) (mi := 33) (av := [.ref 0]) (rest := []) sl_162_1 (fun _ => rfl) (sw_40 xs sio f g) rfl rfl rfl rfl) ?_
  refine Eq.trans (st_go (pc' := 19) (lv' := [(0, .ref 0), (1, .int (xs 1))]) (st' := []) (t' := (sw f g, 327)) (nc' := 0) (ns' := 0) sl_162_4 rfl) ?_
  exact st_end sl_162_19 rfl
set_option maxRecDepth 100000 in
/-- PacketWorksLaw.packet -/
theorem sw_42 (xs : Nat → Int32) (sio : Value) (f : Nat → Nat → Int32) (g : Nat → Nat → Int64) : sC 6 xs sio 17 161 [.ref 0, .int (xs 1), .ref 326] (sw f g, 327) = some (.inl (some (.int 1)), (sh_19 xs f g, 328), 1, 6) := by
  refine st_in sg_161 rfl rfl ?_
  refine Eq.trans (st_go (pc' := 1) (lv' := [(0, .ref 0), (1, .int (xs 1)), (2, .ref 326)]) (st' := [.ref 326]) (t' := (sw f g, 327)) (nc' := 0) (ns' := 0) sl_161_0 rfl) ?_
  refine Eq.trans (st_go (pc' := 2) (lv' := [(0, .ref 0), (1, .int (xs 1)), (2, .ref 326)]) (st' := [.int 0, .ref 326]) (t' := (sw f g, 327)) (nc' := 0) (ns' := 0) sl_161_1 rfl) ?_
  refine Eq.trans (st_go (pc' := 3) (lv' := [(0, .ref 0), (1, .int (xs 1)), (2, .ref 326)]) (st' := [.ref 0, .int 0, .ref 326]) (t' := (sw f g, 327)) (nc' := 0) (ns' := 0) sl_161_2 rfl) ?_
  refine Eq.trans (st_go (pc' := 4) (lv' := [(0, .ref 0), (1, .int (xs 1)), (2, .ref 326)]) (st' := [.int (xs 1), .ref 0, .int 0, .ref 326]) (t' := (sw f g, 327)) (nc' := 0) (ns' := 0) sl_161_3 rfl) ?_
  refine Eq.trans (st_catch (pc' := 12) (nc' := 1) (ns' := 6) (c := .inr (14, [])) (mi := 162) (av := [.ref 0, .int (xs 1)]) (rest := [.int 0, .ref 326]) sl_161_4 (fun _ => rfl) (sw_41 xs sio f g) rfl rfl rfl rfl rfl rfl) ?_
  show sR 6 xs sio 16 pm_161 _ (12, [(0, .ref 0), (1, .int (xs 1)), (2, .ref 326)], [.ref 327], (sh_19 xs f g, 328), 1, 6) = _
  refine Eq.trans (st_go (pc' := 13) (lv' := [(3, .ref 327), (0, .ref 0), (1, .int (xs 1)), (2, .ref 326)]) (st' := []) (t' := (sh_19 xs f g, 328)) (nc' := 1) (ns' := 6) sl_161_12 rfl) ?_
  refine Eq.trans (st_go (pc' := 14) (lv' := [(3, .ref 327), (0, .ref 0), (1, .int (xs 1)), (2, .ref 326)]) (st' := [.int 1]) (t' := (sh_19 xs f g, 328)) (nc' := 1) (ns' := 6) sl_161_13 rfl) ?_
  exact st_end sl_161_14 rfl
set_option maxRecDepth 100000 in
/-- PacketWorksModel.packet -/
theorem sw_43 (xs : Nat → Int32) (sio : Value) (f : Nat → Nat → Int32) (g : Nat → Nat → Int64) : sC 6 xs sio 17 307 [.ref 189, .int (xs 1)] (sh_19 xs f g, 328) = some (.inl (some (.int 0)), (sh_20 xs f g, 328), 0, 0) := by
  refine st_in sg_307 rfl rfl ?_
  refine Eq.trans (st_go (pc' := 1) (lv' := [(0, .ref 189), (1, .int (xs 1))]) (st' := [.ref 189]) (t' := (sh_19 xs f g, 328)) (nc' := 0) (ns' := 0) sl_307_0 rfl) ?_
  refine Eq.trans (st_go (pc' := 2) (lv' := [(0, .ref 189), (1, .int (xs 1))]) (st' := [.ref 189, .ref 189]) (t' := (sh_19 xs f g, 328)) (nc' := 0) (ns' := 0) sl_307_1 rfl) ?_
  refine Eq.trans (st_go (pc' := 5) (lv' := [(0, .ref 189), (1, .int (xs 1))]) (st' := [.int 0, .ref 189]) (t' := (sh_19 xs f g, 328)) (nc' := 0) (ns' := 0) sl_307_2 rfl) ?_
  refine Eq.trans (st_go (pc' := 17) (lv' := [(0, .ref 189), (1, .int (xs 1))]) (st' := [.ref 189]) (t' := (sh_19 xs f g, 328)) (nc' := 0) (ns' := 0) sl_307_5 rfl) ?_
  refine Eq.trans (st_go (pc' := 18) (lv' := [(0, .ref 189), (1, .int (xs 1))]) (st' := [.int 1, .ref 189]) (t' := (sh_19 xs f g, 328)) (nc' := 0) (ns' := 0) sl_307_17 rfl) ?_
  refine Eq.trans (st_go (pc' := 36) (lv' := [(0, .ref 189), (1, .int (xs 1))]) (st' := [.int 1, .ref 189]) (t' := (sh_19 xs f g, 328)) (nc' := 0) (ns' := 0) sl_307_18 rfl) ?_
  refine Eq.trans (st_go (pc' := 39) (lv' := [(0, .ref 189), (1, .int (xs 1))]) (st' := []) (t' := (sh_20 xs f g, 328)) (nc' := 0) (ns' := 0) sl_307_36 rfl) ?_
  refine Eq.trans (st_go (pc' := 40) (lv' := [(0, .ref 189), (1, .int (xs 1))]) (st' := [.ref 189]) (t' := (sh_20 xs f g, 328)) (nc' := 0) (ns' := 0) sl_307_39 rfl) ?_
  refine Eq.trans (st_go (pc' := 43) (lv' := [(0, .ref 189), (1, .int (xs 1))]) (st' := [.int 1]) (t' := (sh_20 xs f g, 328)) (nc' := 0) (ns' := 0) sl_307_40 rfl) ?_
  refine Eq.trans (st_go (pc' := 46) (lv' := [(0, .ref 189), (1, .int (xs 1))]) (st' := []) (t' := (sh_20 xs f g, 328)) (nc' := 0) (ns' := 0) sl_307_43 rfl) ?_
  refine Eq.trans (st_go (pc' := 47) (lv' := [(0, .ref 189), (1, .int (xs 1))]) (st' := [.int 0]) (t' := (sh_20 xs f g, 328)) (nc' := 0) (ns' := 0) sl_307_46 rfl) ?_
  exact st_end sl_307_47 rfl
set_option maxRecDepth 100000 in
/-- PacketWorksModel.thrown -/
theorem sw_44 (xs : Nat → Int32) (sio : Value) (f : Nat → Nat → Int32) (g : Nat → Nat → Int64) : sC 6 xs sio 17 207 [.ref 189] (sh_20 xs f g, 328) = some (.inl (some (.int 1)), (sh_20 xs f g, 328), 0, 0) := by
  refine st_in sg_207 rfl rfl ?_
  refine Eq.trans (st_go (pc' := 1) (lv' := [(0, .ref 189)]) (st' := [.ref 189]) (t' := (sh_20 xs f g, 328)) (nc' := 0) (ns' := 0) sl_207_0 rfl) ?_
  refine Eq.trans (st_go (pc' := 4) (lv' := [(0, .ref 189)]) (st' := [.int 1]) (t' := (sh_20 xs f g, 328)) (nc' := 0) (ns' := 0) sl_207_1 rfl) ?_
  exact st_end sl_207_4 rfl
set_option maxRecDepth 100000 in
theorem so_9 (xs : Nat → Int32) (sio : Value) (f : Nat → Nat → Int32) (g : Nat → Nat → Int64) (n : Nat) (hn : 35 ≤ n) : sR 6 xs sio 17 pm_0 n (40, [(4, .int 0), (3, .ref 326), (2, .ref 189), (1, .ref 0), (0, .ref 1000000)], [.int 9], (sw f g, 327), 327, 208818) = some (.inl (some (.int 1)), (sh_20 xs f g, 328), 328, 208824) := by
  obtain ⟨m, rfl⟩ : ∃ m, n = m + 35 := ⟨n - 35, by omega⟩
  refine Eq.trans (st_go (pc' := 493) (lv' := [(4, .int 0), (3, .ref 326), (2, .ref 189), (1, .ref 0), (0, .ref 1000000)]) (st' := []) (t' := (sw f g, 327)) (nc' := 327) (ns' := 208818) sl_0_40 rfl) ?_
  refine Eq.trans (st_go (pc' := 494) (lv' := [(4, .int 0), (3, .ref 326), (2, .ref 189), (1, .ref 0), (0, .ref 1000000)]) (st' := [.ref 0]) (t' := (sw f g, 327)) (nc' := 327) (ns' := 208818) sl_0_493 rfl) ?_
  refine Eq.trans (st_go (pc' := 495) (lv' := [(4, .int 0), (3, .ref 326), (2, .ref 189), (1, .ref 0), (0, .ref 1000000)]) (st' := [.ref 1000000, .ref 0]) (t' := (sw f g, 327)) (nc' := 327) (ns' := 208818) sl_0_494 rfl) ?_
  refine Eq.trans (st_go (pc' := 497) (lv' := [(4, .int 0), (3, .ref 326), (2, .ref 189), (1, .ref 0), (0, .ref 1000000)]) (st' := [.int 0, .ref 1000000, .ref 0]) (t' := (sw f g, 327)) (nc' := 327) (ns' := 208818) sl_0_495 rfl) ?_
  refine Eq.trans (st_go (pc' := 498) (lv' := [(4, .int 0), (3, .ref 326), (2, .ref 189), (1, .ref 0), (0, .ref 1000000)]) (st' := [.int 1, .int 0, .ref 1000000, .ref 0]) (t' := (sw f g, 327)) (nc' := 327) (ns' := 208818) sl_0_497 rfl) ?_
  refine Eq.trans (st_go (pc' := 499) (lv' := [(4, .int 0), (3, .ref 326), (2, .ref 189), (1, .ref 0), (0, .ref 1000000)]) (st' := [.int 1, .ref 1000000, .ref 0]) (t' := (sw f g, 327)) (nc' := 327) (ns' := 208818) sl_0_498 rfl) ?_
  refine Eq.trans (st_go (pc' := 500) (lv' := [(4, .int 0), (3, .ref 326), (2, .ref 189), (1, .ref 0), (0, .ref 1000000)]) (st' := [.int (xs 1), .ref 0]) (t' := (sw f g, 327)) (nc' := 327) (ns' := 208818) sl_0_499 rfl) ?_
  refine Eq.trans (st_go (pc' := 501) (lv' := [(4, .int 0), (3, .ref 326), (2, .ref 189), (1, .ref 0), (0, .ref 1000000)]) (st' := [.ref 326, .int (xs 1), .ref 0]) (t' := (sw f g, 327)) (nc' := 327) (ns' := 208818) sl_0_500 rfl) ?_
  refine Eq.trans (st_call (pc' := 504) (st' := [.int 1]) (nc' := 328) (ns' := 208824) (mi := 161) (av := [.ref 0, .int (xs 1), .ref 326]) (rest := []) sl_0_501 (fun _ => rfl) (sw_42 xs sio f g) rfl rfl rfl rfl) ?_
  refine Eq.trans (st_go (pc' := 506) (lv' := [(5, .int 1), (4, .int 0), (3, .ref 326), (2, .ref 189), (1, .ref 0), (0, .ref 1000000)]) (st' := []) (t' := (sh_19 xs f g, 328)) (nc' := 328) (ns' := 208824) sl_0_504 rfl) ?_
  refine Eq.trans (st_go (pc' := 507) (lv' := [(5, .int 1), (4, .int 0), (3, .ref 326), (2, .ref 189), (1, .ref 0), (0, .ref 1000000)]) (st' := [.ref 189]) (t' := (sh_19 xs f g, 328)) (nc' := 328) (ns' := 208824) sl_0_506 rfl) ?_
  refine Eq.trans (st_go (pc' := 508) (lv' := [(5, .int 1), (4, .int 0), (3, .ref 326), (2, .ref 189), (1, .ref 0), (0, .ref 1000000)]) (st' := [.ref 1000000, .ref 189]) (t' := (sh_19 xs f g, 328)) (nc' := 328) (ns' := 208824) sl_0_507 rfl) ?_
  refine Eq.trans (st_go (pc' := 510) (lv' := [(5, .int 1), (4, .int 0), (3, .ref 326), (2, .ref 189), (1, .ref 0), (0, .ref 1000000)]) (st' := [.int 0, .ref 1000000, .ref 189]) (t' := (sh_19 xs f g, 328)) (nc' := 328) (ns' := 208824) sl_0_508 rfl) ?_
  refine Eq.trans (st_go (pc' := 511) (lv' := [(5, .int 1), (4, .int 0), (3, .ref 326), (2, .ref 189), (1, .ref 0), (0, .ref 1000000)]) (st' := [.int 1, .int 0, .ref 1000000, .ref 189]) (t' := (sh_19 xs f g, 328)) (nc' := 328) (ns' := 208824) sl_0_510 rfl) ?_
  refine Eq.trans (st_go (pc' := 512) (lv' := [(5, .int 1), (4, .int 0), (3, .ref 326), (2, .ref 189), (1, .ref 0), (0, .ref 1000000)]) (st' := [.int 1, .ref 1000000, .ref 189]) (t' := (sh_19 xs f g, 328)) (nc' := 328) (ns' := 208824) sl_0_511 rfl) ?_
  refine Eq.trans (st_go (pc' := 513) (lv' := [(5, .int 1), (4, .int 0), (3, .ref 326), (2, .ref 189), (1, .ref 0), (0, .ref 1000000)]) (st' := [.int (xs 1), .ref 189]) (t' := (sh_19 xs f g, 328)) (nc' := 328) (ns' := 208824) sl_0_512 rfl) ?_
  refine Eq.trans (st_call (pc' := 516) (st' := [.int 0]) (nc' := 328) (ns' := 208824) (mi := 307) (av := [.ref 189, .int (xs 1)]) (rest := []) sl_0_513 (fun _ => rfl) (sw_43 xs sio f g) rfl rfl rfl rfl) ?_
  refine Eq.trans (st_go (pc' := 518) (lv' := [(6, .int 0), (5, .int 1), (4, .int 0), (3, .ref 326), (2, .ref 189), (1, .ref 0), (0, .ref 1000000)]) (st' := []) (t' := (sh_20 xs f g, 328)) (nc' := 328) (ns' := 208824) sl_0_516 rfl) ?_
  refine Eq.trans (st_go (pc' := 519) (lv' := [(6, .int 0), (5, .int 1), (4, .int 0), (3, .ref 326), (2, .ref 189), (1, .ref 0), (0, .ref 1000000)]) (st' := [.ref 189]) (t' := (sh_20 xs f g, 328)) (nc' := 328) (ns' := 208824) sl_0_518 rfl) ?_
  refine Eq.trans (st_call (pc' := 522) (st' := [.int 1]) (nc' := 328) (ns' := 208824) (mi := 207) (av := [.ref 189]) (rest := []) sl_0_519 (fun _ => rfl) (sw_44 xs sio f g) rfl rfl rfl rfl) ?_
  refine Eq.trans (st_go (pc' := 524) (lv' := [(6, .int 0), (5, .int 1), (4, .int 0), (3, .ref 326), (2, .ref 189), (1, .ref 0), (0, .ref 1000000)]) (st' := [.int 1, .int 1]) (t' := (sh_20 xs f g, 328)) (nc' := 328) (ns' := 208824) sl_0_522 rfl) ?_
  refine Eq.trans (st_go (pc' := 529) (lv' := [(6, .int 0), (5, .int 1), (4, .int 0), (3, .ref 326), (2, .ref 189), (1, .ref 0), (0, .ref 1000000)]) (st' := []) (t' := (sh_20 xs f g, 328)) (nc' := 328) (ns' := 208824) sl_0_524 rfl) ?_
  refine Eq.trans (st_go (pc' := 531) (lv' := [(6, .int 0), (5, .int 1), (4, .int 0), (3, .ref 326), (2, .ref 189), (1, .ref 0), (0, .ref 1000000)]) (st' := [.int 1]) (t' := (sh_20 xs f g, 328)) (nc' := 328) (ns' := 208824) sl_0_529 rfl) ?_
  refine Eq.trans (st_go (pc' := 546) (lv' := [(6, .int 0), (5, .int 1), (4, .int 0), (3, .ref 326), (2, .ref 189), (1, .ref 0), (0, .ref 1000000)]) (st' := []) (t' := (sh_20 xs f g, 328)) (nc' := 328) (ns' := 208824) sl_0_531 rfl) ?_
  refine Eq.trans (st_go (pc' := 1172) (lv' := [(6, .int 0), (5, .int 1), (4, .int 0), (3, .ref 326), (2, .ref 189), (1, .ref 0), (0, .ref 1000000)]) (st' := []) (t' := (sh_20 xs f g, 328)) (nc' := 328) (ns' := 208824) sl_0_546 rfl) ?_
  refine Eq.trans (st_go (pc' := 1175) (lv' := [(4, .int 6), (6, .int 0), (5, .int 1), (3, .ref 326), (2, .ref 189), (1, .ref 0), (0, .ref 1000000)]) (st' := []) (t' := (sh_20 xs f g, 328)) (nc' := 328) (ns' := 208824) sl_0_1172 rfl) ?_
  refine Eq.trans (st_go (pc' := 23) (lv' := [(4, .int 6), (6, .int 0), (5, .int 1), (3, .ref 326), (2, .ref 189), (1, .ref 0), (0, .ref 1000000)]) (st' := []) (t' := (sh_20 xs f g, 328)) (nc' := 328) (ns' := 208824) sl_0_1175 rfl) ?_
  refine Eq.trans (st_go (pc' := 25) (lv' := [(4, .int 6), (6, .int 0), (5, .int 1), (3, .ref 326), (2, .ref 189), (1, .ref 0), (0, .ref 1000000)]) (st' := [.int 6]) (t' := (sh_20 xs f g, 328)) (nc' := 328) (ns' := 208824) sl_0_23 rfl) ?_
  refine Eq.trans (st_go (pc' := 26) (lv' := [(4, .int 6), (6, .int 0), (5, .int 1), (3, .ref 326), (2, .ref 189), (1, .ref 0), (0, .ref 1000000)]) (st' := [.ref 1000000, .int 6]) (t' := (sh_20 xs f g, 328)) (nc' := 328) (ns' := 208824) sl_0_25 rfl) ?_
  refine Eq.trans (st_go (pc' := 27) (lv' := [(4, .int 6), (6, .int 0), (5, .int 1), (3, .ref 326), (2, .ref 189), (1, .ref 0), (0, .ref 1000000)]) (st' := [.int 6, .int 6]) (t' := (sh_20 xs f g, 328)) (nc' := 328) (ns' := 208824) sl_0_26 rfl) ?_
  refine Eq.trans (st_go (pc' := 29) (lv' := [(4, .int 6), (6, .int 0), (5, .int 1), (3, .ref 326), (2, .ref 189), (1, .ref 0), (0, .ref 1000000)]) (st' := [.int 6, .int 6, .int 6]) (t' := (sh_20 xs f g, 328)) (nc' := 328) (ns' := 208824) sl_0_27 rfl) ?_
  refine Eq.trans (st_go (pc' := 30) (lv' := [(4, .int 6), (6, .int 0), (5, .int 1), (3, .ref 326), (2, .ref 189), (1, .ref 0), (0, .ref 1000000)]) (st' := [.int 0, .int 6]) (t' := (sh_20 xs f g, 328)) (nc' := 328) (ns' := 208824) sl_0_29 rfl) ?_
  refine Eq.trans (st_go (pc' := 1178) (lv' := [(4, .int 6), (6, .int 0), (5, .int 1), (3, .ref 326), (2, .ref 189), (1, .ref 0), (0, .ref 1000000)]) (st' := []) (t' := (sh_20 xs f g, 328)) (nc' := 328) (ns' := 208824) sl_0_30 rfl) ?_
  refine Eq.trans (st_go (pc' := 1179) (lv' := [(4, .int 6), (6, .int 0), (5, .int 1), (3, .ref 326), (2, .ref 189), (1, .ref 0), (0, .ref 1000000)]) (st' := [.int 1]) (t' := (sh_20 xs f g, 328)) (nc' := 328) (ns' := 208824) sl_0_1178 rfl) ?_
  exact st_end sl_0_1179 rfl
set_option maxRecDepth 100000 in
/-- PacketWorks.isLaid -/
theorem sw_45 (xs : Nat → Int32) (sio : Value) (f : Nat → Nat → Int32) (g : Nat → Nat → Int64) : sC 6 xs sio 15 33 [.ref 0] (sw f g, 327) = some (.inl (some (.int 0)), (sw f g, 327), 0, 0) := by
  refine st_in sg_33 rfl rfl ?_
  refine Eq.trans (st_go (pc' := 1) (lv' := [(0, .ref 0)]) (st' := [.ref 0]) (t' := (sw f g, 327)) (nc' := 0) (ns' := 0) sl_33_0 rfl) ?_
  refine Eq.trans (st_go (pc' := 4) (lv' := [(0, .ref 0)]) (st' := [.int 0]) (t' := (sw f g, 327)) (nc' := 0) (ns' := 0) sl_33_1 rfl) ?_
  refine Eq.trans (st_go (pc' := 24) (lv' := [(0, .ref 0)]) (st' := []) (t' := (sw f g, 327)) (nc' := 0) (ns' := 0) sl_33_4 rfl) ?_
  refine Eq.trans (st_go (pc' := 25) (lv' := [(0, .ref 0)]) (st' := [.int 0]) (t' := (sw f g, 327)) (nc' := 0) (ns' := 0) sl_33_24 rfl) ?_
  exact st_end sl_33_25 rfl
set_option maxRecDepth 100000 in
/-- PacketWorks.run -/
theorem sw_46 (xs : Nat → Int32) (sio : Value) (f : Nat → Nat → Int32) (g : Nat → Nat → Int64) : sC 6 xs sio 16 176 [.ref 0, .int (xs 1)] (sw f g, 327) = some (.inr 1, (sw f g, 327), 1, 6) := by
  refine st_in sg_176 rfl rfl ?_
  refine Eq.trans (st_go (pc' := 1) (lv' := [(0, .ref 0), (1, .int (xs 1))]) (st' := [.ref 0]) (t' := (sw f g, 327)) (nc' := 0) (ns' := 0) sl_176_0 rfl) ?_
  refine Eq.trans (st_call (pc' := 4) (st' := [.int 0]) (nc' := 0) (ns' := 0) (mi := 33) (av := [.ref 0]) (rest := []) sl_176_1 (fun _ => rfl) (sw_45 xs sio f g) rfl rfl rfl rfl) ?_
  refine Eq.trans (st_go (pc' := 7) (lv' := [(0, .ref 0), (1, .int (xs 1))]) (st' := []) (t' := (sw f g, 327)) (nc' := 0) (ns' := 0) sl_176_4 rfl) ?_
  exact st_end sl_176_7 rfl
set_option maxRecDepth 100000 in
/-- PacketWorksLaw.run -/
theorem sw_47 (xs : Nat → Int32) (sio : Value) (f : Nat → Nat → Int32) (g : Nat → Nat → Int64) : sC 6 xs sio 17 175 [.ref 0, .int (xs 1), .ref 326] (sw f g, 327) = some (.inl (some (.int 1)), (sh_21 xs f g, 328), 1, 6) := by
  refine st_in sg_175 rfl rfl ?_
  refine Eq.trans (st_go (pc' := 1) (lv' := [(0, .ref 0), (1, .int (xs 1)), (2, .ref 326)]) (st' := [.ref 326]) (t' := (sw f g, 327)) (nc' := 0) (ns' := 0) sl_175_0 rfl) ?_
  refine Eq.trans (st_go (pc' := 2) (lv' := [(0, .ref 0), (1, .int (xs 1)), (2, .ref 326)]) (st' := [.int 0, .ref 326]) (t' := (sw f g, 327)) (nc' := 0) (ns' := 0) sl_175_1 rfl) ?_
  refine Eq.trans (st_go (pc' := 3) (lv' := [(0, .ref 0), (1, .int (xs 1)), (2, .ref 326)]) (st' := [.ref 0, .int 0, .ref 326]) (t' := (sw f g, 327)) (nc' := 0) (ns' := 0) sl_175_2 rfl) ?_
  refine Eq.trans (st_go (pc' := 4) (lv' := [(0, .ref 0), (1, .int (xs 1)), (2, .ref 326)]) (st' := [.int (xs 1), .ref 0, .int 0, .ref 326]) (t' := (sw f g, 327)) (nc' := 0) (ns' := 0) sl_175_3 rfl) ?_
  refine Eq.trans (st_catch (pc' := 12) (nc' := 1) (ns' := 6) (c := .inr (14, [])) (mi := 176) (av := [.ref 0, .int (xs 1)]) (rest := [.int 0, .ref 326]) sl_175_4 (fun _ => rfl) (sw_46 xs sio f g) rfl rfl rfl rfl rfl rfl) ?_
  show sR 6 xs sio 16 pm_175 _ (12, [(0, .ref 0), (1, .int (xs 1)), (2, .ref 326)], [.ref 327], (sh_21 xs f g, 328), 1, 6) = _
  refine Eq.trans (st_go (pc' := 13) (lv' := [(3, .ref 327), (0, .ref 0), (1, .int (xs 1)), (2, .ref 326)]) (st' := []) (t' := (sh_21 xs f g, 328)) (nc' := 1) (ns' := 6) sl_175_12 rfl) ?_
  refine Eq.trans (st_go (pc' := 14) (lv' := [(3, .ref 327), (0, .ref 0), (1, .int (xs 1)), (2, .ref 326)]) (st' := [.int 1]) (t' := (sh_21 xs f g, 328)) (nc' := 1) (ns' := 6) sl_175_13 rfl) ?_
  exact st_end sl_175_14 rfl
set_option maxRecDepth 100000 in
/-- PacketWorksModel.run -/
theorem sw_48 (xs : Nat → Int32) (sio : Value) (f : Nat → Nat → Int32) (g : Nat → Nat → Int64) : sC 6 xs sio 17 312 [.ref 189, .int (xs 1)] (sh_21 xs f g, 328) = some (.inl (some (.int 0)), (sh_22 xs f g, 328), 0, 0) := by
  refine st_in sg_312 rfl rfl ?_
  refine Eq.trans (st_go (pc' := 1) (lv' := [(0, .ref 189), (1, .int (xs 1))]) (st' := [.ref 189]) (t' := (sh_21 xs f g, 328)) (nc' := 0) (ns' := 0) sl_312_0 rfl) ?_
  refine Eq.trans (st_go (pc' := 2) (lv' := [(0, .ref 189), (1, .int (xs 1))]) (st' := [.ref 189, .ref 189]) (t' := (sh_21 xs f g, 328)) (nc' := 0) (ns' := 0) sl_312_1 rfl) ?_
  refine Eq.trans (st_go (pc' := 5) (lv' := [(0, .ref 189), (1, .int (xs 1))]) (st' := [.int 0, .ref 189]) (t' := (sh_21 xs f g, 328)) (nc' := 0) (ns' := 0) sl_312_2 rfl) ?_
  refine Eq.trans (st_go (pc' := 8) (lv' := [(0, .ref 189), (1, .int (xs 1))]) (st' := [.ref 189]) (t' := (sh_21 xs f g, 328)) (nc' := 0) (ns' := 0) sl_312_5 rfl) ?_
  refine Eq.trans (st_go (pc' := 9) (lv' := [(0, .ref 189), (1, .int (xs 1))]) (st' := [.int 1, .ref 189]) (t' := (sh_21 xs f g, 328)) (nc' := 0) (ns' := 0) sl_312_8 rfl) ?_
  refine Eq.trans (st_go (pc' := 27) (lv' := [(0, .ref 189), (1, .int (xs 1))]) (st' := [.int 1, .ref 189]) (t' := (sh_21 xs f g, 328)) (nc' := 0) (ns' := 0) sl_312_9 rfl) ?_
  refine Eq.trans (st_go (pc' := 30) (lv' := [(0, .ref 189), (1, .int (xs 1))]) (st' := []) (t' := (sh_22 xs f g, 328)) (nc' := 0) (ns' := 0) sl_312_27 rfl) ?_
  refine Eq.trans (st_go (pc' := 31) (lv' := [(0, .ref 189), (1, .int (xs 1))]) (st' := [.ref 189]) (t' := (sh_22 xs f g, 328)) (nc' := 0) (ns' := 0) sl_312_30 rfl) ?_
  refine Eq.trans (st_go (pc' := 34) (lv' := [(0, .ref 189), (1, .int (xs 1))]) (st' := [.int 1]) (t' := (sh_22 xs f g, 328)) (nc' := 0) (ns' := 0) sl_312_31 rfl) ?_
  refine Eq.trans (st_go (pc' := 37) (lv' := [(0, .ref 189), (1, .int (xs 1))]) (st' := []) (t' := (sh_22 xs f g, 328)) (nc' := 0) (ns' := 0) sl_312_34 rfl) ?_
  refine Eq.trans (st_go (pc' := 38) (lv' := [(0, .ref 189), (1, .int (xs 1))]) (st' := [.int 0]) (t' := (sh_22 xs f g, 328)) (nc' := 0) (ns' := 0) sl_312_37 rfl) ?_
  exact st_end sl_312_38 rfl
set_option maxRecDepth 100000 in
/-- PacketWorksModel.thrown -/
theorem sw_49 (xs : Nat → Int32) (sio : Value) (f : Nat → Nat → Int32) (g : Nat → Nat → Int64) : sC 6 xs sio 17 207 [.ref 189] (sh_22 xs f g, 328) = some (.inl (some (.int 1)), (sh_22 xs f g, 328), 0, 0) := by
  refine st_in sg_207 rfl rfl ?_
  refine Eq.trans (st_go (pc' := 1) (lv' := [(0, .ref 189)]) (st' := [.ref 189]) (t' := (sh_22 xs f g, 328)) (nc' := 0) (ns' := 0) sl_207_0 rfl) ?_
  refine Eq.trans (st_go (pc' := 4) (lv' := [(0, .ref 189)]) (st' := [.int 1]) (t' := (sh_22 xs f g, 328)) (nc' := 0) (ns' := 0) sl_207_1 rfl) ?_
  exact st_end sl_207_4 rfl
set_option maxRecDepth 100000 in
theorem so_13 (xs : Nat → Int32) (sio : Value) (f : Nat → Nat → Int32) (g : Nat → Nat → Int64) (n : Nat) (hn : 35 ≤ n) : sR 6 xs sio 17 pm_0 n (40, [(4, .int 0), (3, .ref 326), (2, .ref 189), (1, .ref 0), (0, .ref 1000000)], [.int 13], (sw f g, 327), 327, 208818) = some (.inl (some (.int 1)), (sh_22 xs f g, 328), 328, 208824) := by
  obtain ⟨m, rfl⟩ : ∃ m, n = m + 35 := ⟨n - 35, by omega⟩
  refine Eq.trans (st_go (pc' := 845) (lv' := [(4, .int 0), (3, .ref 326), (2, .ref 189), (1, .ref 0), (0, .ref 1000000)]) (st' := []) (t' := (sw f g, 327)) (nc' := 327) (ns' := 208818) sl_0_40 rfl) ?_
  refine Eq.trans (st_go (pc' := 846) (lv' := [(4, .int 0), (3, .ref 326), (2, .ref 189), (1, .ref 0), (0, .ref 1000000)]) (st' := [.ref 0]) (t' := (sw f g, 327)) (nc' := 327) (ns' := 208818) sl_0_845 rfl) ?_
  refine Eq.trans (st_go (pc' := 847) (lv' := [(4, .int 0), (3, .ref 326), (2, .ref 189), (1, .ref 0), (0, .ref 1000000)]) (st' := [.ref 1000000, .ref 0]) (t' := (sw f g, 327)) (nc' := 327) (ns' := 208818) sl_0_846 rfl) ?_
  refine Eq.trans (st_go (pc' := 849) (lv' := [(4, .int 0), (3, .ref 326), (2, .ref 189), (1, .ref 0), (0, .ref 1000000)]) (st' := [.int 0, .ref 1000000, .ref 0]) (t' := (sw f g, 327)) (nc' := 327) (ns' := 208818) sl_0_847 rfl) ?_
  refine Eq.trans (st_go (pc' := 850) (lv' := [(4, .int 0), (3, .ref 326), (2, .ref 189), (1, .ref 0), (0, .ref 1000000)]) (st' := [.int 1, .int 0, .ref 1000000, .ref 0]) (t' := (sw f g, 327)) (nc' := 327) (ns' := 208818) sl_0_849 rfl) ?_
  refine Eq.trans (st_go (pc' := 851) (lv' := [(4, .int 0), (3, .ref 326), (2, .ref 189), (1, .ref 0), (0, .ref 1000000)]) (st' := [.int 1, .ref 1000000, .ref 0]) (t' := (sw f g, 327)) (nc' := 327) (ns' := 208818) sl_0_850 rfl) ?_
  refine Eq.trans (st_go (pc' := 852) (lv' := [(4, .int 0), (3, .ref 326), (2, .ref 189), (1, .ref 0), (0, .ref 1000000)]) (st' := [.int (xs 1), .ref 0]) (t' := (sw f g, 327)) (nc' := 327) (ns' := 208818) sl_0_851 rfl) ?_
  refine Eq.trans (st_go (pc' := 853) (lv' := [(4, .int 0), (3, .ref 326), (2, .ref 189), (1, .ref 0), (0, .ref 1000000)]) (st' := [.ref 326, .int (xs 1), .ref 0]) (t' := (sw f g, 327)) (nc' := 327) (ns' := 208818) sl_0_852 rfl) ?_
  refine Eq.trans (st_call (pc' := 856) (st' := [.int 1]) (nc' := 328) (ns' := 208824) (mi := 175) (av := [.ref 0, .int (xs 1), .ref 326]) (rest := []) sl_0_853 (fun _ => rfl) (sw_47 xs sio f g) rfl rfl rfl rfl) ?_
  refine Eq.trans (st_go (pc' := 858) (lv' := [(5, .int 1), (4, .int 0), (3, .ref 326), (2, .ref 189), (1, .ref 0), (0, .ref 1000000)]) (st' := []) (t' := (sh_21 xs f g, 328)) (nc' := 328) (ns' := 208824) sl_0_856 rfl) ?_
  refine Eq.trans (st_go (pc' := 859) (lv' := [(5, .int 1), (4, .int 0), (3, .ref 326), (2, .ref 189), (1, .ref 0), (0, .ref 1000000)]) (st' := [.ref 189]) (t' := (sh_21 xs f g, 328)) (nc' := 328) (ns' := 208824) sl_0_858 rfl) ?_
  refine Eq.trans (st_go (pc' := 860) (lv' := [(5, .int 1), (4, .int 0), (3, .ref 326), (2, .ref 189), (1, .ref 0), (0, .ref 1000000)]) (st' := [.ref 1000000, .ref 189]) (t' := (sh_21 xs f g, 328)) (nc' := 328) (ns' := 208824) sl_0_859 rfl) ?_
  refine Eq.trans (st_go (pc' := 862) (lv' := [(5, .int 1), (4, .int 0), (3, .ref 326), (2, .ref 189), (1, .ref 0), (0, .ref 1000000)]) (st' := [.int 0, .ref 1000000, .ref 189]) (t' := (sh_21 xs f g, 328)) (nc' := 328) (ns' := 208824) sl_0_860 rfl) ?_
  refine Eq.trans (st_go (pc' := 863) (lv' := [(5, .int 1), (4, .int 0), (3, .ref 326), (2, .ref 189), (1, .ref 0), (0, .ref 1000000)]) (st' := [.int 1, .int 0, .ref 1000000, .ref 189]) (t' := (sh_21 xs f g, 328)) (nc' := 328) (ns' := 208824) sl_0_862 rfl) ?_
  refine Eq.trans (st_go (pc' := 864) (lv' := [(5, .int 1), (4, .int 0), (3, .ref 326), (2, .ref 189), (1, .ref 0), (0, .ref 1000000)]) (st' := [.int 1, .ref 1000000, .ref 189]) (t' := (sh_21 xs f g, 328)) (nc' := 328) (ns' := 208824) sl_0_863 rfl) ?_
  refine Eq.trans (st_go (pc' := 865) (lv' := [(5, .int 1), (4, .int 0), (3, .ref 326), (2, .ref 189), (1, .ref 0), (0, .ref 1000000)]) (st' := [.int (xs 1), .ref 189]) (t' := (sh_21 xs f g, 328)) (nc' := 328) (ns' := 208824) sl_0_864 rfl) ?_
  refine Eq.trans (st_call (pc' := 868) (st' := [.int 0]) (nc' := 328) (ns' := 208824) (mi := 312) (av := [.ref 189, .int (xs 1)]) (rest := []) sl_0_865 (fun _ => rfl) (sw_48 xs sio f g) rfl rfl rfl rfl) ?_
  refine Eq.trans (st_go (pc' := 870) (lv' := [(6, .int 0), (5, .int 1), (4, .int 0), (3, .ref 326), (2, .ref 189), (1, .ref 0), (0, .ref 1000000)]) (st' := []) (t' := (sh_22 xs f g, 328)) (nc' := 328) (ns' := 208824) sl_0_868 rfl) ?_
  refine Eq.trans (st_go (pc' := 871) (lv' := [(6, .int 0), (5, .int 1), (4, .int 0), (3, .ref 326), (2, .ref 189), (1, .ref 0), (0, .ref 1000000)]) (st' := [.ref 189]) (t' := (sh_22 xs f g, 328)) (nc' := 328) (ns' := 208824) sl_0_870 rfl) ?_
  refine Eq.trans (st_call (pc' := 874) (st' := [.int 1]) (nc' := 328) (ns' := 208824) (mi := 207) (av := [.ref 189]) (rest := []) sl_0_871 (fun _ => rfl) (sw_49 xs sio f g) rfl rfl rfl rfl) ?_
  refine Eq.trans (st_go (pc' := 876) (lv' := [(6, .int 0), (5, .int 1), (4, .int 0), (3, .ref 326), (2, .ref 189), (1, .ref 0), (0, .ref 1000000)]) (st' := [.int 1, .int 1]) (t' := (sh_22 xs f g, 328)) (nc' := 328) (ns' := 208824) sl_0_874 rfl) ?_
  refine Eq.trans (st_go (pc' := 881) (lv' := [(6, .int 0), (5, .int 1), (4, .int 0), (3, .ref 326), (2, .ref 189), (1, .ref 0), (0, .ref 1000000)]) (st' := []) (t' := (sh_22 xs f g, 328)) (nc' := 328) (ns' := 208824) sl_0_876 rfl) ?_
  refine Eq.trans (st_go (pc' := 883) (lv' := [(6, .int 0), (5, .int 1), (4, .int 0), (3, .ref 326), (2, .ref 189), (1, .ref 0), (0, .ref 1000000)]) (st' := [.int 1]) (t' := (sh_22 xs f g, 328)) (nc' := 328) (ns' := 208824) sl_0_881 rfl) ?_
  refine Eq.trans (st_go (pc' := 898) (lv' := [(6, .int 0), (5, .int 1), (4, .int 0), (3, .ref 326), (2, .ref 189), (1, .ref 0), (0, .ref 1000000)]) (st' := []) (t' := (sh_22 xs f g, 328)) (nc' := 328) (ns' := 208824) sl_0_883 rfl) ?_
  refine Eq.trans (st_go (pc' := 1172) (lv' := [(6, .int 0), (5, .int 1), (4, .int 0), (3, .ref 326), (2, .ref 189), (1, .ref 0), (0, .ref 1000000)]) (st' := []) (t' := (sh_22 xs f g, 328)) (nc' := 328) (ns' := 208824) sl_0_898 rfl) ?_
  refine Eq.trans (st_go (pc' := 1175) (lv' := [(4, .int 6), (6, .int 0), (5, .int 1), (3, .ref 326), (2, .ref 189), (1, .ref 0), (0, .ref 1000000)]) (st' := []) (t' := (sh_22 xs f g, 328)) (nc' := 328) (ns' := 208824) sl_0_1172 rfl) ?_
  refine Eq.trans (st_go (pc' := 23) (lv' := [(4, .int 6), (6, .int 0), (5, .int 1), (3, .ref 326), (2, .ref 189), (1, .ref 0), (0, .ref 1000000)]) (st' := []) (t' := (sh_22 xs f g, 328)) (nc' := 328) (ns' := 208824) sl_0_1175 rfl) ?_
  refine Eq.trans (st_go (pc' := 25) (lv' := [(4, .int 6), (6, .int 0), (5, .int 1), (3, .ref 326), (2, .ref 189), (1, .ref 0), (0, .ref 1000000)]) (st' := [.int 6]) (t' := (sh_22 xs f g, 328)) (nc' := 328) (ns' := 208824) sl_0_23 rfl) ?_
  refine Eq.trans (st_go (pc' := 26) (lv' := [(4, .int 6), (6, .int 0), (5, .int 1), (3, .ref 326), (2, .ref 189), (1, .ref 0), (0, .ref 1000000)]) (st' := [.ref 1000000, .int 6]) (t' := (sh_22 xs f g, 328)) (nc' := 328) (ns' := 208824) sl_0_25 rfl) ?_
  refine Eq.trans (st_go (pc' := 27) (lv' := [(4, .int 6), (6, .int 0), (5, .int 1), (3, .ref 326), (2, .ref 189), (1, .ref 0), (0, .ref 1000000)]) (st' := [.int 6, .int 6]) (t' := (sh_22 xs f g, 328)) (nc' := 328) (ns' := 208824) sl_0_26 rfl) ?_
  refine Eq.trans (st_go (pc' := 29) (lv' := [(4, .int 6), (6, .int 0), (5, .int 1), (3, .ref 326), (2, .ref 189), (1, .ref 0), (0, .ref 1000000)]) (st' := [.int 6, .int 6, .int 6]) (t' := (sh_22 xs f g, 328)) (nc' := 328) (ns' := 208824) sl_0_27 rfl) ?_
  refine Eq.trans (st_go (pc' := 30) (lv' := [(4, .int 6), (6, .int 0), (5, .int 1), (3, .ref 326), (2, .ref 189), (1, .ref 0), (0, .ref 1000000)]) (st' := [.int 0, .int 6]) (t' := (sh_22 xs f g, 328)) (nc' := 328) (ns' := 208824) sl_0_29 rfl) ?_
  refine Eq.trans (st_go (pc' := 1178) (lv' := [(4, .int 6), (6, .int 0), (5, .int 1), (3, .ref 326), (2, .ref 189), (1, .ref 0), (0, .ref 1000000)]) (st' := []) (t' := (sh_22 xs f g, 328)) (nc' := 328) (ns' := 208824) sl_0_30 rfl) ?_
  refine Eq.trans (st_go (pc' := 1179) (lv' := [(4, .int 6), (6, .int 0), (5, .int 1), (3, .ref 326), (2, .ref 189), (1, .ref 0), (0, .ref 1000000)]) (st' := [.int 1]) (t' := (sh_22 xs f g, 328)) (nc' := 328) (ns' := 208824) sl_0_1178 rfl) ?_
  exact st_end sl_0_1179 rfl
set_option maxRecDepth 100000 in
/-- PacketWorks$Pipe.inStages -/
theorem sw_50 (xs : Nat → Int32) (sio : Value) (f : Nat → Nat → Int32) (g : Nat → Nat → Int64) : sC 6 xs sio 15 41 [.ref 185] (sw f g, 327) = some (.inl (some (.int 0)), (sw f g, 327), 0, 0) := by
  refine st_in sg_41 rfl rfl ?_
  refine Eq.trans (st_go (pc' := 1) (lv' := [(0, .ref 185)]) (st' := [.ref 185]) (t' := (sw f g, 327)) (nc' := 0) (ns' := 0) sl_41_0 rfl) ?_
  refine Eq.trans (st_go (pc' := 4) (lv' := [(0, .ref 185)]) (st' := [.int 0]) (t' := (sw f g, 327)) (nc' := 0) (ns' := 0) sl_41_1 rfl) ?_
  refine Eq.trans (st_go (pc' := 5) (lv' := [(0, .ref 185)]) (st' := [.ref 185, .int 0]) (t' := (sw f g, 327)) (nc' := 0) (ns' := 0) sl_41_4 rfl) ?_
  refine Eq.trans (st_go (pc' := 8) (lv' := [(0, .ref 185)]) (st' := [.int 0, .int 0]) (t' := (sw f g, 327)) (nc' := 0) (ns' := 0) sl_41_5 rfl) ?_
  refine Eq.trans (st_go (pc' := 9) (lv' := [(0, .ref 185)]) (st' := [.int 0]) (t' := (sw f g, 327)) (nc' := 0) (ns' := 0) sl_41_8 rfl) ?_
  exact st_end sl_41_9 rfl
set_option maxRecDepth 100000 in
/-- PacketWorks.isLaid -/
theorem sw_51 (xs : Nat → Int32) (sio : Value) (f : Nat → Nat → Int32) (g : Nat → Nat → Int64) : sC 6 xs sio 15 33 [.ref 0] (sw f g, 327) = some (.inl (some (.int 0)), (sw f g, 327), 0, 0) := by
  refine st_in sg_33 rfl rfl ?_
  refine Eq.trans (st_go (pc' := 1) (lv' := [(0, .ref 0)]) (st' := [.ref 0]) (t' := (sw f g, 327)) (nc' := 0) (ns' := 0) sl_33_0 rfl) ?_
  refine Eq.trans (st_go (pc' := 4) (lv' := [(0, .ref 0)]) (st' := [.int 0]) (t' := (sw f g, 327)) (nc' := 0) (ns' := 0) sl_33_1 rfl) ?_
  refine Eq.trans (st_go (pc' := 24) (lv' := [(0, .ref 0)]) (st' := []) (t' := (sw f g, 327)) (nc' := 0) (ns' := 0) sl_33_4 rfl) ?_
  refine Eq.trans (st_go (pc' := 25) (lv' := [(0, .ref 0)]) (st' := [.int 0]) (t' := (sw f g, 327)) (nc' := 0) (ns' := 0) sl_33_24 rfl) ?_
  exact st_end sl_33_25 rfl
set_option maxRecDepth 100000 in
/-- PacketWorks.word -/
theorem sw_52 (xs : Nat → Int32) (sio : Value) (f : Nat → Nat → Int32) (g : Nat → Nat → Int64) : sC 6 xs sio 16 203 [.ref 0, .int (xs 1), .int (xs 2)] (sw f g, 327) = some (.inl (some (.long 0)), (sw f g, 327), 0, 0) := by
  refine st_in sg_203 rfl rfl ?_
  refine Eq.trans (st_go (pc' := 1) (lv' := [(0, .ref 0), (1, .int (xs 1)), (2, .int (xs 2))]) (st' := [.ref 0]) (t' := (sw f g, 327)) (nc' := 0) (ns' := 0) sl_203_0 rfl) ?_
  refine Eq.trans (st_go (pc' := 4) (lv' := [(0, .ref 0), (1, .int (xs 1)), (2, .int (xs 2))]) (st' := [.ref 185]) (t' := (sw f g, 327)) (nc' := 0) (ns' := 0) sl_203_1 rfl) ?_
  refine Eq.trans (st_call (pc' := 7) (st' := [.int 0]) (nc' := 0) (ns' := 0) (mi := 41) (av := [.ref 185]) (rest := []) sl_203_4 (fun _ => rfl) (sw_50 xs sio f g) rfl rfl rfl rfl) ?_
  refine Eq.trans (st_go (pc' := 21) (lv' := [(0, .ref 0), (1, .int (xs 1)), (2, .int (xs 2))]) (st' := []) (t' := (sw f g, 327)) (nc' := 0) (ns' := 0) sl_203_7 rfl) ?_
  refine Eq.trans (st_go (pc' := 22) (lv' := [(0, .ref 0), (1, .int (xs 1)), (2, .int (xs 2))]) (st' := [.ref 0]) (t' := (sw f g, 327)) (nc' := 0) (ns' := 0) sl_203_21 rfl) ?_
  refine Eq.trans (st_call (pc' := 25) (st' := [.int 0]) (nc' := 0) (ns' := 0) (mi := 33) (av := [.ref 0]) (rest := []) sl_203_22 (fun _ => rfl) (sw_51 xs sio f g) rfl rfl rfl rfl) ?_
  refine Eq.trans (st_go (pc' := 60) (lv' := [(0, .ref 0), (1, .int (xs 1)), (2, .int (xs 2))]) (st' := []) (t' := (sw f g, 327)) (nc' := 0) (ns' := 0) sl_203_25 rfl) ?_
  refine Eq.trans (st_go (pc' := 61) (lv' := [(0, .ref 0), (1, .int (xs 1)), (2, .int (xs 2))]) (st' := [.long 0]) (t' := (sw f g, 327)) (nc' := 0) (ns' := 0) sl_203_60 rfl) ?_
  exact st_end sl_203_61 rfl
set_option maxRecDepth 100000 in
/-- PacketWorksLaw.word -/
theorem sw_53 (xs : Nat → Int32) (sio : Value) (f : Nat → Nat → Int32) (g : Nat → Nat → Int64) : sC 6 xs sio 17 202 [.ref 0, .int (xs 1), .int (xs 2), .ref 326] (sw f g, 327) = some (.inl (some (.int 0)), (sh_24 xs f g, 327), 0, 0) := by
  refine st_in sg_202 rfl rfl ?_
  refine Eq.trans (st_go (pc' := 1) (lv' := [(0, .ref 0), (1, .int (xs 1)), (2, .int (xs 2)), (3, .ref 326)]) (st' := [.ref 326]) (t' := (sw f g, 327)) (nc' := 0) (ns' := 0) sl_202_0 rfl) ?_
  refine Eq.trans (st_go (pc' := 2) (lv' := [(0, .ref 0), (1, .int (xs 1)), (2, .int (xs 2)), (3, .ref 326)]) (st' := [.int 0, .ref 326]) (t' := (sw f g, 327)) (nc' := 0) (ns' := 0) sl_202_1 rfl) ?_
  refine Eq.trans (st_go (pc' := 3) (lv' := [(0, .ref 0), (1, .int (xs 1)), (2, .int (xs 2)), (3, .ref 326)]) (st' := [.ref 0, .int 0, .ref 326]) (t' := (sw f g, 327)) (nc' := 0) (ns' := 0) sl_202_2 rfl) ?_
  refine Eq.trans (st_go (pc' := 4) (lv' := [(0, .ref 0), (1, .int (xs 1)), (2, .int (xs 2)), (3, .ref 326)]) (st' := [.int (xs 1), .ref 0, .int 0, .ref 326]) (t' := (sw f g, 327)) (nc' := 0) (ns' := 0) sl_202_3 rfl) ?_
  refine Eq.trans (st_go (pc' := 5) (lv' := [(0, .ref 0), (1, .int (xs 1)), (2, .int (xs 2)), (3, .ref 326)]) (st' := [.int (xs 2), .int (xs 1), .ref 0, .int 0, .ref 326]) (t' := (sw f g, 327)) (nc' := 0) (ns' := 0) sl_202_4 rfl) ?_
  refine Eq.trans (st_call (pc' := 8) (st' := [.long 0, .int 0, .ref 326]) (nc' := 0) (ns' := 0) (mi := 203) (av := [.ref 0, .int (xs 1), .int (xs 2)]) (rest := [.int 0, .ref 326]) sl_202_5 (fun _ => rfl) (sw_52 xs sio f g) rfl rfl rfl rfl) ?_
  refine Eq.trans (st_go (pc' := 9) (lv' := [(0, .ref 0), (1, .int (xs 1)), (2, .int (xs 2)), (3, .ref 326)]) (st' := []) (t' := (sh_24 xs f g, 327)) (nc' := 0) (ns' := 0) sl_202_8 rfl) ?_
  refine Eq.trans (st_go (pc' := 16) (lv' := [(0, .ref 0), (1, .int (xs 1)), (2, .int (xs 2)), (3, .ref 326)]) (st' := []) (t' := (sh_24 xs f g, 327)) (nc' := 0) (ns' := 0) sl_202_9 rfl) ?_
  refine Eq.trans (st_go (pc' := 17) (lv' := [(0, .ref 0), (1, .int (xs 1)), (2, .int (xs 2)), (3, .ref 326)]) (st' := [.int 0]) (t' := (sh_24 xs f g, 327)) (nc' := 0) (ns' := 0) sl_202_16 rfl) ?_
  exact st_end sl_202_17 rfl
set_option maxRecDepth 100000 in
/-- PacketWorksModel.word -/
theorem sw_54 (xs : Nat → Int32) (sio : Value) (f : Nat → Nat → Int32) (g : Nat → Nat → Int64) : sC 6 xs sio 17 346 [.ref 189, .int (xs 1), .int (xs 2)] (sh_24 xs f g, 327) = some (.inl (some (.long 0)), (sh_25 xs f g, 327), 0, 0) := by
  refine st_in sg_346 rfl rfl ?_
  refine Eq.trans (st_go (pc' := 1) (lv' := [(0, .ref 189), (1, .int (xs 1)), (2, .int (xs 2))]) (st' := [.ref 189]) (t' := (sh_24 xs f g, 327)) (nc' := 0) (ns' := 0) sl_346_0 rfl) ?_
  refine Eq.trans (st_go (pc' := 2) (lv' := [(0, .ref 189), (1, .int (xs 1)), (2, .int (xs 2))]) (st' := [.ref 189, .ref 189]) (t' := (sh_24 xs f g, 327)) (nc' := 0) (ns' := 0) sl_346_1 rfl) ?_
  refine Eq.trans (st_go (pc' := 5) (lv' := [(0, .ref 189), (1, .int (xs 1)), (2, .int (xs 2))]) (st' := [.int 0, .ref 189]) (t' := (sh_24 xs f g, 327)) (nc' := 0) (ns' := 0) sl_346_2 rfl) ?_
  refine Eq.trans (st_go (pc' := 6) (lv' := [(0, .ref 189), (1, .int (xs 1)), (2, .int (xs 2))]) (st' := [.ref 189, .int 0, .ref 189]) (t' := (sh_24 xs f g, 327)) (nc' := 0) (ns' := 0) sl_346_5 rfl) ?_
  refine Eq.trans (st_go (pc' := 9) (lv' := [(0, .ref 189), (1, .int (xs 1)), (2, .int (xs 2))]) (st' := [.int 0, .int 0, .ref 189]) (t' := (sh_24 xs f g, 327)) (nc' := 0) (ns' := 0) sl_346_6 rfl) ?_
  refine Eq.trans (st_go (pc' := 16) (lv' := [(0, .ref 189), (1, .int (xs 1)), (2, .int (xs 2))]) (st' := [.ref 189]) (t' := (sh_24 xs f g, 327)) (nc' := 0) (ns' := 0) sl_346_9 rfl) ?_
  refine Eq.trans (st_go (pc' := 17) (lv' := [(0, .ref 189), (1, .int (xs 1)), (2, .int (xs 2))]) (st' := [.int 0, .ref 189]) (t' := (sh_24 xs f g, 327)) (nc' := 0) (ns' := 0) sl_346_16 rfl) ?_
  refine Eq.trans (st_go (pc' := 20) (lv' := [(0, .ref 189), (1, .int (xs 1)), (2, .int (xs 2))]) (st' := []) (t' := (sh_25 xs f g, 327)) (nc' := 0) (ns' := 0) sl_346_17 rfl) ?_
  refine Eq.trans (st_go (pc' := 21) (lv' := [(0, .ref 189), (1, .int (xs 1)), (2, .int (xs 2))]) (st' := [.ref 189]) (t' := (sh_25 xs f g, 327)) (nc' := 0) (ns' := 0) sl_346_20 rfl) ?_
  refine Eq.trans (st_go (pc' := 24) (lv' := [(0, .ref 189), (1, .int (xs 1)), (2, .int (xs 2))]) (st' := [.int 0]) (t' := (sh_25 xs f g, 327)) (nc' := 0) (ns' := 0) sl_346_21 rfl) ?_
  refine Eq.trans (st_go (pc' := 27) (lv' := [(0, .ref 189), (1, .int (xs 1)), (2, .int (xs 2))]) (st' := []) (t' := (sh_25 xs f g, 327)) (nc' := 0) (ns' := 0) sl_346_24 rfl) ?_
  refine Eq.trans (st_go (pc' := 28) (lv' := [(0, .ref 189), (1, .int (xs 1)), (2, .int (xs 2))]) (st' := [.ref 189]) (t' := (sh_25 xs f g, 327)) (nc' := 0) (ns' := 0) sl_346_27 rfl) ?_
  refine Eq.trans (st_go (pc' := 31) (lv' := [(0, .ref 189), (1, .int (xs 1)), (2, .int (xs 2))]) (st' := [.int 0]) (t' := (sh_25 xs f g, 327)) (nc' := 0) (ns' := 0) sl_346_28 rfl) ?_
  refine Eq.trans (st_go (pc' := 73) (lv' := [(0, .ref 189), (1, .int (xs 1)), (2, .int (xs 2))]) (st' := []) (t' := (sh_25 xs f g, 327)) (nc' := 0) (ns' := 0) sl_346_31 rfl) ?_
  refine Eq.trans (st_go (pc' := 74) (lv' := [(0, .ref 189), (1, .int (xs 1)), (2, .int (xs 2))]) (st' := [.long 0]) (t' := (sh_25 xs f g, 327)) (nc' := 0) (ns' := 0) sl_346_73 rfl) ?_
  exact st_end sl_346_74 rfl
set_option maxRecDepth 100000 in
/-- PacketWorksModel.thrown -/
theorem sw_55 (xs : Nat → Int32) (sio : Value) (f : Nat → Nat → Int32) (g : Nat → Nat → Int64) : sC 6 xs sio 17 207 [.ref 189] (sh_25 xs f g, 327) = some (.inl (some (.int 0)), (sh_25 xs f g, 327), 0, 0) := by
  refine st_in sg_207 rfl rfl ?_
  refine Eq.trans (st_go (pc' := 1) (lv' := [(0, .ref 189)]) (st' := [.ref 189]) (t' := (sh_25 xs f g, 327)) (nc' := 0) (ns' := 0) sl_207_0 rfl) ?_
  refine Eq.trans (st_go (pc' := 4) (lv' := [(0, .ref 189)]) (st' := [.int 0]) (t' := (sh_25 xs f g, 327)) (nc' := 0) (ns' := 0) sl_207_1 rfl) ?_
  exact st_end sl_207_4 rfl
set_option maxRecDepth 100000 in
theorem so_17 (xs : Nat → Int32) (sio : Value) (f : Nat → Nat → Int32) (g : Nat → Nat → Int64) (n : Nat) (hn : 51 ≤ n) : sR 6 xs sio 17 pm_0 n (40, [(4, .int 0), (3, .ref 326), (2, .ref 189), (1, .ref 0), (0, .ref 1000000)], [.int 17], (sw f g, 327), 327, 208818) = some (.inl (some (.int 1)), (sh_25 xs f g, 327), 327, 208818) := by
  obtain ⟨m, rfl⟩ : ∃ m, n = m + 51 := ⟨n - 51, by omega⟩
  refine Eq.trans (st_go (pc' := 1012) (lv' := [(4, .int 0), (3, .ref 326), (2, .ref 189), (1, .ref 0), (0, .ref 1000000)]) (st' := []) (t' := (sw f g, 327)) (nc' := 327) (ns' := 208818) sl_0_40 rfl) ?_
  refine Eq.trans (st_go (pc' := 1013) (lv' := [(4, .int 0), (3, .ref 326), (2, .ref 189), (1, .ref 0), (0, .ref 1000000)]) (st' := [.ref 0]) (t' := (sw f g, 327)) (nc' := 327) (ns' := 208818) sl_0_1012 rfl) ?_
  refine Eq.trans (st_go (pc' := 1014) (lv' := [(4, .int 0), (3, .ref 326), (2, .ref 189), (1, .ref 0), (0, .ref 1000000)]) (st' := [.ref 1000000, .ref 0]) (t' := (sw f g, 327)) (nc' := 327) (ns' := 208818) sl_0_1013 rfl) ?_
  refine Eq.trans (st_go (pc' := 1016) (lv' := [(4, .int 0), (3, .ref 326), (2, .ref 189), (1, .ref 0), (0, .ref 1000000)]) (st' := [.int 0, .ref 1000000, .ref 0]) (t' := (sw f g, 327)) (nc' := 327) (ns' := 208818) sl_0_1014 rfl) ?_
  refine Eq.trans (st_go (pc' := 1017) (lv' := [(4, .int 0), (3, .ref 326), (2, .ref 189), (1, .ref 0), (0, .ref 1000000)]) (st' := [.int 1, .int 0, .ref 1000000, .ref 0]) (t' := (sw f g, 327)) (nc' := 327) (ns' := 208818) sl_0_1016 rfl) ?_
  refine Eq.trans (st_go (pc' := 1018) (lv' := [(4, .int 0), (3, .ref 326), (2, .ref 189), (1, .ref 0), (0, .ref 1000000)]) (st' := [.int 1, .ref 1000000, .ref 0]) (t' := (sw f g, 327)) (nc' := 327) (ns' := 208818) sl_0_1017 rfl) ?_
  refine Eq.trans (st_go (pc' := 1019) (lv' := [(4, .int 0), (3, .ref 326), (2, .ref 189), (1, .ref 0), (0, .ref 1000000)]) (st' := [.int (xs 1), .ref 0]) (t' := (sw f g, 327)) (nc' := 327) (ns' := 208818) sl_0_1018 rfl) ?_
  refine Eq.trans (st_go (pc' := 1020) (lv' := [(4, .int 0), (3, .ref 326), (2, .ref 189), (1, .ref 0), (0, .ref 1000000)]) (st' := [.ref 1000000, .int (xs 1), .ref 0]) (t' := (sw f g, 327)) (nc' := 327) (ns' := 208818) sl_0_1019 rfl) ?_
  refine Eq.trans (st_go (pc' := 1022) (lv' := [(4, .int 0), (3, .ref 326), (2, .ref 189), (1, .ref 0), (0, .ref 1000000)]) (st' := [.int 0, .ref 1000000, .int (xs 1), .ref 0]) (t' := (sw f g, 327)) (nc' := 327) (ns' := 208818) sl_0_1020 rfl) ?_
  refine Eq.trans (st_go (pc' := 1023) (lv' := [(4, .int 0), (3, .ref 326), (2, .ref 189), (1, .ref 0), (0, .ref 1000000)]) (st' := [.int 2, .int 0, .ref 1000000, .int (xs 1), .ref 0]) (t' := (sw f g, 327)) (nc' := 327) (ns' := 208818) sl_0_1022 rfl) ?_
  refine Eq.trans (st_go (pc' := 1024) (lv' := [(4, .int 0), (3, .ref 326), (2, .ref 189), (1, .ref 0), (0, .ref 1000000)]) (st' := [.int 2, .ref 1000000, .int (xs 1), .ref 0]) (t' := (sw f g, 327)) (nc' := 327) (ns' := 208818) sl_0_1023 rfl) ?_
  refine Eq.trans (st_go (pc' := 1025) (lv' := [(4, .int 0), (3, .ref 326), (2, .ref 189), (1, .ref 0), (0, .ref 1000000)]) (st' := [.int (xs 2), .int (xs 1), .ref 0]) (t' := (sw f g, 327)) (nc' := 327) (ns' := 208818) sl_0_1024 rfl) ?_
  refine Eq.trans (st_go (pc' := 1026) (lv' := [(4, .int 0), (3, .ref 326), (2, .ref 189), (1, .ref 0), (0, .ref 1000000)]) (st' := [.ref 326, .int (xs 2), .int (xs 1), .ref 0]) (t' := (sw f g, 327)) (nc' := 327) (ns' := 208818) sl_0_1025 rfl) ?_
  refine Eq.trans (st_call (pc' := 1029) (st' := [.int 0]) (nc' := 327) (ns' := 208818) (mi := 202) (av := [.ref 0, .int (xs 1), .int (xs 2), .ref 326]) (rest := []) sl_0_1026 (fun _ => rfl) (sw_53 xs sio f g) rfl rfl rfl rfl) ?_
  refine Eq.trans (st_go (pc' := 1031) (lv' := [(5, .int 0), (4, .int 0), (3, .ref 326), (2, .ref 189), (1, .ref 0), (0, .ref 1000000)]) (st' := []) (t' := (sh_24 xs f g, 327)) (nc' := 327) (ns' := 208818) sl_0_1029 rfl) ?_
  refine Eq.trans (st_go (pc' := 1032) (lv' := [(5, .int 0), (4, .int 0), (3, .ref 326), (2, .ref 189), (1, .ref 0), (0, .ref 1000000)]) (st' := [.ref 189]) (t' := (sh_24 xs f g, 327)) (nc' := 327) (ns' := 208818) sl_0_1031 rfl) ?_
  refine Eq.trans (st_go (pc' := 1033) (lv' := [(5, .int 0), (4, .int 0), (3, .ref 326), (2, .ref 189), (1, .ref 0), (0, .ref 1000000)]) (st' := [.ref 1000000, .ref 189]) (t' := (sh_24 xs f g, 327)) (nc' := 327) (ns' := 208818) sl_0_1032 rfl) ?_
  refine Eq.trans (st_go (pc' := 1035) (lv' := [(5, .int 0), (4, .int 0), (3, .ref 326), (2, .ref 189), (1, .ref 0), (0, .ref 1000000)]) (st' := [.int 0, .ref 1000000, .ref 189]) (t' := (sh_24 xs f g, 327)) (nc' := 327) (ns' := 208818) sl_0_1033 rfl) ?_
  refine Eq.trans (st_go (pc' := 1036) (lv' := [(5, .int 0), (4, .int 0), (3, .ref 326), (2, .ref 189), (1, .ref 0), (0, .ref 1000000)]) (st' := [.int 1, .int 0, .ref 1000000, .ref 189]) (t' := (sh_24 xs f g, 327)) (nc' := 327) (ns' := 208818) sl_0_1035 rfl) ?_
  refine Eq.trans (st_go (pc' := 1037) (lv' := [(5, .int 0), (4, .int 0), (3, .ref 326), (2, .ref 189), (1, .ref 0), (0, .ref 1000000)]) (st' := [.int 1, .ref 1000000, .ref 189]) (t' := (sh_24 xs f g, 327)) (nc' := 327) (ns' := 208818) sl_0_1036 rfl) ?_
  refine Eq.trans (st_go (pc' := 1038) (lv' := [(5, .int 0), (4, .int 0), (3, .ref 326), (2, .ref 189), (1, .ref 0), (0, .ref 1000000)]) (st' := [.int (xs 1), .ref 189]) (t' := (sh_24 xs f g, 327)) (nc' := 327) (ns' := 208818) sl_0_1037 rfl) ?_
  refine Eq.trans (st_go (pc' := 1039) (lv' := [(5, .int 0), (4, .int 0), (3, .ref 326), (2, .ref 189), (1, .ref 0), (0, .ref 1000000)]) (st' := [.ref 1000000, .int (xs 1), .ref 189]) (t' := (sh_24 xs f g, 327)) (nc' := 327) (ns' := 208818) sl_0_1038 rfl) ?_
  refine Eq.trans (st_go (pc' := 1041) (lv' := [(5, .int 0), (4, .int 0), (3, .ref 326), (2, .ref 189), (1, .ref 0), (0, .ref 1000000)]) (st' := [.int 0, .ref 1000000, .int (xs 1), .ref 189]) (t' := (sh_24 xs f g, 327)) (nc' := 327) (ns' := 208818) sl_0_1039 rfl) ?_
  refine Eq.trans (st_go (pc' := 1042) (lv' := [(5, .int 0), (4, .int 0), (3, .ref 326), (2, .ref 189), (1, .ref 0), (0, .ref 1000000)]) (st' := [.int 2, .int 0, .ref 1000000, .int (xs 1), .ref 189]) (t' := (sh_24 xs f g, 327)) (nc' := 327) (ns' := 208818) sl_0_1041 rfl) ?_
  refine Eq.trans (st_go (pc' := 1043) (lv' := [(5, .int 0), (4, .int 0), (3, .ref 326), (2, .ref 189), (1, .ref 0), (0, .ref 1000000)]) (st' := [.int 2, .ref 1000000, .int (xs 1), .ref 189]) (t' := (sh_24 xs f g, 327)) (nc' := 327) (ns' := 208818) sl_0_1042 rfl) ?_
  refine Eq.trans (st_go (pc' := 1044) (lv' := [(5, .int 0), (4, .int 0), (3, .ref 326), (2, .ref 189), (1, .ref 0), (0, .ref 1000000)]) (st' := [.int (xs 2), .int (xs 1), .ref 189]) (t' := (sh_24 xs f g, 327)) (nc' := 327) (ns' := 208818) sl_0_1043 rfl) ?_
  refine Eq.trans (st_call (pc' := 1047) (st' := [.long 0]) (nc' := 327) (ns' := 208818) (mi := 346) (av := [.ref 189, .int (xs 1), .int (xs 2)]) (rest := []) sl_0_1044 (fun _ => rfl) (sw_54 xs sio f g) rfl rfl rfl rfl) ?_
  refine Eq.trans (st_go (pc' := 1049) (lv' := [(6, .long 0), (5, .int 0), (4, .int 0), (3, .ref 326), (2, .ref 189), (1, .ref 0), (0, .ref 1000000)]) (st' := []) (t' := (sh_25 xs f g, 327)) (nc' := 327) (ns' := 208818) sl_0_1047 rfl) ?_
  refine Eq.trans (st_go (pc' := 1050) (lv' := [(6, .long 0), (5, .int 0), (4, .int 0), (3, .ref 326), (2, .ref 189), (1, .ref 0), (0, .ref 1000000)]) (st' := [.ref 189]) (t' := (sh_25 xs f g, 327)) (nc' := 327) (ns' := 208818) sl_0_1049 rfl) ?_
  refine Eq.trans (st_call (pc' := 1053) (st' := [.int 0]) (nc' := 327) (ns' := 208818) (mi := 207) (av := [.ref 189]) (rest := []) sl_0_1050 (fun _ => rfl) (sw_55 xs sio f g) rfl rfl rfl rfl) ?_
  refine Eq.trans (st_go (pc' := 1055) (lv' := [(6, .long 0), (5, .int 0), (4, .int 0), (3, .ref 326), (2, .ref 189), (1, .ref 0), (0, .ref 1000000)]) (st' := [.int 0, .int 0]) (t' := (sh_25 xs f g, 327)) (nc' := 327) (ns' := 208818) sl_0_1053 rfl) ?_
  refine Eq.trans (st_go (pc' := 1060) (lv' := [(6, .long 0), (5, .int 0), (4, .int 0), (3, .ref 326), (2, .ref 189), (1, .ref 0), (0, .ref 1000000)]) (st' := []) (t' := (sh_25 xs f g, 327)) (nc' := 327) (ns' := 208818) sl_0_1055 rfl) ?_
  refine Eq.trans (st_go (pc' := 1062) (lv' := [(6, .long 0), (5, .int 0), (4, .int 0), (3, .ref 326), (2, .ref 189), (1, .ref 0), (0, .ref 1000000)]) (st' := [.int 0]) (t' := (sh_25 xs f g, 327)) (nc' := 327) (ns' := 208818) sl_0_1060 rfl) ?_
  refine Eq.trans (st_go (pc' := 1065) (lv' := [(6, .long 0), (5, .int 0), (4, .int 0), (3, .ref 326), (2, .ref 189), (1, .ref 0), (0, .ref 1000000)]) (st' := []) (t' := (sh_25 xs f g, 327)) (nc' := 327) (ns' := 208818) sl_0_1062 rfl) ?_
  refine Eq.trans (st_go (pc' := 1066) (lv' := [(6, .long 0), (5, .int 0), (4, .int 0), (3, .ref 326), (2, .ref 189), (1, .ref 0), (0, .ref 1000000)]) (st' := [.ref 326]) (t' := (sh_25 xs f g, 327)) (nc' := 327) (ns' := 208818) sl_0_1065 rfl) ?_
  refine Eq.trans (st_go (pc' := 1067) (lv' := [(6, .long 0), (5, .int 0), (4, .int 0), (3, .ref 326), (2, .ref 189), (1, .ref 0), (0, .ref 1000000)]) (st' := [.int 0, .ref 326]) (t' := (sh_25 xs f g, 327)) (nc' := 327) (ns' := 208818) sl_0_1066 rfl) ?_
  refine Eq.trans (st_go (pc' := 1068) (lv' := [(6, .long 0), (5, .int 0), (4, .int 0), (3, .ref 326), (2, .ref 189), (1, .ref 0), (0, .ref 1000000)]) (st' := [.long 0]) (t' := (sh_25 xs f g, 327)) (nc' := 327) (ns' := 208818) sl_0_1067 rfl) ?_
  refine Eq.trans (st_go (pc' := 1070) (lv' := [(6, .long 0), (5, .int 0), (4, .int 0), (3, .ref 326), (2, .ref 189), (1, .ref 0), (0, .ref 1000000)]) (st' := [.long 0, .long 0]) (t' := (sh_25 xs f g, 327)) (nc' := 327) (ns' := 208818) sl_0_1068 rfl) ?_
  refine Eq.trans (st_go (pc' := 1071) (lv' := [(6, .long 0), (5, .int 0), (4, .int 0), (3, .ref 326), (2, .ref 189), (1, .ref 0), (0, .ref 1000000)]) (st' := [.int 0]) (t' := (sh_25 xs f g, 327)) (nc' := 327) (ns' := 208818) sl_0_1070 rfl) ?_
  refine Eq.trans (st_go (pc' := 1076) (lv' := [(6, .long 0), (5, .int 0), (4, .int 0), (3, .ref 326), (2, .ref 189), (1, .ref 0), (0, .ref 1000000)]) (st' := []) (t' := (sh_25 xs f g, 327)) (nc' := 327) (ns' := 208818) sl_0_1071 rfl) ?_
  refine Eq.trans (st_go (pc' := 1172) (lv' := [(6, .long 0), (5, .int 0), (4, .int 0), (3, .ref 326), (2, .ref 189), (1, .ref 0), (0, .ref 1000000)]) (st' := []) (t' := (sh_25 xs f g, 327)) (nc' := 327) (ns' := 208818) sl_0_1076 rfl) ?_
  refine Eq.trans (st_go (pc' := 1175) (lv' := [(4, .int 6), (6, .long 0), (5, .int 0), (3, .ref 326), (2, .ref 189), (1, .ref 0), (0, .ref 1000000)]) (st' := []) (t' := (sh_25 xs f g, 327)) (nc' := 327) (ns' := 208818) sl_0_1172 rfl) ?_
  refine Eq.trans (st_go (pc' := 23) (lv' := [(4, .int 6), (6, .long 0), (5, .int 0), (3, .ref 326), (2, .ref 189), (1, .ref 0), (0, .ref 1000000)]) (st' := []) (t' := (sh_25 xs f g, 327)) (nc' := 327) (ns' := 208818) sl_0_1175 rfl) ?_
  refine Eq.trans (st_go (pc' := 25) (lv' := [(4, .int 6), (6, .long 0), (5, .int 0), (3, .ref 326), (2, .ref 189), (1, .ref 0), (0, .ref 1000000)]) (st' := [.int 6]) (t' := (sh_25 xs f g, 327)) (nc' := 327) (ns' := 208818) sl_0_23 rfl) ?_
  refine Eq.trans (st_go (pc' := 26) (lv' := [(4, .int 6), (6, .long 0), (5, .int 0), (3, .ref 326), (2, .ref 189), (1, .ref 0), (0, .ref 1000000)]) (st' := [.ref 1000000, .int 6]) (t' := (sh_25 xs f g, 327)) (nc' := 327) (ns' := 208818) sl_0_25 rfl) ?_
  refine Eq.trans (st_go (pc' := 27) (lv' := [(4, .int 6), (6, .long 0), (5, .int 0), (3, .ref 326), (2, .ref 189), (1, .ref 0), (0, .ref 1000000)]) (st' := [.int 6, .int 6]) (t' := (sh_25 xs f g, 327)) (nc' := 327) (ns' := 208818) sl_0_26 rfl) ?_
  refine Eq.trans (st_go (pc' := 29) (lv' := [(4, .int 6), (6, .long 0), (5, .int 0), (3, .ref 326), (2, .ref 189), (1, .ref 0), (0, .ref 1000000)]) (st' := [.int 6, .int 6, .int 6]) (t' := (sh_25 xs f g, 327)) (nc' := 327) (ns' := 208818) sl_0_27 rfl) ?_
  refine Eq.trans (st_go (pc' := 30) (lv' := [(4, .int 6), (6, .long 0), (5, .int 0), (3, .ref 326), (2, .ref 189), (1, .ref 0), (0, .ref 1000000)]) (st' := [.int 0, .int 6]) (t' := (sh_25 xs f g, 327)) (nc' := 327) (ns' := 208818) sl_0_29 rfl) ?_
  refine Eq.trans (st_go (pc' := 1178) (lv' := [(4, .int 6), (6, .long 0), (5, .int 0), (3, .ref 326), (2, .ref 189), (1, .ref 0), (0, .ref 1000000)]) (st' := []) (t' := (sh_25 xs f g, 327)) (nc' := 327) (ns' := 208818) sl_0_30 rfl) ?_
  refine Eq.trans (st_go (pc' := 1179) (lv' := [(4, .int 6), (6, .long 0), (5, .int 0), (3, .ref 326), (2, .ref 189), (1, .ref 0), (0, .ref 1000000)]) (st' := [.int 1]) (t' := (sh_25 xs f g, 327)) (nc' := 327) (ns' := 208818) sl_0_1178 rfl) ?_
  exact st_end sl_0_1179 rfl
set_option maxRecDepth 100000 in
/-- PacketWorks$Pipe.inStages -/
theorem sw_56 (xs : Nat → Int32) (sio : Value) (f : Nat → Nat → Int32) (g : Nat → Nat → Int64) : sC 6 xs sio 15 41 [.ref 185] (sw f g, 327) = some (.inl (some (.int 0)), (sw f g, 327), 0, 0) := by
  refine st_in sg_41 rfl rfl ?_
  refine Eq.trans (st_go (pc' := 1) (lv' := [(0, .ref 185)]) (st' := [.ref 185]) (t' := (sw f g, 327)) (nc' := 0) (ns' := 0) sl_41_0 rfl) ?_
  refine Eq.trans (st_go (pc' := 4) (lv' := [(0, .ref 185)]) (st' := [.int 0]) (t' := (sw f g, 327)) (nc' := 0) (ns' := 0) sl_41_1 rfl) ?_
  refine Eq.trans (st_go (pc' := 5) (lv' := [(0, .ref 185)]) (st' := [.ref 185, .int 0]) (t' := (sw f g, 327)) (nc' := 0) (ns' := 0) sl_41_4 rfl) ?_
  refine Eq.trans (st_go (pc' := 8) (lv' := [(0, .ref 185)]) (st' := [.int 0, .int 0]) (t' := (sw f g, 327)) (nc' := 0) (ns' := 0) sl_41_5 rfl) ?_
  refine Eq.trans (st_go (pc' := 9) (lv' := [(0, .ref 185)]) (st' := [.int 0]) (t' := (sw f g, 327)) (nc' := 0) (ns' := 0) sl_41_8 rfl) ?_
  exact st_end sl_41_9 rfl
set_option maxRecDepth 100000 in
/-- PacketWorks.isTable -/
theorem sw_57 (xs : Nat → Int32) (sio : Value) (f : Nat → Nat → Int32) (g : Nat → Nat → Int64) : sC 6 xs sio 15 172 [.ref 0, .int (xs 1)] (sw f g, 327) = some (.inl (some (.int 0)), (sw f g, 327), 0, 0) := by
  refine st_in sg_172 rfl rfl ?_
  refine Eq.trans (st_go (pc' := 1) (lv' := [(0, .ref 0), (1, .int (xs 1))]) (st' := [.ref 0]) (t' := (sw f g, 327)) (nc' := 0) (ns' := 0) sl_172_0 rfl) ?_
  refine Eq.trans (st_go (pc' := 4) (lv' := [(0, .ref 0), (1, .int (xs 1))]) (st' := [.int 0]) (t' := (sw f g, 327)) (nc' := 0) (ns' := 0) sl_172_1 rfl) ?_
  refine Eq.trans (st_go (pc' := 26) (lv' := [(0, .ref 0), (1, .int (xs 1))]) (st' := []) (t' := (sw f g, 327)) (nc' := 0) (ns' := 0) sl_172_4 rfl) ?_
  refine Eq.trans (st_go (pc' := 27) (lv' := [(0, .ref 0), (1, .int (xs 1))]) (st' := [.int 0]) (t' := (sw f g, 327)) (nc' := 0) (ns' := 0) sl_172_26 rfl) ?_
  exact st_end sl_172_27 rfl
set_option maxRecDepth 100000 in
/-- PacketWorks.entries -/
theorem sw_58 (xs : Nat → Int32) (sio : Value) (f : Nat → Nat → Int32) (g : Nat → Nat → Int64) : sC 6 xs sio 16 205 [.ref 0, .int (xs 1), .int (xs 2)] (sw f g, 327) = some (.inl (some (.int (-1))), (sw f g, 327), 0, 0) := by
  refine st_in sg_205 rfl rfl ?_
  refine Eq.trans (st_go (pc' := 1) (lv' := [(0, .ref 0), (1, .int (xs 1)), (2, .int (xs 2))]) (st' := [.ref 0]) (t' := (sw f g, 327)) (nc' := 0) (ns' := 0) sl_205_0 rfl) ?_
  refine Eq.trans (st_go (pc' := 4) (lv' := [(0, .ref 0), (1, .int (xs 1)), (2, .int (xs 2))]) (st' := [.ref 185]) (t' := (sw f g, 327)) (nc' := 0) (ns' := 0) sl_205_1 rfl) ?_
  refine Eq.trans (st_call (pc' := 7) (st' := [.int 0]) (nc' := 0) (ns' := 0) (mi := 41) (av := [.ref 185]) (rest := []) sl_205_4 (fun _ => rfl) (sw_56 xs sio f g) rfl rfl rfl rfl) ?_
  refine Eq.trans (st_go (pc' := 21) (lv' := [(0, .ref 0), (1, .int (xs 1)), (2, .int (xs 2))]) (st' := []) (t' := (sw f g, 327)) (nc' := 0) (ns' := 0) sl_205_7 rfl) ?_
  refine Eq.trans (st_go (pc' := 22) (lv' := [(0, .ref 0), (1, .int (xs 1)), (2, .int (xs 2))]) (st' := [.ref 0]) (t' := (sw f g, 327)) (nc' := 0) (ns' := 0) sl_205_21 rfl) ?_
  refine Eq.trans (st_go (pc' := 23) (lv' := [(0, .ref 0), (1, .int (xs 1)), (2, .int (xs 2))]) (st' := [.int (xs 1), .ref 0]) (t' := (sw f g, 327)) (nc' := 0) (ns' := 0) sl_205_22 rfl) ?_
  refine Eq.trans (st_call (pc' := 26) (st' := [.int 0]) (nc' := 0) (ns' := 0) (mi := 172) (av := [.ref 0, .int (xs 1)]) (rest := []) sl_205_23 (fun _ => rfl) (sw_57 xs sio f g) rfl rfl rfl rfl) ?_
  refine Eq.trans (st_go (pc' := 29) (lv' := [(0, .ref 0), (1, .int (xs 1)), (2, .int (xs 2))]) (st' := []) (t' := (sw f g, 327)) (nc' := 0) (ns' := 0) sl_205_26 rfl) ?_
  refine Eq.trans (st_go (pc' := 30) (lv' := [(0, .ref 0), (1, .int (xs 1)), (2, .int (xs 2))]) (st' := [.int (-1)]) (t' := (sw f g, 327)) (nc' := 0) (ns' := 0) sl_205_29 rfl) ?_
  exact st_end sl_205_30 rfl
set_option maxRecDepth 100000 in
/-- PacketWorksLaw.entries -/
theorem sw_59 (xs : Nat → Int32) (sio : Value) (f : Nat → Nat → Int32) (g : Nat → Nat → Int64) : sC 6 xs sio 17 204 [.ref 0, .int (xs 1), .int (xs 2), .ref 326] (sw f g, 327) = some (.inl (some (.int 0)), (sh_27 xs f g, 327), 0, 0) := by
  refine st_in sg_204 rfl rfl ?_
  refine Eq.trans (st_go (pc' := 1) (lv' := [(0, .ref 0), (1, .int (xs 1)), (2, .int (xs 2)), (3, .ref 326)]) (st' := [.ref 326]) (t' := (sw f g, 327)) (nc' := 0) (ns' := 0) sl_204_0 rfl) ?_
  refine Eq.trans (st_go (pc' := 2) (lv' := [(0, .ref 0), (1, .int (xs 1)), (2, .int (xs 2)), (3, .ref 326)]) (st' := [.int 0, .ref 326]) (t' := (sw f g, 327)) (nc' := 0) (ns' := 0) sl_204_1 rfl) ?_
  refine Eq.trans (st_go (pc' := 3) (lv' := [(0, .ref 0), (1, .int (xs 1)), (2, .int (xs 2)), (3, .ref 326)]) (st' := [.ref 0, .int 0, .ref 326]) (t' := (sw f g, 327)) (nc' := 0) (ns' := 0) sl_204_2 rfl) ?_
  refine Eq.trans (st_go (pc' := 4) (lv' := [(0, .ref 0), (1, .int (xs 1)), (2, .int (xs 2)), (3, .ref 326)]) (st' := [.int (xs 1), .ref 0, .int 0, .ref 326]) (t' := (sw f g, 327)) (nc' := 0) (ns' := 0) sl_204_3 rfl) ?_
  refine Eq.trans (st_go (pc' := 5) (lv' := [(0, .ref 0), (1, .int (xs 1)), (2, .int (xs 2)), (3, .ref 326)]) (st' := [.int (xs 2), .int (xs 1), .ref 0, .int 0, .ref 326]) (t' := (sw f g, 327)) (nc' := 0) (ns' := 0) sl_204_4 rfl) ?_
  refine Eq.trans (st_call (pc' := 8) (st' := [.int (-1), .int 0, .ref 326]) (nc' := 0) (ns' := 0) (mi := 205) (av := [.ref 0, .int (xs 1), .int (xs 2)]) (rest := [.int 0, .ref 326]) sl_204_5 (fun _ => rfl) (sw_58 xs sio f g) rfl rfl rfl rfl) ?_
  refine Eq.trans (st_go (pc' := 9) (lv' := [(0, .ref 0), (1, .int (xs 1)), (2, .int (xs 2)), (3, .ref 326)]) (st' := [.long (-1), .int 0, .ref 326]) (t' := (sw f g, 327)) (nc' := 0) (ns' := 0) sl_204_8 rfl) ?_
  refine Eq.trans (st_go (pc' := 10) (lv' := [(0, .ref 0), (1, .int (xs 1)), (2, .int (xs 2)), (3, .ref 326)]) (st' := []) (t' := (sh_27 xs f g, 327)) (nc' := 0) (ns' := 0) sl_204_9 rfl) ?_
  refine Eq.trans (st_go (pc' := 17) (lv' := [(0, .ref 0), (1, .int (xs 1)), (2, .int (xs 2)), (3, .ref 326)]) (st' := []) (t' := (sh_27 xs f g, 327)) (nc' := 0) (ns' := 0) sl_204_10 rfl) ?_
  refine Eq.trans (st_go (pc' := 18) (lv' := [(0, .ref 0), (1, .int (xs 1)), (2, .int (xs 2)), (3, .ref 326)]) (st' := [.int 0]) (t' := (sh_27 xs f g, 327)) (nc' := 0) (ns' := 0) sl_204_17 rfl) ?_
  exact st_end sl_204_18 rfl
set_option maxRecDepth 100000 in
/-- PacketWorksModel.entries -/
theorem sw_60 (xs : Nat → Int32) (sio : Value) (f : Nat → Nat → Int32) (g : Nat → Nat → Int64) : sC 6 xs sio 17 347 [.ref 189, .int (xs 1), .int (xs 2)] (sh_27 xs f g, 327) = some (.inl (some (.int (-1))), (sh_28 xs f g, 327), 0, 0) := by
  refine st_in sg_347 rfl rfl ?_
  refine Eq.trans (st_go (pc' := 1) (lv' := [(0, .ref 189), (1, .int (xs 1)), (2, .int (xs 2))]) (st' := [.ref 189]) (t' := (sh_27 xs f g, 327)) (nc' := 0) (ns' := 0) sl_347_0 rfl) ?_
  refine Eq.trans (st_go (pc' := 2) (lv' := [(0, .ref 189), (1, .int (xs 1)), (2, .int (xs 2))]) (st' := [.ref 189, .ref 189]) (t' := (sh_27 xs f g, 327)) (nc' := 0) (ns' := 0) sl_347_1 rfl) ?_
  refine Eq.trans (st_go (pc' := 5) (lv' := [(0, .ref 189), (1, .int (xs 1)), (2, .int (xs 2))]) (st' := [.int 0, .ref 189]) (t' := (sh_27 xs f g, 327)) (nc' := 0) (ns' := 0) sl_347_2 rfl) ?_
  refine Eq.trans (st_go (pc' := 6) (lv' := [(0, .ref 189), (1, .int (xs 1)), (2, .int (xs 2))]) (st' := [.ref 189, .int 0, .ref 189]) (t' := (sh_27 xs f g, 327)) (nc' := 0) (ns' := 0) sl_347_5 rfl) ?_
  refine Eq.trans (st_go (pc' := 9) (lv' := [(0, .ref 189), (1, .int (xs 1)), (2, .int (xs 2))]) (st' := [.int 0, .int 0, .ref 189]) (t' := (sh_27 xs f g, 327)) (nc' := 0) (ns' := 0) sl_347_6 rfl) ?_
  refine Eq.trans (st_go (pc' := 16) (lv' := [(0, .ref 189), (1, .int (xs 1)), (2, .int (xs 2))]) (st' := [.ref 189]) (t' := (sh_27 xs f g, 327)) (nc' := 0) (ns' := 0) sl_347_9 rfl) ?_
  refine Eq.trans (st_go (pc' := 17) (lv' := [(0, .ref 189), (1, .int (xs 1)), (2, .int (xs 2))]) (st' := [.int 0, .ref 189]) (t' := (sh_27 xs f g, 327)) (nc' := 0) (ns' := 0) sl_347_16 rfl) ?_
  refine Eq.trans (st_go (pc' := 20) (lv' := [(0, .ref 189), (1, .int (xs 1)), (2, .int (xs 2))]) (st' := []) (t' := (sh_28 xs f g, 327)) (nc' := 0) (ns' := 0) sl_347_17 rfl) ?_
  refine Eq.trans (st_go (pc' := 21) (lv' := [(0, .ref 189), (1, .int (xs 1)), (2, .int (xs 2))]) (st' := [.ref 189]) (t' := (sh_28 xs f g, 327)) (nc' := 0) (ns' := 0) sl_347_20 rfl) ?_
  refine Eq.trans (st_go (pc' := 24) (lv' := [(0, .ref 189), (1, .int (xs 1)), (2, .int (xs 2))]) (st' := [.int 0]) (t' := (sh_28 xs f g, 327)) (nc' := 0) (ns' := 0) sl_347_21 rfl) ?_
  refine Eq.trans (st_go (pc' := 29) (lv' := [(0, .ref 189), (1, .int (xs 1)), (2, .int (xs 2))]) (st' := []) (t' := (sh_28 xs f g, 327)) (nc' := 0) (ns' := 0) sl_347_24 rfl) ?_
  refine Eq.trans (st_go (pc' := 30) (lv' := [(0, .ref 189), (1, .int (xs 1)), (2, .int (xs 2))]) (st' := [.ref 189]) (t' := (sh_28 xs f g, 327)) (nc' := 0) (ns' := 0) sl_347_29 rfl) ?_
  refine Eq.trans (st_go (pc' := 33) (lv' := [(0, .ref 189), (1, .int (xs 1)), (2, .int (xs 2))]) (st' := [.int 0]) (t' := (sh_28 xs f g, 327)) (nc' := 0) (ns' := 0) sl_347_30 rfl) ?_
  refine Eq.trans (st_go (pc' := 47) (lv' := [(0, .ref 189), (1, .int (xs 1)), (2, .int (xs 2))]) (st' := []) (t' := (sh_28 xs f g, 327)) (nc' := 0) (ns' := 0) sl_347_33 rfl) ?_
  refine Eq.trans (st_go (pc' := 48) (lv' := [(0, .ref 189), (1, .int (xs 1)), (2, .int (xs 2))]) (st' := [.int (-1)]) (t' := (sh_28 xs f g, 327)) (nc' := 0) (ns' := 0) sl_347_47 rfl) ?_
  exact st_end sl_347_48 rfl
set_option maxRecDepth 100000 in
/-- PacketWorksModel.thrown -/
theorem sw_61 (xs : Nat → Int32) (sio : Value) (f : Nat → Nat → Int32) (g : Nat → Nat → Int64) : sC 6 xs sio 17 207 [.ref 189] (sh_28 xs f g, 327) = some (.inl (some (.int 0)), (sh_28 xs f g, 327), 0, 0) := by
  refine st_in sg_207 rfl rfl ?_
  refine Eq.trans (st_go (pc' := 1) (lv' := [(0, .ref 189)]) (st' := [.ref 189]) (t' := (sh_28 xs f g, 327)) (nc' := 0) (ns' := 0) sl_207_0 rfl) ?_
  refine Eq.trans (st_go (pc' := 4) (lv' := [(0, .ref 189)]) (st' := [.int 0]) (t' := (sh_28 xs f g, 327)) (nc' := 0) (ns' := 0) sl_207_1 rfl) ?_
  exact st_end sl_207_4 rfl
set_option maxRecDepth 100000 in
theorem so_18 (xs : Nat → Int32) (sio : Value) (f : Nat → Nat → Int32) (g : Nat → Nat → Int64) (n : Nat) (hn : 52 ≤ n) : sR 6 xs sio 17 pm_0 n (40, [(4, .int 0), (3, .ref 326), (2, .ref 189), (1, .ref 0), (0, .ref 1000000)], [.int 18], (sw f g, 327), 327, 208818) = some (.inl (some (.int 1)), (sh_28 xs f g, 327), 327, 208818) := by
  obtain ⟨m, rfl⟩ : ∃ m, n = m + 52 := ⟨n - 52, by omega⟩
  refine Eq.trans (st_go (pc' := 1079) (lv' := [(4, .int 0), (3, .ref 326), (2, .ref 189), (1, .ref 0), (0, .ref 1000000)]) (st' := []) (t' := (sw f g, 327)) (nc' := 327) (ns' := 208818) sl_0_40 rfl) ?_
  refine Eq.trans (st_go (pc' := 1080) (lv' := [(4, .int 0), (3, .ref 326), (2, .ref 189), (1, .ref 0), (0, .ref 1000000)]) (st' := [.ref 0]) (t' := (sw f g, 327)) (nc' := 327) (ns' := 208818) sl_0_1079 rfl) ?_
  refine Eq.trans (st_go (pc' := 1081) (lv' := [(4, .int 0), (3, .ref 326), (2, .ref 189), (1, .ref 0), (0, .ref 1000000)]) (st' := [.ref 1000000, .ref 0]) (t' := (sw f g, 327)) (nc' := 327) (ns' := 208818) sl_0_1080 rfl) ?_
  refine Eq.trans (st_go (pc' := 1083) (lv' := [(4, .int 0), (3, .ref 326), (2, .ref 189), (1, .ref 0), (0, .ref 1000000)]) (st' := [.int 0, .ref 1000000, .ref 0]) (t' := (sw f g, 327)) (nc' := 327) (ns' := 208818) sl_0_1081 rfl) ?_
  refine Eq.trans (st_go (pc' := 1084) (lv' := [(4, .int 0), (3, .ref 326), (2, .ref 189), (1, .ref 0), (0, .ref 1000000)]) (st' := [.int 1, .int 0, .ref 1000000, .ref 0]) (t' := (sw f g, 327)) (nc' := 327) (ns' := 208818) sl_0_1083 rfl) ?_
  refine Eq.trans (st_go (pc' := 1085) (lv' := [(4, .int 0), (3, .ref 326), (2, .ref 189), (1, .ref 0), (0, .ref 1000000)]) (st' := [.int 1, .ref 1000000, .ref 0]) (t' := (sw f g, 327)) (nc' := 327) (ns' := 208818) sl_0_1084 rfl) ?_
  refine Eq.trans (st_go (pc' := 1086) (lv' := [(4, .int 0), (3, .ref 326), (2, .ref 189), (1, .ref 0), (0, .ref 1000000)]) (st' := [.int (xs 1), .ref 0]) (t' := (sw f g, 327)) (nc' := 327) (ns' := 208818) sl_0_1085 rfl) ?_
  refine Eq.trans (st_go (pc' := 1087) (lv' := [(4, .int 0), (3, .ref 326), (2, .ref 189), (1, .ref 0), (0, .ref 1000000)]) (st' := [.ref 1000000, .int (xs 1), .ref 0]) (t' := (sw f g, 327)) (nc' := 327) (ns' := 208818) sl_0_1086 rfl) ?_
  refine Eq.trans (st_go (pc' := 1089) (lv' := [(4, .int 0), (3, .ref 326), (2, .ref 189), (1, .ref 0), (0, .ref 1000000)]) (st' := [.int 0, .ref 1000000, .int (xs 1), .ref 0]) (t' := (sw f g, 327)) (nc' := 327) (ns' := 208818) sl_0_1087 rfl) ?_
  refine Eq.trans (st_go (pc' := 1090) (lv' := [(4, .int 0), (3, .ref 326), (2, .ref 189), (1, .ref 0), (0, .ref 1000000)]) (st' := [.int 2, .int 0, .ref 1000000, .int (xs 1), .ref 0]) (t' := (sw f g, 327)) (nc' := 327) (ns' := 208818) sl_0_1089 rfl) ?_
  refine Eq.trans (st_go (pc' := 1091) (lv' := [(4, .int 0), (3, .ref 326), (2, .ref 189), (1, .ref 0), (0, .ref 1000000)]) (st' := [.int 2, .ref 1000000, .int (xs 1), .ref 0]) (t' := (sw f g, 327)) (nc' := 327) (ns' := 208818) sl_0_1090 rfl) ?_
  refine Eq.trans (st_go (pc' := 1092) (lv' := [(4, .int 0), (3, .ref 326), (2, .ref 189), (1, .ref 0), (0, .ref 1000000)]) (st' := [.int (xs 2), .int (xs 1), .ref 0]) (t' := (sw f g, 327)) (nc' := 327) (ns' := 208818) sl_0_1091 rfl) ?_
  refine Eq.trans (st_go (pc' := 1093) (lv' := [(4, .int 0), (3, .ref 326), (2, .ref 189), (1, .ref 0), (0, .ref 1000000)]) (st' := [.ref 326, .int (xs 2), .int (xs 1), .ref 0]) (t' := (sw f g, 327)) (nc' := 327) (ns' := 208818) sl_0_1092 rfl) ?_
  refine Eq.trans (st_call (pc' := 1096) (st' := [.int 0]) (nc' := 327) (ns' := 208818) (mi := 204) (av := [.ref 0, .int (xs 1), .int (xs 2), .ref 326]) (rest := []) sl_0_1093 (fun _ => rfl) (sw_59 xs sio f g) rfl rfl rfl rfl) ?_
  refine Eq.trans (st_go (pc' := 1098) (lv' := [(5, .int 0), (4, .int 0), (3, .ref 326), (2, .ref 189), (1, .ref 0), (0, .ref 1000000)]) (st' := []) (t' := (sh_27 xs f g, 327)) (nc' := 327) (ns' := 208818) sl_0_1096 rfl) ?_
  refine Eq.trans (st_go (pc' := 1099) (lv' := [(5, .int 0), (4, .int 0), (3, .ref 326), (2, .ref 189), (1, .ref 0), (0, .ref 1000000)]) (st' := [.ref 189]) (t' := (sh_27 xs f g, 327)) (nc' := 327) (ns' := 208818) sl_0_1098 rfl) ?_
  refine Eq.trans (st_go (pc' := 1100) (lv' := [(5, .int 0), (4, .int 0), (3, .ref 326), (2, .ref 189), (1, .ref 0), (0, .ref 1000000)]) (st' := [.ref 1000000, .ref 189]) (t' := (sh_27 xs f g, 327)) (nc' := 327) (ns' := 208818) sl_0_1099 rfl) ?_
  refine Eq.trans (st_go (pc' := 1102) (lv' := [(5, .int 0), (4, .int 0), (3, .ref 326), (2, .ref 189), (1, .ref 0), (0, .ref 1000000)]) (st' := [.int 0, .ref 1000000, .ref 189]) (t' := (sh_27 xs f g, 327)) (nc' := 327) (ns' := 208818) sl_0_1100 rfl) ?_
  refine Eq.trans (st_go (pc' := 1103) (lv' := [(5, .int 0), (4, .int 0), (3, .ref 326), (2, .ref 189), (1, .ref 0), (0, .ref 1000000)]) (st' := [.int 1, .int 0, .ref 1000000, .ref 189]) (t' := (sh_27 xs f g, 327)) (nc' := 327) (ns' := 208818) sl_0_1102 rfl) ?_
  refine Eq.trans (st_go (pc' := 1104) (lv' := [(5, .int 0), (4, .int 0), (3, .ref 326), (2, .ref 189), (1, .ref 0), (0, .ref 1000000)]) (st' := [.int 1, .ref 1000000, .ref 189]) (t' := (sh_27 xs f g, 327)) (nc' := 327) (ns' := 208818) sl_0_1103 rfl) ?_
  refine Eq.trans (st_go (pc' := 1105) (lv' := [(5, .int 0), (4, .int 0), (3, .ref 326), (2, .ref 189), (1, .ref 0), (0, .ref 1000000)]) (st' := [.int (xs 1), .ref 189]) (t' := (sh_27 xs f g, 327)) (nc' := 327) (ns' := 208818) sl_0_1104 rfl) ?_
  refine Eq.trans (st_go (pc' := 1106) (lv' := [(5, .int 0), (4, .int 0), (3, .ref 326), (2, .ref 189), (1, .ref 0), (0, .ref 1000000)]) (st' := [.ref 1000000, .int (xs 1), .ref 189]) (t' := (sh_27 xs f g, 327)) (nc' := 327) (ns' := 208818) sl_0_1105 rfl) ?_
  refine Eq.trans (st_go (pc' := 1108) (lv' := [(5, .int 0), (4, .int 0), (3, .ref 326), (2, .ref 189), (1, .ref 0), (0, .ref 1000000)]) (st' := [.int 0, .ref 1000000, .int (xs 1), .ref 189]) (t' := (sh_27 xs f g, 327)) (nc' := 327) (ns' := 208818) sl_0_1106 rfl) ?_
  refine Eq.trans (st_go (pc' := 1109) (lv' := [(5, .int 0), (4, .int 0), (3, .ref 326), (2, .ref 189), (1, .ref 0), (0, .ref 1000000)]) (st' := [.int 2, .int 0, .ref 1000000, .int (xs 1), .ref 189]) (t' := (sh_27 xs f g, 327)) (nc' := 327) (ns' := 208818) sl_0_1108 rfl) ?_
  refine Eq.trans (st_go (pc' := 1110) (lv' := [(5, .int 0), (4, .int 0), (3, .ref 326), (2, .ref 189), (1, .ref 0), (0, .ref 1000000)]) (st' := [.int 2, .ref 1000000, .int (xs 1), .ref 189]) (t' := (sh_27 xs f g, 327)) (nc' := 327) (ns' := 208818) sl_0_1109 rfl) ?_
  refine Eq.trans (st_go (pc' := 1111) (lv' := [(5, .int 0), (4, .int 0), (3, .ref 326), (2, .ref 189), (1, .ref 0), (0, .ref 1000000)]) (st' := [.int (xs 2), .int (xs 1), .ref 189]) (t' := (sh_27 xs f g, 327)) (nc' := 327) (ns' := 208818) sl_0_1110 rfl) ?_
  refine Eq.trans (st_call (pc' := 1114) (st' := [.int (-1)]) (nc' := 327) (ns' := 208818) (mi := 347) (av := [.ref 189, .int (xs 1), .int (xs 2)]) (rest := []) sl_0_1111 (fun _ => rfl) (sw_60 xs sio f g) rfl rfl rfl rfl) ?_
  refine Eq.trans (st_go (pc' := 1116) (lv' := [(6, .int (-1)), (5, .int 0), (4, .int 0), (3, .ref 326), (2, .ref 189), (1, .ref 0), (0, .ref 1000000)]) (st' := []) (t' := (sh_28 xs f g, 327)) (nc' := 327) (ns' := 208818) sl_0_1114 rfl) ?_
  refine Eq.trans (st_go (pc' := 1117) (lv' := [(6, .int (-1)), (5, .int 0), (4, .int 0), (3, .ref 326), (2, .ref 189), (1, .ref 0), (0, .ref 1000000)]) (st' := [.ref 189]) (t' := (sh_28 xs f g, 327)) (nc' := 327) (ns' := 208818) sl_0_1116 rfl) ?_
  refine Eq.trans (st_call (pc' := 1120) (st' := [.int 0]) (nc' := 327) (ns' := 208818) (mi := 207) (av := [.ref 189]) (rest := []) sl_0_1117 (fun _ => rfl) (sw_61 xs sio f g) rfl rfl rfl rfl) ?_
  refine Eq.trans (st_go (pc' := 1122) (lv' := [(6, .int (-1)), (5, .int 0), (4, .int 0), (3, .ref 326), (2, .ref 189), (1, .ref 0), (0, .ref 1000000)]) (st' := [.int 0, .int 0]) (t' := (sh_28 xs f g, 327)) (nc' := 327) (ns' := 208818) sl_0_1120 rfl) ?_
  refine Eq.trans (st_go (pc' := 1127) (lv' := [(6, .int (-1)), (5, .int 0), (4, .int 0), (3, .ref 326), (2, .ref 189), (1, .ref 0), (0, .ref 1000000)]) (st' := []) (t' := (sh_28 xs f g, 327)) (nc' := 327) (ns' := 208818) sl_0_1122 rfl) ?_
  refine Eq.trans (st_go (pc' := 1129) (lv' := [(6, .int (-1)), (5, .int 0), (4, .int 0), (3, .ref 326), (2, .ref 189), (1, .ref 0), (0, .ref 1000000)]) (st' := [.int 0]) (t' := (sh_28 xs f g, 327)) (nc' := 327) (ns' := 208818) sl_0_1127 rfl) ?_
  refine Eq.trans (st_go (pc' := 1132) (lv' := [(6, .int (-1)), (5, .int 0), (4, .int 0), (3, .ref 326), (2, .ref 189), (1, .ref 0), (0, .ref 1000000)]) (st' := []) (t' := (sh_28 xs f g, 327)) (nc' := 327) (ns' := 208818) sl_0_1129 rfl) ?_
  refine Eq.trans (st_go (pc' := 1133) (lv' := [(6, .int (-1)), (5, .int 0), (4, .int 0), (3, .ref 326), (2, .ref 189), (1, .ref 0), (0, .ref 1000000)]) (st' := [.ref 326]) (t' := (sh_28 xs f g, 327)) (nc' := 327) (ns' := 208818) sl_0_1132 rfl) ?_
  refine Eq.trans (st_go (pc' := 1134) (lv' := [(6, .int (-1)), (5, .int 0), (4, .int 0), (3, .ref 326), (2, .ref 189), (1, .ref 0), (0, .ref 1000000)]) (st' := [.int 0, .ref 326]) (t' := (sh_28 xs f g, 327)) (nc' := 327) (ns' := 208818) sl_0_1133 rfl) ?_
  refine Eq.trans (st_go (pc' := 1135) (lv' := [(6, .int (-1)), (5, .int 0), (4, .int 0), (3, .ref 326), (2, .ref 189), (1, .ref 0), (0, .ref 1000000)]) (st' := [.long (-1)]) (t' := (sh_28 xs f g, 327)) (nc' := 327) (ns' := 208818) sl_0_1134 rfl) ?_
  refine Eq.trans (st_go (pc' := 1137) (lv' := [(6, .int (-1)), (5, .int 0), (4, .int 0), (3, .ref 326), (2, .ref 189), (1, .ref 0), (0, .ref 1000000)]) (st' := [.int (-1), .long (-1)]) (t' := (sh_28 xs f g, 327)) (nc' := 327) (ns' := 208818) sl_0_1135 rfl) ?_
  refine Eq.trans (st_go (pc' := 1138) (lv' := [(6, .int (-1)), (5, .int 0), (4, .int 0), (3, .ref 326), (2, .ref 189), (1, .ref 0), (0, .ref 1000000)]) (st' := [.long (-1), .long (-1)]) (t' := (sh_28 xs f g, 327)) (nc' := 327) (ns' := 208818) sl_0_1137 rfl) ?_
  refine Eq.trans (st_go (pc' := 1139) (lv' := [(6, .int (-1)), (5, .int 0), (4, .int 0), (3, .ref 326), (2, .ref 189), (1, .ref 0), (0, .ref 1000000)]) (st' := [.int 0]) (t' := (sh_28 xs f g, 327)) (nc' := 327) (ns' := 208818) sl_0_1138 rfl) ?_
  refine Eq.trans (st_go (pc' := 1144) (lv' := [(6, .int (-1)), (5, .int 0), (4, .int 0), (3, .ref 326), (2, .ref 189), (1, .ref 0), (0, .ref 1000000)]) (st' := []) (t' := (sh_28 xs f g, 327)) (nc' := 327) (ns' := 208818) sl_0_1139 rfl) ?_
  refine Eq.trans (st_go (pc' := 1172) (lv' := [(6, .int (-1)), (5, .int 0), (4, .int 0), (3, .ref 326), (2, .ref 189), (1, .ref 0), (0, .ref 1000000)]) (st' := []) (t' := (sh_28 xs f g, 327)) (nc' := 327) (ns' := 208818) sl_0_1144 rfl) ?_
  refine Eq.trans (st_go (pc' := 1175) (lv' := [(4, .int 6), (6, .int (-1)), (5, .int 0), (3, .ref 326), (2, .ref 189), (1, .ref 0), (0, .ref 1000000)]) (st' := []) (t' := (sh_28 xs f g, 327)) (nc' := 327) (ns' := 208818) sl_0_1172 rfl) ?_
  refine Eq.trans (st_go (pc' := 23) (lv' := [(4, .int 6), (6, .int (-1)), (5, .int 0), (3, .ref 326), (2, .ref 189), (1, .ref 0), (0, .ref 1000000)]) (st' := []) (t' := (sh_28 xs f g, 327)) (nc' := 327) (ns' := 208818) sl_0_1175 rfl) ?_
  refine Eq.trans (st_go (pc' := 25) (lv' := [(4, .int 6), (6, .int (-1)), (5, .int 0), (3, .ref 326), (2, .ref 189), (1, .ref 0), (0, .ref 1000000)]) (st' := [.int 6]) (t' := (sh_28 xs f g, 327)) (nc' := 327) (ns' := 208818) sl_0_23 rfl) ?_
  refine Eq.trans (st_go (pc' := 26) (lv' := [(4, .int 6), (6, .int (-1)), (5, .int 0), (3, .ref 326), (2, .ref 189), (1, .ref 0), (0, .ref 1000000)]) (st' := [.ref 1000000, .int 6]) (t' := (sh_28 xs f g, 327)) (nc' := 327) (ns' := 208818) sl_0_25 rfl) ?_
  refine Eq.trans (st_go (pc' := 27) (lv' := [(4, .int 6), (6, .int (-1)), (5, .int 0), (3, .ref 326), (2, .ref 189), (1, .ref 0), (0, .ref 1000000)]) (st' := [.int 6, .int 6]) (t' := (sh_28 xs f g, 327)) (nc' := 327) (ns' := 208818) sl_0_26 rfl) ?_
  refine Eq.trans (st_go (pc' := 29) (lv' := [(4, .int 6), (6, .int (-1)), (5, .int 0), (3, .ref 326), (2, .ref 189), (1, .ref 0), (0, .ref 1000000)]) (st' := [.int 6, .int 6, .int 6]) (t' := (sh_28 xs f g, 327)) (nc' := 327) (ns' := 208818) sl_0_27 rfl) ?_
  refine Eq.trans (st_go (pc' := 30) (lv' := [(4, .int 6), (6, .int (-1)), (5, .int 0), (3, .ref 326), (2, .ref 189), (1, .ref 0), (0, .ref 1000000)]) (st' := [.int 0, .int 6]) (t' := (sh_28 xs f g, 327)) (nc' := 327) (ns' := 208818) sl_0_29 rfl) ?_
  refine Eq.trans (st_go (pc' := 1178) (lv' := [(4, .int 6), (6, .int (-1)), (5, .int 0), (3, .ref 326), (2, .ref 189), (1, .ref 0), (0, .ref 1000000)]) (st' := []) (t' := (sh_28 xs f g, 327)) (nc' := 327) (ns' := 208818) sl_0_30 rfl) ?_
  refine Eq.trans (st_go (pc' := 1179) (lv' := [(4, .int 6), (6, .int (-1)), (5, .int 0), (3, .ref 326), (2, .ref 189), (1, .ref 0), (0, .ref 1000000)]) (st' := [.int 1]) (t' := (sh_28 xs f g, 327)) (nc' := 327) (ns' := 208818) sl_0_1178 rfl) ?_
  exact st_end sl_0_1179 rfl
