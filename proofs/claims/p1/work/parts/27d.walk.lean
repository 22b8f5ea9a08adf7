/-! ===== ROADS OF ONE CALL, by program (wip/gen/walk.py) ===== -/
def sh_29 (xs : Nat → Int32) (f : Nat → Nat → Int32) (g : Nat → Nat → Int64) : List (Nat × am_C) := (327, .inr (15, [])) :: sw f g
def sh_30 (xs : Nat → Int32) (f : Nat → Nat → Int32) (g : Nat → Nat → Int64) : List (Nat × am_C) := (189, .inr (12, (sv_189).set 1 (.int 1))) :: sh_29 xs f g
def sh_31 (xs : Nat → Int32) (f : Nat → Nat → Int32) (g : Nat → Nat → Int64) : List (Nat × am_C) := (327, .inr (15, [])) :: sw f g
def sh_32 (xs : Nat → Int32) (f : Nat → Nat → Int32) (g : Nat → Nat → Int64) : List (Nat × am_C) := (189, .inr (12, (sv_189).set 1 (.int 1))) :: sh_31 xs f g
def sh_33 (xs : Nat → Int32) (f : Nat → Nat → Int32) (g : Nat → Nat → Int64) : List (Nat × am_C) := (327, .inr (15, [])) :: sw f g
def sh_34 (xs : Nat → Int32) (f : Nat → Nat → Int32) (g : Nat → Nat → Int64) : List (Nat × am_C) := (189, .inr (12, (sv_189).set 1 (.int 1))) :: sh_33 xs f g
def sh_35 (xs : Nat → Int32) (f : Nat → Nat → Int32) (g : Nat → Nat → Int64) : List (Nat × am_C) := (189, .inr (12, (sv_189).set 1 (.int 0))) :: sw f g
def sh_36 (xs : Nat → Int32) (f : Nat → Nat → Int32) (g : Nat → Nat → Int64) : List (Nat × am_C) := (189, .inr (12, (sv_189).set 1 (.int 0))) :: sw f g
def sh_37 (xs : Nat → Int32) (f : Nat → Nat → Int32) (g : Nat → Nat → Int64) : List (Nat × am_C) := (189, .inr (12, (sv_189).set 1 (.int 0))) :: sw f g
def sh_38 (xs : Nat → Int32) (f : Nat → Nat → Int32) (g : Nat → Nat → Int64) : List (Nat × am_C) := (189, .inr (12, (sv_189).set 1 (.int 0))) :: sw f g
def sh_39 (xs : Nat → Int32) (f : Nat → Nat → Int32) (g : Nat → Nat → Int64) : List (Nat × am_C) := (189, .inr (12, (sv_189).set 1 (.int 0))) :: sw f g
def sh_40 (xs : Nat → Int32) (f : Nat → Nat → Int32) (g : Nat → Nat → Int64) : List (Nat × am_C) := (189, .inr (12, (sv_189).set 1 (.int 0))) :: sw f g
set_option maxRecDepth 100000 in
/-- PacketWorks.entry -/
theorem sw_62 (xs : Nat → Int32) (sio : Value) (f : Nat → Nat → Int32) (g : Nat → Nat → Int64) (q0 : am_c0 .lt (xs 1) = true) : sC 6 xs sio 16 171 [.ref 0, .int (xs 1), .int (xs 2), .int (xs 3), .int (xs 4)] (sw f g, 327) = some (.inr 2, (sw f g, 327), 1, 6) := by
  refine st_in sg_171 rfl rfl ?_
  refine Eq.trans (st_go (pc' := 1) (lv' := [(0, .ref 0), (1, .int (xs 1)), (2, .int (xs 2)), (3, .int (xs 3)), (4, .int (xs 4))]) (st' := [.int (xs 1)]) (t' := (sw f g, 327)) (nc' := 0) (ns' := 0) sl_171_0 rfl) ?_
  refine Eq.trans (st_if (pc' := 17) sl_171_1 q0 rfl) ?_
  exact st_end sl_171_17 rfl
set_option maxRecDepth 100000 in
/-- PacketWorksLaw.entry -/
theorem sw_63 (xs : Nat → Int32) (sio : Value) (f : Nat → Nat → Int32) (g : Nat → Nat → Int64) (q0 : am_c0 .lt (xs 1) = true) : sC 6 xs sio 17 170 [.ref 0, .int (xs 1), .int (xs 2), .int (xs 3), .int (xs 4), .ref 326] (sw f g, 327) = some (.inl (some (.int 1)), (sh_29 xs f g, 328), 1, 6) := by
  refine st_in sg_170 rfl rfl ?_
  refine Eq.trans (st_go (pc' := 2) (lv' := [(0, .ref 0), (1, .int (xs 1)), (2, .int (xs 2)), (3, .int (xs 3)), (4, .int (xs 4)), (5, .ref 326)]) (st' := [.ref 326]) (t' := (sw f g, 327)) (nc' := 0) (ns' := 0) sl_170_0 rfl) ?_
  refine Eq.trans (st_go (pc' := 3) (lv' := [(0, .ref 0), (1, .int (xs 1)), (2, .int (xs 2)), (3, .int (xs 3)), (4, .int (xs 4)), (5, .ref 326)]) (st' := [.int 0, .ref 326]) (t' := (sw f g, 327)) (nc' := 0) (ns' := 0) sl_170_2 rfl) ?_
  refine Eq.trans (st_go (pc' := 4) (lv' := [(0, .ref 0), (1, .int (xs 1)), (2, .int (xs 2)), (3, .int (xs 3)), (4, .int (xs 4)), (5, .ref 326)]) (st' := [.ref 0, .int 0, .ref 326]) (t' := (sw f g, 327)) (nc' := 0) (ns' := 0) sl_170_3 rfl) ?_
  refine Eq.trans (st_go (pc' := 5) (lv' := [(0, .ref 0), (1, .int (xs 1)), (2, .int (xs 2)), (3, .int (xs 3)), (4, .int (xs 4)), (5, .ref 326)]) (st' := [.int (xs 1), .ref 0, .int 0, .ref 326]) (t' := (sw f g, 327)) (nc' := 0) (ns' := 0) sl_170_4 rfl) ?_
  refine Eq.trans (st_go (pc' := 6) (lv' := [(0, .ref 0), (1, .int (xs 1)), (2, .int (xs 2)), (3, .int (xs 3)), (4, .int (xs 4)), (5, .ref 326)]) (st' := [.int (xs 2), .int (xs 1), .ref 0, .int 0, .ref 326]) (t' := (sw f g, 327)) (nc' := 0) (ns' := 0) sl_170_5 rfl) ?_
  refine Eq.trans (st_go (pc' := 7) (lv' := [(0, .ref 0), (1, .int (xs 1)), (2, .int (xs 2)), (3, .int (xs 3)), (4, .int (xs 4)), (5, .ref 326)]) (st' := [.int (xs 3), .int (xs 2), .int (xs 1), .ref 0, .int 0, .ref 326]) (t' := (sw f g, 327)) (nc' := 0) (ns' := 0) sl_170_6 rfl) ?_
  refine Eq.trans (st_go (pc' := 9) (lv' := [(0, .ref 0), (1, .int (xs 1)), (2, .int (xs 2)), (3, .int (xs 3)), (4, .int (xs 4)), (5, .ref 326)]) (st' := [.int (xs 4), .int (xs 3), .int (xs 2), .int (xs 1), .ref 0, .int 0, .ref 326]) (t' := (sw f g, 327)) (nc' := 0) (ns' := 0) sl_170_7 rfl) ?_
  refine Eq.trans (st_catch (pc' := 17) (nc' := 1) (ns' := 6) (c := .inr (15, [])) (mi := 171) (av := [.ref 0, .int (xs 1), .int (xs 2), .int (xs 3), .int (xs 4)]) (rest := [.int 0, .ref 326]) sl_170_9 (fun _ => rfl) (sw_62 xs sio f g q0) rfl rfl rfl rfl rfl rfl) ?_
  show sR 6 xs sio 16 pm_170 _ (17, [(0, .ref 0), (1, .int (xs 1)), (2, .int (xs 2)), (3, .int (xs 3)), (4, .int (xs 4)), (5, .ref 326)], [.ref 327], (sh_29 xs f g, 328), 1, 6) = _
  refine Eq.trans (st_go (pc' := 19) (lv' := [(6, .ref 327), (0, .ref 0), (1, .int (xs 1)), (2, .int (xs 2)), (3, .int (xs 3)), (4, .int (xs 4)), (5, .ref 326)]) (st' := []) (t' := (sh_29 xs f g, 328)) (nc' := 1) (ns' := 6) sl_170_17 rfl) ?_
  refine Eq.trans (st_go (pc' := 20) (lv' := [(6, .ref 327), (0, .ref 0), (1, .int (xs 1)), (2, .int (xs 2)), (3, .int (xs 3)), (4, .int (xs 4)), (5, .ref 326)]) (st' := [.int 1]) (t' := (sh_29 xs f g, 328)) (nc' := 1) (ns' := 6) sl_170_19 rfl) ?_
  exact st_end sl_170_20 rfl
set_option maxRecDepth 100000 in
/-- PacketWorksModel.in -/
theorem sw_64 (xs : Nat → Int32) (sio : Value) (f : Nat → Nat → Int32) (g : Nat → Nat → Int64) (q0 : am_c0 .lt (xs 1) = true) : sC 6 xs sio 16 305 [.int (xs 1), .int 3] (sh_29 xs f g, 328) = some (.inl (some (.int 0)), (sh_29 xs f g, 328), 0, 0) := by
  refine st_in sg_305 rfl rfl ?_
  refine Eq.trans (st_go (pc' := 1) (lv' := [(0, .int (xs 1)), (1, .int 3)]) (st' := [.int (xs 1)]) (t' := (sh_29 xs f g, 328)) (nc' := 0) (ns' := 0) sl_305_0 rfl) ?_
  refine Eq.trans (st_if (pc' := 13) sl_305_1 q0 rfl) ?_
  refine Eq.trans (st_go (pc' := 14) (lv' := [(0, .int (xs 1)), (1, .int 3)]) (st' := [.int 0]) (t' := (sh_29 xs f g, 328)) (nc' := 0) (ns' := 0) sl_305_13 rfl) ?_
  exact st_end sl_305_14 rfl
set_option maxRecDepth 100000 in
/-- PacketWorksModel.entry -/
theorem sw_65 (xs : Nat → Int32) (sio : Value) (f : Nat → Nat → Int32) (g : Nat → Nat → Int64) (q0 : am_c0 .lt (xs 1) = true) : sC 6 xs sio 17 311 [.ref 189, .int (xs 1), .int (xs 2), .int (xs 3), .int (xs 4)] (sh_29 xs f g, 328) = some (.inl (some (.int 0)), (sh_30 xs f g, 328), 0, 0) := by
  refine st_in sg_311 rfl rfl ?_
  refine Eq.trans (st_go (pc' := 1) (lv' := [(0, .ref 189), (1, .int (xs 1)), (2, .int (xs 2)), (3, .int (xs 3)), (4, .int (xs 4))]) (st' := [.ref 189]) (t' := (sh_29 xs f g, 328)) (nc' := 0) (ns' := 0) sl_311_0 rfl) ?_
  refine Eq.trans (st_go (pc' := 2) (lv' := [(0, .ref 189), (1, .int (xs 1)), (2, .int (xs 2)), (3, .int (xs 3)), (4, .int (xs 4))]) (st' := [.int (xs 1), .ref 189]) (t' := (sh_29 xs f g, 328)) (nc' := 0) (ns' := 0) sl_311_1 rfl) ?_
  refine Eq.trans (st_go (pc' := 3) (lv' := [(0, .ref 189), (1, .int (xs 1)), (2, .int (xs 2)), (3, .int (xs 3)), (4, .int (xs 4))]) (st' := [.int 3, .int (xs 1), .ref 189]) (t' := (sh_29 xs f g, 328)) (nc' := 0) (ns' := 0) sl_311_2 rfl) ?_
  refine Eq.trans (st_call (pc' := 6) (st' := [.int 0, .ref 189]) (nc' := 0) (ns' := 0) (mi := 305) (av := [.int (xs 1), .int 3]) (rest := [.ref 189]) sl_311_3 (fun _ => rfl) (sw_64 xs sio f g q0) rfl rfl rfl rfl) ?_
  refine Eq.trans (st_go (pc' := 27) (lv' := [(0, .ref 189), (1, .int (xs 1)), (2, .int (xs 2)), (3, .int (xs 3)), (4, .int (xs 4))]) (st' := [.ref 189]) (t' := (sh_29 xs f g, 328)) (nc' := 0) (ns' := 0) sl_311_6 rfl) ?_
  refine Eq.trans (st_go (pc' := 28) (lv' := [(0, .ref 189), (1, .int (xs 1)), (2, .int (xs 2)), (3, .int (xs 3)), (4, .int (xs 4))]) (st' := [.int 1, .ref 189]) (t' := (sh_29 xs f g, 328)) (nc' := 0) (ns' := 0) sl_311_27 rfl) ?_
  refine Eq.trans (st_go (pc' := 52) (lv' := [(0, .ref 189), (1, .int (xs 1)), (2, .int (xs 2)), (3, .int (xs 3)), (4, .int (xs 4))]) (st' := [.int 1, .ref 189]) (t' := (sh_29 xs f g, 328)) (nc' := 0) (ns' := 0) sl_311_28 rfl) ?_
  refine Eq.trans (st_go (pc' := 55) (lv' := [(0, .ref 189), (1, .int (xs 1)), (2, .int (xs 2)), (3, .int (xs 3)), (4, .int (xs 4))]) (st' := []) (t' := (sh_30 xs f g, 328)) (nc' := 0) (ns' := 0) sl_311_52 rfl) ?_
  refine Eq.trans (st_go (pc' := 56) (lv' := [(0, .ref 189), (1, .int (xs 1)), (2, .int (xs 2)), (3, .int (xs 3)), (4, .int (xs 4))]) (st' := [.ref 189]) (t' := (sh_30 xs f g, 328)) (nc' := 0) (ns' := 0) sl_311_55 rfl) ?_
  refine Eq.trans (st_go (pc' := 59) (lv' := [(0, .ref 189), (1, .int (xs 1)), (2, .int (xs 2)), (3, .int (xs 3)), (4, .int (xs 4))]) (st' := [.int 1]) (t' := (sh_30 xs f g, 328)) (nc' := 0) (ns' := 0) sl_311_56 rfl) ?_
  refine Eq.trans (st_go (pc' := 62) (lv' := [(0, .ref 189), (1, .int (xs 1)), (2, .int (xs 2)), (3, .int (xs 3)), (4, .int (xs 4))]) (st' := []) (t' := (sh_30 xs f g, 328)) (nc' := 0) (ns' := 0) sl_311_59 rfl) ?_
  refine Eq.trans (st_go (pc' := 63) (lv' := [(0, .ref 189), (1, .int (xs 1)), (2, .int (xs 2)), (3, .int (xs 3)), (4, .int (xs 4))]) (st' := [.int 0]) (t' := (sh_30 xs f g, 328)) (nc' := 0) (ns' := 0) sl_311_62 rfl) ?_
  exact st_end sl_311_63 rfl
set_option maxRecDepth 100000 in
/-- PacketWorksModel.thrown -/
theorem sw_66 (xs : Nat → Int32) (sio : Value) (f : Nat → Nat → Int32) (g : Nat → Nat → Int64) : sC 6 xs sio 17 207 [.ref 189] (sh_30 xs f g, 328) = some (.inl (some (.int 1)), (sh_30 xs f g, 328), 0, 0) := by
  refine st_in sg_207 rfl rfl ?_
  refine Eq.trans (st_go (pc' := 1) (lv' := [(0, .ref 189)]) (st' := [.ref 189]) (t' := (sh_30 xs f g, 328)) (nc' := 0) (ns' := 0) sl_207_0 rfl) ?_
  refine Eq.trans (st_go (pc' := 4) (lv' := [(0, .ref 189)]) (st' := [.int 1]) (t' := (sh_30 xs f g, 328)) (nc' := 0) (ns' := 0) sl_207_1 rfl) ?_
  exact st_end sl_207_4 rfl
set_option maxRecDepth 100000 in
theorem so_12_n (xs : Nat → Int32) (sio : Value) (f : Nat → Nat → Int32) (g : Nat → Nat → Int64) (n : Nat) (hn : 65 ≤ n) (q0 : am_c0 .lt (xs 1) = true) : sR 6 xs sio 17 pm_0 n (40, [(4, .int 0), (3, .ref 326), (2, .ref 189), (1, .ref 0), (0, .ref 1000000)], [.int 12], (sw f g, 327), 327, 208818) = some (.inl (some (.int 1)), (sh_30 xs f g, 328), 328, 208824) := by
  obtain ⟨m, rfl⟩ : ∃ m, n = m + 65 := ⟨n - 65, by omega⟩
  refine Eq.trans (st_go (pc' := 753) (lv' := [(4, .int 0), (3, .ref 326), (2, .ref 189), (1, .ref 0), (0, .ref 1000000)]) (st' := []) (t' := (sw f g, 327)) (nc' := 327) (ns' := 208818) sl_0_40 rfl) ?_
  refine Eq.trans (st_go (pc' := 754) (lv' := [(4, .int 0), (3, .ref 326), (2, .ref 189), (1, .ref 0), (0, .ref 1000000)]) (st' := [.ref 0]) (t' := (sw f g, 327)) (nc' := 327) (ns' := 208818) sl_0_753 rfl) ?_
  refine Eq.trans (st_go (pc' := 755) (lv' := [(4, .int 0), (3, .ref 326), (2, .ref 189), (1, .ref 0), (0, .ref 1000000)]) (st' := [.ref 1000000, .ref 0]) (t' := (sw f g, 327)) (nc' := 327) (ns' := 208818) sl_0_754 rfl) ?_
  refine Eq.trans (st_go (pc' := 757) (lv' := [(4, .int 0), (3, .ref 326), (2, .ref 189), (1, .ref 0), (0, .ref 1000000)]) (st' := [.int 0, .ref 1000000, .ref 0]) (t' := (sw f g, 327)) (nc' := 327) (ns' := 208818) sl_0_755 rfl) ?_
  refine Eq.trans (st_go (pc' := 758) (lv' := [(4, .int 0), (3, .ref 326), (2, .ref 189), (1, .ref 0), (0, .ref 1000000)]) (st' := [.int 1, .int 0, .ref 1000000, .ref 0]) (t' := (sw f g, 327)) (nc' := 327) (ns' := 208818) sl_0_757 rfl) ?_
  refine Eq.trans (st_go (pc' := 759) (lv' := [(4, .int 0), (3, .ref 326), (2, .ref 189), (1, .ref 0), (0, .ref 1000000)]) (st' := [.int 1, .ref 1000000, .ref 0]) (t' := (sw f g, 327)) (nc' := 327) (ns' := 208818) sl_0_758 rfl) ?_
  refine Eq.trans (st_go (pc' := 760) (lv' := [(4, .int 0), (3, .ref 326), (2, .ref 189), (1, .ref 0), (0, .ref 1000000)]) (st' := [.int (xs 1), .ref 0]) (t' := (sw f g, 327)) (nc' := 327) (ns' := 208818) sl_0_759 rfl) ?_
  refine Eq.trans (st_go (pc' := 761) (lv' := [(4, .int 0), (3, .ref 326), (2, .ref 189), (1, .ref 0), (0, .ref 1000000)]) (st' := [.ref 1000000, .int (xs 1), .ref 0]) (t' := (sw f g, 327)) (nc' := 327) (ns' := 208818) sl_0_760 rfl) ?_
  refine Eq.trans (st_go (pc' := 763) (lv' := [(4, .int 0), (3, .ref 326), (2, .ref 189), (1, .ref 0), (0, .ref 1000000)]) (st' := [.int 0, .ref 1000000, .int (xs 1), .ref 0]) (t' := (sw f g, 327)) (nc' := 327) (ns' := 208818) sl_0_761 rfl) ?_
  refine Eq.trans (st_go (pc' := 764) (lv' := [(4, .int 0), (3, .ref 326), (2, .ref 189), (1, .ref 0), (0, .ref 1000000)]) (st' := [.int 2, .int 0, .ref 1000000, .int (xs 1), .ref 0]) (t' := (sw f g, 327)) (nc' := 327) (ns' := 208818) sl_0_763 rfl) ?_
  refine Eq.trans (st_go (pc' := 765) (lv' := [(4, .int 0), (3, .ref 326), (2, .ref 189), (1, .ref 0), (0, .ref 1000000)]) (st' := [.int 2, .ref 1000000, .int (xs 1), .ref 0]) (t' := (sw f g, 327)) (nc' := 327) (ns' := 208818) sl_0_764 rfl) ?_
  refine Eq.trans (st_go (pc' := 766) (lv' := [(4, .int 0), (3, .ref 326), (2, .ref 189), (1, .ref 0), (0, .ref 1000000)]) (st' := [.int (xs 2), .int (xs 1), .ref 0]) (t' := (sw f g, 327)) (nc' := 327) (ns' := 208818) sl_0_765 rfl) ?_
  refine Eq.trans (st_go (pc' := 767) (lv' := [(4, .int 0), (3, .ref 326), (2, .ref 189), (1, .ref 0), (0, .ref 1000000)]) (st' := [.ref 1000000, .int (xs 2), .int (xs 1), .ref 0]) (t' := (sw f g, 327)) (nc' := 327) (ns' := 208818) sl_0_766 rfl) ?_
  refine Eq.trans (st_go (pc' := 769) (lv' := [(4, .int 0), (3, .ref 326), (2, .ref 189), (1, .ref 0), (0, .ref 1000000)]) (st' := [.int 0, .ref 1000000, .int (xs 2), .int (xs 1), .ref 0]) (t' := (sw f g, 327)) (nc' := 327) (ns' := 208818) sl_0_767 rfl) ?_
  refine Eq.trans (st_go (pc' := 770) (lv' := [(4, .int 0), (3, .ref 326), (2, .ref 189), (1, .ref 0), (0, .ref 1000000)]) (st' := [.int 3, .int 0, .ref 1000000, .int (xs 2), .int (xs 1), .ref 0]) (t' := (sw f g, 327)) (nc' := 327) (ns' := 208818) sl_0_769 rfl) ?_
  refine Eq.trans (st_go (pc' := 771) (lv' := [(4, .int 0), (3, .ref 326), (2, .ref 189), (1, .ref 0), (0, .ref 1000000)]) (st' := [.int 3, .ref 1000000, .int (xs 2), .int (xs 1), .ref 0]) (t' := (sw f g, 327)) (nc' := 327) (ns' := 208818) sl_0_770 rfl) ?_
  refine Eq.trans (st_go (pc' := 772) (lv' := [(4, .int 0), (3, .ref 326), (2, .ref 189), (1, .ref 0), (0, .ref 1000000)]) (st' := [.int (xs 3), .int (xs 2), .int (xs 1), .ref 0]) (t' := (sw f g, 327)) (nc' := 327) (ns' := 208818) sl_0_771 rfl) ?_
  refine Eq.trans (st_go (pc' := 773) (lv' := [(4, .int 0), (3, .ref 326), (2, .ref 189), (1, .ref 0), (0, .ref 1000000)]) (st' := [.ref 1000000, .int (xs 3), .int (xs 2), .int (xs 1), .ref 0]) (t' := (sw f g, 327)) (nc' := 327) (ns' := 208818) sl_0_772 rfl) ?_
  refine Eq.trans (st_go (pc' := 775) (lv' := [(4, .int 0), (3, .ref 326), (2, .ref 189), (1, .ref 0), (0, .ref 1000000)]) (st' := [.int 0, .ref 1000000, .int (xs 3), .int (xs 2), .int (xs 1), .ref 0]) (t' := (sw f g, 327)) (nc' := 327) (ns' := 208818) sl_0_773 rfl) ?_
  refine Eq.trans (st_go (pc' := 776) (lv' := [(4, .int 0), (3, .ref 326), (2, .ref 189), (1, .ref 0), (0, .ref 1000000)]) (st' := [.int 4, .int 0, .ref 1000000, .int (xs 3), .int (xs 2), .int (xs 1), .ref 0]) (t' := (sw f g, 327)) (nc' := 327) (ns' := 208818) sl_0_775 rfl) ?_
  refine Eq.trans (st_go (pc' := 777) (lv' := [(4, .int 0), (3, .ref 326), (2, .ref 189), (1, .ref 0), (0, .ref 1000000)]) (st' := [.int 4, .ref 1000000, .int (xs 3), .int (xs 2), .int (xs 1), .ref 0]) (t' := (sw f g, 327)) (nc' := 327) (ns' := 208818) sl_0_776 rfl) ?_
  refine Eq.trans (st_go (pc' := 778) (lv' := [(4, .int 0), (3, .ref 326), (2, .ref 189), (1, .ref 0), (0, .ref 1000000)]) (st' := [.int (xs 4), .int (xs 3), .int (xs 2), .int (xs 1), .ref 0]) (t' := (sw f g, 327)) (nc' := 327) (ns' := 208818) sl_0_777 rfl) ?_
  refine Eq.trans (st_go (pc' := 779) (lv' := [(4, .int 0), (3, .ref 326), (2, .ref 189), (1, .ref 0), (0, .ref 1000000)]) (st' := [.ref 326, .int (xs 4), .int (xs 3), .int (xs 2), .int (xs 1), .ref 0]) (t' := (sw f g, 327)) (nc' := 327) (ns' := 208818) sl_0_778 rfl) ?_
  refine Eq.trans (st_call (pc' := 782) (st' := [.int 1]) (nc' := 328) (ns' := 208824) (mi := 170) (av := [.ref 0, .int (xs 1), .int (xs 2), .int (xs 3), .int (xs 4), .ref 326]) (rest := []) sl_0_779 (fun _ => rfl) (sw_63 xs sio f g q0) rfl rfl rfl rfl) ?_
  refine Eq.trans (st_go (pc' := 784) (lv' := [(5, .int 1), (4, .int 0), (3, .ref 326), (2, .ref 189), (1, .ref 0), (0, .ref 1000000)]) (st' := []) (t' := (sh_29 xs f g, 328)) (nc' := 328) (ns' := 208824) sl_0_782 rfl) ?_
  refine Eq.trans (st_go (pc' := 785) (lv' := [(5, .int 1), (4, .int 0), (3, .ref 326), (2, .ref 189), (1, .ref 0), (0, .ref 1000000)]) (st' := [.ref 189]) (t' := (sh_29 xs f g, 328)) (nc' := 328) (ns' := 208824) sl_0_784 rfl) ?_
  refine Eq.trans (st_go (pc' := 786) (lv' := [(5, .int 1), (4, .int 0), (3, .ref 326), (2, .ref 189), (1, .ref 0), (0, .ref 1000000)]) (st' := [.ref 1000000, .ref 189]) (t' := (sh_29 xs f g, 328)) (nc' := 328) (ns' := 208824) sl_0_785 rfl) ?_
  refine Eq.trans (st_go (pc' := 788) (lv' := [(5, .int 1), (4, .int 0), (3, .ref 326), (2, .ref 189), (1, .ref 0), (0, .ref 1000000)]) (st' := [.int 0, .ref 1000000, .ref 189]) (t' := (sh_29 xs f g, 328)) (nc' := 328) (ns' := 208824) sl_0_786 rfl) ?_
  refine Eq.trans (st_go (pc' := 789) (lv' := [(5, .int 1), (4, .int 0), (3, .ref 326), (2, .ref 189), (1, .ref 0), (0, .ref 1000000)]) (st' := [.int 1, .int 0, .ref 1000000, .ref 189]) (t' := (sh_29 xs f g, 328)) (nc' := 328) (ns' := 208824) sl_0_788 rfl) ?_
  refine Eq.trans (st_go (pc' := 790) (lv' := [(5, .int 1), (4, .int 0), (3, .ref 326), (2, .ref 189), (1, .ref 0), (0, .ref 1000000)]) (st' := [.int 1, .ref 1000000, .ref 189]) (t' := (sh_29 xs f g, 328)) (nc' := 328) (ns' := 208824) sl_0_789 rfl) ?_
  refine Eq.trans (st_go (pc' := 791) (lv' := [(5, .int 1), (4, .int 0), (3, .ref 326), (2, .ref 189), (1, .ref 0), (0, .ref 1000000)]) (st' := [.int (xs 1), .ref 189]) (t' := (sh_29 xs f g, 328)) (nc' := 328) (ns' := 208824) sl_0_790 rfl) ?_
  refine Eq.trans (st_go (pc' := 792) (lv' := [(5, .int 1), (4, .int 0), (3, .ref 326), (2, .ref 189), (1, .ref 0), (0, .ref 1000000)]) (st' := [.ref 1000000, .int (xs 1), .ref 189]) (t' := (sh_29 xs f g, 328)) (nc' := 328) (ns' := 208824) sl_0_791 rfl) ?_
  refine Eq.trans (st_go (pc' := 794) (lv' := [(5, .int 1), (4, .int 0), (3, .ref 326), (2, .ref 189), (1, .ref 0), (0, .ref 1000000)]) (st' := [.int 0, .ref 1000000, .int (xs 1), .ref 189]) (t' := (sh_29 xs f g, 328)) (nc' := 328) (ns' := 208824) sl_0_792 rfl) ?_
  refine Eq.trans (st_go (pc' := 795) (lv' := [(5, .int 1), (4, .int 0), (3, .ref 326), (2, .ref 189), (1, .ref 0), (0, .ref 1000000)]) (st' := [.int 2, .int 0, .ref 1000000, .int (xs 1), .ref 189]) (t' := (sh_29 xs f g, 328)) (nc' := 328) (ns' := 208824) sl_0_794 rfl) ?_
  refine Eq.trans (st_go (pc' := 796) (lv' := [(5, .int 1), (4, .int 0), (3, .ref 326), (2, .ref 189), (1, .ref 0), (0, .ref 1000000)]) (st' := [.int 2, .ref 1000000, .int (xs 1), .ref 189]) (t' := (sh_29 xs f g, 328)) (nc' := 328) (ns' := 208824) sl_0_795 rfl) ?_
  refine Eq.trans (st_go (pc' := 797) (lv' := [(5, .int 1), (4, .int 0), (3, .ref 326), (2, .ref 189), (1, .ref 0), (0, .ref 1000000)]) (st' := [.int (xs 2), .int (xs 1), .ref 189]) (t' := (sh_29 xs f g, 328)) (nc' := 328) (ns' := 208824) sl_0_796 rfl) ?_
  refine Eq.trans (st_go (pc' := 798) (lv' := [(5, .int 1), (4, .int 0), (3, .ref 326), (2, .ref 189), (1, .ref 0), (0, .ref 1000000)]) (st' := [.ref 1000000, .int (xs 2), .int (xs 1), .ref 189]) (t' := (sh_29 xs f g, 328)) (nc' := 328) (ns' := 208824) sl_0_797 rfl) ?_
  refine Eq.trans (st_go (pc' := 800) (lv' := [(5, .int 1), (4, .int 0), (3, .ref 326), (2, .ref 189), (1, .ref 0), (0, .ref 1000000)]) (st' := [.int 0, .ref 1000000, .int (xs 2), .int (xs 1), .ref 189]) (t' := (sh_29 xs f g, 328)) (nc' := 328) (ns' := 208824) sl_0_798 rfl) ?_
  refine Eq.trans (st_go (pc' := 801) (lv' := [(5, .int 1), (4, .int 0), (3, .ref 326), (2, .ref 189), (1, .ref 0), (0, .ref 1000000)]) (st' := [.int 3, .int 0, .ref 1000000, .int (xs 2), .int (xs 1), .ref 189]) (t' := (sh_29 xs f g, 328)) (nc' := 328) (ns' := 208824) sl_0_800 rfl) ?_
  refine Eq.trans (st_go (pc' := 802) (lv' := [(5, .int 1), (4, .int 0), (3, .ref 326), (2, .ref 189), (1, .ref 0), (0, .ref 1000000)]) (st' := [.int 3, .ref 1000000, .int (xs 2), .int (xs 1), .ref 189]) (t' := (sh_29 xs f g, 328)) (nc' := 328) (ns' := 208824) sl_0_801 rfl) ?_
  refine Eq.trans (st_go (pc' := 803) (lv' := [(5, .int 1), (4, .int 0), (3, .ref 326), (2, .ref 189), (1, .ref 0), (0, .ref 1000000)]) (st' := [.int (xs 3), .int (xs 2), .int (xs 1), .ref 189]) (t' := (sh_29 xs f g, 328)) (nc' := 328) (ns' := 208824) sl_0_802 rfl) ?_
  refine Eq.trans (st_go (pc' := 804) (lv' := [(5, .int 1), (4, .int 0), (3, .ref 326), (2, .ref 189), (1, .ref 0), (0, .ref 1000000)]) (st' := [.ref 1000000, .int (xs 3), .int (xs 2), .int (xs 1), .ref 189]) (t' := (sh_29 xs f g, 328)) (nc' := 328) (ns' := 208824) sl_0_803 rfl) ?_
  refine Eq.trans (st_go (pc' := 806) (lv' := [(5, .int 1), (4, .int 0), (3, .ref 326), (2, .ref 189), (1, .ref 0), (0, .ref 1000000)]) (st' := [.int 0, .ref 1000000, .int (xs 3), .int (xs 2), .int (xs 1), .ref 189]) (t' := (sh_29 xs f g, 328)) (nc' := 328) (ns' := 208824) sl_0_804 rfl) ?_
  refine Eq.trans (st_go (pc' := 807) (lv' := [(5, .int 1), (4, .int 0), (3, .ref 326), (2, .ref 189), (1, .ref 0), (0, .ref 1000000)]) (st' := [.int 4, .int 0, .ref 1000000, .int (xs 3), .int (xs 2), .int (xs 1), .ref 189]) (t' := (sh_29 xs f g, 328)) (nc' := 328) (ns' := 208824) sl_0_806 rfl) ?_
  refine Eq.trans (st_go (pc' := 808) (lv' := [(5, .int 1), (4, .int 0), (3, .ref 326), (2, .ref 189), (1, .ref 0), (0, .ref 1000000)]) (st' := [.int 4, .ref 1000000, .int (xs 3), .int (xs 2), .int (xs 1), .ref 189]) (t' := (sh_29 xs f g, 328)) (nc' := 328) (ns' := 208824) sl_0_807 rfl) ?_
  refine Eq.trans (st_go (pc' := 809) (lv' := [(5, .int 1), (4, .int 0), (3, .ref 326), (2, .ref 189), (1, .ref 0), (0, .ref 1000000)]) (st' := [.int (xs 4), .int (xs 3), .int (xs 2), .int (xs 1), .ref 189]) (t' := (sh_29 xs f g, 328)) (nc' := 328) (ns' := 208824) sl_0_808 rfl) ?_
  refine Eq.trans (st_call (pc' := 812) (st' := [.int 0]) (nc' := 328) (ns' := 208824) (mi := 311) (av := [.ref 189, .int (xs 1), .int (xs 2), .int (xs 3), .int (xs 4)]) (rest := []) sl_0_809 (fun _ => rfl) (sw_65 xs sio f g q0) rfl rfl rfl rfl) ?_
  refine Eq.trans (st_go (pc' := 814) (lv' := [(6, .int 0), (5, .int 1), (4, .int 0), (3, .ref 326), (2, .ref 189), (1, .ref 0), (0, .ref 1000000)]) (st' := []) (t' := (sh_30 xs f g, 328)) (nc' := 328) (ns' := 208824) sl_0_812 rfl) ?_
  refine Eq.trans (st_go (pc' := 815) (lv' := [(6, .int 0), (5, .int 1), (4, .int 0), (3, .ref 326), (2, .ref 189), (1, .ref 0), (0, .ref 1000000)]) (st' := [.ref 189]) (t' := (sh_30 xs f g, 328)) (nc' := 328) (ns' := 208824) sl_0_814 rfl) ?_
  refine Eq.trans (st_call (pc' := 818) (st' := [.int 1]) (nc' := 328) (ns' := 208824) (mi := 207) (av := [.ref 189]) (rest := []) sl_0_815 (fun _ => rfl) (sw_66 xs sio f g) rfl rfl rfl rfl) ?_
  refine Eq.trans (st_go (pc' := 820) (lv' := [(6, .int 0), (5, .int 1), (4, .int 0), (3, .ref 326), (2, .ref 189), (1, .ref 0), (0, .ref 1000000)]) (st' := [.int 1, .int 1]) (t' := (sh_30 xs f g, 328)) (nc' := 328) (ns' := 208824) sl_0_818 rfl) ?_
  refine Eq.trans (st_go (pc' := 825) (lv' := [(6, .int 0), (5, .int 1), (4, .int 0), (3, .ref 326), (2, .ref 189), (1, .ref 0), (0, .ref 1000000)]) (st' := []) (t' := (sh_30 xs f g, 328)) (nc' := 328) (ns' := 208824) sl_0_820 rfl) ?_
  refine Eq.trans (st_go (pc' := 827) (lv' := [(6, .int 0), (5, .int 1), (4, .int 0), (3, .ref 326), (2, .ref 189), (1, .ref 0), (0, .ref 1000000)]) (st' := [.int 1]) (t' := (sh_30 xs f g, 328)) (nc' := 328) (ns' := 208824) sl_0_825 rfl) ?_
  refine Eq.trans (st_go (pc' := 842) (lv' := [(6, .int 0), (5, .int 1), (4, .int 0), (3, .ref 326), (2, .ref 189), (1, .ref 0), (0, .ref 1000000)]) (st' := []) (t' := (sh_30 xs f g, 328)) (nc' := 328) (ns' := 208824) sl_0_827 rfl) ?_
  refine Eq.trans (st_go (pc' := 1172) (lv' := [(6, .int 0), (5, .int 1), (4, .int 0), (3, .ref 326), (2, .ref 189), (1, .ref 0), (0, .ref 1000000)]) (st' := []) (t' := (sh_30 xs f g, 328)) (nc' := 328) (ns' := 208824) sl_0_842 rfl) ?_
  refine Eq.trans (st_go (pc' := 1175) (lv' := [(4, .int 6), (6, .int 0), (5, .int 1), (3, .ref 326), (2, .ref 189), (1, .ref 0), (0, .ref 1000000)]) (st' := []) (t' := (sh_30 xs f g, 328)) (nc' := 328) (ns' := 208824) sl_0_1172 rfl) ?_
  refine Eq.trans (st_go (pc' := 23) (lv' := [(4, .int 6), (6, .int 0), (5, .int 1), (3, .ref 326), (2, .ref 189), (1, .ref 0), (0, .ref 1000000)]) (st' := []) (t' := (sh_30 xs f g, 328)) (nc' := 328) (ns' := 208824) sl_0_1175 rfl) ?_
  refine Eq.trans (st_go (pc' := 25) (lv' := [(4, .int 6), (6, .int 0), (5, .int 1), (3, .ref 326), (2, .ref 189), (1, .ref 0), (0, .ref 1000000)]) (st' := [.int 6]) (t' := (sh_30 xs f g, 328)) (nc' := 328) (ns' := 208824) sl_0_23 rfl) ?_
  refine Eq.trans (st_go (pc' := 26) (lv' := [(4, .int 6), (6, .int 0), (5, .int 1), (3, .ref 326), (2, .ref 189), (1, .ref 0), (0, .ref 1000000)]) (st' := [.ref 1000000, .int 6]) (t' := (sh_30 xs f g, 328)) (nc' := 328) (ns' := 208824) sl_0_25 rfl) ?_
  refine Eq.trans (st_go (pc' := 27) (lv' := [(4, .int 6), (6, .int 0), (5, .int 1), (3, .ref 326), (2, .ref 189), (1, .ref 0), (0, .ref 1000000)]) (st' := [.int 6, .int 6]) (t' := (sh_30 xs f g, 328)) (nc' := 328) (ns' := 208824) sl_0_26 rfl) ?_
  refine Eq.trans (st_go (pc' := 29) (lv' := [(4, .int 6), (6, .int 0), (5, .int 1), (3, .ref 326), (2, .ref 189), (1, .ref 0), (0, .ref 1000000)]) (st' := [.int 6, .int 6, .int 6]) (t' := (sh_30 xs f g, 328)) (nc' := 328) (ns' := 208824) sl_0_27 rfl) ?_
  refine Eq.trans (st_go (pc' := 30) (lv' := [(4, .int 6), (6, .int 0), (5, .int 1), (3, .ref 326), (2, .ref 189), (1, .ref 0), (0, .ref 1000000)]) (st' := [.int 0, .int 6]) (t' := (sh_30 xs f g, 328)) (nc' := 328) (ns' := 208824) sl_0_29 rfl) ?_
  refine Eq.trans (st_go (pc' := 1178) (lv' := [(4, .int 6), (6, .int 0), (5, .int 1), (3, .ref 326), (2, .ref 189), (1, .ref 0), (0, .ref 1000000)]) (st' := []) (t' := (sh_30 xs f g, 328)) (nc' := 328) (ns' := 208824) sl_0_30 rfl) ?_
  refine Eq.trans (st_go (pc' := 1179) (lv' := [(4, .int 6), (6, .int 0), (5, .int 1), (3, .ref 326), (2, .ref 189), (1, .ref 0), (0, .ref 1000000)]) (st' := [.int 1]) (t' := (sh_30 xs f g, 328)) (nc' := 328) (ns' := 208824) sl_0_1178 rfl) ?_
  exact st_end sl_0_1179 rfl
set_option maxRecDepth 100000 in
/-- PacketWorks.entry -/
theorem sw_67 (xs : Nat → Int32) (sio : Value) (f : Nat → Nat → Int32) (g : Nat → Nat → Int64) (q0 : am_c0 .lt (xs 1) = false) (q1 : am_c2 .gt (xs 1) (2) = true) : sC 6 xs sio 16 171 [.ref 0, .int (xs 1), .int (xs 2), .int (xs 3), .int (xs 4)] (sw f g, 327) = some (.inr 2, (sw f g, 327), 1, 6) := by
  refine st_in sg_171 rfl rfl ?_
  refine Eq.trans (st_go (pc' := 1) (lv' := [(0, .ref 0), (1, .int (xs 1)), (2, .int (xs 2)), (3, .int (xs 3)), (4, .int (xs 4))]) (st' := [.int (xs 1)]) (t' := (sw f g, 327)) (nc' := 0) (ns' := 0) sl_171_0 rfl) ?_
  refine Eq.trans (st_if (pc' := 4) sl_171_1 q0 rfl) ?_
  refine Eq.trans (st_go (pc' := 5) (lv' := [(0, .ref 0), (1, .int (xs 1)), (2, .int (xs 2)), (3, .int (xs 3)), (4, .int (xs 4))]) (st' := [.int (xs 1)]) (t' := (sw f g, 327)) (nc' := 0) (ns' := 0) sl_171_4 rfl) ?_
  refine Eq.trans (st_go (pc' := 6) (lv' := [(0, .ref 0), (1, .int (xs 1)), (2, .int (xs 2)), (3, .int (xs 3)), (4, .int (xs 4))]) (st' := [.int 2, .int (xs 1)]) (t' := (sw f g, 327)) (nc' := 0) (ns' := 0) sl_171_5 rfl) ?_
  refine Eq.trans (st_ic (pc' := 17) sl_171_6 q1 rfl) ?_
  exact st_end sl_171_17 rfl
set_option maxRecDepth 100000 in
/-- PacketWorksLaw.entry -/
theorem sw_68 (xs : Nat → Int32) (sio : Value) (f : Nat → Nat → Int32) (g : Nat → Nat → Int64) (q0 : am_c0 .lt (xs 1) = false) (q1 : am_c2 .gt (xs 1) (2) = true) : sC 6 xs sio 17 170 [.ref 0, .int (xs 1), .int (xs 2), .int (xs 3), .int (xs 4), .ref 326] (sw f g, 327) = some (.inl (some (.int 1)), (sh_31 xs f g, 328), 1, 6) := by
  refine st_in sg_170 rfl rfl ?_
  refine Eq.trans (st_go (pc' := 2) (lv' := [(0, .ref 0), (1, .int (xs 1)), (2, .int (xs 2)), (3, .int (xs 3)), (4, .int (xs 4)), (5, .ref 326)]) (st' := [.ref 326]) (t' := (sw f g, 327)) (nc' := 0) (ns' := 0) sl_170_0 rfl) ?_
  refine Eq.trans (st_go (pc' := 3) (lv' := [(0, .ref 0), (1, .int (xs 1)), (2, .int (xs 2)), (3, .int (xs 3)), (4, .int (xs 4)), (5, .ref 326)]) (st' := [.int 0, .ref 326]) (t' := (sw f g, 327)) (nc' := 0) (ns' := 0) sl_170_2 rfl) ?_
  refine Eq.trans (st_go (pc' := 4) (lv' := [(0, .ref 0), (1, .int (xs 1)), (2, .int (xs 2)), (3, .int (xs 3)), (4, .int (xs 4)), (5, .ref 326)]) (st' := [.ref 0, .int 0, .ref 326]) (t' := (sw f g, 327)) (nc' := 0) (ns' := 0) sl_170_3 rfl) ?_
  refine Eq.trans (st_go (pc' := 5) (lv' := [(0, .ref 0), (1, .int (xs 1)), (2, .int (xs 2)), (3, .int (xs 3)), (4, .int (xs 4)), (5, .ref 326)]) (st' := [.int (xs 1), .ref 0, .int 0, .ref 326]) (t' := (sw f g, 327)) (nc' := 0) (ns' := 0) sl_170_4 rfl) ?_
  refine Eq.trans (st_go (pc' := 6) (lv' := [(0, .ref 0), (1, .int (xs 1)), (2, .int (xs 2)), (3, .int (xs 3)), (4, .int (xs 4)), (5, .ref 326)]) (st' := [.int (xs 2), .int (xs 1), .ref 0, .int 0, .ref 326]) (t' := (sw f g, 327)) (nc' := 0) (ns' := 0) sl_170_5 rfl) ?_
  refine Eq.trans (st_go (pc' := 7) (lv' := [(0, .ref 0), (1, .int (xs 1)), (2, .int (xs 2)), (3, .int (xs 3)), (4, .int (xs 4)), (5, .ref 326)]) (st' := [.int (xs 3), .int (xs 2), .int (xs 1), .ref 0, .int 0, .ref 326]) (t' := (sw f g, 327)) (nc' := 0) (ns' := 0) sl_170_6 rfl) ?_
  refine Eq.trans (st_go (pc' := 9) (lv' := [(0, .ref 0), (1, .int (xs 1)), (2, .int (xs 2)), (3, .int (xs 3)), (4, .int (xs 4)), (5, .ref 326)]) (st' := [.int (xs 4), .int (xs 3), .int (xs 2), .int (xs 1), .ref 0, .int 0, .ref 326]) (t' := (sw f g, 327)) (nc' := 0) (ns' := 0) sl_170_7 rfl) ?_
  refine Eq.trans (st_catch (pc' := 17) (nc' := 1) (ns' := 6) (c := .inr (15, [])) (mi := 171) (av := [.ref 0, .int (xs 1), .int (xs 2), .int (xs 3), .int (xs 4)]) (rest := [.int 0, .ref 326]) sl_170_9 (fun _ => rfl) (sw_67 xs sio f g q0 q1) rfl rfl rfl rfl rfl rfl) ?_
  show sR 6 xs sio 16 pm_170 _ (17, [(0, .ref 0), (1, .int (xs 1)), (2, .int (xs 2)), (3, .int (xs 3)), (4, .int (xs 4)), (5, .ref 326)], [.ref 327], (sh_31 xs f g, 328), 1, 6) = _
  refine Eq.trans (st_go (pc' := 19) (lv' := [(6, .ref 327), (0, .ref 0), (1, .int (xs 1)), (2, .int (xs 2)), (3, .int (xs 3)), (4, .int (xs 4)), (5, .ref 326)]) (st' := []) (t' := (sh_31 xs f g, 328)) (nc' := 1) (ns' := 6) sl_170_17 rfl) ?_
  refine Eq.trans (st_go (pc' := 20) (lv' := [(6, .ref 327), (0, .ref 0), (1, .int (xs 1)), (2, .int (xs 2)), (3, .int (xs 3)), (4, .int (xs 4)), (5, .ref 326)]) (st' := [.int 1]) (t' := (sh_31 xs f g, 328)) (nc' := 1) (ns' := 6) sl_170_19 rfl) ?_
  exact st_end sl_170_20 rfl
set_option maxRecDepth 100000 in
/-- PacketWorksModel.in -/
theorem sw_69 (xs : Nat → Int32) (sio : Value) (f : Nat → Nat → Int32) (g : Nat → Nat → Int64) (q0 : am_c0 .lt (xs 1) = false) (q1 : am_c2 .ge (xs 1) (3) = true) : sC 6 xs sio 16 305 [.int (xs 1), .int 3] (sh_31 xs f g, 328) = some (.inl (some (.int 0)), (sh_31 xs f g, 328), 0, 0) := by
  refine st_in sg_305 rfl rfl ?_
  refine Eq.trans (st_go (pc' := 1) (lv' := [(0, .int (xs 1)), (1, .int 3)]) (st' := [.int (xs 1)]) (t' := (sh_31 xs f g, 328)) (nc' := 0) (ns' := 0) sl_305_0 rfl) ?_
  refine Eq.trans (st_if (pc' := 4) sl_305_1 q0 rfl) ?_
  refine Eq.trans (st_go (pc' := 5) (lv' := [(0, .int (xs 1)), (1, .int 3)]) (st' := [.int (xs 1)]) (t' := (sh_31 xs f g, 328)) (nc' := 0) (ns' := 0) sl_305_4 rfl) ?_
  refine Eq.trans (st_go (pc' := 6) (lv' := [(0, .int (xs 1)), (1, .int 3)]) (st' := [.int 3, .int (xs 1)]) (t' := (sh_31 xs f g, 328)) (nc' := 0) (ns' := 0) sl_305_5 rfl) ?_
  refine Eq.trans (st_ic (pc' := 13) sl_305_6 q1 rfl) ?_
  refine Eq.trans (st_go (pc' := 14) (lv' := [(0, .int (xs 1)), (1, .int 3)]) (st' := [.int 0]) (t' := (sh_31 xs f g, 328)) (nc' := 0) (ns' := 0) sl_305_13 rfl) ?_
  exact st_end sl_305_14 rfl
set_option maxRecDepth 100000 in
/-- PacketWorksModel.entry -/
theorem sw_70 (xs : Nat → Int32) (sio : Value) (f : Nat → Nat → Int32) (g : Nat → Nat → Int64) (q0 : am_c0 .lt (xs 1) = false) (q1 : am_c2 .ge (xs 1) (3) = true) : sC 6 xs sio 17 311 [.ref 189, .int (xs 1), .int (xs 2), .int (xs 3), .int (xs 4)] (sh_31 xs f g, 328) = some (.inl (some (.int 0)), (sh_32 xs f g, 328), 0, 0) := by
  refine st_in sg_311 rfl rfl ?_
  refine Eq.trans (st_go (pc' := 1) (lv' := [(0, .ref 189), (1, .int (xs 1)), (2, .int (xs 2)), (3, .int (xs 3)), (4, .int (xs 4))]) (st' := [.ref 189]) (t' := (sh_31 xs f g, 328)) (nc' := 0) (ns' := 0) sl_311_0 rfl) ?_
  refine Eq.trans (st_go (pc' := 2) (lv' := [(0, .ref 189), (1, .int (xs 1)), (2, .int (xs 2)), (3, .int (xs 3)), (4, .int (xs 4))]) (st' := [.int (xs 1), .ref 189]) (t' := (sh_31 xs f g, 328)) (nc' := 0) (ns' := 0) sl_311_1 rfl) ?_
  refine Eq.trans (st_go (pc' := 3) (lv' := [(0, .ref 189), (1, .int (xs 1)), (2, .int (xs 2)), (3, .int (xs 3)), (4, .int (xs 4))]) (st' := [.int 3, .int (xs 1), .ref 189]) (t' := (sh_31 xs f g, 328)) (nc' := 0) (ns' := 0) sl_311_2 rfl) ?_
  refine Eq.trans (st_call (pc' := 6) (st' := [.int 0, .ref 189]) (nc' := 0) (ns' := 0) (mi := 305) (av := [.int (xs 1), .int 3]) (rest := [.ref 189]) sl_311_3 (fun _ => rfl) (sw_69 xs sio f g q0 q1) rfl rfl rfl rfl) ?_
  refine Eq.trans (st_go (pc' := 27) (lv' := [(0, .ref 189), (1, .int (xs 1)), (2, .int (xs 2)), (3, .int (xs 3)), (4, .int (xs 4))]) (st' := [.ref 189]) (t' := (sh_31 xs f g, 328)) (nc' := 0) (ns' := 0) sl_311_6 rfl) ?_
  refine Eq.trans (st_go (pc' := 28) (lv' := [(0, .ref 189), (1, .int (xs 1)), (2, .int (xs 2)), (3, .int (xs 3)), (4, .int (xs 4))]) (st' := [.int 1, .ref 189]) (t' := (sh_31 xs f g, 328)) (nc' := 0) (ns' := 0) sl_311_27 rfl) ?_
  refine Eq.trans (st_go (pc' := 52) (lv' := [(0, .ref 189), (1, .int (xs 1)), (2, .int (xs 2)), (3, .int (xs 3)), (4, .int (xs 4))]) (st' := [.int 1, .ref 189]) (t' := (sh_31 xs f g, 328)) (nc' := 0) (ns' := 0) sl_311_28 rfl) ?_
  refine Eq.trans (st_go (pc' := 55) (lv' := [(0, .ref 189), (1, .int (xs 1)), (2, .int (xs 2)), (3, .int (xs 3)), (4, .int (xs 4))]) (st' := []) (t' := (sh_32 xs f g, 328)) (nc' := 0) (ns' := 0) sl_311_52 rfl) ?_
  refine Eq.trans (st_go (pc' := 56) (lv' := [(0, .ref 189), (1, .int (xs 1)), (2, .int (xs 2)), (3, .int (xs 3)), (4, .int (xs 4))]) (st' := [.ref 189]) (t' := (sh_32 xs f g, 328)) (nc' := 0) (ns' := 0) sl_311_55 rfl) ?_
  refine Eq.trans (st_go (pc' := 59) (lv' := [(0, .ref 189), (1, .int (xs 1)), (2, .int (xs 2)), (3, .int (xs 3)), (4, .int (xs 4))]) (st' := [.int 1]) (t' := (sh_32 xs f g, 328)) (nc' := 0) (ns' := 0) sl_311_56 rfl) ?_
  refine Eq.trans (st_go (pc' := 62) (lv' := [(0, .ref 189), (1, .int (xs 1)), (2, .int (xs 2)), (3, .int (xs 3)), (4, .int (xs 4))]) (st' := []) (t' := (sh_32 xs f g, 328)) (nc' := 0) (ns' := 0) sl_311_59 rfl) ?_
  refine Eq.trans (st_go (pc' := 63) (lv' := [(0, .ref 189), (1, .int (xs 1)), (2, .int (xs 2)), (3, .int (xs 3)), (4, .int (xs 4))]) (st' := [.int 0]) (t' := (sh_32 xs f g, 328)) (nc' := 0) (ns' := 0) sl_311_62 rfl) ?_
  exact st_end sl_311_63 rfl
set_option maxRecDepth 100000 in
/-- PacketWorksModel.thrown -/
theorem sw_71 (xs : Nat → Int32) (sio : Value) (f : Nat → Nat → Int32) (g : Nat → Nat → Int64) : sC 6 xs sio 17 207 [.ref 189] (sh_32 xs f g, 328) = some (.inl (some (.int 1)), (sh_32 xs f g, 328), 0, 0) := by
  refine st_in sg_207 rfl rfl ?_
  refine Eq.trans (st_go (pc' := 1) (lv' := [(0, .ref 189)]) (st' := [.ref 189]) (t' := (sh_32 xs f g, 328)) (nc' := 0) (ns' := 0) sl_207_0 rfl) ?_
  refine Eq.trans (st_go (pc' := 4) (lv' := [(0, .ref 189)]) (st' := [.int 1]) (t' := (sh_32 xs f g, 328)) (nc' := 0) (ns' := 0) sl_207_1 rfl) ?_
  exact st_end sl_207_4 rfl
set_option maxRecDepth 100000 in
theorem so_12_p (xs : Nat → Int32) (sio : Value) (f : Nat → Nat → Int32) (g : Nat → Nat → Int64) (n : Nat) (hn : 65 ≤ n) (q0 : am_c0 .lt (xs 1) = false) (q1 : am_c2 .gt (xs 1) (2) = true) (q2 : am_c2 .ge (xs 1) (3) = true) : sR 6 xs sio 17 pm_0 n (40, [(4, .int 0), (3, .ref 326), (2, .ref 189), (1, .ref 0), (0, .ref 1000000)], [.int 12], (sw f g, 327), 327, 208818) = some (.inl (some (.int 1)), (sh_32 xs f g, 328), 328, 208824) := by
  obtain ⟨m, rfl⟩ : ∃ m, n = m + 65 := ⟨n - 65, by omega⟩
  refine Eq.trans (st_go (pc' := 753) (lv' := [(4, .int 0), (3, .ref 326), (2, .ref 189), (1, .ref 0), (0, .ref 1000000)]) (st' := []) (t' := (sw f g, 327)) (nc' := 327) (ns' := 208818) sl_0_40 rfl) ?_
  refine Eq.trans (st_go (pc' := 754) (lv' := [(4, .int 0), (3, .ref 326), (2, .ref 189), (1, .ref 0), (0, .ref 1000000)]) (st' := [.ref 0]) (t' := (sw f g, 327)) (nc' := 327) (ns' := 208818) sl_0_753 rfl) ?_
  refine Eq.trans (st_go (pc' := 755) (lv' := [(4, .int 0), (3, .ref 326), (2, .ref 189), (1, .ref 0), (0, .ref 1000000)]) (st' := [.ref 1000000, .ref 0]) (t' := (sw f g, 327)) (nc' := 327) (ns' := 208818) sl_0_754 rfl) ?_
  refine Eq.trans (st_go (pc' := 757) (lv' := [(4, .int 0), (3, .ref 326), (2, .ref 189), (1, .ref 0), (0, .ref 1000000)]) (st' := [.int 0, .ref 1000000, .ref 0]) (t' := (sw f g, 327)) (nc' := 327) (ns' := 208818) sl_0_755 rfl) ?_
  refine Eq.trans (st_go (pc' := 758) (lv' := [(4, .int 0), (3, .ref 326), (2, .ref 189), (1, .ref 0), (0, .ref 1000000)]) (st' := [.int 1, .int 0, .ref 1000000, .ref 0]) (t' := (sw f g, 327)) (nc' := 327) (ns' := 208818) sl_0_757 rfl) ?_
  refine Eq.trans (st_go (pc' := 759) (lv' := [(4, .int 0), (3, .ref 326), (2, .ref 189), (1, .ref 0), (0, .ref 1000000)]) (st' := [.int 1, .ref 1000000, .ref 0]) (t' := (sw f g, 327)) (nc' := 327) (ns' := 208818) sl_0_758 rfl) ?_
  refine Eq.trans (st_go (pc' := 760) (lv' := [(4, .int 0), (3, .ref 326), (2, .ref 189), (1, .ref 0), (0, .ref 1000000)]) (st' := [.int (xs 1), .ref 0]) (t' := (sw f g, 327)) (nc' := 327) (ns' := 208818) sl_0_759 rfl) ?_
  refine Eq.trans (st_go (pc' := 761) (lv' := [(4, .int 0), (3, .ref 326), (2, .ref 189), (1, .ref 0), (0, .ref 1000000)]) (st' := [.ref 1000000, .int (xs 1), .ref 0]) (t' := (sw f g, 327)) (nc' := 327) (ns' := 208818) sl_0_760 rfl) ?_
  refine Eq.trans (st_go (pc' := 763) (lv' := [(4, .int 0), (3, .ref 326), (2, .ref 189), (1, .ref 0), (0, .ref 1000000)]) (st' := [.int 0, .ref 1000000, .int (xs 1), .ref 0]) (t' := (sw f g, 327)) (nc' := 327) (ns' := 208818) sl_0_761 rfl) ?_
  refine Eq.trans (st_go (pc' := 764) (lv' := [(4, .int 0), (3, .ref 326), (2, .ref 189), (1, .ref 0), (0, .ref 1000000)]) (st' := [.int 2, .int 0, .ref 1000000, .int (xs 1), .ref 0]) (t' := (sw f g, 327)) (nc' := 327) (ns' := 208818) sl_0_763 rfl) ?_
  refine Eq.trans (st_go (pc' := 765) (lv' := [(4, .int 0), (3, .ref 326), (2, .ref 189), (1, .ref 0), (0, .ref 1000000)]) (st' := [.int 2, .ref 1000000, .int (xs 1), .ref 0]) (t' := (sw f g, 327)) (nc' := 327) (ns' := 208818) sl_0_764 rfl) ?_
  refine Eq.trans (st_go (pc' := 766) (lv' := [(4, .int 0), (3, .ref 326), (2, .ref 189), (1, .ref 0), (0, .ref 1000000)]) (st' := [.int (xs 2), .int (xs 1), .ref 0]) (t' := (sw f g, 327)) (nc' := 327) (ns' := 208818) sl_0_765 rfl) ?_
  refine Eq.trans (st_go (pc' := 767) (lv' := [(4, .int 0), (3, .ref 326), (2, .ref 189), (1, .ref 0), (0, .ref 1000000)]) (st' := [.ref 1000000, .int (xs 2), .int (xs 1), .ref 0]) (t' := (sw f g, 327)) (nc' := 327) (ns' := 208818) sl_0_766 rfl) ?_
  refine Eq.trans (st_go (pc' := 769) (lv' := [(4, .int 0), (3, .ref 326), (2, .ref 189), (1, .ref 0), (0, .ref 1000000)]) (st' := [.int 0, .ref 1000000, .int (xs 2), .int (xs 1), .ref 0]) (t' := (sw f g, 327)) (nc' := 327) (ns' := 208818) sl_0_767 rfl) ?_
  refine Eq.trans (st_go (pc' := 770) (lv' := [(4, .int 0), (3, .ref 326), (2, .ref 189), (1, .ref 0), (0, .ref 1000000)]) (st' := [.int 3, .int 0, .ref 1000000, .int (xs 2), .int (xs 1), .ref 0]) (t' := (sw f g, 327)) (nc' := 327) (ns' := 208818) sl_0_769 rfl) ?_
  refine Eq.trans (st_go (pc' := 771) (lv' := [(4, .int 0), (3, .ref 326), (2, .ref 189), (1, .ref 0), (0, .ref 1000000)]) (st' := [.int 3, .ref 1000000, .int (xs 2), .int (xs 1), .ref 0]) (t' := (sw f g, 327)) (nc' := 327) (ns' := 208818) sl_0_770 rfl) ?_
  refine Eq.trans (st_go (pc' := 772) (lv' := [(4, .int 0), (3, .ref 326), (2, .ref 189), (1, .ref 0), (0, .ref 1000000)]) (st' := [.int (xs 3), .int (xs 2), .int (xs 1), .ref 0]) (t' := (sw f g, 327)) (nc' := 327) (ns' := 208818) sl_0_771 rfl) ?_
  refine Eq.trans (st_go (pc' := 773) (lv' := [(4, .int 0), (3, .ref 326), (2, .ref 189), (1, .ref 0), (0, .ref 1000000)]) (st' := [.ref 1000000, .int (xs 3), .int (xs 2), .int (xs 1), .ref 0]) (t' := (sw f g, 327)) (nc' := 327) (ns' := 208818) sl_0_772 rfl) ?_
  refine Eq.trans (st_go (pc' := 775) (lv' := [(4, .int 0), (3, .ref 326), (2, .ref 189), (1, .ref 0), (0, .ref 1000000)]) (st' := [.int 0, .ref 1000000, .int (xs 3), .int (xs 2), .int (xs 1), .ref 0]) (t' := (sw f g, 327)) (nc' := 327) (ns' := 208818) sl_0_773 rfl) ?_
  refine Eq.trans (st_go (pc' := 776) (lv' := [(4, .int 0), (3, .ref 326), (2, .ref 189), (1, .ref 0), (0, .ref 1000000)]) (st' := [.int 4, .int 0, .ref 1000000, .int (xs 3), .int (xs 2), .int (xs 1), .ref 0]) (t' := (sw f g, 327)) (nc' := 327) (ns' := 208818) sl_0_775 rfl) ?_
  refine Eq.trans (st_go (pc' := 777) (lv' := [(4, .int 0), (3, .ref 326), (2, .ref 189), (1, .ref 0), (0, .ref 1000000)]) (st' := [.int 4, .ref 1000000, .int (xs 3), .int (xs 2), .int (xs 1), .ref 0]) (t' := (sw f g, 327)) (nc' := 327) (ns' := 208818) sl_0_776 rfl) ?_
  refine Eq.trans (st_go (pc' := 778) (lv' := [(4, .int 0), (3, .ref 326), (2, .ref 189), (1, .ref 0), (0, .ref 1000000)]) (st' := [.int (xs 4), .int (xs 3), .int (xs 2), .int (xs 1), .ref 0]) (t' := (sw f g, 327)) (nc' := 327) (ns' := 208818) sl_0_777 rfl) ?_
  refine Eq.trans (st_go (pc' := 779) (lv' := [(4, .int 0), (3, .ref 326), (2, .ref 189), (1, .ref 0), (0, .ref 1000000)]) (st' := [.ref 326, .int (xs 4), .int (xs 3), .int (xs 2), .int (xs 1), .ref 0]) (t' := (sw f g, 327)) (nc' := 327) (ns' := 208818) sl_0_778 rfl) ?_
  refine Eq.trans (st_call (pc' := 782) (st' := [.int 1]) (nc' := 328) (ns' := 208824) (mi := 170) (av := [.ref 0, .int (xs 1), .int (xs 2), .int (xs 3), .int (xs 4), .ref 326]) (rest := []) sl_0_779 (fun _ => rfl) (sw_68 xs sio f g q0 q1) rfl rfl rfl rfl) ?_
  refine Eq.trans (st_go (pc' := 784) (lv' := [(5, .int 1), (4, .int 0), (3, .ref 326), (2, .ref 189), (1, .ref 0), (0, .ref 1000000)]) (st' := []) (t' := (sh_31 xs f g, 328)) (nc' := 328) (ns' := 208824) sl_0_782 rfl) ?_
  refine Eq.trans (st_go (pc' := 785) (lv' := [(5, .int 1), (4, .int 0), (3, .ref 326), (2, .ref 189), (1, .ref 0), (0, .ref 1000000)]) (st' := [.ref 189]) (t' := (sh_31 xs f g, 328)) (nc' := 328) (ns' := 208824) sl_0_784 rfl) ?_
  refine Eq.trans (st_go (pc' := 786) (lv' := [(5, .int 1), (4, .int 0), (3, .ref 326), (2, .ref 189), (1, .ref 0), (0, .ref 1000000)]) (st' := [.ref 1000000, .ref 189]) (t' := (sh_31 xs f g, 328)) (nc' := 328) (ns' := 208824) sl_0_785 rfl) ?_
  refine Eq.trans (st_go (pc' := 788) (lv' := [(5, .int 1), (4, .int 0), (3, .ref 326), (2, .ref 189), (1, .ref 0), (0, .ref 1000000)]) (st' := [.int 0, .ref 1000000, .ref 189]) (t' := (sh_31 xs f g, 328)) (nc' := 328) (ns' := 208824) sl_0_786 rfl) ?_
  refine Eq.trans (st_go (pc' := 789) (lv' := [(5, .int 1), (4, .int 0), (3, .ref 326), (2, .ref 189), (1, .ref 0), (0, .ref 1000000)]) (st' := [.int 1, .int 0, .ref 1000000, .ref 189]) (t' := (sh_31 xs f g, 328)) (nc' := 328) (ns' := 208824) sl_0_788 rfl) ?_
  refine Eq.trans (st_go (pc' := 790) (lv' := [(5, .int 1), (4, .int 0), (3, .ref 326), (2, .ref 189), (1, .ref 0), (0, .ref 1000000)]) (st' := [.int 1, .ref 1000000, .ref 189]) (t' := (sh_31 xs f g, 328)) (nc' := 328) (ns' := 208824) sl_0_789 rfl) ?_
  refine Eq.trans (st_go (pc' := 791) (lv' := [(5, .int 1), (4, .int 0), (3, .ref 326), (2, .ref 189), (1, .ref 0), (0, .ref 1000000)]) (st' := [.int (xs 1), .ref 189]) (t' := (sh_31 xs f g, 328)) (nc' := 328) (ns' := 208824) sl_0_790 rfl) ?_
  refine Eq.trans (st_go (pc' := 792) (lv' := [(5, .int 1), (4, .int 0), (3, .ref 326), (2, .ref 189), (1, .ref 0), (0, .ref 1000000)]) (st' := [.ref 1000000, .int (xs 1), .ref 189]) (t' := (sh_31 xs f g, 328)) (nc' := 328) (ns' := 208824) sl_0_791 rfl) ?_
  refine Eq.trans (st_go (pc' := 794) (lv' := [(5, .int 1), (4, .int 0), (3, .ref 326), (2, .ref 189), (1, .ref 0), (0, .ref 1000000)]) (st' := [.int 0, .ref 1000000, .int (xs 1), .ref 189]) (t' := (sh_31 xs f g, 328)) (nc' := 328) (ns' := 208824) sl_0_792 rfl) ?_
  refine Eq.trans (st_go (pc' := 795) (lv' := [(5, .int 1), (4, .int 0), (3, .ref 326), (2, .ref 189), (1, .ref 0), (0, .ref 1000000)]) (st' := [.int 2, .int 0, .ref 1000000, .int (xs 1), .ref 189]) (t' := (sh_31 xs f g, 328)) (nc' := 328) (ns' := 208824) sl_0_794 rfl) ?_
  refine Eq.trans (st_go (pc' := 796) (lv' := [(5, .int 1), (4, .int 0), (3, .ref 326), (2, .ref 189), (1, .ref 0), (0, .ref 1000000)]) (st' := [.int 2, .ref 1000000, .int (xs 1), .ref 189]) (t' := (sh_31 xs f g, 328)) (nc' := 328) (ns' := 208824) sl_0_795 rfl) ?_
  refine Eq.trans (st_go (pc' := 797) (lv' := [(5, .int 1), (4, .int 0), (3, .ref 326), (2, .ref 189), (1, .ref 0), (0, .ref 1000000)]) (st' := [.int (xs 2), .int (xs 1), .ref 189]) (t' := (sh_31 xs f g, 328)) (nc' := 328) (ns' := 208824) sl_0_796 rfl) ?_
  refine Eq.trans (st_go (pc' := 798) (lv' := [(5, .int 1), (4, .int 0), (3, .ref 326), (2, .ref 189), (1, .ref 0), (0, .ref 1000000)]) (st' := [.ref 1000000, .int (xs 2), .int (xs 1), .ref 189]) (t' := (sh_31 xs f g, 328)) (nc' := 328) (ns' := 208824) sl_0_797 rfl) ?_
  refine Eq.trans (st_go (pc' := 800) (lv' := [(5, .int 1), (4, .int 0), (3, .ref 326), (2, .ref 189), (1, .ref 0), (0, .ref 1000000)]) (st' := [.int 0, .ref 1000000, .int (xs 2), .int (xs 1), .ref 189]) (t' := (sh_31 xs f g, 328)) (nc' := 328) (ns' := 208824) sl_0_798 rfl) ?_
  refine Eq.trans (st_go (pc' := 801) (lv' := [(5, .int 1), (4, .int 0), (3, .ref 326), (2, .ref 189), (1, .ref 0), (0, .ref 1000000)]) (st' := [.int 3, .int 0, .ref 1000000, .int (xs 2), .int (xs 1), .ref 189]) (t' := (sh_31 xs f g, 328)) (nc' := 328) (ns' := 208824) sl_0_800 rfl) ?_
  refine Eq.trans (st_go (pc' := 802) (lv' := [(5, .int 1), (4, .int 0), (3, .ref 326), (2, .ref 189), (1, .ref 0), (0, .ref 1000000)]) (st' := [.int 3, .ref 1000000, .int (xs 2), .int (xs 1), .ref 189]) (t' := (sh_31 xs f g, 328)) (nc' := 328) (ns' := 208824) sl_0_801 rfl) ?_
  refine Eq.trans (st_go (pc' := 803) (lv' := [(5, .int 1), (4, .int 0), (3, .ref 326), (2, .ref 189), (1, .ref 0), (0, .ref 1000000)]) (st' := [.int (xs 3), .int (xs 2), .int (xs 1), .ref 189]) (t' := (sh_31 xs f g, 328)) (nc' := 328) (ns' := 208824) sl_0_802 rfl) ?_
  refine Eq.trans (st_go (pc' := 804) (lv' := [(5, .int 1), (4, .int 0), (3, .ref 326), (2, .ref 189), (1, .ref 0), (0, .ref 1000000)]) (st' := [.ref 1000000, .int (xs 3), .int (xs 2), .int (xs 1), .ref 189]) (t' := (sh_31 xs f g, 328)) (nc' := 328) (ns' := 208824) sl_0_803 rfl) ?_
  refine Eq.trans (st_go (pc' := 806) (lv' := [(5, .int 1), (4, .int 0), (3, .ref 326), (2, .ref 189), (1, .ref 0), (0, .ref 1000000)]) (st' := [.int 0, .ref 1000000, .int (xs 3), .int (xs 2), .int (xs 1), .ref 189]) (t' := (sh_31 xs f g, 328)) (nc' := 328) (ns' := 208824) sl_0_804 rfl) ?_
  refine Eq.trans (st_go (pc' := 807) (lv' := [(5, .int 1), (4, .int 0), (3, .ref 326), (2, .ref 189), (1, .ref 0), (0, .ref 1000000)]) (st' := [.int 4, .int 0, .ref 1000000, .int (xs 3), .int (xs 2), .int (xs 1), .ref 189]) (t' := (sh_31 xs f g, 328)) (nc' := 328) (ns' := 208824) sl_0_806 rfl) ?_
  refine Eq.trans (st_go (pc' := 808) (lv' := [(5, .int 1), (4, .int 0), (3, .ref 326), (2, .ref 189), (1, .ref 0), (0, .ref 1000000)]) (st' := [.int 4, .ref 1000000, .int (xs 3), .int (xs 2), .int (xs 1), .ref 189]) (t' := (sh_31 xs f g, 328)) (nc' := 328) (ns' := 208824) sl_0_807 rfl) ?_
  refine Eq.trans (st_go (pc' := 809) (lv' := [(5, .int 1), (4, .int 0), (3, .ref 326), (2, .ref 189), (1, .ref 0), (0, .ref 1000000)]) (st' := [.int (xs 4), .int (xs 3), .int (xs 2), .int (xs 1), .ref 189]) (t' := (sh_31 xs f g, 328)) (nc' := 328) (ns' := 208824) sl_0_808 rfl) ?_
  refine Eq.trans (st_call (pc' := 812) (st' := [.int 0]) (nc' := 328) (ns' := 208824) (mi := 311) (av := [.ref 189, .int (xs 1), .int (xs 2), .int (xs 3), .int (xs 4)]) (rest := []) sl_0_809 (fun _ => rfl) (sw_70 xs sio f g q0 q2) rfl rfl rfl rfl) ?_
  refine Eq.trans (st_go (pc' := 814) (lv' := [(6, .int 0), (5, .int 1), (4, .int 0), (3, .ref 326), (2, .ref 189), (1, .ref 0), (0, .ref 1000000)]) (st' := []) (t' := (sh_32 xs f g, 328)) (nc' := 328) (ns' := 208824) sl_0_812 rfl) ?_
  refine Eq.trans (st_go (pc' := 815) (lv' := [(6, .int 0), (5, .int 1), (4, .int 0), (3, .ref 326), (2, .ref 189), (1, .ref 0), (0, .ref 1000000)]) (st' := [.ref 189]) (t' := (sh_32 xs f g, 328)) (nc' := 328) (ns' := 208824) sl_0_814 rfl) ?_
  refine Eq.trans (st_call (pc' := 818) (st' := [.int 1]) (nc' := 328) (ns' := 208824) (mi := 207) (av := [.ref 189]) (rest := []) sl_0_815 (fun _ => rfl) (sw_71 xs sio f g) rfl rfl rfl rfl) ?_
  refine Eq.trans (st_go (pc' := 820) (lv' := [(6, .int 0), (5, .int 1), (4, .int 0), (3, .ref 326), (2, .ref 189), (1, .ref 0), (0, .ref 1000000)]) (st' := [.int 1, .int 1]) (t' := (sh_32 xs f g, 328)) (nc' := 328) (ns' := 208824) sl_0_818 rfl) ?_
  refine Eq.trans (st_go (pc' := 825) (lv' := [(6, .int 0), (5, .int 1), (4, .int 0), (3, .ref 326), (2, .ref 189), (1, .ref 0), (0, .ref 1000000)]) (st' := []) (t' := (sh_32 xs f g, 328)) (nc' := 328) (ns' := 208824) sl_0_820 rfl) ?_
  refine Eq.trans (st_go (pc' := 827) (lv' := [(6, .int 0), (5, .int 1), (4, .int 0), (3, .ref 326), (2, .ref 189), (1, .ref 0), (0, .ref 1000000)]) (st' := [.int 1]) (t' := (sh_32 xs f g, 328)) (nc' := 328) (ns' := 208824) sl_0_825 rfl) ?_
  refine Eq.trans (st_go (pc' := 842) (lv' := [(6, .int 0), (5, .int 1), (4, .int 0), (3, .ref 326), (2, .ref 189), (1, .ref 0), (0, .ref 1000000)]) (st' := []) (t' := (sh_32 xs f g, 328)) (nc' := 328) (ns' := 208824) sl_0_827 rfl) ?_
  refine Eq.trans (st_go (pc' := 1172) (lv' := [(6, .int 0), (5, .int 1), (4, .int 0), (3, .ref 326), (2, .ref 189), (1, .ref 0), (0, .ref 1000000)]) (st' := []) (t' := (sh_32 xs f g, 328)) (nc' := 328) (ns' := 208824) sl_0_842 rfl) ?_
  refine Eq.trans (st_go (pc' := 1175) (lv' := [(4, .int 6), (6, .int 0), (5, .int 1), (3, .ref 326), (2, .ref 189), (1, .ref 0), (0, .ref 1000000)]) (st' := []) (t' := (sh_32 xs f g, 328)) (nc' := 328) (ns' := 208824) sl_0_1172 rfl) ?_
  refine Eq.trans (st_go (pc' := 23) (lv' := [(4, .int 6), (6, .int 0), (5, .int 1), (3, .ref 326), (2, .ref 189), (1, .ref 0), (0, .ref 1000000)]) (st' := []) (t' := (sh_32 xs f g, 328)) (nc' := 328) (ns' := 208824) sl_0_1175 rfl) ?_
  refine Eq.trans (st_go (pc' := 25) (lv' := [(4, .int 6), (6, .int 0), (5, .int 1), (3, .ref 326), (2, .ref 189), (1, .ref 0), (0, .ref 1000000)]) (st' := [.int 6]) (t' := (sh_32 xs f g, 328)) (nc' := 328) (ns' := 208824) sl_0_23 rfl) ?_
  refine Eq.trans (st_go (pc' := 26) (lv' := [(4, .int 6), (6, .int 0), (5, .int 1), (3, .ref 326), (2, .ref 189), (1, .ref 0), (0, .ref 1000000)]) (st' := [.ref 1000000, .int 6]) (t' := (sh_32 xs f g, 328)) (nc' := 328) (ns' := 208824) sl_0_25 rfl) ?_
  refine Eq.trans (st_go (pc' := 27) (lv' := [(4, .int 6), (6, .int 0), (5, .int 1), (3, .ref 326), (2, .ref 189), (1, .ref 0), (0, .ref 1000000)]) (st' := [.int 6, .int 6]) (t' := (sh_32 xs f g, 328)) (nc' := 328) (ns' := 208824) sl_0_26 rfl) ?_
  refine Eq.trans (st_go (pc' := 29) (lv' := [(4, .int 6), (6, .int 0), (5, .int 1), (3, .ref 326), (2, .ref 189), (1, .ref 0), (0, .ref 1000000)]) (st' := [.int 6, .int 6, .int 6]) (t' := (sh_32 xs f g, 328)) (nc' := 328) (ns' := 208824) sl_0_27 rfl) ?_
  refine Eq.trans (st_go (pc' := 30) (lv' := [(4, .int 6), (6, .int 0), (5, .int 1), (3, .ref 326), (2, .ref 189), (1, .ref 0), (0, .ref 1000000)]) (st' := [.int 0, .int 6]) (t' := (sh_32 xs f g, 328)) (nc' := 328) (ns' := 208824) sl_0_29 rfl) ?_
  refine Eq.trans (st_go (pc' := 1178) (lv' := [(4, .int 6), (6, .int 0), (5, .int 1), (3, .ref 326), (2, .ref 189), (1, .ref 0), (0, .ref 1000000)]) (st' := []) (t' := (sh_32 xs f g, 328)) (nc' := 328) (ns' := 208824) sl_0_30 rfl) ?_
  refine Eq.trans (st_go (pc' := 1179) (lv' := [(4, .int 6), (6, .int 0), (5, .int 1), (3, .ref 326), (2, .ref 189), (1, .ref 0), (0, .ref 1000000)]) (st' := [.int 1]) (t' := (sh_32 xs f g, 328)) (nc' := 328) (ns' := 208824) sl_0_1178 rfl) ?_
  exact st_end sl_0_1179 rfl
set_option maxRecDepth 100000 in
/-- PacketWorks.isTable -/
theorem sw_72 (xs : Nat → Int32) (sio : Value) (f : Nat → Nat → Int32) (g : Nat → Nat → Int64) : sC 6 xs sio 15 172 [.ref 0, .int (xs 2)] (sw f g, 327) = some (.inl (some (.int 0)), (sw f g, 327), 0, 0) := by
  refine st_in sg_172 rfl rfl ?_
  refine Eq.trans (st_go (pc' := 1) (lv' := [(0, .ref 0), (1, .int (xs 2))]) (st' := [.ref 0]) (t' := (sw f g, 327)) (nc' := 0) (ns' := 0) sl_172_0 rfl) ?_
  refine Eq.trans (st_go (pc' := 4) (lv' := [(0, .ref 0), (1, .int (xs 2))]) (st' := [.int 0]) (t' := (sw f g, 327)) (nc' := 0) (ns' := 0) sl_172_1 rfl) ?_
  refine Eq.trans (st_go (pc' := 26) (lv' := [(0, .ref 0), (1, .int (xs 2))]) (st' := []) (t' := (sw f g, 327)) (nc' := 0) (ns' := 0) sl_172_4 rfl) ?_
  refine Eq.trans (st_go (pc' := 27) (lv' := [(0, .ref 0), (1, .int (xs 2))]) (st' := [.int 0]) (t' := (sw f g, 327)) (nc' := 0) (ns' := 0) sl_172_26 rfl) ?_
  exact st_end sl_172_27 rfl
set_option maxRecDepth 100000 in
/-- PacketWorks.entry -/
theorem sw_73 (xs : Nat → Int32) (sio : Value) (f : Nat → Nat → Int32) (g : Nat → Nat → Int64) (q0 : am_c0 .lt (xs 1) = false) (q1 : am_c2 .gt (xs 1) (2) = false) : sC 6 xs sio 16 171 [.ref 0, .int (xs 1), .int (xs 2), .int (xs 3), .int (xs 4)] (sw f g, 327) = some (.inr 2, (sw f g, 327), 1, 6) := by
  refine st_in sg_171 rfl rfl ?_
  refine Eq.trans (st_go (pc' := 1) (lv' := [(0, .ref 0), (1, .int (xs 1)), (2, .int (xs 2)), (3, .int (xs 3)), (4, .int (xs 4))]) (st' := [.int (xs 1)]) (t' := (sw f g, 327)) (nc' := 0) (ns' := 0) sl_171_0 rfl) ?_
  refine Eq.trans (st_if (pc' := 4) sl_171_1 q0 rfl) ?_
  refine Eq.trans (st_go (pc' := 5) (lv' := [(0, .ref 0), (1, .int (xs 1)), (2, .int (xs 2)), (3, .int (xs 3)), (4, .int (xs 4))]) (st' := [.int (xs 1)]) (t' := (sw f g, 327)) (nc' := 0) (ns' := 0) sl_171_4 rfl) ?_
  refine Eq.trans (st_go (pc' := 6) (lv' := [(0, .ref 0), (1, .int (xs 1)), (2, .int (xs 2)), (3, .int (xs 3)), (4, .int (xs 4))]) (st' := [.int 2, .int (xs 1)]) (t' := (sw f g, 327)) (nc' := 0) (ns' := 0) sl_171_5 rfl) ?_
  refine Eq.trans (st_ic (pc' := 9) sl_171_6 q1 rfl) ?_
  refine Eq.trans (st_go (pc' := 10) (lv' := [(0, .ref 0), (1, .int (xs 1)), (2, .int (xs 2)), (3, .int (xs 3)), (4, .int (xs 4))]) (st' := [.ref 0]) (t' := (sw f g, 327)) (nc' := 0) (ns' := 0) sl_171_9 rfl) ?_
  refine Eq.trans (st_go (pc' := 11) (lv' := [(0, .ref 0), (1, .int (xs 1)), (2, .int (xs 2)), (3, .int (xs 3)), (4, .int (xs 4))]) (st' := [.int (xs 2), .ref 0]) (t' := (sw f g, 327)) (nc' := 0) (ns' := 0) sl_171_10 rfl) ?_
  refine Eq.trans (st_call (pc' := 14) (st' := [.int 0]) (nc' := 0) (ns' := 0) (mi := 172) (av := [.ref 0, .int (xs 2)]) (rest := []) sl_171_11 (fun _ => rfl) (sw_72 xs sio f g) rfl rfl rfl rfl) ?_
  refine Eq.trans (st_go (pc' := 17) (lv' := [(0, .ref 0), (1, .int (xs 1)), (2, .int (xs 2)), (3, .int (xs 3)), (4, .int (xs 4))]) (st' := []) (t' := (sw f g, 327)) (nc' := 0) (ns' := 0) sl_171_14 rfl) ?_
  exact st_end sl_171_17 rfl
set_option maxRecDepth 100000 in
/-- PacketWorksLaw.entry -/
theorem sw_74 (xs : Nat → Int32) (sio : Value) (f : Nat → Nat → Int32) (g : Nat → Nat → Int64) (q0 : am_c0 .lt (xs 1) = false) (q1 : am_c2 .gt (xs 1) (2) = false) : sC 6 xs sio 17 170 [.ref 0, .int (xs 1), .int (xs 2), .int (xs 3), .int (xs 4), .ref 326] (sw f g, 327) = some (.inl (some (.int 1)), (sh_33 xs f g, 328), 1, 6) := by
  refine st_in sg_170 rfl rfl ?_
  refine Eq.trans (st_go (pc' := 2) (lv' := [(0, .ref 0), (1, .int (xs 1)), (2, .int (xs 2)), (3, .int (xs 3)), (4, .int (xs 4)), (5, .ref 326)]) (st' := [.ref 326]) (t' := (sw f g, 327)) (nc' := 0) (ns' := 0) sl_170_0 rfl) ?_
  refine Eq.trans (st_go (pc' := 3) (lv' := [(0, .ref 0), (1, .int (xs 1)), (2, .int (xs 2)), (3, .int (xs 3)), (4, .int (xs 4)), (5, .ref 326)]) (st' := [.int 0, .ref 326]) (t' := (sw f g, 327)) (nc' := 0) (ns' := 0) sl_170_2 rfl) ?_
  refine Eq.trans (st_go (pc' := 4) (lv' := [(0, .ref 0), (1, .int (xs 1)), (2, .int (xs 2)), (3, .int (xs 3)), (4, .int (xs 4)), (5, .ref 326)]) (st' := [.ref 0, .int 0, .ref 326]) (t' := (sw f g, 327)) (nc' := 0) (ns' := 0) sl_170_3 rfl) ?_
  refine Eq.trans (st_go (pc' := 5) (lv' := [(0, .ref 0), (1, .int (xs 1)), (2, .int (xs 2)), (3, .int (xs 3)), (4, .int (xs 4)), (5, .ref 326)]) (st' := [.int (xs 1), .ref 0, .int 0, .ref 326]) (t' := (sw f g, 327)) (nc' := 0) (ns' := 0) sl_170_4 rfl) ?_
  refine Eq.trans (st_go (pc' := 6) (lv' := [(0, .ref 0), (1, .int (xs 1)), (2, .int (xs 2)), (3, .int (xs 3)), (4, .int (xs 4)), (5, .ref 326)]) (st' := [.int (xs 2), .int (xs 1), .ref 0, .int 0, .ref 326]) (t' := (sw f g, 327)) (nc' := 0) (ns' := 0) sl_170_5 rfl) ?_
  refine Eq.trans (st_go (pc' := 7) (lv' := [(0, .ref 0), (1, .int (xs 1)), (2, .int (xs 2)), (3, .int (xs 3)), (4, .int (xs 4)), (5, .ref 326)]) (st' := [.int (xs 3), .int (xs 2), .int (xs 1), .ref 0, .int 0, .ref 326]) (t' := (sw f g, 327)) (nc' := 0) (ns' := 0) sl_170_6 rfl) ?_
  refine Eq.trans (st_go (pc' := 9) (lv' := [(0, .ref 0), (1, .int (xs 1)), (2, .int (xs 2)), (3, .int (xs 3)), (4, .int (xs 4)), (5, .ref 326)]) (st' := [.int (xs 4), .int (xs 3), .int (xs 2), .int (xs 1), .ref 0, .int 0, .ref 326]) (t' := (sw f g, 327)) (nc' := 0) (ns' := 0) sl_170_7 rfl) ?_
  refine Eq.trans (st_catch (pc' := 17) (nc' := 1) (ns' := 6) (c := .inr (15, [])) (mi := 171) (av := [.ref 0, .int (xs 1), .int (xs 2), .int (xs 3), .int (xs 4)]) (rest := [.int 0, .ref 326]) sl_170_9 (fun _ => rfl) (sw_73 xs sio f g q0 q1) rfl rfl rfl rfl rfl rfl) ?_
  show sR 6 xs sio 16 pm_170 _ (17, [(0, .ref 0), (1, .int (xs 1)), (2, .int (xs 2)), (3, .int (xs 3)), (4, .int (xs 4)), (5, .ref 326)], [.ref 327], (sh_33 xs f g, 328), 1, 6) = _
  refine Eq.trans (st_go (pc' := 19) (lv' := [(6, .ref 327), (0, .ref 0), (1, .int (xs 1)), (2, .int (xs 2)), (3, .int (xs 3)), (4, .int (xs 4)), (5, .ref 326)]) (st' := []) (t' := (sh_33 xs f g, 328)) (nc' := 1) (ns' := 6) sl_170_17 rfl) ?_
  refine Eq.trans (st_go (pc' := 20) (lv' := [(6, .ref 327), (0, .ref 0), (1, .int (xs 1)), (2, .int (xs 2)), (3, .int (xs 3)), (4, .int (xs 4)), (5, .ref 326)]) (st' := [.int 1]) (t' := (sh_33 xs f g, 328)) (nc' := 1) (ns' := 6) sl_170_19 rfl) ?_
  exact st_end sl_170_20 rfl
set_option maxRecDepth 100000 in
/-- PacketWorksModel.in -/
theorem sw_75 (xs : Nat → Int32) (sio : Value) (f : Nat → Nat → Int32) (g : Nat → Nat → Int64) (q0 : am_c0 .lt (xs 1) = false) (q1 : am_c2 .ge (xs 1) (3) = false) : sC 6 xs sio 16 305 [.int (xs 1), .int 3] (sh_33 xs f g, 328) = some (.inl (some (.int 1)), (sh_33 xs f g, 328), 0, 0) := by
  refine st_in sg_305 rfl rfl ?_
  refine Eq.trans (st_go (pc' := 1) (lv' := [(0, .int (xs 1)), (1, .int 3)]) (st' := [.int (xs 1)]) (t' := (sh_33 xs f g, 328)) (nc' := 0) (ns' := 0) sl_305_0 rfl) ?_
  refine Eq.trans (st_if (pc' := 4) sl_305_1 q0 rfl) ?_
  refine Eq.trans (st_go (pc' := 5) (lv' := [(0, .int (xs 1)), (1, .int 3)]) (st' := [.int (xs 1)]) (t' := (sh_33 xs f g, 328)) (nc' := 0) (ns' := 0) sl_305_4 rfl) ?_
  refine Eq.trans (st_go (pc' := 6) (lv' := [(0, .int (xs 1)), (1, .int 3)]) (st' := [.int 3, .int (xs 1)]) (t' := (sh_33 xs f g, 328)) (nc' := 0) (ns' := 0) sl_305_5 rfl) ?_
  refine Eq.trans (st_ic (pc' := 9) sl_305_6 q1 rfl) ?_
  refine Eq.trans (st_go (pc' := 10) (lv' := [(0, .int (xs 1)), (1, .int 3)]) (st' := [.int 1]) (t' := (sh_33 xs f g, 328)) (nc' := 0) (ns' := 0) sl_305_9 rfl) ?_
  refine Eq.trans (st_go (pc' := 14) (lv' := [(0, .int (xs 1)), (1, .int 3)]) (st' := [.int 1]) (t' := (sh_33 xs f g, 328)) (nc' := 0) (ns' := 0) sl_305_10 rfl) ?_
  exact st_end sl_305_14 rfl
set_option maxRecDepth 100000 in
/-- PacketWorksModel.entry -/
theorem sw_76 (xs : Nat → Int32) (sio : Value) (f : Nat → Nat → Int32) (g : Nat → Nat → Int64) (q0 : am_c0 .lt (xs 1) = false) (q1 : am_c2 .ge (xs 1) (3) = false) : sC 6 xs sio 17 311 [.ref 189, .int (xs 1), .int (xs 2), .int (xs 3), .int (xs 4)] (sh_33 xs f g, 328) = some (.inl (some (.int 0)), (sh_34 xs f g, 328), 0, 0) := by
  refine st_in sg_311 rfl rfl ?_
  refine Eq.trans (st_go (pc' := 1) (lv' := [(0, .ref 189), (1, .int (xs 1)), (2, .int (xs 2)), (3, .int (xs 3)), (4, .int (xs 4))]) (st' := [.ref 189]) (t' := (sh_33 xs f g, 328)) (nc' := 0) (ns' := 0) sl_311_0 rfl) ?_
  refine Eq.trans (st_go (pc' := 2) (lv' := [(0, .ref 189), (1, .int (xs 1)), (2, .int (xs 2)), (3, .int (xs 3)), (4, .int (xs 4))]) (st' := [.int (xs 1), .ref 189]) (t' := (sh_33 xs f g, 328)) (nc' := 0) (ns' := 0) sl_311_1 rfl) ?_
  refine Eq.trans (st_go (pc' := 3) (lv' := [(0, .ref 189), (1, .int (xs 1)), (2, .int (xs 2)), (3, .int (xs 3)), (4, .int (xs 4))]) (st' := [.int 3, .int (xs 1), .ref 189]) (t' := (sh_33 xs f g, 328)) (nc' := 0) (ns' := 0) sl_311_2 rfl) ?_
  refine Eq.trans (st_call (pc' := 6) (st' := [.int 1, .ref 189]) (nc' := 0) (ns' := 0) (mi := 305) (av := [.int (xs 1), .int 3]) (rest := [.ref 189]) sl_311_3 (fun _ => rfl) (sw_75 xs sio f g q0 q1) rfl rfl rfl rfl) ?_
  refine Eq.trans (st_go (pc' := 9) (lv' := [(0, .ref 189), (1, .int (xs 1)), (2, .int (xs 2)), (3, .int (xs 3)), (4, .int (xs 4))]) (st' := [.ref 189]) (t' := (sh_33 xs f g, 328)) (nc' := 0) (ns' := 0) sl_311_6 rfl) ?_
  refine Eq.trans (st_go (pc' := 10) (lv' := [(0, .ref 189), (1, .int (xs 1)), (2, .int (xs 2)), (3, .int (xs 3)), (4, .int (xs 4))]) (st' := [.ref 189, .ref 189]) (t' := (sh_33 xs f g, 328)) (nc' := 0) (ns' := 0) sl_311_9 rfl) ?_
  refine Eq.trans (st_go (pc' := 13) (lv' := [(0, .ref 189), (1, .int (xs 1)), (2, .int (xs 2)), (3, .int (xs 3)), (4, .int (xs 4))]) (st' := [.int 0, .ref 189]) (t' := (sh_33 xs f g, 328)) (nc' := 0) (ns' := 0) sl_311_10 rfl) ?_
  refine Eq.trans (st_go (pc' := 27) (lv' := [(0, .ref 189), (1, .int (xs 1)), (2, .int (xs 2)), (3, .int (xs 3)), (4, .int (xs 4))]) (st' := [.ref 189]) (t' := (sh_33 xs f g, 328)) (nc' := 0) (ns' := 0) sl_311_13 rfl) ?_
  refine Eq.trans (st_go (pc' := 28) (lv' := [(0, .ref 189), (1, .int (xs 1)), (2, .int (xs 2)), (3, .int (xs 3)), (4, .int (xs 4))]) (st' := [.int 1, .ref 189]) (t' := (sh_33 xs f g, 328)) (nc' := 0) (ns' := 0) sl_311_27 rfl) ?_
  refine Eq.trans (st_go (pc' := 52) (lv' := [(0, .ref 189), (1, .int (xs 1)), (2, .int (xs 2)), (3, .int (xs 3)), (4, .int (xs 4))]) (st' := [.int 1, .ref 189]) (t' := (sh_33 xs f g, 328)) (nc' := 0) (ns' := 0) sl_311_28 rfl) ?_
  refine Eq.trans (st_go (pc' := 55) (lv' := [(0, .ref 189), (1, .int (xs 1)), (2, .int (xs 2)), (3, .int (xs 3)), (4, .int (xs 4))]) (st' := []) (t' := (sh_34 xs f g, 328)) (nc' := 0) (ns' := 0) sl_311_52 rfl) ?_
  refine Eq.trans (st_go (pc' := 56) (lv' := [(0, .ref 189), (1, .int (xs 1)), (2, .int (xs 2)), (3, .int (xs 3)), (4, .int (xs 4))]) (st' := [.ref 189]) (t' := (sh_34 xs f g, 328)) (nc' := 0) (ns' := 0) sl_311_55 rfl) ?_
  refine Eq.trans (st_go (pc' := 59) (lv' := [(0, .ref 189), (1, .int (xs 1)), (2, .int (xs 2)), (3, .int (xs 3)), (4, .int (xs 4))]) (st' := [.int 1]) (t' := (sh_34 xs f g, 328)) (nc' := 0) (ns' := 0) sl_311_56 rfl) ?_
  refine Eq.trans (st_go (pc' := 62) (lv' := [(0, .ref 189), (1, .int (xs 1)), (2, .int (xs 2)), (3, .int (xs 3)), (4, .int (xs 4))]) (st' := []) (t' := (sh_34 xs f g, 328)) (nc' := 0) (ns' := 0) sl_311_59 rfl) ?_
  refine Eq.trans (st_go (pc' := 63) (lv' := [(0, .ref 189), (1, .int (xs 1)), (2, .int (xs 2)), (3, .int (xs 3)), (4, .int (xs 4))]) (st' := [.int 0]) (t' := (sh_34 xs f g, 328)) (nc' := 0) (ns' := 0) sl_311_62 rfl) ?_
  exact st_end sl_311_63 rfl
set_option maxRecDepth 100000 in
/-- PacketWorksModel.thrown -/
theorem sw_77 (xs : Nat → Int32) (sio : Value) (f : Nat → Nat → Int32) (g : Nat → Nat → Int64) : sC 6 xs sio 17 207 [.ref 189] (sh_34 xs f g, 328) = some (.inl (some (.int 1)), (sh_34 xs f g, 328), 0, 0) := by
  refine st_in sg_207 rfl rfl ?_
  refine Eq.trans (st_go (pc' := 1) (lv' := [(0, .ref 189)]) (st' := [.ref 189]) (t' := (sh_34 xs f g, 328)) (nc' := 0) (ns' := 0) sl_207_0 rfl) ?_
  refine Eq.trans (st_go (pc' := 4) (lv' := [(0, .ref 189)]) (st' := [.int 1]) (t' := (sh_34 xs f g, 328)) (nc' := 0) (ns' := 0) sl_207_1 rfl) ?_
  exact st_end sl_207_4 rfl
set_option maxRecDepth 100000 in
theorem so_12_i (xs : Nat → Int32) (sio : Value) (f : Nat → Nat → Int32) (g : Nat → Nat → Int64) (n : Nat) (hn : 65 ≤ n) (q0 : am_c0 .lt (xs 1) = false) (q1 : am_c2 .gt (xs 1) (2) = false) (q2 : am_c2 .ge (xs 1) (3) = false) : sR 6 xs sio 17 pm_0 n (40, [(4, .int 0), (3, .ref 326), (2, .ref 189), (1, .ref 0), (0, .ref 1000000)], [.int 12], (sw f g, 327), 327, 208818) = some (.inl (some (.int 1)), (sh_34 xs f g, 328), 328, 208824) := by
  obtain ⟨m, rfl⟩ : ∃ m, n = m + 65 := ⟨n - 65, by omega⟩
  refine Eq.trans (st_go (pc' := 753) (lv' := [(4, .int 0), (3, .ref 326), (2, .ref 189), (1, .ref 0), (0, .ref 1000000)]) (st' := []) (t' := (sw f g, 327)) (nc' := 327) (ns' := 208818) sl_0_40 rfl) ?_
  refine Eq.trans (st_go (pc' := 754) (lv' := [(4, .int 0), (3, .ref 326), (2, .ref 189), (1, .ref 0), (0, .ref 1000000)]) (st' := [.ref 0]) (t' := (sw f g, 327)) (nc' := 327) (ns' := 208818) sl_0_753 rfl) ?_
  refine Eq.trans (st_go (pc' := 755) (lv' := [(4, .int 0), (3, .ref 326), (2, .ref 189), (1, .ref 0), (0, .ref 1000000)]) (st' := [.ref 1000000, .ref 0]) (t' := (sw f g, 327)) (nc' := 327) (ns' := 208818) sl_0_754 rfl) ?_
  refine Eq.trans (st_go (pc' := 757) (lv' := [(4, .int 0), (3, .ref 326), (2, .ref 189), (1, .ref 0), (0, .ref 1000000)]) (st' := [.int 0, .ref 1000000, .ref 0]) (t' := (sw f g, 327)) (nc' := 327) (ns' := 208818) sl_0_755 rfl) ?_
  refine Eq.trans (st_go (pc' := 758) (lv' := [(4, .int 0), (3, .ref 326), (2, .ref 189), (1, .ref 0), (0, .ref 1000000)]) (st' := [.int 1, .int 0, .ref 1000000, .ref 0]) (t' := (sw f g, 327)) (nc' := 327) (ns' := 208818) sl_0_757 rfl) ?_
  refine Eq.trans (st_go (pc' := 759) (lv' := [(4, .int 0), (3, .ref 326), (2, .ref 189), (1, .ref 0), (0, .ref 1000000)]) (st' := [.int 1, .ref 1000000, .ref 0]) (t' := (sw f g, 327)) (nc' := 327) (ns' := 208818) sl_0_758 rfl) ?_
  refine Eq.trans (st_go (pc' := 760) (lv' := [(4, .int 0), (3, .ref 326), (2, .ref 189), (1, .ref 0), (0, .ref 1000000)]) (st' := [.int (xs 1), .ref 0]) (t' := (sw f g, 327)) (nc' := 327) (ns' := 208818) sl_0_759 rfl) ?_
  refine Eq.trans (st_go (pc' := 761) (lv' := [(4, .int 0), (3, .ref 326), (2, .ref 189), (1, .ref 0), (0, .ref 1000000)]) (st' := [.ref 1000000, .int (xs 1), .ref 0]) (t' := (sw f g, 327)) (nc' := 327) (ns' := 208818) sl_0_760 rfl) ?_
  refine Eq.trans (st_go (pc' := 763) (lv' := [(4, .int 0), (3, .ref 326), (2, .ref 189), (1, .ref 0), (0, .ref 1000000)]) (st' := [.int 0, .ref 1000000, .int (xs 1), .ref 0]) (t' := (sw f g, 327)) (nc' := 327) (ns' := 208818) sl_0_761 rfl) ?_
  refine Eq.trans (st_go (pc' := 764) (lv' := [(4, .int 0), (3, .ref 326), (2, .ref 189), (1, .ref 0), (0, .ref 1000000)]) (st' := [.int 2, .int 0, .ref 1000000, .int (xs 1), .ref 0]) (t' := (sw f g, 327)) (nc' := 327) (ns' := 208818) sl_0_763 rfl) ?_
  refine Eq.trans (st_go (pc' := 765) (lv' := [(4, .int 0), (3, .ref 326), (2, .ref 189), (1, .ref 0), (0, .ref 1000000)]) (st' := [.int 2, .ref 1000000, .int (xs 1), .ref 0]) (t' := (sw f g, 327)) (nc' := 327) (ns' := 208818) sl_0_764 rfl) ?_
  refine Eq.trans (st_go (pc' := 766) (lv' := [(4, .int 0), (3, .ref 326), (2, .ref 189), (1, .ref 0), (0, .ref 1000000)]) (st' := [.int (xs 2), .int (xs 1), .ref 0]) (t' := (sw f g, 327)) (nc' := 327) (ns' := 208818) sl_0_765 rfl) ?_
  refine Eq.trans (st_go (pc' := 767) (lv' := [(4, .int 0), (3, .ref 326), (2, .ref 189), (1, .ref 0), (0, .ref 1000000)]) (st' := [.ref 1000000, .int (xs 2), .int (xs 1), .ref 0]) (t' := (sw f g, 327)) (nc' := 327) (ns' := 208818) sl_0_766 rfl) ?_
  refine Eq.trans (st_go (pc' := 769) (lv' := [(4, .int 0), (3, .ref 326), (2, .ref 189), (1, .ref 0), (0, .ref 1000000)]) (st' := [.int 0, .ref 1000000, .int (xs 2), .int (xs 1), .ref 0]) (t' := (sw f g, 327)) (nc' := 327) (ns' := 208818) sl_0_767 rfl) ?_
  refine Eq.trans (st_go (pc' := 770) (lv' := [(4, .int 0), (3, .ref 326), (2, .ref 189), (1, .ref 0), (0, .ref 1000000)]) (st' := [.int 3, .int 0, .ref 1000000, .int (xs 2), .int (xs 1), .ref 0]) (t' := (sw f g, 327)) (nc' := 327) (ns' := 208818) sl_0_769 rfl) ?_
  refine Eq.trans (st_go (pc' := 771) (lv' := [(4, .int 0), (3, .ref 326), (2, .ref 189), (1, .ref 0), (0, .ref 1000000)]) (st' := [.int 3, .ref 1000000, .int (xs 2), .int (xs 1), .ref 0]) (t' := (sw f g, 327)) (nc' := 327) (ns' := 208818) sl_0_770 rfl) ?_
  refine Eq.trans (st_go (pc' := 772) (lv' := [(4, .int 0), (3, .ref 326), (2, .ref 189), (1, .ref 0), (0, .ref 1000000)]) (st' := [.int (xs 3), .int (xs 2), .int (xs 1), .ref 0]) (t' := (sw f g, 327)) (nc' := 327) (ns' := 208818) sl_0_771 rfl) ?_
  refine Eq.trans (st_go (pc' := 773) (lv' := [(4, .int 0), (3, .ref 326), (2, .ref 189), (1, .ref 0), (0, .ref 1000000)]) (st' := [.ref 1000000, .int (xs 3), .int (xs 2), .int (xs 1), .ref 0]) (t' := (sw f g, 327)) (nc' := 327) (ns' := 208818) sl_0_772 rfl) ?_
  refine Eq.trans (st_go (pc' := 775) (lv' := [(4, .int 0), (3, .ref 326), (2, .ref 189), (1, .ref 0), (0, .ref 1000000)]) (st' := [.int 0, .ref 1000000, .int (xs 3), .int (xs 2), .int (xs 1), .ref 0]) (t' := (sw f g, 327)) (nc' := 327) (ns' := 208818) sl_0_773 rfl) ?_
  refine Eq.trans (st_go (pc' := 776) (lv' := [(4, .int 0), (3, .ref 326), (2, .ref 189), (1, .ref 0), (0, .ref 1000000)]) (st' := [.int 4, .int 0, .ref 1000000, .int (xs 3), .int (xs 2), .int (xs 1), .ref 0]) (t' := (sw f g, 327)) (nc' := 327) (ns' := 208818) sl_0_775 rfl) ?_
  refine Eq.trans (st_go (pc' := 777) (lv' := [(4, .int 0), (3, .ref 326), (2, .ref 189), (1, .ref 0), (0, .ref 1000000)]) (st' := [.int 4, .ref 1000000, .int (xs 3), .int (xs 2), .int (xs 1), .ref 0]) (t' := (sw f g, 327)) (nc' := 327) (ns' := 208818) sl_0_776 rfl) ?_
  refine Eq.trans (st_go (pc' := 778) (lv' := [(4, .int 0), (3, .ref 326), (2, .ref 189), (1, .ref 0), (0, .ref 1000000)]) (st' := [.int (xs 4), .int (xs 3), .int (xs 2), .int (xs 1), .ref 0]) (t' := (sw f g, 327)) (nc' := 327) (ns' := 208818) sl_0_777 rfl) ?_
  refine Eq.trans (st_go (pc' := 779) (lv' := [(4, .int 0), (3, .ref 326), (2, .ref 189), (1, .ref 0), (0, .ref 1000000)]) (st' := [.ref 326, .int (xs 4), .int (xs 3), .int (xs 2), .int (xs 1), .ref 0]) (t' := (sw f g, 327)) (nc' := 327) (ns' := 208818) sl_0_778 rfl) ?_
  refine Eq.trans (st_call (pc' := 782) (st' := [.int 1]) (nc' := 328) (ns' := 208824) (mi := 170) (av := [.ref 0, .int (xs 1), .int (xs 2), .int (xs 3), .int (xs 4), .ref 326]) (rest := []) sl_0_779 (fun _ => rfl) (sw_74 xs sio f g q0 q1) rfl rfl rfl rfl) ?_
  refine Eq.trans (st_go (pc' := 784) (lv' := [(5, .int 1), (4, .int 0), (3, .ref 326), (2, .ref 189), (1, .ref 0), (0, .ref 1000000)]) (st' := []) (t' := (sh_33 xs f g, 328)) (nc' := 328) (ns' := 208824) sl_0_782 rfl) ?_
  refine Eq.trans (st_go (pc' := 785) (lv' := [(5, .int 1), (4, .int 0), (3, .ref 326), (2, .ref 189), (1, .ref 0), (0, .ref 1000000)]) (st' := [.ref 189]) (t' := (sh_33 xs f g, 328)) (nc' := 328) (ns' := 208824) sl_0_784 rfl) ?_
  refine Eq.trans (st_go (pc' := 786) (lv' := [(5, .int 1), (4, .int 0), (3, .ref 326), (2, .ref 189), (1, .ref 0), (0, .ref 1000000)]) (st' := [.ref 1000000, .ref 189]) (t' := (sh_33 xs f g, 328)) (nc' := 328) (ns' := 208824) sl_0_785 rfl) ?_
  refine Eq.trans (st_go (pc' := 788) (lv' := [(5, .int 1), (4, .int 0), (3, .ref 326), (2, .ref 189), (1, .ref 0), (0, .ref 1000000)]) (st' := [.int 0, .ref 1000000, .ref 189]) (t' := (sh_33 xs f g, 328)) (nc' := 328) (ns' := 208824) sl_0_786 rfl) ?_
  refine Eq.trans (st_go (pc' := 789) (lv' := [(5, .int 1), (4, .int 0), (3, .ref 326), (2, .ref 189), (1, .ref 0), (0, .ref 1000000)]) (st' := [.int 1, .int 0, .ref 1000000, .ref 189]) (t' := (sh_33 xs f g, 328)) (nc' := 328) (ns' := 208824) sl_0_788 rfl) ?_
  refine Eq.trans (st_go (pc' := 790) (lv' := [(5, .int 1), (4, .int 0), (3, .ref 326), (2, .ref 189), (1, .ref 0), (0, .ref 1000000)]) (st' := [.int 1, .ref 1000000, .ref 189]) (t' := (sh_33 xs f g, 328)) (nc' := 328) (ns' := 208824) sl_0_789 rfl) ?_
  refine Eq.trans (st_go (pc' := 791) (lv' := [(5, .int 1), (4, .int 0), (3, .ref 326), (2, .ref 189), (1, .ref 0), (0, .ref 1000000)]) (st' := [.int (xs 1), .ref 189]) (t' := (sh_33 xs f g, 328)) (nc' := 328) (ns' := 208824) sl_0_790 rfl) ?_
  refine Eq.trans (st_go (pc' := 792) (lv' := [(5, .int 1), (4, .int 0), (3, .ref 326), (2, .ref 189), (1, .ref 0), (0, .ref 1000000)]) (st' := [.ref 1000000, .int (xs 1), .ref 189]) (t' := (sh_33 xs f g, 328)) (nc' := 328) (ns' := 208824) sl_0_791 rfl) ?_
  refine Eq.trans (st_go (pc' := 794) (lv' := [(5, .int 1), (4, .int 0), (3, .ref 326), (2, .ref 189), (1, .ref 0), (0, .ref 1000000)]) (st' := [.int 0, .ref 1000000, .int (xs 1), .ref 189]) (t' := (sh_33 xs f g, 328)) (nc' := 328) (ns' := 208824) sl_0_792 rfl) ?_
  refine Eq.trans (st_go (pc' := 795) (lv' := [(5, .int 1), (4, .int 0), (3, .ref 326), (2, .ref 189), (1, .ref 0), (0, .ref 1000000)]) (st' := [.int 2, .int 0, .ref 1000000, .int (xs 1), .ref 189]) (t' := (sh_33 xs f g, 328)) (nc' := 328) (ns' := 208824) sl_0_794 rfl) ?_
  refine Eq.trans (st_go (pc' := 796) (lv' := [(5, .int 1), (4, .int 0), (3, .ref 326), (2, .ref 189), (1, .ref 0), (0, .ref 1000000)]) (st' := [.int 2, .ref 1000000, .int (xs 1), .ref 189]) (t' := (sh_33 xs f g, 328)) (nc' := 328) (ns' := 208824) sl_0_795 rfl) ?_
  refine Eq.trans (st_go (pc' := 797) (lv' := [(5, .int 1), (4, .int 0), (3, .ref 326), (2, .ref 189), (1, .ref 0), (0, .ref 1000000)]) (st' := [.int (xs 2), .int (xs 1), .ref 189]) (t' := (sh_33 xs f g, 328)) (nc' := 328) (ns' := 208824) sl_0_796 rfl) ?_
  refine Eq.trans (st_go (pc' := 798) (lv' := [(5, .int 1), (4, .int 0), (3, .ref 326), (2, .ref 189), (1, .ref 0), (0, .ref 1000000)]) (st' := [.ref 1000000, .int (xs 2), .int (xs 1), .ref 189]) (t' := (sh_33 xs f g, 328)) (nc' := 328) (ns' := 208824) sl_0_797 rfl) ?_
  refine Eq.trans (st_go (pc' := 800) (lv' := [(5, .int 1), (4, .int 0), (3, .ref 326), (2, .ref 189), (1, .ref 0), (0, .ref 1000000)]) (st' := [.int 0, .ref 1000000, .int (xs 2), .int (xs 1), .ref 189]) (t' := (sh_33 xs f g, 328)) (nc' := 328) (ns' := 208824) sl_0_798 rfl) ?_
  refine Eq.trans (st_go (pc' := 801) (lv' := [(5, .int 1), (4, .int 0), (3, .ref 326), (2, .ref 189), (1, .ref 0), (0, .ref 1000000)]) (st' := [.int 3, .int 0, .ref 1000000, .int (xs 2), .int (xs 1), .ref 189]) (t' := (sh_33 xs f g, 328)) (nc' := 328) (ns' := 208824) sl_0_800 rfl) ?_
  refine Eq.trans (st_go (pc' := 802) (lv' := [(5, .int 1), (4, .int 0), (3, .ref 326), (2, .ref 189), (1, .ref 0), (0, .ref 1000000)]) (st' := [.int 3, .ref 1000000, .int (xs 2), .int (xs 1), .ref 189]) (t' := (sh_33 xs f g, 328)) (nc' := 328) (ns' := 208824) sl_0_801 rfl) ?_
  refine Eq.trans (st_go (pc' := 803) (lv' := [(5, .int 1), (4, .int 0), (3, .ref 326), (2, .ref 189), (1, .ref 0), (0, .ref 1000000)]) (st' := [.int (xs 3), .int (xs 2), .int (xs 1), .ref 189]) (t' := (sh_33 xs f g, 328)) (nc' := 328) (ns' := 208824) sl_0_802 rfl) ?_
  refine Eq.trans (st_go (pc' := 804) (lv' := [(5, .int 1), (4, .int 0), (3, .ref 326), (2, .ref 189), (1, .ref 0), (0, .ref 1000000)]) (st' := [.ref 1000000, .int (xs 3), .int (xs 2), .int (xs 1), .ref 189]) (t' := (sh_33 xs f g, 328)) (nc' := 328) (ns' := 208824) sl_0_803 rfl) ?_
  refine Eq.trans (st_go (pc' := 806) (lv' := [(5, .int 1), (4, .int 0), (3, .ref 326), (2, .ref 189), (1, .ref 0), (0, .ref 1000000)]) (st' := [.int 0, .ref 1000000, .int (xs 3), .int (xs 2), .int (xs 1), .ref 189]) (t' := (sh_33 xs f g, 328)) (nc' := 328) (ns' := 208824) sl_0_804 rfl) ?_
  refine Eq.trans (st_go (pc' := 807) (lv' := [(5, .int 1), (4, .int 0), (3, .ref 326), (2, .ref 189), (1, .ref 0), (0, .ref 1000000)]) (st' := [.int 4, .int 0, .ref 1000000, .int (xs 3), .int (xs 2), .int (xs 1), .ref 189]) (t' := (sh_33 xs f g, 328)) (nc' := 328) (ns' := 208824) sl_0_806 rfl) ?_
  refine Eq.trans (st_go (pc' := 808) (lv' := [(5, .int 1), (4, .int 0), (3, .ref 326), (2, .ref 189), (1, .ref 0), (0, .ref 1000000)]) (st' := [.int 4, .ref 1000000, .int (xs 3), .int (xs 2), .int (xs 1), .ref 189]) (t' := (sh_33 xs f g, 328)) (nc' := 328) (ns' := 208824) sl_0_807 rfl) ?_
  refine Eq.trans (st_go (pc' := 809) (lv' := [(5, .int 1), (4, .int 0), (3, .ref 326), (2, .ref 189), (1, .ref 0), (0, .ref 1000000)]) (st' := [.int (xs 4), .int (xs 3), .int (xs 2), .int (xs 1), .ref 189]) (t' := (sh_33 xs f g, 328)) (nc' := 328) (ns' := 208824) sl_0_808 rfl) ?_
  refine Eq.trans (st_call (pc' := 812) (st' := [.int 0]) (nc' := 328) (ns' := 208824) (mi := 311) (av := [.ref 189, .int (xs 1), .int (xs 2), .int (xs 3), .int (xs 4)]) (rest := []) sl_0_809 (fun _ => rfl) (sw_76 xs sio f g q0 q2) rfl rfl rfl rfl) ?_
  refine Eq.trans (st_go (pc' := 814) (lv' := [(6, .int 0), (5, .int 1), (4, .int 0), (3, .ref 326), (2, .ref 189), (1, .ref 0), (0, .ref 1000000)]) (st' := []) (t' := (sh_34 xs f g, 328)) (nc' := 328) (ns' := 208824) sl_0_812 rfl) ?_
  refine Eq.trans (st_go (pc' := 815) (lv' := [(6, .int 0), (5, .int 1), (4, .int 0), (3, .ref 326), (2, .ref 189), (1, .ref 0), (0, .ref 1000000)]) (st' := [.ref 189]) (t' := (sh_34 xs f g, 328)) (nc' := 328) (ns' := 208824) sl_0_814 rfl) ?_
  refine Eq.trans (st_call (pc' := 818) (st' := [.int 1]) (nc' := 328) (ns' := 208824) (mi := 207) (av := [.ref 189]) (rest := []) sl_0_815 (fun _ => rfl) (sw_77 xs sio f g) rfl rfl rfl rfl) ?_
  refine Eq.trans (st_go (pc' := 820) (lv' := [(6, .int 0), (5, .int 1), (4, .int 0), (3, .ref 326), (2, .ref 189), (1, .ref 0), (0, .ref 1000000)]) (st' := [.int 1, .int 1]) (t' := (sh_34 xs f g, 328)) (nc' := 328) (ns' := 208824) sl_0_818 rfl) ?_
  refine Eq.trans (st_go (pc' := 825) (lv' := [(6, .int 0), (5, .int 1), (4, .int 0), (3, .ref 326), (2, .ref 189), (1, .ref 0), (0, .ref 1000000)]) (st' := []) (t' := (sh_34 xs f g, 328)) (nc' := 328) (ns' := 208824) sl_0_820 rfl) ?_
  refine Eq.trans (st_go (pc' := 827) (lv' := [(6, .int 0), (5, .int 1), (4, .int 0), (3, .ref 326), (2, .ref 189), (1, .ref 0), (0, .ref 1000000)]) (st' := [.int 1]) (t' := (sh_34 xs f g, 328)) (nc' := 328) (ns' := 208824) sl_0_825 rfl) ?_
  refine Eq.trans (st_go (pc' := 842) (lv' := [(6, .int 0), (5, .int 1), (4, .int 0), (3, .ref 326), (2, .ref 189), (1, .ref 0), (0, .ref 1000000)]) (st' := []) (t' := (sh_34 xs f g, 328)) (nc' := 328) (ns' := 208824) sl_0_827 rfl) ?_
  refine Eq.trans (st_go (pc' := 1172) (lv' := [(6, .int 0), (5, .int 1), (4, .int 0), (3, .ref 326), (2, .ref 189), (1, .ref 0), (0, .ref 1000000)]) (st' := []) (t' := (sh_34 xs f g, 328)) (nc' := 328) (ns' := 208824) sl_0_842 rfl) ?_
  refine Eq.trans (st_go (pc' := 1175) (lv' := [(4, .int 6), (6, .int 0), (5, .int 1), (3, .ref 326), (2, .ref 189), (1, .ref 0), (0, .ref 1000000)]) (st' := []) (t' := (sh_34 xs f g, 328)) (nc' := 328) (ns' := 208824) sl_0_1172 rfl) ?_
  refine Eq.trans (st_go (pc' := 23) (lv' := [(4, .int 6), (6, .int 0), (5, .int 1), (3, .ref 326), (2, .ref 189), (1, .ref 0), (0, .ref 1000000)]) (st' := []) (t' := (sh_34 xs f g, 328)) (nc' := 328) (ns' := 208824) sl_0_1175 rfl) ?_
  refine Eq.trans (st_go (pc' := 25) (lv' := [(4, .int 6), (6, .int 0), (5, .int 1), (3, .ref 326), (2, .ref 189), (1, .ref 0), (0, .ref 1000000)]) (st' := [.int 6]) (t' := (sh_34 xs f g, 328)) (nc' := 328) (ns' := 208824) sl_0_23 rfl) ?_
  refine Eq.trans (st_go (pc' := 26) (lv' := [(4, .int 6), (6, .int 0), (5, .int 1), (3, .ref 326), (2, .ref 189), (1, .ref 0), (0, .ref 1000000)]) (st' := [.ref 1000000, .int 6]) (t' := (sh_34 xs f g, 328)) (nc' := 328) (ns' := 208824) sl_0_25 rfl) ?_
  refine Eq.trans (st_go (pc' := 27) (lv' := [(4, .int 6), (6, .int 0), (5, .int 1), (3, .ref 326), (2, .ref 189), (1, .ref 0), (0, .ref 1000000)]) (st' := [.int 6, .int 6]) (t' := (sh_34 xs f g, 328)) (nc' := 328) (ns' := 208824) sl_0_26 rfl) ?_
  refine Eq.trans (st_go (pc' := 29) (lv' := [(4, .int 6), (6, .int 0), (5, .int 1), (3, .ref 326), (2, .ref 189), (1, .ref 0), (0, .ref 1000000)]) (st' := [.int 6, .int 6, .int 6]) (t' := (sh_34 xs f g, 328)) (nc' := 328) (ns' := 208824) sl_0_27 rfl) ?_
  refine Eq.trans (st_go (pc' := 30) (lv' := [(4, .int 6), (6, .int 0), (5, .int 1), (3, .ref 326), (2, .ref 189), (1, .ref 0), (0, .ref 1000000)]) (st' := [.int 0, .int 6]) (t' := (sh_34 xs f g, 328)) (nc' := 328) (ns' := 208824) sl_0_29 rfl) ?_
  refine Eq.trans (st_go (pc' := 1178) (lv' := [(4, .int 6), (6, .int 0), (5, .int 1), (3, .ref 326), (2, .ref 189), (1, .ref 0), (0, .ref 1000000)]) (st' := []) (t' := (sh_34 xs f g, 328)) (nc' := 328) (ns' := 208824) sl_0_30 rfl) ?_
  refine Eq.trans (st_go (pc' := 1179) (lv' := [(4, .int 6), (6, .int 0), (5, .int 1), (3, .ref 326), (2, .ref 189), (1, .ref 0), (0, .ref 1000000)]) (st' := [.int 1]) (t' := (sh_34 xs f g, 328)) (nc' := 328) (ns' := 208824) sl_0_1178 rfl) ?_
  exact st_end sl_0_1179 rfl
set_option maxRecDepth 100000 in
/-- PacketWorks$Pipe.goneOut -/
theorem sw_78 (xs : Nat → Int32) (sio : Value) (f : Nat → Nat → Int32) (g : Nat → Nat → Int64) (q0 : am_c0 .lt (xs 1) = true) : sC 6 xs sio 16 35 [.ref 185, .int (xs 1)] (sw f g, 327) = some (.inl (some (.null)), (sw f g, 327), 0, 0) := by
  refine st_in sg_35 rfl rfl ?_
  refine Eq.trans (st_go (pc' := 1) (lv' := [(0, .ref 185), (1, .int (xs 1))]) (st' := [.int (xs 1)]) (t' := (sw f g, 327)) (nc' := 0) (ns' := 0) sl_35_0 rfl) ?_
  refine Eq.trans (st_if (pc' := 27) sl_35_1 q0 rfl) ?_
  refine Eq.trans (st_go (pc' := 28) (lv' := [(0, .ref 185), (1, .int (xs 1))]) (st' := [.int 0]) (t' := (sw f g, 327)) (nc' := 0) (ns' := 0) sl_35_27 rfl) ?_
  refine Eq.trans (st_go (pc' := 29) (lv' := [(2, .int 0), (0, .ref 185), (1, .int (xs 1))]) (st' := []) (t' := (sw f g, 327)) (nc' := 0) (ns' := 0) sl_35_28 rfl) ?_
  refine Eq.trans (st_go (pc' := 30) (lv' := [(2, .int 0), (0, .ref 185), (1, .int (xs 1))]) (st' := [.int 0]) (t' := (sw f g, 327)) (nc' := 0) (ns' := 0) sl_35_29 rfl) ?_
  refine Eq.trans (st_go (pc' := 46) (lv' := [(2, .int 0), (0, .ref 185), (1, .int (xs 1))]) (st' := []) (t' := (sw f g, 327)) (nc' := 0) (ns' := 0) sl_35_30 rfl) ?_
  refine Eq.trans (st_go (pc' := 47) (lv' := [(2, .int 0), (0, .ref 185), (1, .int (xs 1))]) (st' := [.null]) (t' := (sw f g, 327)) (nc' := 0) (ns' := 0) sl_35_46 rfl) ?_
  exact st_end sl_35_47 rfl
set_option maxRecDepth 100000 in
/-- PacketWorks.out -/
theorem sw_79 (xs : Nat → Int32) (sio : Value) (f : Nat → Nat → Int32) (g : Nat → Nat → Int64) (q0 : am_c0 .lt (xs 1) = true) : sC 6 xs sio 17 34 [.ref 0, .int (xs 1), .int (xs 2)] (sw f g, 327) = some (.inl (some (.int (-1))), (sw f g, 327), 0, 0) := by
  refine st_in sg_34 rfl rfl ?_
  refine Eq.trans (st_go (pc' := 1) (lv' := [(0, .ref 0), (1, .int (xs 1)), (2, .int (xs 2))]) (st' := [.ref 0]) (t' := (sw f g, 327)) (nc' := 0) (ns' := 0) sl_34_0 rfl) ?_
  refine Eq.trans (st_go (pc' := 4) (lv' := [(0, .ref 0), (1, .int (xs 1)), (2, .int (xs 2))]) (st' := [.ref 185]) (t' := (sw f g, 327)) (nc' := 0) (ns' := 0) sl_34_1 rfl) ?_
  refine Eq.trans (st_go (pc' := 5) (lv' := [(0, .ref 0), (1, .int (xs 1)), (2, .int (xs 2))]) (st' := [.int (xs 1), .ref 185]) (t' := (sw f g, 327)) (nc' := 0) (ns' := 0) sl_34_4 rfl) ?_
  refine Eq.trans (st_call (pc' := 8) (st' := [.null]) (nc' := 0) (ns' := 0) (mi := 35) (av := [.ref 185, .int (xs 1)]) (rest := []) sl_34_5 (fun _ => rfl) (sw_78 xs sio f g q0) rfl rfl rfl rfl) ?_
  refine Eq.trans (st_go (pc' := 9) (lv' := [(3, .null), (0, .ref 0), (1, .int (xs 1)), (2, .int (xs 2))]) (st' := []) (t' := (sw f g, 327)) (nc' := 0) (ns' := 0) sl_34_8 rfl) ?_
  refine Eq.trans (st_go (pc' := 10) (lv' := [(3, .null), (0, .ref 0), (1, .int (xs 1)), (2, .int (xs 2))]) (st' := [.null]) (t' := (sw f g, 327)) (nc' := 0) (ns' := 0) sl_34_9 rfl) ?_
  refine Eq.trans (st_go (pc' := 13) (lv' := [(3, .null), (0, .ref 0), (1, .int (xs 1)), (2, .int (xs 2))]) (st' := []) (t' := (sw f g, 327)) (nc' := 0) (ns' := 0) sl_34_10 rfl) ?_
  refine Eq.trans (st_go (pc' := 14) (lv' := [(3, .null), (0, .ref 0), (1, .int (xs 1)), (2, .int (xs 2))]) (st' := [.int (-1)]) (t' := (sw f g, 327)) (nc' := 0) (ns' := 0) sl_34_13 rfl) ?_
  exact st_end sl_34_14 rfl
set_option maxRecDepth 100000 in
/-- PacketWorksModel.isOut -/
theorem sw_80 (xs : Nat → Int32) (sio : Value) (f : Nat → Nat → Int32) (g : Nat → Nat → Int64) (q0 : am_c0 .lt (xs 1) = true) : sC 6 xs sio 16 343 [.ref 189, .int (xs 1)] (sh_35 xs f g, 327) = some (.inl (some (.int 0)), (sh_35 xs f g, 327), 0, 0) := by
  refine st_in sg_343 rfl rfl ?_
  refine Eq.trans (st_go (pc' := 1) (lv' := [(0, .ref 189), (1, .int (xs 1))]) (st' := [.int (xs 1)]) (t' := (sh_35 xs f g, 327)) (nc' := 0) (ns' := 0) sl_343_0 rfl) ?_
  refine Eq.trans (st_if (pc' := 27) sl_343_1 q0 rfl) ?_
  refine Eq.trans (st_go (pc' := 28) (lv' := [(0, .ref 189), (1, .int (xs 1))]) (st' := [.int 0]) (t' := (sh_35 xs f g, 327)) (nc' := 0) (ns' := 0) sl_343_27 rfl) ?_
  exact st_end sl_343_28 rfl
set_option maxRecDepth 100000 in
/-- PacketWorksModel.out -/
theorem sw_81 (xs : Nat → Int32) (sio : Value) (f : Nat → Nat → Int32) (g : Nat → Nat → Int64) (q0 : am_c0 .lt (xs 1) = true) : sC 6 xs sio 17 342 [.ref 189, .int (xs 1), .int (xs 2)] (sw f g, 327) = some (.inl (some (.int (-1))), (sh_35 xs f g, 327), 0, 0) := by
  refine st_in sg_342 rfl rfl ?_
  refine Eq.trans (st_go (pc' := 1) (lv' := [(0, .ref 189), (1, .int (xs 1)), (2, .int (xs 2))]) (st' := [.ref 189]) (t' := (sw f g, 327)) (nc' := 0) (ns' := 0) sl_342_0 rfl) ?_
  refine Eq.trans (st_go (pc' := 2) (lv' := [(0, .ref 189), (1, .int (xs 1)), (2, .int (xs 2))]) (st' := [.int 0, .ref 189]) (t' := (sw f g, 327)) (nc' := 0) (ns' := 0) sl_342_1 rfl) ?_
  refine Eq.trans (st_go (pc' := 5) (lv' := [(0, .ref 189), (1, .int (xs 1)), (2, .int (xs 2))]) (st' := []) (t' := (sh_35 xs f g, 327)) (nc' := 0) (ns' := 0) sl_342_2 rfl) ?_
  refine Eq.trans (st_go (pc' := 6) (lv' := [(0, .ref 189), (1, .int (xs 1)), (2, .int (xs 2))]) (st' := [.ref 189]) (t' := (sh_35 xs f g, 327)) (nc' := 0) (ns' := 0) sl_342_5 rfl) ?_
  refine Eq.trans (st_go (pc' := 7) (lv' := [(0, .ref 189), (1, .int (xs 1)), (2, .int (xs 2))]) (st' := [.int (xs 1), .ref 189]) (t' := (sh_35 xs f g, 327)) (nc' := 0) (ns' := 0) sl_342_6 rfl) ?_
  refine Eq.trans (st_call (pc' := 10) (st' := [.int 0]) (nc' := 0) (ns' := 0) (mi := 343) (av := [.ref 189, .int (xs 1)]) (rest := []) sl_342_7 (fun _ => rfl) (sw_80 xs sio f g q0) rfl rfl rfl rfl) ?_
  refine Eq.trans (st_go (pc' := 13) (lv' := [(0, .ref 189), (1, .int (xs 1)), (2, .int (xs 2))]) (st' := []) (t' := (sh_35 xs f g, 327)) (nc' := 0) (ns' := 0) sl_342_10 rfl) ?_
  refine Eq.trans (st_go (pc' := 14) (lv' := [(0, .ref 189), (1, .int (xs 1)), (2, .int (xs 2))]) (st' := [.int (-1)]) (t' := (sh_35 xs f g, 327)) (nc' := 0) (ns' := 0) sl_342_13 rfl) ?_
  exact st_end sl_342_14 rfl
set_option maxRecDepth 100000 in
theorem so_14_n (xs : Nat → Int32) (sio : Value) (f : Nat → Nat → Int32) (g : Nat → Nat → Int64) (n : Nat) (hn : 36 ≤ n) (q0 : am_c0 .lt (xs 1) = true) : sR 6 xs sio 17 pm_0 n (40, [(4, .int 0), (3, .ref 326), (2, .ref 189), (1, .ref 0), (0, .ref 1000000)], [.int 14], (sw f g, 327), 327, 208818) = some (.inl (some (.int 1)), (sh_35 xs f g, 327), 327, 208818) := by
  obtain ⟨m, rfl⟩ : ∃ m, n = m + 36 := ⟨n - 36, by omega⟩
  refine Eq.trans (st_go (pc' := 901) (lv' := [(4, .int 0), (3, .ref 326), (2, .ref 189), (1, .ref 0), (0, .ref 1000000)]) (st' := []) (t' := (sw f g, 327)) (nc' := 327) (ns' := 208818) sl_0_40 rfl) ?_
  refine Eq.trans (st_go (pc' := 902) (lv' := [(4, .int 0), (3, .ref 326), (2, .ref 189), (1, .ref 0), (0, .ref 1000000)]) (st' := [.ref 0]) (t' := (sw f g, 327)) (nc' := 327) (ns' := 208818) sl_0_901 rfl) ?_
  refine Eq.trans (st_go (pc' := 903) (lv' := [(4, .int 0), (3, .ref 326), (2, .ref 189), (1, .ref 0), (0, .ref 1000000)]) (st' := [.ref 1000000, .ref 0]) (t' := (sw f g, 327)) (nc' := 327) (ns' := 208818) sl_0_902 rfl) ?_
  refine Eq.trans (st_go (pc' := 905) (lv' := [(4, .int 0), (3, .ref 326), (2, .ref 189), (1, .ref 0), (0, .ref 1000000)]) (st' := [.int 0, .ref 1000000, .ref 0]) (t' := (sw f g, 327)) (nc' := 327) (ns' := 208818) sl_0_903 rfl) ?_
  refine Eq.trans (st_go (pc' := 906) (lv' := [(4, .int 0), (3, .ref 326), (2, .ref 189), (1, .ref 0), (0, .ref 1000000)]) (st' := [.int 1, .int 0, .ref 1000000, .ref 0]) (t' := (sw f g, 327)) (nc' := 327) (ns' := 208818) sl_0_905 rfl) ?_
  refine Eq.trans (st_go (pc' := 907) (lv' := [(4, .int 0), (3, .ref 326), (2, .ref 189), (1, .ref 0), (0, .ref 1000000)]) (st' := [.int 1, .ref 1000000, .ref 0]) (t' := (sw f g, 327)) (nc' := 327) (ns' := 208818) sl_0_906 rfl) ?_
  refine Eq.trans (st_go (pc' := 908) (lv' := [(4, .int 0), (3, .ref 326), (2, .ref 189), (1, .ref 0), (0, .ref 1000000)]) (st' := [.int (xs 1), .ref 0]) (t' := (sw f g, 327)) (nc' := 327) (ns' := 208818) sl_0_907 rfl) ?_
  refine Eq.trans (st_go (pc' := 909) (lv' := [(4, .int 0), (3, .ref 326), (2, .ref 189), (1, .ref 0), (0, .ref 1000000)]) (st' := [.ref 1000000, .int (xs 1), .ref 0]) (t' := (sw f g, 327)) (nc' := 327) (ns' := 208818) sl_0_908 rfl) ?_
  refine Eq.trans (st_go (pc' := 911) (lv' := [(4, .int 0), (3, .ref 326), (2, .ref 189), (1, .ref 0), (0, .ref 1000000)]) (st' := [.int 0, .ref 1000000, .int (xs 1), .ref 0]) (t' := (sw f g, 327)) (nc' := 327) (ns' := 208818) sl_0_909 rfl) ?_
  refine Eq.trans (st_go (pc' := 912) (lv' := [(4, .int 0), (3, .ref 326), (2, .ref 189), (1, .ref 0), (0, .ref 1000000)]) (st' := [.int 2, .int 0, .ref 1000000, .int (xs 1), .ref 0]) (t' := (sw f g, 327)) (nc' := 327) (ns' := 208818) sl_0_911 rfl) ?_
  refine Eq.trans (st_go (pc' := 913) (lv' := [(4, .int 0), (3, .ref 326), (2, .ref 189), (1, .ref 0), (0, .ref 1000000)]) (st' := [.int 2, .ref 1000000, .int (xs 1), .ref 0]) (t' := (sw f g, 327)) (nc' := 327) (ns' := 208818) sl_0_912 rfl) ?_
  refine Eq.trans (st_go (pc' := 914) (lv' := [(4, .int 0), (3, .ref 326), (2, .ref 189), (1, .ref 0), (0, .ref 1000000)]) (st' := [.int (xs 2), .int (xs 1), .ref 0]) (t' := (sw f g, 327)) (nc' := 327) (ns' := 208818) sl_0_913 rfl) ?_
  refine Eq.trans (st_call (pc' := 917) (st' := [.int (-1)]) (nc' := 327) (ns' := 208818) (mi := 34) (av := [.ref 0, .int (xs 1), .int (xs 2)]) (rest := []) sl_0_914 (fun _ => rfl) (sw_79 xs sio f g q0) rfl rfl rfl rfl) ?_
  refine Eq.trans (st_go (pc' := 918) (lv' := [(4, .int 0), (3, .ref 326), (2, .ref 189), (1, .ref 0), (0, .ref 1000000)]) (st' := [.ref 189, .int (-1)]) (t' := (sw f g, 327)) (nc' := 327) (ns' := 208818) sl_0_917 rfl) ?_
  refine Eq.trans (st_go (pc' := 919) (lv' := [(4, .int 0), (3, .ref 326), (2, .ref 189), (1, .ref 0), (0, .ref 1000000)]) (st' := [.ref 1000000, .ref 189, .int (-1)]) (t' := (sw f g, 327)) (nc' := 327) (ns' := 208818) sl_0_918 rfl) ?_
  refine Eq.trans (st_go (pc' := 921) (lv' := [(4, .int 0), (3, .ref 326), (2, .ref 189), (1, .ref 0), (0, .ref 1000000)]) (st' := [.int 0, .ref 1000000, .ref 189, .int (-1)]) (t' := (sw f g, 327)) (nc' := 327) (ns' := 208818) sl_0_919 rfl) ?_
  refine Eq.trans (st_go (pc' := 922) (lv' := [(4, .int 0), (3, .ref 326), (2, .ref 189), (1, .ref 0), (0, .ref 1000000)]) (st' := [.int 1, .int 0, .ref 1000000, .ref 189, .int (-1)]) (t' := (sw f g, 327)) (nc' := 327) (ns' := 208818) sl_0_921 rfl) ?_
  refine Eq.trans (st_go (pc' := 923) (lv' := [(4, .int 0), (3, .ref 326), (2, .ref 189), (1, .ref 0), (0, .ref 1000000)]) (st' := [.int 1, .ref 1000000, .ref 189, .int (-1)]) (t' := (sw f g, 327)) (nc' := 327) (ns' := 208818) sl_0_922 rfl) ?_
  refine Eq.trans (st_go (pc' := 924) (lv' := [(4, .int 0), (3, .ref 326), (2, .ref 189), (1, .ref 0), (0, .ref 1000000)]) (st' := [.int (xs 1), .ref 189, .int (-1)]) (t' := (sw f g, 327)) (nc' := 327) (ns' := 208818) sl_0_923 rfl) ?_
  refine Eq.trans (st_go (pc' := 925) (lv' := [(4, .int 0), (3, .ref 326), (2, .ref 189), (1, .ref 0), (0, .ref 1000000)]) (st' := [.ref 1000000, .int (xs 1), .ref 189, .int (-1)]) (t' := (sw f g, 327)) (nc' := 327) (ns' := 208818) sl_0_924 rfl) ?_
  refine Eq.trans (st_go (pc' := 927) (lv' := [(4, .int 0), (3, .ref 326), (2, .ref 189), (1, .ref 0), (0, .ref 1000000)]) (st' := [.int 0, .ref 1000000, .int (xs 1), .ref 189, .int (-1)]) (t' := (sw f g, 327)) (nc' := 327) (ns' := 208818) sl_0_925 rfl) ?_
  refine Eq.trans (st_go (pc' := 928) (lv' := [(4, .int 0), (3, .ref 326), (2, .ref 189), (1, .ref 0), (0, .ref 1000000)]) (st' := [.int 2, .int 0, .ref 1000000, .int (xs 1), .ref 189, .int (-1)]) (t' := (sw f g, 327)) (nc' := 327) (ns' := 208818) sl_0_927 rfl) ?_
  refine Eq.trans (st_go (pc' := 929) (lv' := [(4, .int 0), (3, .ref 326), (2, .ref 189), (1, .ref 0), (0, .ref 1000000)]) (st' := [.int 2, .ref 1000000, .int (xs 1), .ref 189, .int (-1)]) (t' := (sw f g, 327)) (nc' := 327) (ns' := 208818) sl_0_928 rfl) ?_
  refine Eq.trans (st_go (pc' := 930) (lv' := [(4, .int 0), (3, .ref 326), (2, .ref 189), (1, .ref 0), (0, .ref 1000000)]) (st' := [.int (xs 2), .int (xs 1), .ref 189, .int (-1)]) (t' := (sw f g, 327)) (nc' := 327) (ns' := 208818) sl_0_929 rfl) ?_
  refine Eq.trans (st_call (pc' := 933) (st' := [.int (-1), .int (-1)]) (nc' := 327) (ns' := 208818) (mi := 342) (av := [.ref 189, .int (xs 1), .int (xs 2)]) (rest := [.int (-1)]) sl_0_930 (fun _ => rfl) (sw_81 xs sio f g q0) rfl rfl rfl rfl) ?_
  refine Eq.trans (st_go (pc' := 1172) (lv' := [(4, .int 0), (3, .ref 326), (2, .ref 189), (1, .ref 0), (0, .ref 1000000)]) (st' := []) (t' := (sh_35 xs f g, 327)) (nc' := 327) (ns' := 208818) sl_0_933 rfl) ?_
  refine Eq.trans (st_go (pc' := 1175) (lv' := [(4, .int 6), (3, .ref 326), (2, .ref 189), (1, .ref 0), (0, .ref 1000000)]) (st' := []) (t' := (sh_35 xs f g, 327)) (nc' := 327) (ns' := 208818) sl_0_1172 rfl) ?_
  refine Eq.trans (st_go (pc' := 23) (lv' := [(4, .int 6), (3, .ref 326), (2, .ref 189), (1, .ref 0), (0, .ref 1000000)]) (st' := []) (t' := (sh_35 xs f g, 327)) (nc' := 327) (ns' := 208818) sl_0_1175 rfl) ?_
  refine Eq.trans (st_go (pc' := 25) (lv' := [(4, .int 6), (3, .ref 326), (2, .ref 189), (1, .ref 0), (0, .ref 1000000)]) (st' := [.int 6]) (t' := (sh_35 xs f g, 327)) (nc' := 327) (ns' := 208818) sl_0_23 rfl) ?_
  refine Eq.trans (st_go (pc' := 26) (lv' := [(4, .int 6), (3, .ref 326), (2, .ref 189), (1, .ref 0), (0, .ref 1000000)]) (st' := [.ref 1000000, .int 6]) (t' := (sh_35 xs f g, 327)) (nc' := 327) (ns' := 208818) sl_0_25 rfl) ?_
  refine Eq.trans (st_go (pc' := 27) (lv' := [(4, .int 6), (3, .ref 326), (2, .ref 189), (1, .ref 0), (0, .ref 1000000)]) (st' := [.int 6, .int 6]) (t' := (sh_35 xs f g, 327)) (nc' := 327) (ns' := 208818) sl_0_26 rfl) ?_
  refine Eq.trans (st_go (pc' := 29) (lv' := [(4, .int 6), (3, .ref 326), (2, .ref 189), (1, .ref 0), (0, .ref 1000000)]) (st' := [.int 6, .int 6, .int 6]) (t' := (sh_35 xs f g, 327)) (nc' := 327) (ns' := 208818) sl_0_27 rfl) ?_
  refine Eq.trans (st_go (pc' := 30) (lv' := [(4, .int 6), (3, .ref 326), (2, .ref 189), (1, .ref 0), (0, .ref 1000000)]) (st' := [.int 0, .int 6]) (t' := (sh_35 xs f g, 327)) (nc' := 327) (ns' := 208818) sl_0_29 rfl) ?_
  refine Eq.trans (st_go (pc' := 1178) (lv' := [(4, .int 6), (3, .ref 326), (2, .ref 189), (1, .ref 0), (0, .ref 1000000)]) (st' := []) (t' := (sh_35 xs f g, 327)) (nc' := 327) (ns' := 208818) sl_0_30 rfl) ?_
  refine Eq.trans (st_go (pc' := 1179) (lv' := [(4, .int 6), (3, .ref 326), (2, .ref 189), (1, .ref 0), (0, .ref 1000000)]) (st' := [.int 1]) (t' := (sh_35 xs f g, 327)) (nc' := 327) (ns' := 208818) sl_0_1178 rfl) ?_
  exact st_end sl_0_1179 rfl
set_option maxRecDepth 100000 in
/-- PacketWorks$Pipe.goneOut -/
theorem sw_82 (xs : Nat → Int32) (sio : Value) (f : Nat → Nat → Int32) (g : Nat → Nat → Int64) (q0 : am_c0 .lt (xs 1) = false) (q1 : am_c2 .ge (xs 1) (0) = true) : sC 6 xs sio 16 35 [.ref 185, .int (xs 1)] (sw f g, 327) = some (.inl (some (.null)), (sw f g, 327), 0, 0) := by
  refine st_in sg_35 rfl rfl ?_
  refine Eq.trans (st_go (pc' := 1) (lv' := [(0, .ref 185), (1, .int (xs 1))]) (st' := [.int (xs 1)]) (t' := (sw f g, 327)) (nc' := 0) (ns' := 0) sl_35_0 rfl) ?_
  refine Eq.trans (st_if (pc' := 4) sl_35_1 q0 rfl) ?_
  refine Eq.trans (st_go (pc' := 5) (lv' := [(0, .ref 185), (1, .int (xs 1))]) (st' := [.int (xs 1)]) (t' := (sw f g, 327)) (nc' := 0) (ns' := 0) sl_35_4 rfl) ?_
  refine Eq.trans (st_go (pc' := 6) (lv' := [(0, .ref 185), (1, .int (xs 1))]) (st' := [.ref 185, .int (xs 1)]) (t' := (sw f g, 327)) (nc' := 0) (ns' := 0) sl_35_5 rfl) ?_
  refine Eq.trans (st_go (pc' := 9) (lv' := [(0, .ref 185), (1, .int (xs 1))]) (st' := [.int 0, .int (xs 1)]) (t' := (sw f g, 327)) (nc' := 0) (ns' := 0) sl_35_6 rfl) ?_
  refine Eq.trans (st_ic (pc' := 27) sl_35_9 q1 rfl) ?_
  refine Eq.trans (st_go (pc' := 28) (lv' := [(0, .ref 185), (1, .int (xs 1))]) (st' := [.int 0]) (t' := (sw f g, 327)) (nc' := 0) (ns' := 0) sl_35_27 rfl) ?_
  refine Eq.trans (st_go (pc' := 29) (lv' := [(2, .int 0), (0, .ref 185), (1, .int (xs 1))]) (st' := []) (t' := (sw f g, 327)) (nc' := 0) (ns' := 0) sl_35_28 rfl) ?_
  refine Eq.trans (st_go (pc' := 30) (lv' := [(2, .int 0), (0, .ref 185), (1, .int (xs 1))]) (st' := [.int 0]) (t' := (sw f g, 327)) (nc' := 0) (ns' := 0) sl_35_29 rfl) ?_
  refine Eq.trans (st_go (pc' := 46) (lv' := [(2, .int 0), (0, .ref 185), (1, .int (xs 1))]) (st' := []) (t' := (sw f g, 327)) (nc' := 0) (ns' := 0) sl_35_30 rfl) ?_
  refine Eq.trans (st_go (pc' := 47) (lv' := [(2, .int 0), (0, .ref 185), (1, .int (xs 1))]) (st' := [.null]) (t' := (sw f g, 327)) (nc' := 0) (ns' := 0) sl_35_46 rfl) ?_
  exact st_end sl_35_47 rfl
set_option maxRecDepth 100000 in
/-- PacketWorks.out -/
theorem sw_83 (xs : Nat → Int32) (sio : Value) (f : Nat → Nat → Int32) (g : Nat → Nat → Int64) (q0 : am_c0 .lt (xs 1) = false) (q1 : am_c2 .ge (xs 1) (0) = true) : sC 6 xs sio 17 34 [.ref 0, .int (xs 1), .int (xs 2)] (sw f g, 327) = some (.inl (some (.int (-1))), (sw f g, 327), 0, 0) := by
  refine st_in sg_34 rfl rfl ?_
  refine Eq.trans (st_go (pc' := 1) (lv' := [(0, .ref 0), (1, .int (xs 1)), (2, .int (xs 2))]) (st' := [.ref 0]) (t' := (sw f g, 327)) (nc' := 0) (ns' := 0) sl_34_0 rfl) ?_
  refine Eq.trans (st_go (pc' := 4) (lv' := [(0, .ref 0), (1, .int (xs 1)), (2, .int (xs 2))]) (st' := [.ref 185]) (t' := (sw f g, 327)) (nc' := 0) (ns' := 0) sl_34_1 rfl) ?_
  refine Eq.trans (st_go (pc' := 5) (lv' := [(0, .ref 0), (1, .int (xs 1)), (2, .int (xs 2))]) (st' := [.int (xs 1), .ref 185]) (t' := (sw f g, 327)) (nc' := 0) (ns' := 0) sl_34_4 rfl) ?_
  refine Eq.trans (st_call (pc' := 8) (st' := [.null]) (nc' := 0) (ns' := 0) (mi := 35) (av := [.ref 185, .int (xs 1)]) (rest := []) sl_34_5 (fun _ => rfl) (sw_82 xs sio f g q0 q1) rfl rfl rfl rfl) ?_
  refine Eq.trans (st_go (pc' := 9) (lv' := [(3, .null), (0, .ref 0), (1, .int (xs 1)), (2, .int (xs 2))]) (st' := []) (t' := (sw f g, 327)) (nc' := 0) (ns' := 0) sl_34_8 rfl) ?_
  refine Eq.trans (st_go (pc' := 10) (lv' := [(3, .null), (0, .ref 0), (1, .int (xs 1)), (2, .int (xs 2))]) (st' := [.null]) (t' := (sw f g, 327)) (nc' := 0) (ns' := 0) sl_34_9 rfl) ?_
  refine Eq.trans (st_go (pc' := 13) (lv' := [(3, .null), (0, .ref 0), (1, .int (xs 1)), (2, .int (xs 2))]) (st' := []) (t' := (sw f g, 327)) (nc' := 0) (ns' := 0) sl_34_10 rfl) ?_
  refine Eq.trans (st_go (pc' := 14) (lv' := [(3, .null), (0, .ref 0), (1, .int (xs 1)), (2, .int (xs 2))]) (st' := [.int (-1)]) (t' := (sw f g, 327)) (nc' := 0) (ns' := 0) sl_34_13 rfl) ?_
  exact st_end sl_34_14 rfl
set_option maxRecDepth 100000 in
/-- PacketWorksModel.isOut -/
theorem sw_84 (xs : Nat → Int32) (sio : Value) (f : Nat → Nat → Int32) (g : Nat → Nat → Int64) (q0 : am_c0 .lt (xs 1) = false) (q1 : am_c2 .ge (xs 1) (0) = true) : sC 6 xs sio 16 343 [.ref 189, .int (xs 1)] (sh_36 xs f g, 327) = some (.inl (some (.int 0)), (sh_36 xs f g, 327), 0, 0) := by
  refine st_in sg_343 rfl rfl ?_
  refine Eq.trans (st_go (pc' := 1) (lv' := [(0, .ref 189), (1, .int (xs 1))]) (st' := [.int (xs 1)]) (t' := (sh_36 xs f g, 327)) (nc' := 0) (ns' := 0) sl_343_0 rfl) ?_
  refine Eq.trans (st_if (pc' := 4) sl_343_1 q0 rfl) ?_
  refine Eq.trans (st_go (pc' := 5) (lv' := [(0, .ref 189), (1, .int (xs 1))]) (st' := [.int (xs 1)]) (t' := (sh_36 xs f g, 327)) (nc' := 0) (ns' := 0) sl_343_4 rfl) ?_
  refine Eq.trans (st_go (pc' := 6) (lv' := [(0, .ref 189), (1, .int (xs 1))]) (st' := [.ref 189, .int (xs 1)]) (t' := (sh_36 xs f g, 327)) (nc' := 0) (ns' := 0) sl_343_5 rfl) ?_
  refine Eq.trans (st_go (pc' := 9) (lv' := [(0, .ref 189), (1, .int (xs 1))]) (st' := [.int 0, .int (xs 1)]) (t' := (sh_36 xs f g, 327)) (nc' := 0) (ns' := 0) sl_343_6 rfl) ?_
  refine Eq.trans (st_ic (pc' := 27) sl_343_9 q1 rfl) ?_
  refine Eq.trans (st_go (pc' := 28) (lv' := [(0, .ref 189), (1, .int (xs 1))]) (st' := [.int 0]) (t' := (sh_36 xs f g, 327)) (nc' := 0) (ns' := 0) sl_343_27 rfl) ?_
  exact st_end sl_343_28 rfl
set_option maxRecDepth 100000 in
/-- PacketWorksModel.out -/
theorem sw_85 (xs : Nat → Int32) (sio : Value) (f : Nat → Nat → Int32) (g : Nat → Nat → Int64) (q0 : am_c0 .lt (xs 1) = false) (q1 : am_c2 .ge (xs 1) (0) = true) : sC 6 xs sio 17 342 [.ref 189, .int (xs 1), .int (xs 2)] (sw f g, 327) = some (.inl (some (.int (-1))), (sh_36 xs f g, 327), 0, 0) := by
  refine st_in sg_342 rfl rfl ?_
  refine Eq.trans (st_go (pc' := 1) (lv' := [(0, .ref 189), (1, .int (xs 1)), (2, .int (xs 2))]) (st' := [.ref 189]) (t' := (sw f g, 327)) (nc' := 0) (ns' := 0) sl_342_0 rfl) ?_
  refine Eq.trans (st_go (pc' := 2) (lv' := [(0, .ref 189), (1, .int (xs 1)), (2, .int (xs 2))]) (st' := [.int 0, .ref 189]) (t' := (sw f g, 327)) (nc' := 0) (ns' := 0) sl_342_1 rfl) ?_
  refine Eq.trans (st_go (pc' := 5) (lv' := [(0, .ref 189), (1, .int (xs 1)), (2, .int (xs 2))]) (st' := []) (t' := (sh_36 xs f g, 327)) (nc' := 0) (ns' := 0) sl_342_2 rfl) ?_
  refine Eq.trans (st_go (pc' := 6) (lv' := [(0, .ref 189), (1, .int (xs 1)), (2, .int (xs 2))]) (st' := [.ref 189]) (t' := (sh_36 xs f g, 327)) (nc' := 0) (ns' := 0) sl_342_5 rfl) ?_
  refine Eq.trans (st_go (pc' := 7) (lv' := [(0, .ref 189), (1, .int (xs 1)), (2, .int (xs 2))]) (st' := [.int (xs 1), .ref 189]) (t' := (sh_36 xs f g, 327)) (nc' := 0) (ns' := 0) sl_342_6 rfl) ?_
  refine Eq.trans (st_call (pc' := 10) (st' := [.int 0]) (nc' := 0) (ns' := 0) (mi := 343) (av := [.ref 189, .int (xs 1)]) (rest := []) sl_342_7 (fun _ => rfl) (sw_84 xs sio f g q0 q1) rfl rfl rfl rfl) ?_
  refine Eq.trans (st_go (pc' := 13) (lv' := [(0, .ref 189), (1, .int (xs 1)), (2, .int (xs 2))]) (st' := []) (t' := (sh_36 xs f g, 327)) (nc' := 0) (ns' := 0) sl_342_10 rfl) ?_
  refine Eq.trans (st_go (pc' := 14) (lv' := [(0, .ref 189), (1, .int (xs 1)), (2, .int (xs 2))]) (st' := [.int (-1)]) (t' := (sh_36 xs f g, 327)) (nc' := 0) (ns' := 0) sl_342_13 rfl) ?_
  exact st_end sl_342_14 rfl
set_option maxRecDepth 100000 in
theorem so_14_p (xs : Nat → Int32) (sio : Value) (f : Nat → Nat → Int32) (g : Nat → Nat → Int64) (n : Nat) (hn : 36 ≤ n) (q0 : am_c0 .lt (xs 1) = false) (q1 : am_c2 .ge (xs 1) (0) = true) : sR 6 xs sio 17 pm_0 n (40, [(4, .int 0), (3, .ref 326), (2, .ref 189), (1, .ref 0), (0, .ref 1000000)], [.int 14], (sw f g, 327), 327, 208818) = some (.inl (some (.int 1)), (sh_36 xs f g, 327), 327, 208818) := by
  obtain ⟨m, rfl⟩ : ∃ m, n = m + 36 := ⟨n - 36, by omega⟩
  refine Eq.trans (st_go (pc' := 901) (lv' := [(4, .int 0), (3, .ref 326), (2, .ref 189), (1, .ref 0), (0, .ref 1000000)]) (st' := []) (t' := (sw f g, 327)) (nc' := 327) (ns' := 208818) sl_0_40 rfl) ?_
  refine Eq.trans (st_go (pc' := 902) (lv' := [(4, .int 0), (3, .ref 326), (2, .ref 189), (1, .ref 0), (0, .ref 1000000)]) (st' := [.ref 0]) (t' := (sw f g, 327)) (nc' := 327) (ns' := 208818) sl_0_901 rfl) ?_
  refine Eq.trans (st_go (pc' := 903) (lv' := [(4, .int 0), (3, .ref 326), (2, .ref 189), (1, .ref 0), (0, .ref 1000000)]) (st' := [.ref 1000000, .ref 0]) (t' := (sw f g, 327)) (nc' := 327) (ns' := 208818) sl_0_902 rfl) ?_
  refine Eq.trans (st_go (pc' := 905) (lv' := [(4, .int 0), (3, .ref 326), (2, .ref 189), (1, .ref 0), (0, .ref 1000000)]) (st' := [.int 0, .ref 1000000, .ref 0]) (t' := (sw f g, 327)) (nc' := 327) (ns' := 208818) sl_0_903 rfl) ?_
  refine Eq.trans (st_go (pc' := 906) (lv' := [(4, .int 0), (3, .ref 326), (2, .ref 189), (1, .ref 0), (0, .ref 1000000)]) (st' := [.int 1, .int 0, .ref 1000000, .ref 0]) (t' := (sw f g, 327)) (nc' := 327) (ns' := 208818) sl_0_905 rfl) ?_
  refine Eq.trans (st_go (pc' := 907) (lv' := [(4, .int 0), (3, .ref 326), (2, .ref 189), (1, .ref 0), (0, .ref 1000000)]) (st' := [.int 1, .ref 1000000, .ref 0]) (t' := (sw f g, 327)) (nc' := 327) (ns' := 208818) sl_0_906 rfl) ?_
  refine Eq.trans (st_go (pc' := 908) (lv' := [(4, .int 0), (3, .ref 326), (2, .ref 189), (1, .ref 0), (0, .ref 1000000)]) (st' := [.int (xs 1), .ref 0]) (t' := (sw f g, 327)) (nc' := 327) (ns' := 208818) sl_0_907 rfl) ?_
  refine Eq.trans (st_go (pc' := 909) (lv' := [(4, .int 0), (3, .ref 326), (2, .ref 189), (1, .ref 0), (0, .ref 1000000)]) (st' := [.ref 1000000, .int (xs 1), .ref 0]) (t' := (sw f g, 327)) (nc' := 327) (ns' := 208818) sl_0_908 rfl) ?_
  refine Eq.trans (st_go (pc' := 911) (lv' := [(4, .int 0), (3, .ref 326), (2, .ref 189), (1, .ref 0), (0, .ref 1000000)]) (st' := [.int 0, .ref 1000000, .int (xs 1), .ref 0]) (t' := (sw f g, 327)) (nc' := 327) (ns' := 208818) sl_0_909 rfl) ?_
  refine Eq.trans (st_go (pc' := 912) (lv' := [(4, .int 0), (3, .ref 326), (2, .ref 189), (1, .ref 0), (0, .ref 1000000)]) (st' := [.int 2, .int 0, .ref 1000000, .int (xs 1), .ref 0]) (t' := (sw f g, 327)) (nc' := 327) (ns' := 208818) sl_0_911 rfl) ?_
  refine Eq.trans (st_go (pc' := 913) (lv' := [(4, .int 0), (3, .ref 326), (2, .ref 189), (1, .ref 0), (0, .ref 1000000)]) (st' := [.int 2, .ref 1000000, .int (xs 1), .ref 0]) (t' := (sw f g, 327)) (nc' := 327) (ns' := 208818) sl_0_912 rfl) ?_
  refine Eq.trans (st_go (pc' := 914) (lv' := [(4, .int 0), (3, .ref 326), (2, .ref 189), (1, .ref 0), (0, .ref 1000000)]) (st' := [.int (xs 2), .int (xs 1), .ref 0]) (t' := (sw f g, 327)) (nc' := 327) (ns' := 208818) sl_0_913 rfl) ?_
  refine Eq.trans (st_call (pc' := 917) (st' := [.int (-1)]) (nc' := 327) (ns' := 208818) (mi := 34) (av := [.ref 0, .int (xs 1), .int (xs 2)]) (rest := []) sl_0_914 (fun _ => rfl) (sw_83 xs sio f g q0 q1) rfl rfl rfl rfl) ?_
  refine Eq.trans (st_go (pc' := 918) (lv' := [(4, .int 0), (3, .ref 326), (2, .ref 189), (1, .ref 0), (0, .ref 1000000)]) (st' := [.ref 189, .int (-1)]) (t' := (sw f g, 327)) (nc' := 327) (ns' := 208818) sl_0_917 rfl) ?_
  refine Eq.trans (st_go (pc' := 919) (lv' := [(4, .int 0), (3, .ref 326), (2, .ref 189), (1, .ref 0), (0, .ref 1000000)]) (st' := [.ref 1000000, .ref 189, .int (-1)]) (t' := (sw f g, 327)) (nc' := 327) (ns' := 208818) sl_0_918 rfl) ?_
  refine Eq.trans (st_go (pc' := 921) (lv' := [(4, .int 0), (3, .ref 326), (2, .ref 189), (1, .ref 0), (0, .ref 1000000)]) (st' := [.int 0, .ref 1000000, .ref 189, .int (-1)]) (t' := (sw f g, 327)) (nc' := 327) (ns' := 208818) sl_0_919 rfl) ?_
  refine Eq.trans (st_go (pc' := 922) (lv' := [(4, .int 0), (3, .ref 326), (2, .ref 189), (1, .ref 0), (0, .ref 1000000)]) (st' := [.int 1, .int 0, .ref 1000000, .ref 189, .int (-1)]) (t' := (sw f g, 327)) (nc' := 327) (ns' := 208818) sl_0_921 rfl) ?_
  refine Eq.trans (st_go (pc' := 923) (lv' := [(4, .int 0), (3, .ref 326), (2, .ref 189), (1, .ref 0), (0, .ref 1000000)]) (st' := [.int 1, .ref 1000000, .ref 189, .int (-1)]) (t' := (sw f g, 327)) (nc' := 327) (ns' := 208818) sl_0_922 rfl) ?_
  refine Eq.trans (st_go (pc' := 924) (lv' := [(4, .int 0), (3, .ref 326), (2, .ref 189), (1, .ref 0), (0, .ref 1000000)]) (st' := [.int (xs 1), .ref 189, .int (-1)]) (t' := (sw f g, 327)) (nc' := 327) (ns' := 208818) sl_0_923 rfl) ?_
  refine Eq.trans (st_go (pc' := 925) (lv' := [(4, .int 0), (3, .ref 326), (2, .ref 189), (1, .ref 0), (0, .ref 1000000)]) (st' := [.ref 1000000, .int (xs 1), .ref 189, .int (-1)]) (t' := (sw f g, 327)) (nc' := 327) (ns' := 208818) sl_0_924 rfl) ?_
  refine Eq.trans (st_go (pc' := 927) (lv' := [(4, .int 0), (3, .ref 326), (2, .ref 189), (1, .ref 0), (0, .ref 1000000)]) (st' := [.int 0, .ref 1000000, .int (xs 1), .ref 189, .int (-1)]) (t' := (sw f g, 327)) (nc' := 327) (ns' := 208818) sl_0_925 rfl) ?_
  refine Eq.trans (st_go (pc' := 928) (lv' := [(4, .int 0), (3, .ref 326), (2, .ref 189), (1, .ref 0), (0, .ref 1000000)]) (st' := [.int 2, .int 0, .ref 1000000, .int (xs 1), .ref 189, .int (-1)]) (t' := (sw f g, 327)) (nc' := 327) (ns' := 208818) sl_0_927 rfl) ?_
  refine Eq.trans (st_go (pc' := 929) (lv' := [(4, .int 0), (3, .ref 326), (2, .ref 189), (1, .ref 0), (0, .ref 1000000)]) (st' := [.int 2, .ref 1000000, .int (xs 1), .ref 189, .int (-1)]) (t' := (sw f g, 327)) (nc' := 327) (ns' := 208818) sl_0_928 rfl) ?_
  refine Eq.trans (st_go (pc' := 930) (lv' := [(4, .int 0), (3, .ref 326), (2, .ref 189), (1, .ref 0), (0, .ref 1000000)]) (st' := [.int (xs 2), .int (xs 1), .ref 189, .int (-1)]) (t' := (sw f g, 327)) (nc' := 327) (ns' := 208818) sl_0_929 rfl) ?_
  refine Eq.trans (st_call (pc' := 933) (st' := [.int (-1), .int (-1)]) (nc' := 327) (ns' := 208818) (mi := 342) (av := [.ref 189, .int (xs 1), .int (xs 2)]) (rest := [.int (-1)]) sl_0_930 (fun _ => rfl) (sw_85 xs sio f g q0 q1) rfl rfl rfl rfl) ?_
  refine Eq.trans (st_go (pc' := 1172) (lv' := [(4, .int 0), (3, .ref 326), (2, .ref 189), (1, .ref 0), (0, .ref 1000000)]) (st' := []) (t' := (sh_36 xs f g, 327)) (nc' := 327) (ns' := 208818) sl_0_933 rfl) ?_
  refine Eq.trans (st_go (pc' := 1175) (lv' := [(4, .int 6), (3, .ref 326), (2, .ref 189), (1, .ref 0), (0, .ref 1000000)]) (st' := []) (t' := (sh_36 xs f g, 327)) (nc' := 327) (ns' := 208818) sl_0_1172 rfl) ?_
  refine Eq.trans (st_go (pc' := 23) (lv' := [(4, .int 6), (3, .ref 326), (2, .ref 189), (1, .ref 0), (0, .ref 1000000)]) (st' := []) (t' := (sh_36 xs f g, 327)) (nc' := 327) (ns' := 208818) sl_0_1175 rfl) ?_
  refine Eq.trans (st_go (pc' := 25) (lv' := [(4, .int 6), (3, .ref 326), (2, .ref 189), (1, .ref 0), (0, .ref 1000000)]) (st' := [.int 6]) (t' := (sh_36 xs f g, 327)) (nc' := 327) (ns' := 208818) sl_0_23 rfl) ?_
  refine Eq.trans (st_go (pc' := 26) (lv' := [(4, .int 6), (3, .ref 326), (2, .ref 189), (1, .ref 0), (0, .ref 1000000)]) (st' := [.ref 1000000, .int 6]) (t' := (sh_36 xs f g, 327)) (nc' := 327) (ns' := 208818) sl_0_25 rfl) ?_
  refine Eq.trans (st_go (pc' := 27) (lv' := [(4, .int 6), (3, .ref 326), (2, .ref 189), (1, .ref 0), (0, .ref 1000000)]) (st' := [.int 6, .int 6]) (t' := (sh_36 xs f g, 327)) (nc' := 327) (ns' := 208818) sl_0_26 rfl) ?_
  refine Eq.trans (st_go (pc' := 29) (lv' := [(4, .int 6), (3, .ref 326), (2, .ref 189), (1, .ref 0), (0, .ref 1000000)]) (st' := [.int 6, .int 6, .int 6]) (t' := (sh_36 xs f g, 327)) (nc' := 327) (ns' := 208818) sl_0_27 rfl) ?_
  refine Eq.trans (st_go (pc' := 30) (lv' := [(4, .int 6), (3, .ref 326), (2, .ref 189), (1, .ref 0), (0, .ref 1000000)]) (st' := [.int 0, .int 6]) (t' := (sh_36 xs f g, 327)) (nc' := 327) (ns' := 208818) sl_0_29 rfl) ?_
  refine Eq.trans (st_go (pc' := 1178) (lv' := [(4, .int 6), (3, .ref 326), (2, .ref 189), (1, .ref 0), (0, .ref 1000000)]) (st' := []) (t' := (sh_36 xs f g, 327)) (nc' := 327) (ns' := 208818) sl_0_30 rfl) ?_
  refine Eq.trans (st_go (pc' := 1179) (lv' := [(4, .int 6), (3, .ref 326), (2, .ref 189), (1, .ref 0), (0, .ref 1000000)]) (st' := [.int 1]) (t' := (sh_36 xs f g, 327)) (nc' := 327) (ns' := 208818) sl_0_1178 rfl) ?_
  exact st_end sl_0_1179 rfl
set_option maxRecDepth 100000 in
/-- PacketWorks$Pipe.goneOut -/
theorem sw_86 (xs : Nat → Int32) (sio : Value) (f : Nat → Nat → Int32) (g : Nat → Nat → Int64) (q0 : am_c0 .lt (xs 1) = true) : sC 6 xs sio 16 35 [.ref 185, .int (xs 1)] (sw f g, 327) = some (.inl (some (.null)), (sw f g, 327), 0, 0) := by
  refine st_in sg_35 rfl rfl ?_
  refine Eq.trans (st_go (pc' := 1) (lv' := [(0, .ref 185), (1, .int (xs 1))]) (st' := [.int (xs 1)]) (t' := (sw f g, 327)) (nc' := 0) (ns' := 0) sl_35_0 rfl) ?_
  refine Eq.trans (st_if (pc' := 27) sl_35_1 q0 rfl) ?_
  refine Eq.trans (st_go (pc' := 28) (lv' := [(0, .ref 185), (1, .int (xs 1))]) (st' := [.int 0]) (t' := (sw f g, 327)) (nc' := 0) (ns' := 0) sl_35_27 rfl) ?_
  refine Eq.trans (st_go (pc' := 29) (lv' := [(2, .int 0), (0, .ref 185), (1, .int (xs 1))]) (st' := []) (t' := (sw f g, 327)) (nc' := 0) (ns' := 0) sl_35_28 rfl) ?_
  refine Eq.trans (st_go (pc' := 30) (lv' := [(2, .int 0), (0, .ref 185), (1, .int (xs 1))]) (st' := [.int 0]) (t' := (sw f g, 327)) (nc' := 0) (ns' := 0) sl_35_29 rfl) ?_
  refine Eq.trans (st_go (pc' := 46) (lv' := [(2, .int 0), (0, .ref 185), (1, .int (xs 1))]) (st' := []) (t' := (sw f g, 327)) (nc' := 0) (ns' := 0) sl_35_30 rfl) ?_
  refine Eq.trans (st_go (pc' := 47) (lv' := [(2, .int 0), (0, .ref 185), (1, .int (xs 1))]) (st' := [.null]) (t' := (sw f g, 327)) (nc' := 0) (ns' := 0) sl_35_46 rfl) ?_
  exact st_end sl_35_47 rfl
set_option maxRecDepth 100000 in
/-- PacketWorks.byteAt -/
theorem sw_87 (xs : Nat → Int32) (sio : Value) (f : Nat → Nat → Int32) (g : Nat → Nat → Int64) (q0 : am_c0 .lt (xs 1) = true) : sC 6 xs sio 17 37 [.ref 0, .int (xs 1), .int (xs 2)] (sw f g, 327) = some (.inl (some (.int (-1))), (sw f g, 327), 0, 0) := by
  refine st_in sg_37 rfl rfl ?_
  refine Eq.trans (st_go (pc' := 1) (lv' := [(0, .ref 0), (1, .int (xs 1)), (2, .int (xs 2))]) (st' := [.ref 0]) (t' := (sw f g, 327)) (nc' := 0) (ns' := 0) sl_37_0 rfl) ?_
  refine Eq.trans (st_go (pc' := 4) (lv' := [(0, .ref 0), (1, .int (xs 1)), (2, .int (xs 2))]) (st' := [.ref 185]) (t' := (sw f g, 327)) (nc' := 0) (ns' := 0) sl_37_1 rfl) ?_
  refine Eq.trans (st_go (pc' := 5) (lv' := [(0, .ref 0), (1, .int (xs 1)), (2, .int (xs 2))]) (st' := [.int (xs 1), .ref 185]) (t' := (sw f g, 327)) (nc' := 0) (ns' := 0) sl_37_4 rfl) ?_
  refine Eq.trans (st_call (pc' := 8) (st' := [.null]) (nc' := 0) (ns' := 0) (mi := 35) (av := [.ref 185, .int (xs 1)]) (rest := []) sl_37_5 (fun _ => rfl) (sw_86 xs sio f g q0) rfl rfl rfl rfl) ?_
  refine Eq.trans (st_go (pc' := 9) (lv' := [(3, .null), (0, .ref 0), (1, .int (xs 1)), (2, .int (xs 2))]) (st' := []) (t' := (sw f g, 327)) (nc' := 0) (ns' := 0) sl_37_8 rfl) ?_
  refine Eq.trans (st_go (pc' := 10) (lv' := [(3, .null), (0, .ref 0), (1, .int (xs 1)), (2, .int (xs 2))]) (st' := [.null]) (t' := (sw f g, 327)) (nc' := 0) (ns' := 0) sl_37_9 rfl) ?_
  refine Eq.trans (st_go (pc' := 32) (lv' := [(3, .null), (0, .ref 0), (1, .int (xs 1)), (2, .int (xs 2))]) (st' := []) (t' := (sw f g, 327)) (nc' := 0) (ns' := 0) sl_37_10 rfl) ?_
  refine Eq.trans (st_go (pc' := 33) (lv' := [(3, .null), (0, .ref 0), (1, .int (xs 1)), (2, .int (xs 2))]) (st' := [.int (-1)]) (t' := (sw f g, 327)) (nc' := 0) (ns' := 0) sl_37_32 rfl) ?_
  exact st_end sl_37_33 rfl
set_option maxRecDepth 100000 in
/-- PacketWorksModel.isOut -/
theorem sw_88 (xs : Nat → Int32) (sio : Value) (f : Nat → Nat → Int32) (g : Nat → Nat → Int64) (q0 : am_c0 .lt (xs 1) = true) : sC 6 xs sio 16 343 [.ref 189, .int (xs 1)] (sh_37 xs f g, 327) = some (.inl (some (.int 0)), (sh_37 xs f g, 327), 0, 0) := by
  refine st_in sg_343 rfl rfl ?_
  refine Eq.trans (st_go (pc' := 1) (lv' := [(0, .ref 189), (1, .int (xs 1))]) (st' := [.int (xs 1)]) (t' := (sh_37 xs f g, 327)) (nc' := 0) (ns' := 0) sl_343_0 rfl) ?_
  refine Eq.trans (st_if (pc' := 27) sl_343_1 q0 rfl) ?_
  refine Eq.trans (st_go (pc' := 28) (lv' := [(0, .ref 189), (1, .int (xs 1))]) (st' := [.int 0]) (t' := (sh_37 xs f g, 327)) (nc' := 0) (ns' := 0) sl_343_27 rfl) ?_
  exact st_end sl_343_28 rfl
set_option maxRecDepth 100000 in
/-- PacketWorksModel.byteAt -/
theorem sw_89 (xs : Nat → Int32) (sio : Value) (f : Nat → Nat → Int32) (g : Nat → Nat → Int64) (q0 : am_c0 .lt (xs 1) = true) : sC 6 xs sio 17 344 [.ref 189, .int (xs 1), .int (xs 2)] (sw f g, 327) = some (.inl (some (.int (-1))), (sh_37 xs f g, 327), 0, 0) := by
  refine st_in sg_344 rfl rfl ?_
  refine Eq.trans (st_go (pc' := 1) (lv' := [(0, .ref 189), (1, .int (xs 1)), (2, .int (xs 2))]) (st' := [.ref 189]) (t' := (sw f g, 327)) (nc' := 0) (ns' := 0) sl_344_0 rfl) ?_
  refine Eq.trans (st_go (pc' := 2) (lv' := [(0, .ref 189), (1, .int (xs 1)), (2, .int (xs 2))]) (st' := [.int 0, .ref 189]) (t' := (sw f g, 327)) (nc' := 0) (ns' := 0) sl_344_1 rfl) ?_
  refine Eq.trans (st_go (pc' := 5) (lv' := [(0, .ref 189), (1, .int (xs 1)), (2, .int (xs 2))]) (st' := []) (t' := (sh_37 xs f g, 327)) (nc' := 0) (ns' := 0) sl_344_2 rfl) ?_
  refine Eq.trans (st_go (pc' := 6) (lv' := [(0, .ref 189), (1, .int (xs 1)), (2, .int (xs 2))]) (st' := [.ref 189]) (t' := (sh_37 xs f g, 327)) (nc' := 0) (ns' := 0) sl_344_5 rfl) ?_
  refine Eq.trans (st_go (pc' := 7) (lv' := [(0, .ref 189), (1, .int (xs 1)), (2, .int (xs 2))]) (st' := [.int (xs 1), .ref 189]) (t' := (sh_37 xs f g, 327)) (nc' := 0) (ns' := 0) sl_344_6 rfl) ?_
  refine Eq.trans (st_call (pc' := 10) (st' := [.int 0]) (nc' := 0) (ns' := 0) (mi := 343) (av := [.ref 189, .int (xs 1)]) (rest := []) sl_344_7 (fun _ => rfl) (sw_88 xs sio f g q0) rfl rfl rfl rfl) ?_
  refine Eq.trans (st_go (pc' := 50) (lv' := [(0, .ref 189), (1, .int (xs 1)), (2, .int (xs 2))]) (st' := []) (t' := (sh_37 xs f g, 327)) (nc' := 0) (ns' := 0) sl_344_10 rfl) ?_
  refine Eq.trans (st_go (pc' := 51) (lv' := [(0, .ref 189), (1, .int (xs 1)), (2, .int (xs 2))]) (st' := [.int (-1)]) (t' := (sh_37 xs f g, 327)) (nc' := 0) (ns' := 0) sl_344_50 rfl) ?_
  exact st_end sl_344_51 rfl
set_option maxRecDepth 100000 in
theorem so_15_n (xs : Nat → Int32) (sio : Value) (f : Nat → Nat → Int32) (g : Nat → Nat → Int64) (n : Nat) (hn : 36 ≤ n) (q0 : am_c0 .lt (xs 1) = true) : sR 6 xs sio 17 pm_0 n (40, [(4, .int 0), (3, .ref 326), (2, .ref 189), (1, .ref 0), (0, .ref 1000000)], [.int 15], (sw f g, 327), 327, 208818) = some (.inl (some (.int 1)), (sh_37 xs f g, 327), 327, 208818) := by
  obtain ⟨m, rfl⟩ : ∃ m, n = m + 36 := ⟨n - 36, by omega⟩
  refine Eq.trans (st_go (pc' := 938) (lv' := [(4, .int 0), (3, .ref 326), (2, .ref 189), (1, .ref 0), (0, .ref 1000000)]) (st' := []) (t' := (sw f g, 327)) (nc' := 327) (ns' := 208818) sl_0_40 rfl) ?_
  refine Eq.trans (st_go (pc' := 939) (lv' := [(4, .int 0), (3, .ref 326), (2, .ref 189), (1, .ref 0), (0, .ref 1000000)]) (st' := [.ref 0]) (t' := (sw f g, 327)) (nc' := 327) (ns' := 208818) sl_0_938 rfl) ?_
  refine Eq.trans (st_go (pc' := 940) (lv' := [(4, .int 0), (3, .ref 326), (2, .ref 189), (1, .ref 0), (0, .ref 1000000)]) (st' := [.ref 1000000, .ref 0]) (t' := (sw f g, 327)) (nc' := 327) (ns' := 208818) sl_0_939 rfl) ?_
  refine Eq.trans (st_go (pc' := 942) (lv' := [(4, .int 0), (3, .ref 326), (2, .ref 189), (1, .ref 0), (0, .ref 1000000)]) (st' := [.int 0, .ref 1000000, .ref 0]) (t' := (sw f g, 327)) (nc' := 327) (ns' := 208818) sl_0_940 rfl) ?_
  refine Eq.trans (st_go (pc' := 943) (lv' := [(4, .int 0), (3, .ref 326), (2, .ref 189), (1, .ref 0), (0, .ref 1000000)]) (st' := [.int 1, .int 0, .ref 1000000, .ref 0]) (t' := (sw f g, 327)) (nc' := 327) (ns' := 208818) sl_0_942 rfl) ?_
  refine Eq.trans (st_go (pc' := 944) (lv' := [(4, .int 0), (3, .ref 326), (2, .ref 189), (1, .ref 0), (0, .ref 1000000)]) (st' := [.int 1, .ref 1000000, .ref 0]) (t' := (sw f g, 327)) (nc' := 327) (ns' := 208818) sl_0_943 rfl) ?_
  refine Eq.trans (st_go (pc' := 945) (lv' := [(4, .int 0), (3, .ref 326), (2, .ref 189), (1, .ref 0), (0, .ref 1000000)]) (st' := [.int (xs 1), .ref 0]) (t' := (sw f g, 327)) (nc' := 327) (ns' := 208818) sl_0_944 rfl) ?_
  refine Eq.trans (st_go (pc' := 946) (lv' := [(4, .int 0), (3, .ref 326), (2, .ref 189), (1, .ref 0), (0, .ref 1000000)]) (st' := [.ref 1000000, .int (xs 1), .ref 0]) (t' := (sw f g, 327)) (nc' := 327) (ns' := 208818) sl_0_945 rfl) ?_
  refine Eq.trans (st_go (pc' := 948) (lv' := [(4, .int 0), (3, .ref 326), (2, .ref 189), (1, .ref 0), (0, .ref 1000000)]) (st' := [.int 0, .ref 1000000, .int (xs 1), .ref 0]) (t' := (sw f g, 327)) (nc' := 327) (ns' := 208818) sl_0_946 rfl) ?_
  refine Eq.trans (st_go (pc' := 949) (lv' := [(4, .int 0), (3, .ref 326), (2, .ref 189), (1, .ref 0), (0, .ref 1000000)]) (st' := [.int 2, .int 0, .ref 1000000, .int (xs 1), .ref 0]) (t' := (sw f g, 327)) (nc' := 327) (ns' := 208818) sl_0_948 rfl) ?_
  refine Eq.trans (st_go (pc' := 950) (lv' := [(4, .int 0), (3, .ref 326), (2, .ref 189), (1, .ref 0), (0, .ref 1000000)]) (st' := [.int 2, .ref 1000000, .int (xs 1), .ref 0]) (t' := (sw f g, 327)) (nc' := 327) (ns' := 208818) sl_0_949 rfl) ?_
  refine Eq.trans (st_go (pc' := 951) (lv' := [(4, .int 0), (3, .ref 326), (2, .ref 189), (1, .ref 0), (0, .ref 1000000)]) (st' := [.int (xs 2), .int (xs 1), .ref 0]) (t' := (sw f g, 327)) (nc' := 327) (ns' := 208818) sl_0_950 rfl) ?_
  refine Eq.trans (st_call (pc' := 954) (st' := [.int (-1)]) (nc' := 327) (ns' := 208818) (mi := 37) (av := [.ref 0, .int (xs 1), .int (xs 2)]) (rest := []) sl_0_951 (fun _ => rfl) (sw_87 xs sio f g q0) rfl rfl rfl rfl) ?_
  refine Eq.trans (st_go (pc' := 955) (lv' := [(4, .int 0), (3, .ref 326), (2, .ref 189), (1, .ref 0), (0, .ref 1000000)]) (st' := [.ref 189, .int (-1)]) (t' := (sw f g, 327)) (nc' := 327) (ns' := 208818) sl_0_954 rfl) ?_
  refine Eq.trans (st_go (pc' := 956) (lv' := [(4, .int 0), (3, .ref 326), (2, .ref 189), (1, .ref 0), (0, .ref 1000000)]) (st' := [.ref 1000000, .ref 189, .int (-1)]) (t' := (sw f g, 327)) (nc' := 327) (ns' := 208818) sl_0_955 rfl) ?_
  refine Eq.trans (st_go (pc' := 958) (lv' := [(4, .int 0), (3, .ref 326), (2, .ref 189), (1, .ref 0), (0, .ref 1000000)]) (st' := [.int 0, .ref 1000000, .ref 189, .int (-1)]) (t' := (sw f g, 327)) (nc' := 327) (ns' := 208818) sl_0_956 rfl) ?_
  refine Eq.trans (st_go (pc' := 959) (lv' := [(4, .int 0), (3, .ref 326), (2, .ref 189), (1, .ref 0), (0, .ref 1000000)]) (st' := [.int 1, .int 0, .ref 1000000, .ref 189, .int (-1)]) (t' := (sw f g, 327)) (nc' := 327) (ns' := 208818) sl_0_958 rfl) ?_
  refine Eq.trans (st_go (pc' := 960) (lv' := [(4, .int 0), (3, .ref 326), (2, .ref 189), (1, .ref 0), (0, .ref 1000000)]) (st' := [.int 1, .ref 1000000, .ref 189, .int (-1)]) (t' := (sw f g, 327)) (nc' := 327) (ns' := 208818) sl_0_959 rfl) ?_
  refine Eq.trans (st_go (pc' := 961) (lv' := [(4, .int 0), (3, .ref 326), (2, .ref 189), (1, .ref 0), (0, .ref 1000000)]) (st' := [.int (xs 1), .ref 189, .int (-1)]) (t' := (sw f g, 327)) (nc' := 327) (ns' := 208818) sl_0_960 rfl) ?_
  refine Eq.trans (st_go (pc' := 962) (lv' := [(4, .int 0), (3, .ref 326), (2, .ref 189), (1, .ref 0), (0, .ref 1000000)]) (st' := [.ref 1000000, .int (xs 1), .ref 189, .int (-1)]) (t' := (sw f g, 327)) (nc' := 327) (ns' := 208818) sl_0_961 rfl) ?_
  refine Eq.trans (st_go (pc' := 964) (lv' := [(4, .int 0), (3, .ref 326), (2, .ref 189), (1, .ref 0), (0, .ref 1000000)]) (st' := [.int 0, .ref 1000000, .int (xs 1), .ref 189, .int (-1)]) (t' := (sw f g, 327)) (nc' := 327) (ns' := 208818) sl_0_962 rfl) ?_
  refine Eq.trans (st_go (pc' := 965) (lv' := [(4, .int 0), (3, .ref 326), (2, .ref 189), (1, .ref 0), (0, .ref 1000000)]) (st' := [.int 2, .int 0, .ref 1000000, .int (xs 1), .ref 189, .int (-1)]) (t' := (sw f g, 327)) (nc' := 327) (ns' := 208818) sl_0_964 rfl) ?_
  refine Eq.trans (st_go (pc' := 966) (lv' := [(4, .int 0), (3, .ref 326), (2, .ref 189), (1, .ref 0), (0, .ref 1000000)]) (st' := [.int 2, .ref 1000000, .int (xs 1), .ref 189, .int (-1)]) (t' := (sw f g, 327)) (nc' := 327) (ns' := 208818) sl_0_965 rfl) ?_
  refine Eq.trans (st_go (pc' := 967) (lv' := [(4, .int 0), (3, .ref 326), (2, .ref 189), (1, .ref 0), (0, .ref 1000000)]) (st' := [.int (xs 2), .int (xs 1), .ref 189, .int (-1)]) (t' := (sw f g, 327)) (nc' := 327) (ns' := 208818) sl_0_966 rfl) ?_
  refine Eq.trans (st_call (pc' := 970) (st' := [.int (-1), .int (-1)]) (nc' := 327) (ns' := 208818) (mi := 344) (av := [.ref 189, .int (xs 1), .int (xs 2)]) (rest := [.int (-1)]) sl_0_967 (fun _ => rfl) (sw_89 xs sio f g q0) rfl rfl rfl rfl) ?_
  refine Eq.trans (st_go (pc' := 1172) (lv' := [(4, .int 0), (3, .ref 326), (2, .ref 189), (1, .ref 0), (0, .ref 1000000)]) (st' := []) (t' := (sh_37 xs f g, 327)) (nc' := 327) (ns' := 208818) sl_0_970 rfl) ?_
  refine Eq.trans (st_go (pc' := 1175) (lv' := [(4, .int 6), (3, .ref 326), (2, .ref 189), (1, .ref 0), (0, .ref 1000000)]) (st' := []) (t' := (sh_37 xs f g, 327)) (nc' := 327) (ns' := 208818) sl_0_1172 rfl) ?_
  refine Eq.trans (st_go (pc' := 23) (lv' := [(4, .int 6), (3, .ref 326), (2, .ref 189), (1, .ref 0), (0, .ref 1000000)]) (st' := []) (t' := (sh_37 xs f g, 327)) (nc' := 327) (ns' := 208818) sl_0_1175 rfl) ?_
  refine Eq.trans (st_go (pc' := 25) (lv' := [(4, .int 6), (3, .ref 326), (2, .ref 189), (1, .ref 0), (0, .ref 1000000)]) (st' := [.int 6]) (t' := (sh_37 xs f g, 327)) (nc' := 327) (ns' := 208818) sl_0_23 rfl) ?_
  refine Eq.trans (st_go (pc' := 26) (lv' := [(4, .int 6), (3, .ref 326), (2, .ref 189), (1, .ref 0), (0, .ref 1000000)]) (st' := [.ref 1000000, .int 6]) (t' := (sh_37 xs f g, 327)) (nc' := 327) (ns' := 208818) sl_0_25 rfl) ?_
  refine Eq.trans (st_go (pc' := 27) (lv' := [(4, .int 6), (3, .ref 326), (2, .ref 189), (1, .ref 0), (0, .ref 1000000)]) (st' := [.int 6, .int 6]) (t' := (sh_37 xs f g, 327)) (nc' := 327) (ns' := 208818) sl_0_26 rfl) ?_
  refine Eq.trans (st_go (pc' := 29) (lv' := [(4, .int 6), (3, .ref 326), (2, .ref 189), (1, .ref 0), (0, .ref 1000000)]) (st' := [.int 6, .int 6, .int 6]) (t' := (sh_37 xs f g, 327)) (nc' := 327) (ns' := 208818) sl_0_27 rfl) ?_
  refine Eq.trans (st_go (pc' := 30) (lv' := [(4, .int 6), (3, .ref 326), (2, .ref 189), (1, .ref 0), (0, .ref 1000000)]) (st' := [.int 0, .int 6]) (t' := (sh_37 xs f g, 327)) (nc' := 327) (ns' := 208818) sl_0_29 rfl) ?_
  refine Eq.trans (st_go (pc' := 1178) (lv' := [(4, .int 6), (3, .ref 326), (2, .ref 189), (1, .ref 0), (0, .ref 1000000)]) (st' := []) (t' := (sh_37 xs f g, 327)) (nc' := 327) (ns' := 208818) sl_0_30 rfl) ?_
  refine Eq.trans (st_go (pc' := 1179) (lv' := [(4, .int 6), (3, .ref 326), (2, .ref 189), (1, .ref 0), (0, .ref 1000000)]) (st' := [.int 1]) (t' := (sh_37 xs f g, 327)) (nc' := 327) (ns' := 208818) sl_0_1178 rfl) ?_
  exact st_end sl_0_1179 rfl
set_option maxRecDepth 100000 in
/-- PacketWorks$Pipe.goneOut -/
theorem sw_90 (xs : Nat → Int32) (sio : Value) (f : Nat → Nat → Int32) (g : Nat → Nat → Int64) (q0 : am_c0 .lt (xs 1) = false) (q1 : am_c2 .ge (xs 1) (0) = true) : sC 6 xs sio 16 35 [.ref 185, .int (xs 1)] (sw f g, 327) = some (.inl (some (.null)), (sw f g, 327), 0, 0) := by
  refine st_in sg_35 rfl rfl ?_
  refine Eq.trans (st_go (pc' := 1) (lv' := [(0, .ref 185), (1, .int (xs 1))]) (st' := [.int (xs 1)]) (t' := (sw f g, 327)) (nc' := 0) (ns' := 0) sl_35_0 rfl) ?_
  refine Eq.trans (st_if (pc' := 4) sl_35_1 q0 rfl) ?_
  refine Eq.trans (st_go (pc' := 5) (lv' := [(0, .ref 185), (1, .int (xs 1))]) (st' := [.int (xs 1)]) (t' := (sw f g, 327)) (nc' := 0) (ns' := 0) sl_35_4 rfl) ?_
  refine Eq.trans (st_go (pc' := 6) (lv' := [(0, .ref 185), (1, .int (xs 1))]) (st' := [.ref 185, .int (xs 1)]) (t' := (sw f g, 327)) (nc' := 0) (ns' := 0) sl_35_5 rfl) ?_
  refine Eq.trans (st_go (pc' := 9) (lv' := [(0, .ref 185), (1, .int (xs 1))]) (st' := [.int 0, .int (xs 1)]) (t' := (sw f g, 327)) (nc' := 0) (ns' := 0) sl_35_6 rfl) ?_
  refine Eq.trans (st_ic (pc' := 27) sl_35_9 q1 rfl) ?_
  refine Eq.trans (st_go (pc' := 28) (lv' := [(0, .ref 185), (1, .int (xs 1))]) (st' := [.int 0]) (t' := (sw f g, 327)) (nc' := 0) (ns' := 0) sl_35_27 rfl) ?_
  refine Eq.trans (st_go (pc' := 29) (lv' := [(2, .int 0), (0, .ref 185), (1, .int (xs 1))]) (st' := []) (t' := (sw f g, 327)) (nc' := 0) (ns' := 0) sl_35_28 rfl) ?_
  refine Eq.trans (st_go (pc' := 30) (lv' := [(2, .int 0), (0, .ref 185), (1, .int (xs 1))]) (st' := [.int 0]) (t' := (sw f g, 327)) (nc' := 0) (ns' := 0) sl_35_29 rfl) ?_
  refine Eq.trans (st_go (pc' := 46) (lv' := [(2, .int 0), (0, .ref 185), (1, .int (xs 1))]) (st' := []) (t' := (sw f g, 327)) (nc' := 0) (ns' := 0) sl_35_30 rfl) ?_
  refine Eq.trans (st_go (pc' := 47) (lv' := [(2, .int 0), (0, .ref 185), (1, .int (xs 1))]) (st' := [.null]) (t' := (sw f g, 327)) (nc' := 0) (ns' := 0) sl_35_46 rfl) ?_
  exact st_end sl_35_47 rfl
set_option maxRecDepth 100000 in
/-- PacketWorks.byteAt -/
theorem sw_91 (xs : Nat → Int32) (sio : Value) (f : Nat → Nat → Int32) (g : Nat → Nat → Int64) (q0 : am_c0 .lt (xs 1) = false) (q1 : am_c2 .ge (xs 1) (0) = true) : sC 6 xs sio 17 37 [.ref 0, .int (xs 1), .int (xs 2)] (sw f g, 327) = some (.inl (some (.int (-1))), (sw f g, 327), 0, 0) := by
  refine st_in sg_37 rfl rfl ?_
  refine Eq.trans (st_go (pc' := 1) (lv' := [(0, .ref 0), (1, .int (xs 1)), (2, .int (xs 2))]) (st' := [.ref 0]) (t' := (sw f g, 327)) (nc' := 0) (ns' := 0) sl_37_0 rfl) ?_
  refine Eq.trans (st_go (pc' := 4) (lv' := [(0, .ref 0), (1, .int (xs 1)), (2, .int (xs 2))]) (st' := [.ref 185]) (t' := (sw f g, 327)) (nc' := 0) (ns' := 0) sl_37_1 rfl) ?_
  refine Eq.trans (st_go (pc' := 5) (lv' := [(0, .ref 0), (1, .int (xs 1)), (2, .int (xs 2))]) (st' := [.int (xs 1), .ref 185]) (t' := (sw f g, 327)) (nc' := 0) (ns' := 0) sl_37_4 rfl) ?_
  refine Eq.trans (st_call (pc' := 8) (st' := [.null]) (nc' := 0) (ns' := 0) (mi := 35) (av := [.ref 185, .int (xs 1)]) (rest := []) sl_37_5 (fun _ => rfl) (sw_90 xs sio f g q0 q1) rfl rfl rfl rfl) ?_
  refine Eq.trans (st_go (pc' := 9) (lv' := [(3, .null), (0, .ref 0), (1, .int (xs 1)), (2, .int (xs 2))]) (st' := []) (t' := (sw f g, 327)) (nc' := 0) (ns' := 0) sl_37_8 rfl) ?_
  refine Eq.trans (st_go (pc' := 10) (lv' := [(3, .null), (0, .ref 0), (1, .int (xs 1)), (2, .int (xs 2))]) (st' := [.null]) (t' := (sw f g, 327)) (nc' := 0) (ns' := 0) sl_37_9 rfl) ?_
  refine Eq.trans (st_go (pc' := 32) (lv' := [(3, .null), (0, .ref 0), (1, .int (xs 1)), (2, .int (xs 2))]) (st' := []) (t' := (sw f g, 327)) (nc' := 0) (ns' := 0) sl_37_10 rfl) ?_
  refine Eq.trans (st_go (pc' := 33) (lv' := [(3, .null), (0, .ref 0), (1, .int (xs 1)), (2, .int (xs 2))]) (st' := [.int (-1)]) (t' := (sw f g, 327)) (nc' := 0) (ns' := 0) sl_37_32 rfl) ?_
  exact st_end sl_37_33 rfl
set_option maxRecDepth 100000 in
/-- PacketWorksModel.isOut -/
theorem sw_92 (xs : Nat → Int32) (sio : Value) (f : Nat → Nat → Int32) (g : Nat → Nat → Int64) (q0 : am_c0 .lt (xs 1) = false) (q1 : am_c2 .ge (xs 1) (0) = true) : sC 6 xs sio 16 343 [.ref 189, .int (xs 1)] (sh_38 xs f g, 327) = some (.inl (some (.int 0)), (sh_38 xs f g, 327), 0, 0) := by
  refine st_in sg_343 rfl rfl ?_
  refine Eq.trans (st_go (pc' := 1) (lv' := [(0, .ref 189), (1, .int (xs 1))]) (st' := [.int (xs 1)]) (t' := (sh_38 xs f g, 327)) (nc' := 0) (ns' := 0) sl_343_0 rfl) ?_
  refine Eq.trans (st_if (pc' := 4) sl_343_1 q0 rfl) ?_
  refine Eq.trans (st_go (pc' := 5) (lv' := [(0, .ref 189), (1, .int (xs 1))]) (st' := [.int (xs 1)]) (t' := (sh_38 xs f g, 327)) (nc' := 0) (ns' := 0) sl_343_4 rfl) ?_
  refine Eq.trans (st_go (pc' := 6) (lv' := [(0, .ref 189), (1, .int (xs 1))]) (st' := [.ref 189, .int (xs 1)]) (t' := (sh_38 xs f g, 327)) (nc' := 0) (ns' := 0) sl_343_5 rfl) ?_
  refine Eq.trans (st_go (pc' := 9) (lv' := [(0, .ref 189), (1, .int (xs 1))]) (st' := [.int 0, .int (xs 1)]) (t' := (sh_38 xs f g, 327)) (nc' := 0) (ns' := 0) sl_343_6 rfl) ?_
  refine Eq.trans (st_ic (pc' := 27) sl_343_9 q1 rfl) ?_
  refine Eq.trans (st_go (pc' := 28) (lv' := [(0, .ref 189), (1, .int (xs 1))]) (st' := [.int 0]) (t' := (sh_38 xs f g, 327)) (nc' := 0) (ns' := 0) sl_343_27 rfl) ?_
  exact st_end sl_343_28 rfl
set_option maxRecDepth 100000 in
/-- PacketWorksModel.byteAt -/
theorem sw_93 (xs : Nat → Int32) (sio : Value) (f : Nat → Nat → Int32) (g : Nat → Nat → Int64) (q0 : am_c0 .lt (xs 1) = false) (q1 : am_c2 .ge (xs 1) (0) = true) : sC 6 xs sio 17 344 [.ref 189, .int (xs 1), .int (xs 2)] (sw f g, 327) = some (.inl (some (.int (-1))), (sh_38 xs f g, 327), 0, 0) := by
  refine st_in sg_344 rfl rfl ?_
  refine Eq.trans (st_go (pc' := 1) (lv' := [(0, .ref 189), (1, .int (xs 1)), (2, .int (xs 2))]) (st' := [.ref 189]) (t' := (sw f g, 327)) (nc' := 0) (ns' := 0) sl_344_0 rfl) ?_
  refine Eq.trans (st_go (pc' := 2) (lv' := [(0, .ref 189), (1, .int (xs 1)), (2, .int (xs 2))]) (st' := [.int 0, .ref 189]) (t' := (sw f g, 327)) (nc' := 0) (ns' := 0) sl_344_1 rfl) ?_
  refine Eq.trans (st_go (pc' := 5) (lv' := [(0, .ref 189), (1, .int (xs 1)), (2, .int (xs 2))]) (st' := []) (t' := (sh_38 xs f g, 327)) (nc' := 0) (ns' := 0) sl_344_2 rfl) ?_
  refine Eq.trans (st_go (pc' := 6) (lv' := [(0, .ref 189), (1, .int (xs 1)), (2, .int (xs 2))]) (st' := [.ref 189]) (t' := (sh_38 xs f g, 327)) (nc' := 0) (ns' := 0) sl_344_5 rfl) ?_
  refine Eq.trans (st_go (pc' := 7) (lv' := [(0, .ref 189), (1, .int (xs 1)), (2, .int (xs 2))]) (st' := [.int (xs 1), .ref 189]) (t' := (sh_38 xs f g, 327)) (nc' := 0) (ns' := 0) sl_344_6 rfl) ?_
  refine Eq.trans (st_call (pc' := 10) (st' := [.int 0]) (nc' := 0) (ns' := 0) (mi := 343) (av := [.ref 189, .int (xs 1)]) (rest := []) sl_344_7 (fun _ => rfl) (sw_92 xs sio f g q0 q1) rfl rfl rfl rfl) ?_
  refine Eq.trans (st_go (pc' := 50) (lv' := [(0, .ref 189), (1, .int (xs 1)), (2, .int (xs 2))]) (st' := []) (t' := (sh_38 xs f g, 327)) (nc' := 0) (ns' := 0) sl_344_10 rfl) ?_
  refine Eq.trans (st_go (pc' := 51) (lv' := [(0, .ref 189), (1, .int (xs 1)), (2, .int (xs 2))]) (st' := [.int (-1)]) (t' := (sh_38 xs f g, 327)) (nc' := 0) (ns' := 0) sl_344_50 rfl) ?_
  exact st_end sl_344_51 rfl
set_option maxRecDepth 100000 in
theorem so_15_p (xs : Nat → Int32) (sio : Value) (f : Nat → Nat → Int32) (g : Nat → Nat → Int64) (n : Nat) (hn : 36 ≤ n) (q0 : am_c0 .lt (xs 1) = false) (q1 : am_c2 .ge (xs 1) (0) = true) : sR 6 xs sio 17 pm_0 n (40, [(4, .int 0), (3, .ref 326), (2, .ref 189), (1, .ref 0), (0, .ref 1000000)], [.int 15], (sw f g, 327), 327, 208818) = some (.inl (some (.int 1)), (sh_38 xs f g, 327), 327, 208818) := by
  obtain ⟨m, rfl⟩ : ∃ m, n = m + 36 := ⟨n - 36, by omega⟩
  refine Eq.trans (st_go (pc' := 938) (lv' := [(4, .int 0), (3, .ref 326), (2, .ref 189), (1, .ref 0), (0, .ref 1000000)]) (st' := []) (t' := (sw f g, 327)) (nc' := 327) (ns' := 208818) sl_0_40 rfl) ?_
  refine Eq.trans (st_go (pc' := 939) (lv' := [(4, .int 0), (3, .ref 326), (2, .ref 189), (1, .ref 0), (0, .ref 1000000)]) (st' := [.ref 0]) (t' := (sw f g, 327)) (nc' := 327) (ns' := 208818) sl_0_938 rfl) ?_
  refine Eq.trans (st_go (pc' := 940) (lv' := [(4, .int 0), (3, .ref 326), (2, .ref 189), (1, .ref 0), (0, .ref 1000000)]) (st' := [.ref 1000000, .ref 0]) (t' := (sw f g, 327)) (nc' := 327) (ns' := 208818) sl_0_939 rfl) ?_
  refine Eq.trans (st_go (pc' := 942) (lv' := [(4, .int 0), (3, .ref 326), (2, .ref 189), (1, .ref 0), (0, .ref 1000000)]) (st' := [.int 0, .ref 1000000, .ref 0]) (t' := (sw f g, 327)) (nc' := 327) (ns' := 208818) sl_0_940 rfl) ?_
  refine Eq.trans (st_go (pc' := 943) (lv' := [(4, .int 0), (3, .ref 326), (2, .ref 189), (1, .ref 0), (0, .ref 1000000)]) (st' := [.int 1, .int 0, .ref 1000000, .ref 0]) (t' := (sw f g, 327)) (nc' := 327) (ns' := 208818) sl_0_942 rfl) ?_
  refine Eq.trans (st_go (pc' := 944) (lv' := [(4, .int 0), (3, .ref 326), (2, .ref 189), (1, .ref 0), (0, .ref 1000000)]) (st' := [.int 1, .ref 1000000, .ref 0]) (t' := (sw f g, 327)) (nc' := 327) (ns' := 208818) sl_0_943 rfl) ?_
  refine Eq.trans (st_go (pc' := 945) (lv' := [(4, .int 0), (3, .ref 326), (2, .ref 189), (1, .ref 0), (0, .ref 1000000)]) (st' := [.int (xs 1), .ref 0]) (t' := (sw f g, 327)) (nc' := 327) (ns' := 208818) sl_0_944 rfl) ?_
  refine Eq.trans (st_go (pc' := 946) (lv' := [(4, .int 0), (3, .ref 326), (2, .ref 189), (1, .ref 0), (0, .ref 1000000)]) (st' := [.ref 1000000, .int (xs 1), .ref 0]) (t' := (sw f g, 327)) (nc' := 327) (ns' := 208818) sl_0_945 rfl) ?_
  refine Eq.trans (st_go (pc' := 948) (lv' := [(4, .int 0), (3, .ref 326), (2, .ref 189), (1, .ref 0), (0, .ref 1000000)]) (st' := [.int 0, .ref 1000000, .int (xs 1), .ref 0]) (t' := (sw f g, 327)) (nc' := 327) (ns' := 208818) sl_0_946 rfl) ?_
  refine Eq.trans (st_go (pc' := 949) (lv' := [(4, .int 0), (3, .ref 326), (2, .ref 189), (1, .ref 0), (0, .ref 1000000)]) (st' := [.int 2, .int 0, .ref 1000000, .int (xs 1), .ref 0]) (t' := (sw f g, 327)) (nc' := 327) (ns' := 208818) sl_0_948 rfl) ?_
  refine Eq.trans (st_go (pc' := 950) (lv' := [(4, .int 0), (3, .ref 326), (2, .ref 189), (1, .ref 0), (0, .ref 1000000)]) (st' := [.int 2, .ref 1000000, .int (xs 1), .ref 0]) (t' := (sw f g, 327)) (nc' := 327) (ns' := 208818) sl_0_949 rfl) ?_
  refine Eq.trans (st_go (pc' := 951) (lv' := [(4, .int 0), (3, .ref 326), (2, .ref 189), (1, .ref 0), (0, .ref 1000000)]) (st' := [.int (xs 2), .int (xs 1), .ref 0]) (t' := (sw f g, 327)) (nc' := 327) (ns' := 208818) sl_0_950 rfl) ?_
  refine Eq.trans (st_call (pc' := 954) (st' := [.int (-1)]) (nc' := 327) (ns' := 208818) (mi := 37) (av := [.ref 0, .int (xs 1), .int (xs 2)]) (rest := []) sl_0_951 (fun _ => rfl) (sw_91 xs sio f g q0 q1) rfl rfl rfl rfl) ?_
  refine Eq.trans (st_go (pc' := 955) (lv' := [(4, .int 0), (3, .ref 326), (2, .ref 189), (1, .ref 0), (0, .ref 1000000)]) (st' := [.ref 189, .int (-1)]) (t' := (sw f g, 327)) (nc' := 327) (ns' := 208818) sl_0_954 rfl) ?_
  refine Eq.trans (st_go (pc' := 956) (lv' := [(4, .int 0), (3, .ref 326), (2, .ref 189), (1, .ref 0), (0, .ref 1000000)]) (st' := [.ref 1000000, .ref 189, .int (-1)]) (t' := (sw f g, 327)) (nc' := 327) (ns' := 208818) sl_0_955 rfl) ?_
  refine Eq.trans (st_go (pc' := 958) (lv' := [(4, .int 0), (3, .ref 326), (2, .ref 189), (1, .ref 0), (0, .ref 1000000)]) (st' := [.int 0, .ref 1000000, .ref 189, .int (-1)]) (t' := (sw f g, 327)) (nc' := 327) (ns' := 208818) sl_0_956 rfl) ?_
  refine Eq.trans (st_go (pc' := 959) (lv' := [(4, .int 0), (3, .ref 326), (2, .ref 189), (1, .ref 0), (0, .ref 1000000)]) (st' := [.int 1, .int 0, .ref 1000000, .ref 189, .int (-1)]) (t' := (sw f g, 327)) (nc' := 327) (ns' := 208818) sl_0_958 rfl) ?_
  refine Eq.trans (st_go (pc' := 960) (lv' := [(4, .int 0), (3, .ref 326), (2, .ref 189), (1, .ref 0), (0, .ref 1000000)]) (st' := [.int 1, .ref 1000000, .ref 189, .int (-1)]) (t' := (sw f g, 327)) (nc' := 327) (ns' := 208818) sl_0_959 rfl) ?_
  refine Eq.trans (st_go (pc' := 961) (lv' := [(4, .int 0), (3, .ref 326), (2, .ref 189), (1, .ref 0), (0, .ref 1000000)]) (st' := [.int (xs 1), .ref 189, .int (-1)]) (t' := (sw f g, 327)) (nc' := 327) (ns' := 208818) sl_0_960 rfl) ?_
  refine Eq.trans (st_go (pc' := 962) (lv' := [(4, .int 0), (3, .ref 326), (2, .ref 189), (1, .ref 0), (0, .ref 1000000)]) (st' := [.ref 1000000, .int (xs 1), .ref 189, .int (-1)]) (t' := (sw f g, 327)) (nc' := 327) (ns' := 208818) sl_0_961 rfl) ?_
  refine Eq.trans (st_go (pc' := 964) (lv' := [(4, .int 0), (3, .ref 326), (2, .ref 189), (1, .ref 0), (0, .ref 1000000)]) (st' := [.int 0, .ref 1000000, .int (xs 1), .ref 189, .int (-1)]) (t' := (sw f g, 327)) (nc' := 327) (ns' := 208818) sl_0_962 rfl) ?_
  refine Eq.trans (st_go (pc' := 965) (lv' := [(4, .int 0), (3, .ref 326), (2, .ref 189), (1, .ref 0), (0, .ref 1000000)]) (st' := [.int 2, .int 0, .ref 1000000, .int (xs 1), .ref 189, .int (-1)]) (t' := (sw f g, 327)) (nc' := 327) (ns' := 208818) sl_0_964 rfl) ?_
  refine Eq.trans (st_go (pc' := 966) (lv' := [(4, .int 0), (3, .ref 326), (2, .ref 189), (1, .ref 0), (0, .ref 1000000)]) (st' := [.int 2, .ref 1000000, .int (xs 1), .ref 189, .int (-1)]) (t' := (sw f g, 327)) (nc' := 327) (ns' := 208818) sl_0_965 rfl) ?_
  refine Eq.trans (st_go (pc' := 967) (lv' := [(4, .int 0), (3, .ref 326), (2, .ref 189), (1, .ref 0), (0, .ref 1000000)]) (st' := [.int (xs 2), .int (xs 1), .ref 189, .int (-1)]) (t' := (sw f g, 327)) (nc' := 327) (ns' := 208818) sl_0_966 rfl) ?_
  refine Eq.trans (st_call (pc' := 970) (st' := [.int (-1), .int (-1)]) (nc' := 327) (ns' := 208818) (mi := 344) (av := [.ref 189, .int (xs 1), .int (xs 2)]) (rest := [.int (-1)]) sl_0_967 (fun _ => rfl) (sw_93 xs sio f g q0 q1) rfl rfl rfl rfl) ?_
  refine Eq.trans (st_go (pc' := 1172) (lv' := [(4, .int 0), (3, .ref 326), (2, .ref 189), (1, .ref 0), (0, .ref 1000000)]) (st' := []) (t' := (sh_38 xs f g, 327)) (nc' := 327) (ns' := 208818) sl_0_970 rfl) ?_
  refine Eq.trans (st_go (pc' := 1175) (lv' := [(4, .int 6), (3, .ref 326), (2, .ref 189), (1, .ref 0), (0, .ref 1000000)]) (st' := []) (t' := (sh_38 xs f g, 327)) (nc' := 327) (ns' := 208818) sl_0_1172 rfl) ?_
  refine Eq.trans (st_go (pc' := 23) (lv' := [(4, .int 6), (3, .ref 326), (2, .ref 189), (1, .ref 0), (0, .ref 1000000)]) (st' := []) (t' := (sh_38 xs f g, 327)) (nc' := 327) (ns' := 208818) sl_0_1175 rfl) ?_
  refine Eq.trans (st_go (pc' := 25) (lv' := [(4, .int 6), (3, .ref 326), (2, .ref 189), (1, .ref 0), (0, .ref 1000000)]) (st' := [.int 6]) (t' := (sh_38 xs f g, 327)) (nc' := 327) (ns' := 208818) sl_0_23 rfl) ?_
  refine Eq.trans (st_go (pc' := 26) (lv' := [(4, .int 6), (3, .ref 326), (2, .ref 189), (1, .ref 0), (0, .ref 1000000)]) (st' := [.ref 1000000, .int 6]) (t' := (sh_38 xs f g, 327)) (nc' := 327) (ns' := 208818) sl_0_25 rfl) ?_
  refine Eq.trans (st_go (pc' := 27) (lv' := [(4, .int 6), (3, .ref 326), (2, .ref 189), (1, .ref 0), (0, .ref 1000000)]) (st' := [.int 6, .int 6]) (t' := (sh_38 xs f g, 327)) (nc' := 327) (ns' := 208818) sl_0_26 rfl) ?_
  refine Eq.trans (st_go (pc' := 29) (lv' := [(4, .int 6), (3, .ref 326), (2, .ref 189), (1, .ref 0), (0, .ref 1000000)]) (st' := [.int 6, .int 6, .int 6]) (t' := (sh_38 xs f g, 327)) (nc' := 327) (ns' := 208818) sl_0_27 rfl) ?_
  refine Eq.trans (st_go (pc' := 30) (lv' := [(4, .int 6), (3, .ref 326), (2, .ref 189), (1, .ref 0), (0, .ref 1000000)]) (st' := [.int 0, .int 6]) (t' := (sh_38 xs f g, 327)) (nc' := 327) (ns' := 208818) sl_0_29 rfl) ?_
  refine Eq.trans (st_go (pc' := 1178) (lv' := [(4, .int 6), (3, .ref 326), (2, .ref 189), (1, .ref 0), (0, .ref 1000000)]) (st' := []) (t' := (sh_38 xs f g, 327)) (nc' := 327) (ns' := 208818) sl_0_30 rfl) ?_
  refine Eq.trans (st_go (pc' := 1179) (lv' := [(4, .int 6), (3, .ref 326), (2, .ref 189), (1, .ref 0), (0, .ref 1000000)]) (st' := [.int 1]) (t' := (sh_38 xs f g, 327)) (nc' := 327) (ns' := 208818) sl_0_1178 rfl) ?_
  exact st_end sl_0_1179 rfl
set_option maxRecDepth 100000 in
/-- PacketWorks$Pipe.goneOut -/
theorem sw_94 (xs : Nat → Int32) (sio : Value) (f : Nat → Nat → Int32) (g : Nat → Nat → Int64) (q0 : am_c0 .lt (xs 1) = true) : sC 6 xs sio 16 35 [.ref 185, .int (xs 1)] (sw f g, 327) = some (.inl (some (.null)), (sw f g, 327), 0, 0) := by
  refine st_in sg_35 rfl rfl ?_
  refine Eq.trans (st_go (pc' := 1) (lv' := [(0, .ref 185), (1, .int (xs 1))]) (st' := [.int (xs 1)]) (t' := (sw f g, 327)) (nc' := 0) (ns' := 0) sl_35_0 rfl) ?_
  refine Eq.trans (st_if (pc' := 27) sl_35_1 q0 rfl) ?_
  refine Eq.trans (st_go (pc' := 28) (lv' := [(0, .ref 185), (1, .int (xs 1))]) (st' := [.int 0]) (t' := (sw f g, 327)) (nc' := 0) (ns' := 0) sl_35_27 rfl) ?_
  refine Eq.trans (st_go (pc' := 29) (lv' := [(2, .int 0), (0, .ref 185), (1, .int (xs 1))]) (st' := []) (t' := (sw f g, 327)) (nc' := 0) (ns' := 0) sl_35_28 rfl) ?_
  refine Eq.trans (st_go (pc' := 30) (lv' := [(2, .int 0), (0, .ref 185), (1, .int (xs 1))]) (st' := [.int 0]) (t' := (sw f g, 327)) (nc' := 0) (ns' := 0) sl_35_29 rfl) ?_
  refine Eq.trans (st_go (pc' := 46) (lv' := [(2, .int 0), (0, .ref 185), (1, .int (xs 1))]) (st' := []) (t' := (sw f g, 327)) (nc' := 0) (ns' := 0) sl_35_30 rfl) ?_
  refine Eq.trans (st_go (pc' := 47) (lv' := [(2, .int 0), (0, .ref 185), (1, .int (xs 1))]) (st' := [.null]) (t' := (sw f g, 327)) (nc' := 0) (ns' := 0) sl_35_46 rfl) ?_
  exact st_end sl_35_47 rfl
set_option maxRecDepth 100000 in
/-- PacketWorks.did -/
theorem sw_95 (xs : Nat → Int32) (sio : Value) (f : Nat → Nat → Int32) (g : Nat → Nat → Int64) (q0 : am_c0 .lt (xs 1) = true) : sC 6 xs sio 17 38 [.ref 0, .int (xs 1), .int (xs 2)] (sw f g, 327) = some (.inl (some (.int (-1))), (sw f g, 327), 0, 0) := by
  refine st_in sg_38 rfl rfl ?_
  refine Eq.trans (st_go (pc' := 1) (lv' := [(0, .ref 0), (1, .int (xs 1)), (2, .int (xs 2))]) (st' := [.ref 0]) (t' := (sw f g, 327)) (nc' := 0) (ns' := 0) sl_38_0 rfl) ?_
  refine Eq.trans (st_go (pc' := 4) (lv' := [(0, .ref 0), (1, .int (xs 1)), (2, .int (xs 2))]) (st' := [.ref 185]) (t' := (sw f g, 327)) (nc' := 0) (ns' := 0) sl_38_1 rfl) ?_
  refine Eq.trans (st_go (pc' := 5) (lv' := [(0, .ref 0), (1, .int (xs 1)), (2, .int (xs 2))]) (st' := [.int (xs 1), .ref 185]) (t' := (sw f g, 327)) (nc' := 0) (ns' := 0) sl_38_4 rfl) ?_
  refine Eq.trans (st_call (pc' := 8) (st' := [.null]) (nc' := 0) (ns' := 0) (mi := 35) (av := [.ref 185, .int (xs 1)]) (rest := []) sl_38_5 (fun _ => rfl) (sw_94 xs sio f g q0) rfl rfl rfl rfl) ?_
  refine Eq.trans (st_go (pc' := 9) (lv' := [(3, .null), (0, .ref 0), (1, .int (xs 1)), (2, .int (xs 2))]) (st' := []) (t' := (sw f g, 327)) (nc' := 0) (ns' := 0) sl_38_8 rfl) ?_
  refine Eq.trans (st_go (pc' := 10) (lv' := [(3, .null), (0, .ref 0), (1, .int (xs 1)), (2, .int (xs 2))]) (st' := [.null]) (t' := (sw f g, 327)) (nc' := 0) (ns' := 0) sl_38_9 rfl) ?_
  refine Eq.trans (st_go (pc' := 38) (lv' := [(3, .null), (0, .ref 0), (1, .int (xs 1)), (2, .int (xs 2))]) (st' := []) (t' := (sw f g, 327)) (nc' := 0) (ns' := 0) sl_38_10 rfl) ?_
  refine Eq.trans (st_go (pc' := 39) (lv' := [(3, .null), (0, .ref 0), (1, .int (xs 1)), (2, .int (xs 2))]) (st' := [.int (-1)]) (t' := (sw f g, 327)) (nc' := 0) (ns' := 0) sl_38_38 rfl) ?_
  exact st_end sl_38_39 rfl
set_option maxRecDepth 100000 in
/-- PacketWorksModel.isOut -/
theorem sw_96 (xs : Nat → Int32) (sio : Value) (f : Nat → Nat → Int32) (g : Nat → Nat → Int64) (q0 : am_c0 .lt (xs 1) = true) : sC 6 xs sio 16 343 [.ref 189, .int (xs 1)] (sh_39 xs f g, 327) = some (.inl (some (.int 0)), (sh_39 xs f g, 327), 0, 0) := by
  refine st_in sg_343 rfl rfl ?_
  refine Eq.trans (st_go (pc' := 1) (lv' := [(0, .ref 189), (1, .int (xs 1))]) (st' := [.int (xs 1)]) (t' := (sh_39 xs f g, 327)) (nc' := 0) (ns' := 0) sl_343_0 rfl) ?_
  refine Eq.trans (st_if (pc' := 27) sl_343_1 q0 rfl) ?_
  refine Eq.trans (st_go (pc' := 28) (lv' := [(0, .ref 189), (1, .int (xs 1))]) (st' := [.int 0]) (t' := (sh_39 xs f g, 327)) (nc' := 0) (ns' := 0) sl_343_27 rfl) ?_
  exact st_end sl_343_28 rfl
set_option maxRecDepth 100000 in
/-- PacketWorksModel.did -/
theorem sw_97 (xs : Nat → Int32) (sio : Value) (f : Nat → Nat → Int32) (g : Nat → Nat → Int64) (q0 : am_c0 .lt (xs 1) = true) : sC 6 xs sio 17 345 [.ref 189, .int (xs 1), .int (xs 2)] (sw f g, 327) = some (.inl (some (.int (-1))), (sh_39 xs f g, 327), 0, 0) := by
  refine st_in sg_345 rfl rfl ?_
  refine Eq.trans (st_go (pc' := 1) (lv' := [(0, .ref 189), (1, .int (xs 1)), (2, .int (xs 2))]) (st' := [.ref 189]) (t' := (sw f g, 327)) (nc' := 0) (ns' := 0) sl_345_0 rfl) ?_
  refine Eq.trans (st_go (pc' := 2) (lv' := [(0, .ref 189), (1, .int (xs 1)), (2, .int (xs 2))]) (st' := [.int 0, .ref 189]) (t' := (sw f g, 327)) (nc' := 0) (ns' := 0) sl_345_1 rfl) ?_
  refine Eq.trans (st_go (pc' := 5) (lv' := [(0, .ref 189), (1, .int (xs 1)), (2, .int (xs 2))]) (st' := []) (t' := (sh_39 xs f g, 327)) (nc' := 0) (ns' := 0) sl_345_2 rfl) ?_
  refine Eq.trans (st_go (pc' := 6) (lv' := [(0, .ref 189), (1, .int (xs 1)), (2, .int (xs 2))]) (st' := [.ref 189]) (t' := (sh_39 xs f g, 327)) (nc' := 0) (ns' := 0) sl_345_5 rfl) ?_
  refine Eq.trans (st_go (pc' := 7) (lv' := [(0, .ref 189), (1, .int (xs 1)), (2, .int (xs 2))]) (st' := [.int (xs 1), .ref 189]) (t' := (sh_39 xs f g, 327)) (nc' := 0) (ns' := 0) sl_345_6 rfl) ?_
  refine Eq.trans (st_call (pc' := 10) (st' := [.int 0]) (nc' := 0) (ns' := 0) (mi := 343) (av := [.ref 189, .int (xs 1)]) (rest := []) sl_345_7 (fun _ => rfl) (sw_96 xs sio f g q0) rfl rfl rfl rfl) ?_
  refine Eq.trans (st_go (pc' := 55) (lv' := [(0, .ref 189), (1, .int (xs 1)), (2, .int (xs 2))]) (st' := []) (t' := (sh_39 xs f g, 327)) (nc' := 0) (ns' := 0) sl_345_10 rfl) ?_
  refine Eq.trans (st_go (pc' := 56) (lv' := [(0, .ref 189), (1, .int (xs 1)), (2, .int (xs 2))]) (st' := [.int (-1)]) (t' := (sh_39 xs f g, 327)) (nc' := 0) (ns' := 0) sl_345_55 rfl) ?_
  exact st_end sl_345_56 rfl
set_option maxRecDepth 100000 in
theorem so_16_n (xs : Nat → Int32) (sio : Value) (f : Nat → Nat → Int32) (g : Nat → Nat → Int64) (n : Nat) (hn : 36 ≤ n) (q0 : am_c0 .lt (xs 1) = true) : sR 6 xs sio 17 pm_0 n (40, [(4, .int 0), (3, .ref 326), (2, .ref 189), (1, .ref 0), (0, .ref 1000000)], [.int 16], (sw f g, 327), 327, 208818) = some (.inl (some (.int 1)), (sh_39 xs f g, 327), 327, 208818) := by
  obtain ⟨m, rfl⟩ : ∃ m, n = m + 36 := ⟨n - 36, by omega⟩
  refine Eq.trans (st_go (pc' := 975) (lv' := [(4, .int 0), (3, .ref 326), (2, .ref 189), (1, .ref 0), (0, .ref 1000000)]) (st' := []) (t' := (sw f g, 327)) (nc' := 327) (ns' := 208818) sl_0_40 rfl) ?_
  refine Eq.trans (st_go (pc' := 976) (lv' := [(4, .int 0), (3, .ref 326), (2, .ref 189), (1, .ref 0), (0, .ref 1000000)]) (st' := [.ref 0]) (t' := (sw f g, 327)) (nc' := 327) (ns' := 208818) sl_0_975 rfl) ?_
  refine Eq.trans (st_go (pc' := 977) (lv' := [(4, .int 0), (3, .ref 326), (2, .ref 189), (1, .ref 0), (0, .ref 1000000)]) (st' := [.ref 1000000, .ref 0]) (t' := (sw f g, 327)) (nc' := 327) (ns' := 208818) sl_0_976 rfl) ?_
  refine Eq.trans (st_go (pc' := 979) (lv' := [(4, .int 0), (3, .ref 326), (2, .ref 189), (1, .ref 0), (0, .ref 1000000)]) (st' := [.int 0, .ref 1000000, .ref 0]) (t' := (sw f g, 327)) (nc' := 327) (ns' := 208818) sl_0_977 rfl) ?_
  refine Eq.trans (st_go (pc' := 980) (lv' := [(4, .int 0), (3, .ref 326), (2, .ref 189), (1, .ref 0), (0, .ref 1000000)]) (st' := [.int 1, .int 0, .ref 1000000, .ref 0]) (t' := (sw f g, 327)) (nc' := 327) (ns' := 208818) sl_0_979 rfl) ?_
  refine Eq.trans (st_go (pc' := 981) (lv' := [(4, .int 0), (3, .ref 326), (2, .ref 189), (1, .ref 0), (0, .ref 1000000)]) (st' := [.int 1, .ref 1000000, .ref 0]) (t' := (sw f g, 327)) (nc' := 327) (ns' := 208818) sl_0_980 rfl) ?_
  refine Eq.trans (st_go (pc' := 982) (lv' := [(4, .int 0), (3, .ref 326), (2, .ref 189), (1, .ref 0), (0, .ref 1000000)]) (st' := [.int (xs 1), .ref 0]) (t' := (sw f g, 327)) (nc' := 327) (ns' := 208818) sl_0_981 rfl) ?_
  refine Eq.trans (st_go (pc' := 983) (lv' := [(4, .int 0), (3, .ref 326), (2, .ref 189), (1, .ref 0), (0, .ref 1000000)]) (st' := [.ref 1000000, .int (xs 1), .ref 0]) (t' := (sw f g, 327)) (nc' := 327) (ns' := 208818) sl_0_982 rfl) ?_
  refine Eq.trans (st_go (pc' := 985) (lv' := [(4, .int 0), (3, .ref 326), (2, .ref 189), (1, .ref 0), (0, .ref 1000000)]) (st' := [.int 0, .ref 1000000, .int (xs 1), .ref 0]) (t' := (sw f g, 327)) (nc' := 327) (ns' := 208818) sl_0_983 rfl) ?_
  refine Eq.trans (st_go (pc' := 986) (lv' := [(4, .int 0), (3, .ref 326), (2, .ref 189), (1, .ref 0), (0, .ref 1000000)]) (st' := [.int 2, .int 0, .ref 1000000, .int (xs 1), .ref 0]) (t' := (sw f g, 327)) (nc' := 327) (ns' := 208818) sl_0_985 rfl) ?_
  refine Eq.trans (st_go (pc' := 987) (lv' := [(4, .int 0), (3, .ref 326), (2, .ref 189), (1, .ref 0), (0, .ref 1000000)]) (st' := [.int 2, .ref 1000000, .int (xs 1), .ref 0]) (t' := (sw f g, 327)) (nc' := 327) (ns' := 208818) sl_0_986 rfl) ?_
  refine Eq.trans (st_go (pc' := 988) (lv' := [(4, .int 0), (3, .ref 326), (2, .ref 189), (1, .ref 0), (0, .ref 1000000)]) (st' := [.int (xs 2), .int (xs 1), .ref 0]) (t' := (sw f g, 327)) (nc' := 327) (ns' := 208818) sl_0_987 rfl) ?_
  refine Eq.trans (st_call (pc' := 991) (st' := [.int (-1)]) (nc' := 327) (ns' := 208818) (mi := 38) (av := [.ref 0, .int (xs 1), .int (xs 2)]) (rest := []) sl_0_988 (fun _ => rfl) (sw_95 xs sio f g q0) rfl rfl rfl rfl) ?_
  refine Eq.trans (st_go (pc' := 992) (lv' := [(4, .int 0), (3, .ref 326), (2, .ref 189), (1, .ref 0), (0, .ref 1000000)]) (st' := [.ref 189, .int (-1)]) (t' := (sw f g, 327)) (nc' := 327) (ns' := 208818) sl_0_991 rfl) ?_
  refine Eq.trans (st_go (pc' := 993) (lv' := [(4, .int 0), (3, .ref 326), (2, .ref 189), (1, .ref 0), (0, .ref 1000000)]) (st' := [.ref 1000000, .ref 189, .int (-1)]) (t' := (sw f g, 327)) (nc' := 327) (ns' := 208818) sl_0_992 rfl) ?_
  refine Eq.trans (st_go (pc' := 995) (lv' := [(4, .int 0), (3, .ref 326), (2, .ref 189), (1, .ref 0), (0, .ref 1000000)]) (st' := [.int 0, .ref 1000000, .ref 189, .int (-1)]) (t' := (sw f g, 327)) (nc' := 327) (ns' := 208818) sl_0_993 rfl) ?_
  refine Eq.trans (st_go (pc' := 996) (lv' := [(4, .int 0), (3, .ref 326), (2, .ref 189), (1, .ref 0), (0, .ref 1000000)]) (st' := [.int 1, .int 0, .ref 1000000, .ref 189, .int (-1)]) (t' := (sw f g, 327)) (nc' := 327) (ns' := 208818) sl_0_995 rfl) ?_
  refine Eq.trans (st_go (pc' := 997) (lv' := [(4, .int 0), (3, .ref 326), (2, .ref 189), (1, .ref 0), (0, .ref 1000000)]) (st' := [.int 1, .ref 1000000, .ref 189, .int (-1)]) (t' := (sw f g, 327)) (nc' := 327) (ns' := 208818) sl_0_996 rfl) ?_
  refine Eq.trans (st_go (pc' := 998) (lv' := [(4, .int 0), (3, .ref 326), (2, .ref 189), (1, .ref 0), (0, .ref 1000000)]) (st' := [.int (xs 1), .ref 189, .int (-1)]) (t' := (sw f g, 327)) (nc' := 327) (ns' := 208818) sl_0_997 rfl) ?_
  refine Eq.trans (st_go (pc' := 999) (lv' := [(4, .int 0), (3, .ref 326), (2, .ref 189), (1, .ref 0), (0, .ref 1000000)]) (st' := [.ref 1000000, .int (xs 1), .ref 189, .int (-1)]) (t' := (sw f g, 327)) (nc' := 327) (ns' := 208818) sl_0_998 rfl) ?_
  refine Eq.trans (st_go (pc' := 1001) (lv' := [(4, .int 0), (3, .ref 326), (2, .ref 189), (1, .ref 0), (0, .ref 1000000)]) (st' := [.int 0, .ref 1000000, .int (xs 1), .ref 189, .int (-1)]) (t' := (sw f g, 327)) (nc' := 327) (ns' := 208818) sl_0_999 rfl) ?_
  refine Eq.trans (st_go (pc' := 1002) (lv' := [(4, .int 0), (3, .ref 326), (2, .ref 189), (1, .ref 0), (0, .ref 1000000)]) (st' := [.int 2, .int 0, .ref 1000000, .int (xs 1), .ref 189, .int (-1)]) (t' := (sw f g, 327)) (nc' := 327) (ns' := 208818) sl_0_1001 rfl) ?_
  refine Eq.trans (st_go (pc' := 1003) (lv' := [(4, .int 0), (3, .ref 326), (2, .ref 189), (1, .ref 0), (0, .ref 1000000)]) (st' := [.int 2, .ref 1000000, .int (xs 1), .ref 189, .int (-1)]) (t' := (sw f g, 327)) (nc' := 327) (ns' := 208818) sl_0_1002 rfl) ?_
  refine Eq.trans (st_go (pc' := 1004) (lv' := [(4, .int 0), (3, .ref 326), (2, .ref 189), (1, .ref 0), (0, .ref 1000000)]) (st' := [.int (xs 2), .int (xs 1), .ref 189, .int (-1)]) (t' := (sw f g, 327)) (nc' := 327) (ns' := 208818) sl_0_1003 rfl) ?_
  refine Eq.trans (st_call (pc' := 1007) (st' := [.int (-1), .int (-1)]) (nc' := 327) (ns' := 208818) (mi := 345) (av := [.ref 189, .int (xs 1), .int (xs 2)]) (rest := [.int (-1)]) sl_0_1004 (fun _ => rfl) (sw_97 xs sio f g q0) rfl rfl rfl rfl) ?_
  refine Eq.trans (st_go (pc' := 1172) (lv' := [(4, .int 0), (3, .ref 326), (2, .ref 189), (1, .ref 0), (0, .ref 1000000)]) (st' := []) (t' := (sh_39 xs f g, 327)) (nc' := 327) (ns' := 208818) sl_0_1007 rfl) ?_
  refine Eq.trans (st_go (pc' := 1175) (lv' := [(4, .int 6), (3, .ref 326), (2, .ref 189), (1, .ref 0), (0, .ref 1000000)]) (st' := []) (t' := (sh_39 xs f g, 327)) (nc' := 327) (ns' := 208818) sl_0_1172 rfl) ?_
  refine Eq.trans (st_go (pc' := 23) (lv' := [(4, .int 6), (3, .ref 326), (2, .ref 189), (1, .ref 0), (0, .ref 1000000)]) (st' := []) (t' := (sh_39 xs f g, 327)) (nc' := 327) (ns' := 208818) sl_0_1175 rfl) ?_
  refine Eq.trans (st_go (pc' := 25) (lv' := [(4, .int 6), (3, .ref 326), (2, .ref 189), (1, .ref 0), (0, .ref 1000000)]) (st' := [.int 6]) (t' := (sh_39 xs f g, 327)) (nc' := 327) (ns' := 208818) sl_0_23 rfl) ?_
  refine Eq.trans (st_go (pc' := 26) (lv' := [(4, .int 6), (3, .ref 326), (2, .ref 189), (1, .ref 0), (0, .ref 1000000)]) (st' := [.ref 1000000, .int 6]) (t' := (sh_39 xs f g, 327)) (nc' := 327) (ns' := 208818) sl_0_25 rfl) ?_
  refine Eq.trans (st_go (pc' := 27) (lv' := [(4, .int 6), (3, .ref 326), (2, .ref 189), (1, .ref 0), (0, .ref 1000000)]) (st' := [.int 6, .int 6]) (t' := (sh_39 xs f g, 327)) (nc' := 327) (ns' := 208818) sl_0_26 rfl) ?_
  refine Eq.trans (st_go (pc' := 29) (lv' := [(4, .int 6), (3, .ref 326), (2, .ref 189), (1, .ref 0), (0, .ref 1000000)]) (st' := [.int 6, .int 6, .int 6]) (t' := (sh_39 xs f g, 327)) (nc' := 327) (ns' := 208818) sl_0_27 rfl) ?_
  refine Eq.trans (st_go (pc' := 30) (lv' := [(4, .int 6), (3, .ref 326), (2, .ref 189), (1, .ref 0), (0, .ref 1000000)]) (st' := [.int 0, .int 6]) (t' := (sh_39 xs f g, 327)) (nc' := 327) (ns' := 208818) sl_0_29 rfl) ?_
  refine Eq.trans (st_go (pc' := 1178) (lv' := [(4, .int 6), (3, .ref 326), (2, .ref 189), (1, .ref 0), (0, .ref 1000000)]) (st' := []) (t' := (sh_39 xs f g, 327)) (nc' := 327) (ns' := 208818) sl_0_30 rfl) ?_
  refine Eq.trans (st_go (pc' := 1179) (lv' := [(4, .int 6), (3, .ref 326), (2, .ref 189), (1, .ref 0), (0, .ref 1000000)]) (st' := [.int 1]) (t' := (sh_39 xs f g, 327)) (nc' := 327) (ns' := 208818) sl_0_1178 rfl) ?_
  exact st_end sl_0_1179 rfl
set_option maxRecDepth 100000 in
/-- PacketWorks$Pipe.goneOut -/
theorem sw_98 (xs : Nat → Int32) (sio : Value) (f : Nat → Nat → Int32) (g : Nat → Nat → Int64) (q0 : am_c0 .lt (xs 1) = false) (q1 : am_c2 .ge (xs 1) (0) = true) : sC 6 xs sio 16 35 [.ref 185, .int (xs 1)] (sw f g, 327) = some (.inl (some (.null)), (sw f g, 327), 0, 0) := by
  refine st_in sg_35 rfl rfl ?_
  refine Eq.trans (st_go (pc' := 1) (lv' := [(0, .ref 185), (1, .int (xs 1))]) (st' := [.int (xs 1)]) (t' := (sw f g, 327)) (nc' := 0) (ns' := 0) sl_35_0 rfl) ?_
  refine Eq.trans (st_if (pc' := 4) sl_35_1 q0 rfl) ?_
  refine Eq.trans (st_go (pc' := 5) (lv' := [(0, .ref 185), (1, .int (xs 1))]) (st' := [.int (xs 1)]) (t' := (sw f g, 327)) (nc' := 0) (ns' := 0) sl_35_4 rfl) ?_
  refine Eq.trans (st_go (pc' := 6) (lv' := [(0, .ref 185), (1, .int (xs 1))]) (st' := [.ref 185, .int (xs 1)]) (t' := (sw f g, 327)) (nc' := 0) (ns' := 0) sl_35_5 rfl) ?_
  refine Eq.trans (st_go (pc' := 9) (lv' := [(0, .ref 185), (1, .int (xs 1))]) (st' := [.int 0, .int (xs 1)]) (t' := (sw f g, 327)) (nc' := 0) (ns' := 0) sl_35_6 rfl) ?_
  refine Eq.trans (st_ic (pc' := 27) sl_35_9 q1 rfl) ?_
  refine Eq.trans (st_go (pc' := 28) (lv' := [(0, .ref 185), (1, .int (xs 1))]) (st' := [.int 0]) (t' := (sw f g, 327)) (nc' := 0) (ns' := 0) sl_35_27 rfl) ?_
  refine Eq.trans (st_go (pc' := 29) (lv' := [(2, .int 0), (0, .ref 185), (1, .int (xs 1))]) (st' := []) (t' := (sw f g, 327)) (nc' := 0) (ns' := 0) sl_35_28 rfl) ?_
  refine Eq.trans (st_go (pc' := 30) (lv' := [(2, .int 0), (0, .ref 185), (1, .int (xs 1))]) (st' := [.int 0]) (t' := (sw f g, 327)) (nc' := 0) (ns' := 0) sl_35_29 rfl) ?_
  refine Eq.trans (st_go (pc' := 46) (lv' := [(2, .int 0), (0, .ref 185), (1, .int (xs 1))]) (st' := []) (t' := (sw f g, 327)) (nc' := 0) (ns' := 0) sl_35_30 rfl) ?_
  refine Eq.trans (st_go (pc' := 47) (lv' := [(2, .int 0), (0, .ref 185), (1, .int (xs 1))]) (st' := [.null]) (t' := (sw f g, 327)) (nc' := 0) (ns' := 0) sl_35_46 rfl) ?_
  exact st_end sl_35_47 rfl
set_option maxRecDepth 100000 in
/-- PacketWorks.did -/
theorem sw_99 (xs : Nat → Int32) (sio : Value) (f : Nat → Nat → Int32) (g : Nat → Nat → Int64) (q0 : am_c0 .lt (xs 1) = false) (q1 : am_c2 .ge (xs 1) (0) = true) : sC 6 xs sio 17 38 [.ref 0, .int (xs 1), .int (xs 2)] (sw f g, 327) = some (.inl (some (.int (-1))), (sw f g, 327), 0, 0) := by
  refine st_in sg_38 rfl rfl ?_
  refine Eq.trans (st_go (pc' := 1) (lv' := [(0, .ref 0), (1, .int (xs 1)), (2, .int (xs 2))]) (st' := [.ref 0]) (t' := (sw f g, 327)) (nc' := 0) (ns' := 0) sl_38_0 rfl) ?_
  refine Eq.trans (st_go (pc' := 4) (lv' := [(0, .ref 0), (1, .int (xs 1)), (2, .int (xs 2))]) (st' := [.ref 185]) (t' := (sw f g, 327)) (nc' := 0) (ns' := 0) sl_38_1 rfl) ?_
  refine Eq.trans (st_go (pc' := 5) (lv' := [(0, .ref 0), (1, .int (xs 1)), (2, .int (xs 2))]) (st' := [.int (xs 1), .ref 185]) (t' := (sw f g, 327)) (nc' := 0) (ns' := 0) sl_38_4 rfl) ?_
  refine Eq.trans (st_call (pc' := 8) (st' := [.null]) (nc' := 0) (ns' := 0) (mi := 35) (av := [.ref 185, .int (xs 1)]) (rest := []) sl_38_5 (fun _ => rfl) (sw_98 xs sio f g q0 q1) rfl rfl rfl rfl) ?_
  refine Eq.trans (st_go (pc' := 9) (lv' := [(3, .null), (0, .ref 0), (1, .int (xs 1)), (2, .int (xs 2))]) (st' := []) (t' := (sw f g, 327)) (nc' := 0) (ns' := 0) sl_38_8 rfl) ?_
  refine Eq.trans (st_go (pc' := 10) (lv' := [(3, .null), (0, .ref 0), (1, .int (xs 1)), (2, .int (xs 2))]) (st' := [.null]) (t' := (sw f g, 327)) (nc' := 0) (ns' := 0) sl_38_9 rfl) ?_
  refine Eq.trans (st_go (pc' := 38) (lv' := [(3, .null), (0, .ref 0), (1, .int (xs 1)), (2, .int (xs 2))]) (st' := []) (t' := (sw f g, 327)) (nc' := 0) (ns' := 0) sl_38_10 rfl) ?_
  refine Eq.trans (st_go (pc' := 39) (lv' := [(3, .null), (0, .ref 0), (1, .int (xs 1)), (2, .int (xs 2))]) (st' := [.int (-1)]) (t' := (sw f g, 327)) (nc' := 0) (ns' := 0) sl_38_38 rfl) ?_
  exact st_end sl_38_39 rfl
set_option maxRecDepth 100000 in
/-- PacketWorksModel.isOut -/
theorem sw_100 (xs : Nat → Int32) (sio : Value) (f : Nat → Nat → Int32) (g : Nat → Nat → Int64) (q0 : am_c0 .lt (xs 1) = false) (q1 : am_c2 .ge (xs 1) (0) = true) : sC 6 xs sio 16 343 [.ref 189, .int (xs 1)] (sh_40 xs f g, 327) = some (.inl (some (.int 0)), (sh_40 xs f g, 327), 0, 0) := by
  refine st_in sg_343 rfl rfl ?_
  refine Eq.trans (st_go (pc' := 1) (lv' := [(0, .ref 189), (1, .int (xs 1))]) (st' := [.int (xs 1)]) (t' := (sh_40 xs f g, 327)) (nc' := 0) (ns' := 0) sl_343_0 rfl) ?_
  refine Eq.trans (st_if (pc' := 4) sl_343_1 q0 rfl) ?_
  refine Eq.trans (st_go (pc' := 5) (lv' := [(0, .ref 189), (1, .int (xs 1))]) (st' := [.int (xs 1)]) (t' := (sh_40 xs f g, 327)) (nc' := 0) (ns' := 0) sl_343_4 rfl) ?_
  refine Eq.trans (st_go (pc' := 6) (lv' := [(0, .ref 189), (1, .int (xs 1))]) (st' := [.ref 189, .int (xs 1)]) (t' := (sh_40 xs f g, 327)) (nc' := 0) (ns' := 0) sl_343_5 rfl) ?_
  refine Eq.trans (st_go (pc' := 9) (lv' := [(0, .ref 189), (1, .int (xs 1))]) (st' := [.int 0, .int (xs 1)]) (t' := (sh_40 xs f g, 327)) (nc' := 0) (ns' := 0) sl_343_6 rfl) ?_
  refine Eq.trans (st_ic (pc' := 27) sl_343_9 q1 rfl) ?_
  refine Eq.trans (st_go (pc' := 28) (lv' := [(0, .ref 189), (1, .int (xs 1))]) (st' := [.int 0]) (t' := (sh_40 xs f g, 327)) (nc' := 0) (ns' := 0) sl_343_27 rfl) ?_
  exact st_end sl_343_28 rfl
set_option maxRecDepth 100000 in
/-- PacketWorksModel.did -/
theorem sw_101 (xs : Nat → Int32) (sio : Value) (f : Nat → Nat → Int32) (g : Nat → Nat → Int64) (q0 : am_c0 .lt (xs 1) = false) (q1 : am_c2 .ge (xs 1) (0) = true) : sC 6 xs sio 17 345 [.ref 189, .int (xs 1), .int (xs 2)] (sw f g, 327) = some (.inl (some (.int (-1))), (sh_40 xs f g, 327), 0, 0) := by
  refine st_in sg_345 rfl rfl ?_
  refine Eq.trans (st_go (pc' := 1) (lv' := [(0, .ref 189), (1, .int (xs 1)), (2, .int (xs 2))]) (st' := [.ref 189]) (t' := (sw f g, 327)) (nc' := 0) (ns' := 0) sl_345_0 rfl) ?_
  refine Eq.trans (st_go (pc' := 2) (lv' := [(0, .ref 189), (1, .int (xs 1)), (2, .int (xs 2))]) (st' := [.int 0, .ref 189]) (t' := (sw f g, 327)) (nc' := 0) (ns' := 0) sl_345_1 rfl) ?_
  refine Eq.trans (st_go (pc' := 5) (lv' := [(0, .ref 189), (1, .int (xs 1)), (2, .int (xs 2))]) (st' := []) (t' := (sh_40 xs f g, 327)) (nc' := 0) (ns' := 0) sl_345_2 rfl) ?_
  refine Eq.trans (st_go (pc' := 6) (lv' := [(0, .ref 189), (1, .int (xs 1)), (2, .int (xs 2))]) (st' := [.ref 189]) (t' := (sh_40 xs f g, 327)) (nc' := 0) (ns' := 0) sl_345_5 rfl) ?_
  refine Eq.trans (st_go (pc' := 7) (lv' := [(0, .ref 189), (1, .int (xs 1)), (2, .int (xs 2))]) (st' := [.int (xs 1), .ref 189]) (t' := (sh_40 xs f g, 327)) (nc' := 0) (ns' := 0) sl_345_6 rfl) ?_
  refine Eq.trans (st_call (pc' := 10) (st' := [.int 0]) (nc' := 0) (ns' := 0) (mi := 343) (av := [.ref 189, .int (xs 1)]) (rest := []) sl_345_7 (fun _ => rfl) (sw_100 xs sio f g q0 q1) rfl rfl rfl rfl) ?_
  refine Eq.trans (st_go (pc' := 55) (lv' := [(0, .ref 189), (1, .int (xs 1)), (2, .int (xs 2))]) (st' := []) (t' := (sh_40 xs f g, 327)) (nc' := 0) (ns' := 0) sl_345_10 rfl) ?_
  refine Eq.trans (st_go (pc' := 56) (lv' := [(0, .ref 189), (1, .int (xs 1)), (2, .int (xs 2))]) (st' := [.int (-1)]) (t' := (sh_40 xs f g, 327)) (nc' := 0) (ns' := 0) sl_345_55 rfl) ?_
  exact st_end sl_345_56 rfl
set_option maxRecDepth 100000 in
theorem so_16_p (xs : Nat → Int32) (sio : Value) (f : Nat → Nat → Int32) (g : Nat → Nat → Int64) (n : Nat) (hn : 36 ≤ n) (q0 : am_c0 .lt (xs 1) = false) (q1 : am_c2 .ge (xs 1) (0) = true) : sR 6 xs sio 17 pm_0 n (40, [(4, .int 0), (3, .ref 326), (2, .ref 189), (1, .ref 0), (0, .ref 1000000)], [.int 16], (sw f g, 327), 327, 208818) = some (.inl (some (.int 1)), (sh_40 xs f g, 327), 327, 208818) := by
  obtain ⟨m, rfl⟩ : ∃ m, n = m + 36 := ⟨n - 36, by omega⟩
  refine Eq.trans (st_go (pc' := 975) (lv' := [(4, .int 0), (3, .ref 326), (2, .ref 189), (1, .ref 0), (0, .ref 1000000)]) (st' := []) (t' := (sw f g, 327)) (nc' := 327) (ns' := 208818) sl_0_40 rfl) ?_
  refine Eq.trans (st_go (pc' := 976) (lv' := [(4, .int 0), (3, .ref 326), (2, .ref 189), (1, .ref 0), (0, .ref 1000000)]) (st' := [.ref 0]) (t' := (sw f g, 327)) (nc' := 327) (ns' := 208818) sl_0_975 rfl) ?_
  refine Eq.trans (st_go (pc' := 977) (lv' := [(4, .int 0), (3, .ref 326), (2, .ref 189), (1, .ref 0), (0, .ref 1000000)]) (st' := [.ref 1000000, .ref 0]) (t' := (sw f g, 327)) (nc' := 327) (ns' := 208818) sl_0_976 rfl) ?_
  refine Eq.trans (st_go (pc' := 979) (lv' := [(4, .int 0), (3, .ref 326), (2, .ref 189), (1, .ref 0), (0, .ref 1000000)]) (st' := [.int 0, .ref 1000000, .ref 0]) (t' := (sw f g, 327)) (nc' := 327) (ns' := 208818) sl_0_977 rfl) ?_
  refine Eq.trans (st_go (pc' := 980) (lv' := [(4, .int 0), (3, .ref 326), (2, .ref 189), (1, .ref 0), (0, .ref 1000000)]) (st' := [.int 1, .int 0, .ref 1000000, .ref 0]) (t' := (sw f g, 327)) (nc' := 327) (ns' := 208818) sl_0_979 rfl) ?_
  refine Eq.trans (st_go (pc' := 981) (lv' := [(4, .int 0), (3, .ref 326), (2, .ref 189), (1, .ref 0), (0, .ref 1000000)]) (st' := [.int 1, .ref 1000000, .ref 0]) (t' := (sw f g, 327)) (nc' := 327) (ns' := 208818) sl_0_980 rfl) ?_
  refine Eq.trans (st_go (pc' := 982) (lv' := [(4, .int 0), (3, .ref 326), (2, .ref 189), (1, .ref 0), (0, .ref 1000000)]) (st' := [.int (xs 1), .ref 0]) (t' := (sw f g, 327)) (nc' := 327) (ns' := 208818) sl_0_981 rfl) ?_
  refine Eq.trans (st_go (pc' := 983) (lv' := [(4, .int 0), (3, .ref 326), (2, .ref 189), (1, .ref 0), (0, .ref 1000000)]) (st' := [.ref 1000000, .int (xs 1), .ref 0]) (t' := (sw f g, 327)) (nc' := 327) (ns' := 208818) sl_0_982 rfl) ?_
  refine Eq.trans (st_go (pc' := 985) (lv' := [(4, .int 0), (3, .ref 326), (2, .ref 189), (1, .ref 0), (0, .ref 1000000)]) (st' := [.int 0, .ref 1000000, .int (xs 1), .ref 0]) (t' := (sw f g, 327)) (nc' := 327) (ns' := 208818) sl_0_983 rfl) ?_
  refine Eq.trans (st_go (pc' := 986) (lv' := [(4, .int 0), (3, .ref 326), (2, .ref 189), (1, .ref 0), (0, .ref 1000000)]) (st' := [.int 2, .int 0, .ref 1000000, .int (xs 1), .ref 0]) (t' := (sw f g, 327)) (nc' := 327) (ns' := 208818) sl_0_985 rfl) ?_
  refine Eq.trans (st_go (pc' := 987) (lv' := [(4, .int 0), (3, .ref 326), (2, .ref 189), (1, .ref 0), (0, .ref 1000000)]) (st' := [.int 2, .ref 1000000, .int (xs 1), .ref 0]) (t' := (sw f g, 327)) (nc' := 327) (ns' := 208818) sl_0_986 rfl) ?_
  refine Eq.trans (st_go (pc' := 988) (lv' := [(4, .int 0), (3, .ref 326), (2, .ref 189), (1, .ref 0), (0, .ref 1000000)]) (st' := [.int (xs 2), .int (xs 1), .ref 0]) (t' := (sw f g, 327)) (nc' := 327) (ns' := 208818) sl_0_987 rfl) ?_
  refine Eq.trans (st_call (pc' := 991) (st' := [.int (-1)]) (nc' := 327) (ns' := 208818) (mi := 38) (av := [.ref 0, .int (xs 1), .int (xs 2)]) (rest := []) sl_0_988 (fun _ => rfl) (sw_99 xs sio f g q0 q1) rfl rfl rfl rfl) ?_
  refine Eq.trans (st_go (pc' := 992) (lv' := [(4, .int 0), (3, .ref 326), (2, .ref 189), (1, .ref 0), (0, .ref 1000000)]) (st' := [.ref 189, .int (-1)]) (t' := (sw f g, 327)) (nc' := 327) (ns' := 208818) sl_0_991 rfl) ?_
  refine Eq.trans (st_go (pc' := 993) (lv' := [(4, .int 0), (3, .ref 326), (2, .ref 189), (1, .ref 0), (0, .ref 1000000)]) (st' := [.ref 1000000, .ref 189, .int (-1)]) (t' := (sw f g, 327)) (nc' := 327) (ns' := 208818) sl_0_992 rfl) ?_
  refine Eq.trans (st_go (pc' := 995) (lv' := [(4, .int 0), (3, .ref 326), (2, .ref 189), (1, .ref 0), (0, .ref 1000000)]) (st' := [.int 0, .ref 1000000, .ref 189, .int (-1)]) (t' := (sw f g, 327)) (nc' := 327) (ns' := 208818) sl_0_993 rfl) ?_
  refine Eq.trans (st_go (pc' := 996) (lv' := [(4, .int 0), (3, .ref 326), (2, .ref 189), (1, .ref 0), (0, .ref 1000000)]) (st' := [.int 1, .int 0, .ref 1000000, .ref 189, .int (-1)]) (t' := (sw f g, 327)) (nc' := 327) (ns' := 208818) sl_0_995 rfl) ?_
  refine Eq.trans (st_go (pc' := 997) (lv' := [(4, .int 0), (3, .ref 326), (2, .ref 189), (1, .ref 0), (0, .ref 1000000)]) (st' := [.int 1, .ref 1000000, .ref 189, .int (-1)]) (t' := (sw f g, 327)) (nc' := 327) (ns' := 208818) sl_0_996 rfl) ?_
  refine Eq.trans (st_go (pc' := 998) (lv' := [(4, .int 0), (3, .ref 326), (2, .ref 189), (1, .ref 0), (0, .ref 1000000)]) (st' := [.int (xs 1), .ref 189, .int (-1)]) (t' := (sw f g, 327)) (nc' := 327) (ns' := 208818) sl_0_997 rfl) ?_
  refine Eq.trans (st_go (pc' := 999) (lv' := [(4, .int 0), (3, .ref 326), (2, .ref 189), (1, .ref 0), (0, .ref 1000000)]) (st' := [.ref 1000000, .int (xs 1), .ref 189, .int (-1)]) (t' := (sw f g, 327)) (nc' := 327) (ns' := 208818) sl_0_998 rfl) ?_
  refine Eq.trans (st_go (pc' := 1001) (lv' := [(4, .int 0), (3, .ref 326), (2, .ref 189), (1, .ref 0), (0, .ref 1000000)]) (st' := [.int 0, .ref 1000000, .int (xs 1), .ref 189, .int (-1)]) (t' := (sw f g, 327)) (nc' := 327) (ns' := 208818) sl_0_999 rfl) ?_
  refine Eq.trans (st_go (pc' := 1002) (lv' := [(4, .int 0), (3, .ref 326), (2, .ref 189), (1, .ref 0), (0, .ref 1000000)]) (st' := [.int 2, .int 0, .ref 1000000, .int (xs 1), .ref 189, .int (-1)]) (t' := (sw f g, 327)) (nc' := 327) (ns' := 208818) sl_0_1001 rfl) ?_
  refine Eq.trans (st_go (pc' := 1003) (lv' := [(4, .int 0), (3, .ref 326), (2, .ref 189), (1, .ref 0), (0, .ref 1000000)]) (st' := [.int 2, .ref 1000000, .int (xs 1), .ref 189, .int (-1)]) (t' := (sw f g, 327)) (nc' := 327) (ns' := 208818) sl_0_1002 rfl) ?_
  refine Eq.trans (st_go (pc' := 1004) (lv' := [(4, .int 0), (3, .ref 326), (2, .ref 189), (1, .ref 0), (0, .ref 1000000)]) (st' := [.int (xs 2), .int (xs 1), .ref 189, .int (-1)]) (t' := (sw f g, 327)) (nc' := 327) (ns' := 208818) sl_0_1003 rfl) ?_
  refine Eq.trans (st_call (pc' := 1007) (st' := [.int (-1), .int (-1)]) (nc' := 327) (ns' := 208818) (mi := 345) (av := [.ref 189, .int (xs 1), .int (xs 2)]) (rest := [.int (-1)]) sl_0_1004 (fun _ => rfl) (sw_101 xs sio f g q0 q1) rfl rfl rfl rfl) ?_
  refine Eq.trans (st_go (pc' := 1172) (lv' := [(4, .int 0), (3, .ref 326), (2, .ref 189), (1, .ref 0), (0, .ref 1000000)]) (st' := []) (t' := (sh_40 xs f g, 327)) (nc' := 327) (ns' := 208818) sl_0_1007 rfl) ?_
  refine Eq.trans (st_go (pc' := 1175) (lv' := [(4, .int 6), (3, .ref 326), (2, .ref 189), (1, .ref 0), (0, .ref 1000000)]) (st' := []) (t' := (sh_40 xs f g, 327)) (nc' := 327) (ns' := 208818) sl_0_1172 rfl) ?_
  refine Eq.trans (st_go (pc' := 23) (lv' := [(4, .int 6), (3, .ref 326), (2, .ref 189), (1, .ref 0), (0, .ref 1000000)]) (st' := []) (t' := (sh_40 xs f g, 327)) (nc' := 327) (ns' := 208818) sl_0_1175 rfl) ?_
  refine Eq.trans (st_go (pc' := 25) (lv' := [(4, .int 6), (3, .ref 326), (2, .ref 189), (1, .ref 0), (0, .ref 1000000)]) (st' := [.int 6]) (t' := (sh_40 xs f g, 327)) (nc' := 327) (ns' := 208818) sl_0_23 rfl) ?_
  refine Eq.trans (st_go (pc' := 26) (lv' := [(4, .int 6), (3, .ref 326), (2, .ref 189), (1, .ref 0), (0, .ref 1000000)]) (st' := [.ref 1000000, .int 6]) (t' := (sh_40 xs f g, 327)) (nc' := 327) (ns' := 208818) sl_0_25 rfl) ?_
  refine Eq.trans (st_go (pc' := 27) (lv' := [(4, .int 6), (3, .ref 326), (2, .ref 189), (1, .ref 0), (0, .ref 1000000)]) (st' := [.int 6, .int 6]) (t' := (sh_40 xs f g, 327)) (nc' := 327) (ns' := 208818) sl_0_26 rfl) ?_
  refine Eq.trans (st_go (pc' := 29) (lv' := [(4, .int 6), (3, .ref 326), (2, .ref 189), (1, .ref 0), (0, .ref 1000000)]) (st' := [.int 6, .int 6, .int 6]) (t' := (sh_40 xs f g, 327)) (nc' := 327) (ns' := 208818) sl_0_27 rfl) ?_
  refine Eq.trans (st_go (pc' := 30) (lv' := [(4, .int 6), (3, .ref 326), (2, .ref 189), (1, .ref 0), (0, .ref 1000000)]) (st' := [.int 0, .int 6]) (t' := (sh_40 xs f g, 327)) (nc' := 327) (ns' := 208818) sl_0_29 rfl) ?_
  refine Eq.trans (st_go (pc' := 1178) (lv' := [(4, .int 6), (3, .ref 326), (2, .ref 189), (1, .ref 0), (0, .ref 1000000)]) (st' := []) (t' := (sh_40 xs f g, 327)) (nc' := 327) (ns' := 208818) sl_0_30 rfl) ?_
  refine Eq.trans (st_go (pc' := 1179) (lv' := [(4, .int 6), (3, .ref 326), (2, .ref 189), (1, .ref 0), (0, .ref 1000000)]) (st' := [.int 1]) (t' := (sh_40 xs f g, 327)) (nc' := 327) (ns' := 208818) sl_0_1178 rfl) ?_
  exact st_end sl_0_1179 rfl
