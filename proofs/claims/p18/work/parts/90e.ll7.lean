theorem LI_i {i : Int} {K m : mR} {c : Nat → Option am_C} {N nc ns : Nat} (h : LI5 i K m c N nc ns) : LI5 (i + 6) K m c N nc ns := by
  obtain ⟨⟨hK, hM, hIK, hIM, hm, hc, hF, hN, hN2, hn1, hn2⟩, hRel⟩ := h
  exact ⟨⟨hK, hM, IK_i hIK (by omega), IM_i hIM (by omega), hm, hc, hF, by omega, by omega, by omega, by omega⟩, hRel⟩
set_option maxHeartbeats 4000000 in
theorem lw_loop {w : wX} {L : Nat} {xs : Nat → Int32} {Q : ag_Re af_T → Prop} (hsio : (w.2.2.2).category = 1) (hX : w.1 = (some L, fun j => some (xs j))) (hL : L ≤ 3072) (HQ : ∀ K m c N nc ns i, LI5 i K m c N nc ns → i ≤ 3072 → Q (.inl (some (.int 1)), (khp K c, N), nc, ns)) : ∀ (n : Nat) (i : Int) (K m : mR) (c : Nat → Option am_C) (N nc ns : Nat), 0 ≤ i → i ≤ L → L - i < 6 * n → LI5 i K m c N nc ns → TT w 17 pm_0 (23, LV i, [], (khp K c, N), nc, ns) Q := by
  intro n
  induction n with
  | zero => intro i K m c N nc ns h0 h1 h2; omega
  | succ n ih =>
    intro i K m c N nc ns h0 h1 h2 hI
    refine T_ld 25 (.int (i32 i)) rfl (fun _ => rfl) ?_
    refine T_ld 26 (.ref 1000000) rfl (fun _ => rfl) ?_
    refine L_al 27 rfl hX rfl ?_
    refine T_ld 29 (.int (i32 6)) rfl (fun _ => rfl) ?_
    refine T_isub 30 rfl rfl ?_
    refine T_icmp 961 33 rfl rfl rfl ⟨by omega, by omega⟩ ⟨by omega, by omega⟩ (fun (h9 : i > (L : Int) - 6) => ?_) (fun (h9 : ¬ i > (L : Int) - 6) => ?_)
    · refine T_ld 962 (.int (i32 1)) rfl (fun _ => rfl) ?_
      refine T_ret rfl (fun _ => rfl) ?_
      exact HQ K m c N nc ns i hI (by omega)
    · have next : ∀ K m c N nc ns, LI5 (i + 6) K m c N nc ns → TT w 17 pm_0 (955, LV i, [], (khp K c, N), nc, ns) Q := by
        intro K m c N nc ns hI
        refine T_iinc 958 (LV (i + 6)) rfl rfl (by decide) rfl rfl ?_
        refine T_goto 23 rfl (fun _ => rfl) ?_
        exact ih (i + 6) K m c N nc ns (by omega) (by omega) (by omega) hI
      refine T_ld 34 (.ref 1000000) rfl (fun _ => rfl) ?_
      refine T_ld 36 (.int (i32 i)) rfl (fun _ => rfl) ?_
      refine L_sl 37 rfl hX (by omega) (by omega) hL rfl ?_
      refine T_ld 39 (.int (i32 31)) rfl (fun _ => rfl) ?_
      refine T_iand 40 rfl rfl (by decide) (by decide) (fun z hz => ?_)
      by_cases h_0 : z = 0
      · refine T_cast 0 h_0 ?_
        refine T_pop 136 rfl (fun _ => rfl) ?_
        exact lw_0 hX h0 (by omega) hL hI next
      by_cases h_1 : z = 1
      · refine T_cast 1 h_1 ?_
        refine T_pop 207 rfl (fun _ => rfl) ?_
        exact lw_1 hX h0 (by omega) hL hI next
      by_cases h_2 : z = 2
      · refine T_cast 2 h_2 ?_
        refine T_pop 232 rfl (fun _ => rfl) ?_
        exact lw_2 hsio hX h0 (by omega) hL hI next
      by_cases h_3 : z = 3
      · refine T_cast 3 h_3 ?_
        refine T_pop 248 rfl (fun _ => rfl) ?_
        exact lw_3 hX h0 (by omega) hL hI next
      by_cases h_4 : z = 4
      · refine T_cast 4 h_4 ?_
        refine T_pop 273 rfl (fun _ => rfl) ?_
        exact lw_4 hX h0 (by omega) hL hI next
      by_cases h_5 : z = 5
      · refine T_cast 5 h_5 ?_
        refine T_pop 298 rfl (fun _ => rfl) ?_
        exact lw_5 hX h0 (by omega) hL hI next
      by_cases h_6 : z = 6
      · refine T_cast 6 h_6 ?_
        refine T_pop 350 rfl (fun _ => rfl) ?_
        exact lw_6 hX h0 (by omega) hL hI next
      by_cases h_7 : z = 7
      · refine T_cast 7 h_7 ?_
        refine T_pop 363 rfl (fun _ => rfl) ?_
        exact lw_7 hX h0 (by omega) hL hI next
      by_cases h_8 : z = 8
      · refine T_cast 8 h_8 ?_
        refine T_pop 400 rfl (fun _ => rfl) ?_
        exact lw_8 hX h0 (by omega) hL hI next
      by_cases h_9 : z = 9
      · refine T_cast 9 h_9 ?_
        refine T_pop 437 rfl (fun _ => rfl) ?_
        exact lw_9 hX h0 (by omega) hL hI next
      by_cases h_10 : z = 10
      · refine T_cast 10 h_10 ?_
        refine T_pop 465 rfl (fun _ => rfl) ?_
        exact lw_10 hX h0 (by omega) hL hI next
      by_cases h_11 : z = 11
      · refine T_cast 11 h_11 ?_
        refine T_pop 578 rfl (fun _ => rfl) ?_
        exact lw_11 hX h0 (by omega) hL hI next
      by_cases h_12 : z = 12
      · refine T_cast 12 h_12 ?_
        refine T_pop 647 rfl (fun _ => rfl) ?_
        exact lw_12 hX h0 (by omega) hL hI next
      by_cases h_13 : z = 13
      · refine T_cast 13 h_13 ?_
        refine T_pop 711 rfl (fun _ => rfl) ?_
        exact lw_13 hX h0 (by omega) hL hI next
      by_cases h_14 : z = 14
      · refine T_cast 14 h_14 ?_
        refine T_pop 739 rfl (fun _ => rfl) ?_
        exact lw_14 hX h0 (by omega) hL hI next
      by_cases h_15 : z = 15
      · refine T_cast 15 h_15 ?_
        refine T_pop 776 rfl (fun _ => rfl) ?_
        exact lw_15 hX h0 (by omega) hL hI next
      by_cases h_16 : z = 16
      · refine T_cast 16 h_16 ?_
        refine T_pop 813 rfl (fun _ => rfl) ?_
        exact lw_16 hX h0 (by omega) hL hI next
      by_cases h_17 : z = 17
      · refine T_cast 17 h_17 ?_
        refine T_pop 850 rfl (fun _ => rfl) ?_
        exact lw_17 hX h0 (by omega) hL hI next
      by_cases h_18 : z = 18
      · refine T_cast 18 h_18 ?_
        refine T_pop 890 rfl (fun _ => rfl) ?_
        exact lw_18 hX h0 (by omega) hL hI next
      by_cases h_19 : z = 19
      · refine T_cast 19 h_19 ?_
        refine T_pop 930 rfl (fun _ => rfl) ?_
        exact lw_19 hX h0 (by omega) hL hI next
      refine T_tsd 955 rfl rfl ⟨by omega, by omega⟩ (by omega) ?_
      exact next K m c N nc ns (LI_i hI)
