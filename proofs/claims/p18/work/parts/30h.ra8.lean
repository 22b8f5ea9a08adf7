theorem av_sign {K M : mR} (hL : LT K M) {q : Int} (k5 : K.1 205 = q) (k7 : K.1 207 = q) (m8 : M.1 8 = q) (q0 : 0 ≤ q) (q1 : q < M.1 6) (hf : M.1 10 = 0) : RR (kfl_tx_advance_246 (M.2 4 q) K) (bnd (bnd (rf_byteAt1 (cut (M.1 8 + 1)) (mO M [(9, 1)] [])) fun y33 => bnd (rf_twice (M.2 4 q) y33) fun y35 => if y35 ≤ 0 then bnd (rf_isSign (M.2 4 q)) fun y38 => if y38 = 0 then rfl_look_207 3 (mO M [(9, 1)] []) else rfl_look_207 (M.2 4 q) (mO M [(9, 1)] []) else bnd (rf_byteAt1 (cut (M.1 8 + 1)) (mO M [(9, 1)] [])) fun y41 => bnd (rf_twice (M.2 4 q) y41) fun y43 => rfl_look_210 (mO M [(7, y43), (9, 2)] [])) fun y => some (0, y.2)) AV := by
  have hS := hL.1
  have hK := hL.2.1
  have hc := hL.2.2.1.1
  have qs := hS.2.1
  have c9 := hS.2.2 q
  unfold kfl_tx_advance_246
  refine RR_l (sg_k hK k5 q0 (by omega) c9.1 c9.2) (fun y hy => ?_)
  obtain ⟨y1, y2⟩ := hy
  intro x z hx hz
  rw [byteAt_eq, bnd_some, m8, cut_i (by omega) (by omega)] at hz
  have ed : (if K.1 204 ≤ q + 1 then 0 else and32 (K.2 1 (q + 1)) 255) = (if bA (mO M [(9, 1)] []) (q + 1) < 0 then 0 else bA (mO M [(9, 1)] []) (q + 1)) := by
    by_cases h : q + 1 < M.1 6
    · have d9 := hS.2.2 (q + 1)
      rw [if_neg (by omega), bA_in (m := mO M [(9, 1)] []) (p := q + 1) h, tx_b hL (by omega) h]
      show M.2 4 (q + 1) = if M.2 4 (q + 1) < 0 then 0 else M.2 4 (q + 1)
      rw [if_neg (by omega)]
    · rw [if_pos (by omega), bA_out (m := mO M [(9, 1)] []) (p := q + 1) (show M.1 6 ≤ q + 1 by omega), if_pos (by decide)]
  have dr : -1 ≤ bA (mO M [(9, 1)] []) (q + 1) ∧ bA (mO M [(9, 1)] []) (q + 1) ≤ 255 := by
    unfold bA
    split
    · omega
    · have := hS.2.2 (q + 1)
      exact ⟨by show -1 ≤ M.2 4 (q + 1); omega, by show M.2 4 (q + 1) ≤ 255; omega⟩
  have dq : 0 ≤ bA (mO M [(9, 1)] []) (q + 1) → q + 1 < M.1 6 := by
    intro h
    apply Classical.byContradiction
    intro hn
    rw [bA_out (m := mO M [(9, 1)] []) (p := q + 1) (show M.1 6 ≤ q + 1 by omega)] at h
    omega
  rw [ed] at y1 y2
  obtain ⟨w1, w2, w3⟩ := sgn_c c9.1 c9.2 dr.1 dr.2
  rw [← w1] at y1
  rw [← w2] at y2
  clear ed w1 w2
  generalize bA (mO M [(9, 1)] []) (q + 1) = d at *
  obtain ⟨yv, yr⟩ := y
  have y1 : yv = wm (refW (M.2 4 q) d).1 := y1
  subst y1
  have good : (refW (M.2 4 q) d).1 ≠ 3 → bnd (rfl_look_210 (mO M [(7, (refW (M.2 4 q) d).1), (9, (refW (M.2 4 q) d).2)] [])) (fun y => some (0, y.2)) = some z → AV x z := by
    intro h3 hz
    rcases w3 with w3 | ⟨w3, w4⟩
    · exact absurd w3 h3
    · have hd : wdom (refW (M.2 4 q) d).1 := by
        unfold wdom
        rcases w3 with w3 | w3
        · exact Or.inl ⟨by omega, by omega, h3⟩
        · exact Or.inr (Or.inl w3)
      have e := y2 (wm_3 hd).1
      have e : yr = mO K [(205, q + (refW (M.2 4 q) d).2)] [] := e
      subst e
      have hw : 1 ≤ (refW (M.2 4 q) d).2 ∧ q + (refW (M.2 4 q) d).2 ≤ M.1 6 := by
        rcases w4 with w4 | ⟨w4, w5⟩
        · omega
        · have := dq w5
          omega
      exact av_okk (K := mO (mO K [(205, q + (refW (M.2 4 q) d).2)] []) [(206, wm (refW (M.2 4 q) d).1)] []) (M := mO M [(7, (refW (M.2 4 q) d).1), (9, (refW (M.2 4 q) d).2)] []) (wm_3 hd).1 h3 ⟨rfl, hd, k7.trans m8.symm, by show 0 ≤ M.1 8; omega, by show M.1 8 ≤ M.1 6; omega, fun _ => ⟨by show q + (refW (M.2 4 q) d).2 = M.1 8 + (refW (M.2 4 q) d).2; omega, hw.1, by show M.1 8 + (refW (M.2 4 q) d).2 ≤ M.1 6; omega⟩, fun h => absurd (show (refW (M.2 4 q) d).1 = 0 from h) (by omega), fun h => absurd (show (refW (M.2 4 q) d).1 = 2 from h) (by omega), fun h => absurd (show (refW (M.2 4 q) d).1 = 1 from h) (by omega)⟩ hf x z hx hz
  have badw : (refW (M.2 4 q) d).1 = 3 → ∀ w, bnd (rfl_look_210 (mO (mO M [(9, w)] []) [(7, 3)] [])) (fun y => some (0, y.2)) = some z → AV x z := by
    intro h3 w hz
    refine av_bad (K := mO yr [(206, wm (refW (M.2 4 q) d).1)] []) (M := mO (mO M [(9, w)] []) [(7, 3)] []) ?_ rfl x z hx hz
    show wm (refW (M.2 4 q) d).1 = -1
    rw [h3]
    rfl
  clear w3 y2 hx
  unfold refW at good badw
  cases ht : rf_twice (M.2 4 q) d with
  | none => rw [ht] at hz; cases hz
  | some t =>
    rw [ht] at hz good badw
    rw [bnd_some] at hz
    dsimp only at good badw
    by_cases t0 : t ≤ 0
    · rw [if_pos t0] at hz good badw
      cases hs : rf_isSign (M.2 4 q) with
      | none => rw [hs] at hz; cases hz
      | some u =>
        rw [hs] at hz good badw
        rw [bnd_some] at hz
        dsimp only at good badw
        unfold rfl_look_207 at hz
        by_cases u0 : u = 0
        · rw [if_pos u0] at hz good badw
          exact badw rfl 1 hz
        · rw [if_neg u0] at hz good badw
          rw [show mO (mO M [(9, 1)] []) [(7, M.2 4 q)] [] = mO M [(7, M.2 4 q), (9, 1)] [] from mO_f _ _ _ _ _] at hz
          by_cases h3 : M.2 4 q = 3
          · refine badw h3 1 ?_
            rw [show mO (mO M [(9, 1)] []) [(7, 3)] [] = mO M [(7, 3), (9, 1)] [] from mO_f _ _ _ _ _, ← h3]
            exact hz
          · exact good h3 hz
    · rw [if_neg t0] at hz good badw
      rw [bnd_some, ht, bnd_some] at hz
      by_cases h3 : t = 3
      · refine badw h3 2 ?_
        rw [show mO (mO M [(9, 2)] []) [(7, 3)] [] = mO M [(7, 3), (9, 2)] [] from mO_f _ _ _ _ _, ← h3]
        exact hz
      · exact good h3 hz
theorem RR_c {α β : Type} {X X' : Option α} {Y Y' : Option β} {P : α → β → Prop} (e1 : X' = X) (e2 : Y' = Y) (h : RR X Y P) : RR X' Y' P := by
  rw [e1, e2]
  exact h
/-- the next word -/
theorem rr_adv0 {K M : mR} (hL : LT K M) (ho : K.1 213 = 0) (hf : M.1 10 = 0) {p : Int} (hk : K.1 205 = p) (hm : cut (M.1 8 + M.1 9) = p) (p0 : 0 ≤ p) (p1 : p ≤ M.1 6) : RR (kf_tx_advance K) (rf_next M) AV := by
  have hS := hL.1
  have hK := hL.2.1
  have hc := hL.2.2.1.1
  have qs := hS.2.1
  unfold kf_tx_advance rf_next
  rw [if_pos ho, if_pos (show M.1 10 ≤ 0 by omega), hm]
  have e0 : mO K [(205, p)] [] = K := by
    rw [← hk]
    exact mO_1 K 205
  have w1 := ws_k hK p0 (show p ≤ K.1 204 by omega)
  rw [e0] at w1
  refine RR_l w1 (fun e he => ?_)
  obtain ⟨q, rfl, hr⟩ := he
  refine RR_r (ws_r hS p0 p1) (fun e he => ?_)
  obtain ⟨q2, rfl, hr2⟩ := he
  have eq : q2 = q := Run_u hr2 (tx_run hL (fun _ => wsP_r) p0 hr)
  subst eq
  have q0 : 0 ≤ q2 := by have := hr2.1; omega
  have q1 : q2 ≤ M.1 6 := hr2.2.1
  clear w1 e0 hr hr2
  have hL2 : LT (mO (mO K [(205, q2)] []) [(207, q2)] []) (mO M [(8, q2)] []) := hL
  have hf2 : (mO M [(8, q2)] []).1 10 = 0 := hf
  have g8 : (mO M [(8, q2)] []).1 8 = q2 := rfl
  have e6 : (mO M [(8, q2)] []).1 6 = M.1 6 := rfl
  have e4 : (mO M [(8, q2)] []).2 4 = M.2 4 := rfl
  have k4 : (mO (mO K [(205, q2)] []) [(207, q2)] []).1 204 = M.1 6 := hc
  have k5 : (mO (mO K [(205, q2)] []) [(207, q2)] []).1 205 = q2 := rfl
  have k7 : (mO (mO K [(205, q2)] []) [(207, q2)] []).1 207 = q2 := rfl
  unfold kfl_tx_advance_68 rfl_next_60 rf_look
  rw [show (mO K [(205, q2)] []).1 204 = M.1 6 from hc, show (mO K [(205, q2)] []).1 205 = q2 from rfl, show (mO K [(205, q2)] []).2 1 = K.2 1 from rfl]
  have hK2 : (mO (mO K [(205, q2)] []) [(207, q2)] []).2 1 = K.2 1 := rfl
  generalize mO (mO K [(205, q2)] []) [(207, q2)] [] = K2 at *
  generalize mO M [(8, q2)] [] = M2 at *
  rw [byteAt_eq, bnd_some, g8]
  by_cases hq : q2 < M.1 6
  · have c9 := hS.2.2 q2
    rw [if_neg (by omega), tx_b hL q0 hq, bA_in (by omega), e4, if_neg (by omega)]
    unfold kfl_tx_advance_104
    rw [k4, k5, if_pos hq]
    by_cases hs : smallP (M.2 4 q2)
    · rw [if_neg (by have := hs.1; omega), if_neg (by have := hs.2; omega), isSmall_1 hs, bnd_some, if_neg (by decide)]
      exact av_name hL2 k5 k7 g8 q0 (by omega) (by rw [e4]; exact hs) hf2
    · have notsmall : ∀ A : Option (Int × Int × mR), (if M.2 4 q2 < 97 then kfl_tx_advance_171 (M.2 4 q2) K2 else if (122 : Int) < M.2 4 q2 then kfl_tx_advance_171 (M.2 4 q2) K2 else A) = kfl_tx_advance_171 (M.2 4 q2) K2 := by
        intro A
        by_cases h1 : M.2 4 q2 < 97
        · rw [if_pos h1]
        · rw [if_neg h1, if_pos (by unfold smallP at hs; omega)]
      rw [notsmall, isSmall_0 hs, bnd_some, if_pos rfl]
      unfold kfl_tx_advance_171
      by_cases hd : digP (M.2 4 q2)
      · rw [if_neg (by have := hd.1; omega), if_neg (by have := hd.2; omega), isDigit_1 hd, bnd_some, if_neg (show ¬ (1 : Int) = 0 by decide)]
        rw [k4, k5, cut_i (by omega) (by omega)]
        unfold rf_lookNumber kfl_tx_advance_222 kfl_tx_advance_223 rfl_lookNumber_37 rfl_lookNumber_38
        rw [show mO (mO M2 [(9, 1)] []) [(12, 0)] [] = mO M2 [(9, 1), (12, 0)] [] from mO_f _ _ _ _ _, show (mO M2 [(9, 1)] []).1 8 = q2 from g8]
        rw [byteAt_eq, bnd_some, byteAt_eq, cut_i (by omega) (by omega)]
        rw [show bA (mO M2 [(9, 1), (12, 0)] []) q2 = M.2 4 q2 from (bA_in (m := mO M2 [(9, 1), (12, 0)] []) (p := q2) (show q2 < M2.1 6 by omega)).trans (congrFun e4 q2)]
        have dec : RR (if (0 : Int) = 0 then bnd (kf_tx_scanDecimal K2) fun y10 => kfl_tx_advance_240 y10.1 y10.2 else bnd (kf_tx_scanHex K2) fun y13 => kfl_tx_advance_240 y13.1 y13.2) (bnd (bnd (if (0 : Int) = 0 then rfl_lookNumber_49 0 0 (mO M2 [(9, 1), (12, 0)] []) else rfl_lookNumber_49 0 2 (mO M2 [(9, 1), (12, 0)] [])) fun y45 => rfl_look_210 y45.2) fun y => some (0, y.2)) AV := by
          rw [if_pos rfl, if_pos rfl]
          exact av_dec hL2 k5 k7 g8 q0 (by omega) (by rw [e4]; exact hd) hf2
        by_cases h48 : M.2 4 q2 = 48
        · rw [if_pos h48, if_pos h48, bnd_some]
          by_cases hn : q2 + 1 < M.1 6
          · rw [if_neg (by omega), show bA (mO M2 [(9, 1), (12, 0)] []) (q2 + 1) = M.2 4 (q2 + 1) from (bA_in (m := mO M2 [(9, 1), (12, 0)] []) (p := q2 + 1) (show q2 + 1 < M2.1 6 by omega)).trans (congrFun e4 _)]
            have hi := tx_iff hL (i := q2 + 1) (by omega) hn (C := fun c => c = 120) (fun c hc => by omega)
            rw [hK2]
            by_cases hx : M.2 4 (q2 + 1) = 120
            · rw [if_pos (hi.mpr hx), if_pos hx, if_neg (by decide), if_neg (by decide)]
              exact av_hex hL2 k5 k7 g8 q0 (by omega) hf2
            · rw [if_neg (fun h => hx (hi.mp h)), if_neg hx]
              exact dec
          · rw [if_pos (by omega), show bA (mO M2 [(9, 1), (12, 0)] []) (q2 + 1) = -1 from bA_out (m := mO M2 [(9, 1), (12, 0)] []) (p := q2 + 1) (show M2.1 6 ≤ q2 + 1 by omega), if_neg (show ¬ (-1 : Int) = 120 by decide)]
            exact dec
        · rw [if_neg h48, if_neg h48]
          exact dec
      · have notdig : ∀ A : Option (Int × Int × mR), (if M.2 4 q2 < 48 then kfl_tx_advance_246 (M.2 4 q2) K2 else if (57 : Int) < M.2 4 q2 then kfl_tx_advance_246 (M.2 4 q2) K2 else A) = kfl_tx_advance_246 (M.2 4 q2) K2 := by
          intro A
          by_cases h1 : M.2 4 q2 < 48
          · rw [if_pos h1]
          · rw [if_neg h1, if_pos (by unfold digP at hd; omega)]
        rw [notdig, isDigit_0 hd, bnd_some, if_pos rfl]
        have := av_sign hL2 k5 k7 g8 q0 (by omega) hf2
        rw [e4, g8] at this
        exact this
  · have eq2 : q2 = M.1 6 := by omega
    rw [if_pos (by omega), bA_out (by omega), if_pos rfl]
    unfold kfl_tx_advance_104
    rw [k4, k5, if_neg hq]
    exact av_stop (k4.trans e6.symm) (by omega) (by omega) (by omega) (by omega) hf2
