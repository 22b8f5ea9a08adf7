theorem av_name {K M : mR} (hL : LT K M) {q : Int} (k5 : K.1 205 = q) (k7 : K.1 207 = q) (m8 : M.1 8 = q) (q0 : 0 ≤ q) (q1 : q < M.1 6) (hs : smallP (M.2 4 q)) (hf : M.1 10 = 0) : RR (bnd (kf_tx_scanName K) fun y24 => if cut ((y24.2.1 205) - (y24.2.1 207)) ≤ 16 then bnd (kf_tx_wordOfName y24.2) fun y28 => kfl_tx_advance_165 y28 y24.2 else kfl_tx_advance_165 (-1) y24.2) (bnd (bnd (whl rfb_look_34 (mO M [(9, 1)] [])) (fun e48 : mR => rfl_look_103 e48)) fun y => some (0, y.2)) AV := by
  have hS := hL.1
  have hK := hL.2.1
  have hc := hL.2.2.1.1
  refine RR_l (lx_nk hK k5 k7 q0 (by omega)) (fun y hy => ?_)
  obtain ⟨r, h, l, e, hr, hp, rh, rl⟩ := hy
  have hr' : Run (fun i => namP (M.2 4 i)) (M.1 6) q r := tx_run hL (fun _ => namP_r) q0 hr
  intro x z hx hz
  have hw := lx_nr hS m8 q0 q1 (Or.inl hs)
  cases hwl : whl rfb_look_34 (mO M [(9, 1)] []) with
  | none => rw [hwl] at hz; cases hz
  | some e2 =>
    rw [hwl] at hz
    obtain ⟨r2, e3, r3, hr2⟩ := hw e2 hwl
    have er : r2 = r := Run_u hr2 hr'
    subst er
    subst e3
    have hz : bnd (rfl_look_103 (mO M [(9, r2 - q)] [])) (fun y => some (0, y.2)) = some z := hz
    clear hwl hw
    obtain ⟨yv, yr⟩ := y
    have e : yr = mO K [(205, r2), (209, h), (210, l)] [] := e
    subst e
    have hx : (if cut (r2 - K.1 207) ≤ 16 then bnd (kf_tx_wordOfName (mO K [(205, r2), (209, h), (210, l)] [])) fun y28 => kfl_tx_advance_165 y28 (mO K [(205, r2), (209, h), (210, l)] []) else kfl_tx_advance_165 (-1) (mO K [(205, r2), (209, h), (210, l)] [])) = some x := hx
    have q2 : r2 ≤ M.1 6 := hr2.2.1
    have qs := hS.2.1
    rw [k7, cut_i (by omega) (by omega)] at hx
    have hch : ∀ i, 0 ≤ i → i < r2 - q → namP (M.2 4 (q + i)) := fun i i0 i1 => hr2.2.2.1 (q + i) (by omega) (by omega)
    by_cases h16 : r2 - q ≤ 16
    · rw [if_pos h16] at hx
      have hpm : PK h l (fun i => M.2 4 (q + i)) (r2 - q) := by
        refine ⟨fun k hk => ?_, fun k hk => ?_⟩
        · rw [hp.1 k hk]
          by_cases hl : 0 + 7 - ((k / 8 : Nat) : Int) < r2 - q
          · have := namP_p (hch (0 + 7 - ((k / 8 : Nat) : Int)) (by omega) hl)
            rw [show (fun i => K.2 1 (q + i)) (0 + 7 - ((k / 8 : Nat) : Int)) = (fun i => M.2 4 (q + i)) (0 + 7 - ((k / 8 : Nat) : Int)) from tx_id hL (by omega) (by omega) this.2]
          · rw [decide_eq_false hl, Bool.false_and, Bool.false_and]
        · rw [hp.2 k hk]
          by_cases hl : 8 + 7 - ((k / 8 : Nat) : Int) < r2 - q
          · have := namP_p (hch (8 + 7 - ((k / 8 : Nat) : Int)) (by omega) hl)
            rw [show (fun i => K.2 1 (q + i)) (8 + 7 - ((k / 8 : Nat) : Int)) = (fun i => M.2 4 (q + i)) (8 + 7 - ((k / 8 : Nat) : Int)) from tx_id hL (by omega) (by omega) this.2]
          · rw [decide_eq_false hl, Bool.false_and, Bool.false_and]
      have heq : ∀ k, 0 ≤ k → k < 31 → (sameK (mO M [(9, r2 - q)] []) k ↔ (l = 0 ∧ K.2 5 k = h)) := fun k k0 k1 => kw_eq (K := mO K [(205, r2), (209, h), (210, l)] []) (m := mO M [(9, r2 - q)] []) hL.2.2.2.1 k0 k1 rh rl h16 (show 0 ≤ r2 - q by omega) (fun i i0 i1 => by
        show 0 < M.2 4 (M.1 8 + i) ∧ M.2 4 (M.1 8 + i) < 128
        rw [m8]
        exact namP_p (hch i i0 i1)) (by
        show PK h l (fun i => M.2 4 (M.1 8 + i)) (r2 - q)
        rw [m8]
        exact hpm)
      have fin : ∀ w, wdom w → wm w ≠ -1 → w ≠ 0 → w ≠ 2 → RR (kfl_tx_advance_165 (wm w) (mO K [(205, r2), (209, h), (210, l)] [])) (bnd (rfl_look_131 w (mO M [(9, r2 - q)] [])) fun y => some (0, y.2)) AV := by
        intro w hd hn hw0 hw2
        unfold kfl_tx_advance_165 rfl_look_131
        refine av_okk hn (wm_3 hd).2 ⟨rfl, hd, k7.trans m8.symm, by show 0 ≤ M.1 8; omega, by show M.1 8 ≤ M.1 6; omega, fun _ => ⟨by show r2 = M.1 8 + (r2 - q); omega, by show 1 ≤ r2 - q; omega, by show M.1 8 + (r2 - q) ≤ M.1 6; omega⟩, fun h0 => absurd h0 hw0, fun h2 => absurd h2 hw2, fun _ => ⟨h16, fun i i0 i1 => ?_, ?_, rh, rl⟩⟩ hf
        · show namP (M.2 4 (M.1 8 + i))
          rw [m8]
          exact hch i i0 i1
        · show PK h l (fun i => M.2 4 (M.1 8 + i)) (r2 - q)
          rw [m8]
          exact hpm
      refine RR_l (kw_k (K := mO K [(205, r2), (209, h), (210, l)] [])) (fun wk hwk => ?_) x z hx hz
      have hkr := kw_r (m := mO M [(9, r2 - q)] []) (show M.2 0 = kyF from hL.2.2.2.2) (by
        show 0 ≤ M.1 8 ∧ M.1 8 ≤ 4000
        omega)
      unfold rfl_look_103
      intro x z hx hz
      cases hkw : rf_keyword (mO M [(9, r2 - q)] []) with
      | none => rw [hkw] at hz; cases hz
      | some wr =>
        rw [hkw, bnd_some, show (mO M [(9, r2 - q)] []).1 9 = r2 - q from rfl, if_pos h16] at hz
        have hwr := hkr wr hkw
        rcases hwr with ⟨k, k0, k1, e1, e2, e3⟩ | ⟨e1, e2⟩
        · rcases hwk with ⟨j, j0, j1, f1, f2, f3, f4⟩ | ⟨f1, f2⟩
          · have ek : k = j := by
              apply Classical.byContradiction
              intro hne
              rcases Int.lt_or_gt_of_ne hne with hlt | hlt
              · exact f4 k k0 hlt ((heq k k0 k1).mp e2).2
              · exact e3 j j0 hlt ((heq j j0 j1).mpr ⟨f2, f3⟩)
            subst ek
            rw [if_neg (by omega)] at hz
            have hd : wdom wr := Or.inr (Or.inr ⟨by omega, by omega⟩)
            have hwm : wm wr = wk := by
              unfold wm
              repeat rw [if_neg (by omega)]
              omega
            have := fin wr hd (wm_3 hd).1 (by omega) (by omega)
            rw [hwm] at this
            exact this x z hx hz
          · have h3 := (heq k k0 k1).mp e2
            rcases f2 with f2 | f2
            · exact absurd h3.1 f2
            · exact absurd h3.2 (f2 k k0 k1)
        · rcases hwk with ⟨j, j0, j1, f1, f2, f3, f4⟩ | ⟨f1, f2⟩
          · exact absurd ((heq j j0 j1).mpr ⟨f2, f3⟩) (e2 j j0 j1)
          · rw [if_pos (by omega)] at hz
            have := fin 1 (Or.inl ⟨by decide, by decide, by decide⟩) (by decide) (by decide) (by decide)
            rw [show wm 1 = wk by rw [f1]; rfl] at this
            exact this x z hx hz
    · rw [if_neg h16] at hx
      unfold rfl_look_103 at hz
      have hkr := kw_r (m := mO M [(9, r2 - q)] []) (show M.2 0 = kyF from hL.2.2.2.2) (by
        show 0 ≤ M.1 8 ∧ M.1 8 ≤ 4000
        omega)
      cases hkw : rf_keyword (mO M [(9, r2 - q)] []) with
      | none => rw [hkw] at hz; cases hz
      | some wr =>
        rw [hkw, bnd_some, show (mO M [(9, r2 - q)] []).1 9 = r2 - q from rfl, if_neg h16] at hz
        exact av_bad (K := mO (mO K [(205, r2), (209, h), (210, l)] []) [(206, -1)] []) (M := mO (mO M [(9, r2 - q)] []) [(7, 3)] []) rfl rfl x z hx hz
theorem decV_c {f g : Int → Int} {p : Int} {n : Nat} (h : ∀ i : Nat, i < n → f (p + i) = g (p + i)) : decV f p n = decV g p n := by
  induction n with
  | zero => rfl
  | succ n ih =>
    unfold decV
    rw [ih (fun i hi => h i (by omega)), h n (by omega)]
theorem hxV_c {f g : Int → Int} {p : Int} {n : Nat} (h : ∀ i : Nat, i < n → f (p + i) = g (p + i)) : hxV f p n = hxV g p n := by
  induction n with
  | zero => rfl
  | succ n ih =>
    unfold hxV
    rw [ih (fun i hi => h i (by omega)), h n (by omega)]
/-- a number, or one that is too long -/
theorem av_num {K M : mR} {q r v : Int} (good : Bool) (k7 : K.1 207 = q) (m8 : M.1 8 = q) (q0 : 0 ≤ q) (q1 : q < r) (q2 : r ≤ M.1 6) (hf : M.1 10 = 0) : RR (kfl_tx_advance_240 (if good = true then 257 else -1) (mO K [(205, r), (208, v)] [])) (bnd (bnd (rfl_lookNumber_199 (if good = true then 2 else 3) (mO M [(9, r - q), (12, v)] [])) fun y45 => rfl_look_210 y45.2) fun y => some (0, y.2)) AV := by
  unfold kfl_tx_advance_240 rfl_lookNumber_199
  rw [bnd_some]
  cases good with
  | true =>
    refine av_okk (K := mO (mO K [(205, r), (208, v)] []) [(206, 257)] []) (M := mO (mO M [(9, r - q), (12, v)] []) [(7, 2)] []) (by show (257 : Int) ≠ -1; decide) (by show (2 : Int) ≠ 3; decide) ⟨rfl, Or.inl ⟨by show (0 : Int) ≤ 2; decide, by show (2 : Int) ≤ 12; decide, by show (2 : Int) ≠ 3; decide⟩, k7.trans m8.symm, by show 0 ≤ M.1 8; omega, by show M.1 8 ≤ M.1 6; omega, fun _ => ⟨by show r = M.1 8 + (r - q); omega, by show 1 ≤ r - q; omega, by show M.1 8 + (r - q) ≤ M.1 6; omega⟩, fun h => absurd (show (2 : Int) = 0 from h) (by decide), fun _ => rfl, fun h => absurd (show (2 : Int) = 1 from h) (by decide)⟩ hf
  | false => exact av_bad (K := mO (mO K [(205, r), (208, v)] []) [(206, -1)] []) (M := mO (mO M [(9, r - q), (12, v)] []) [(7, 3)] []) rfl rfl
theorem ite_b {α : Type} {p : Prop} {dp : Decidable p} {a b : α} : (@ite _ p dp a b) = if decide p = true then a else b := by
  by_cases h : p
  · rw [if_pos h, if_pos (decide_eq_true h)]
  · rw [if_neg h, if_neg (by rw [decide_eq_false h]; decide)]
theorem av_dec {K M : mR} (hL : LT K M) {q : Int} (k5 : K.1 205 = q) (k7 : K.1 207 = q) (m8 : M.1 8 = q) (q0 : 0 ≤ q) (q1 : q < M.1 6) (hs : digP (M.2 4 q)) (hf : M.1 10 = 0) : RR (bnd (kf_tx_scanDecimal K) fun y10 => kfl_tx_advance_240 y10.1 y10.2) (bnd (bnd (rfl_lookNumber_49 0 0 (mO M [(9, 1), (12, 0)] [])) fun y45 => rfl_look_210 y45.2) fun y => some (0, y.2)) AV := by
  have hS := hL.1
  have hK := hL.2.1
  have hc := hL.2.2.1.1
  intro x z hx hz
  unfold kf_tx_scanDecimal at hx
  unfold rfl_lookNumber_49 at hz
  rw [show mO (mO M [(9, 1), (12, 0)] []) [(9, 0)] [] = mO M [(9, 0), (12, 0)] [] from mO_f _ _ _ _ _] at hz
  have h1 := dc_k hK k5 q0 (by omega)
  have h2 := dc_r hS m8 q0 (by omega)
  cases hw1 : whl kfb_tx_scanDecimal_5 (mO K [(208, 0)] []) with
  | none => rw [hw1] at hx; cases hx
  | some e1 =>
    cases hw2 : whl (rfb_lookNumber_52 0) (mO M [(9, 0), (12, 0)] []) with
    | none => rw [hw2] at hz; cases hz
    | some e2 =>
      rw [hw1, bnd_some] at hx
      rw [hw2, bnd_some] at hz
      obtain ⟨n, rfl, r1⟩ := h1 e1 hw1
      obtain ⟨n2, rfl, r2⟩ := h2 e2 hw2
      have er : q + (n2 : Int) = q + n := Run_u r2 (tx_run hL (fun _ => digP_r) q0 r1)
      obtain rfl : n2 = n := by omega
      have rn := r2.2.1
      have qs := hS.2.1
      have ev : decV (K.2 1) q n2 = decV (M.2 4) q n2 := decV_c (fun i hi => tx_id hL (by omega) (by omega) (digP_r (r2.2.2.1 (q + i) (by omega) (by omega))).2)
      have n1 : 1 ≤ n2 := by
        apply Classical.byContradiction
        intro hn
        have := r2.2.2.2 (by omega)
        rw [show q + (n2 : Int) = q by omega] at this
        exact this hs
      unfold kfl_tx_scanDecimal_83 kfl_tx_scanDecimal_104 at hx
      rw [show (mO K [(205, q + (n2 : Int)), (208, decV (K.2 1) q n2)] []).1 205 = q + n2 from rfl, show (mO K [(205, q + (n2 : Int)), (208, decV (K.2 1) q n2)] []).1 207 = q from k7, cut_i (by omega) (by omega), show q + (n2 : Int) - q = n2 by omega, ev] at hx
      unfold rfl_lookNumber_172 rfl_lookNumber_194 rfl_lookNumber_198 at hz
      rw [show (mO M [(9, (n2 : Int)), (12, decV (M.2 4) q n2)] []).1 9 = n2 from rfl, if_pos rfl] at hz
      have key := av_num (K := K) (M := M) (q := q) (r := q + n2) (v := decV (M.2 4) q n2) (decide ((n2 : Int) ≤ 18)) k7 m8 q0 (by omega) (by omega) hf
      rw [show q + (n2 : Int) - q = n2 by omega] at key
      by_cases h18 : (n2 : Int) ≤ 18
      · rw [if_pos h18, bnd_some] at hx
        rw [if_neg (by omega)] at hz
        rw [decide_eq_true h18] at key
        exact key x z hx hz
      · rw [if_neg h18, bnd_some] at hx
        rw [if_pos (by omega)] at hz
        rw [decide_eq_false h18] at key
        exact key x z hx hz
theorem av_hex {K M : mR} (hL : LT K M) {q : Int} (k5 : K.1 205 = q) (k7 : K.1 207 = q) (m8 : M.1 8 = q) (q0 : 0 ≤ q) (q1 : q + 1 < M.1 6) (hf : M.1 10 = 0) : RR (bnd (kf_tx_scanHex K) fun y13 => kfl_tx_advance_240 y13.1 y13.2) (bnd (bnd (rfl_lookNumber_49 1 2 (mO M [(9, 1), (12, 0)] [])) fun y45 => rfl_look_210 y45.2) fun y => some (0, y.2)) AV := by
  have hS := hL.1
  have hK := hL.2.1
  have hc := hL.2.2.1.1
  have qs := hS.2.1
  intro x z hx hz
  unfold kf_tx_scanHex at hx
  unfold rfl_lookNumber_49 at hz
  rw [show mO (mO M [(9, 1), (12, 0)] []) [(9, 2)] [] = mO M [(9, 2), (12, 0)] [] from mO_f _ _ _ _ _] at hz
  rw [k5, cut_i (by omega) (by omega)] at hx
  have h1 := hx_k hK (p := q + 2) (by omega) (by omega)
  have h2 := hx_r hS m8 q0 (by omega) (v := 1) (by decide)
  cases hw1 : whl kfb_tx_scanHex_17 (1, mO K [(205, q + 2), (208, 0)] []) with
  | none => rw [hw1] at hx; cases hx
  | some e1 =>
    cases hw2 : whl (rfb_lookNumber_52 1) (mO M [(9, 2), (12, 0)] []) with
    | none => rw [hw2] at hz; cases hz
    | some e2 =>
      rw [hw1, bnd_some] at hx
      rw [hw2, bnd_some] at hz
      obtain ⟨n, rfl, r1⟩ := h1 e1 hw1
      obtain ⟨n2, rfl, r2⟩ := h2 e2 hw2
      have er : q + 2 + (n2 : Int) = q + 2 + n := Run_u r2 (tx_run hL (fun _ => hexP_r) (by omega) r1)
      obtain rfl : n2 = n := by omega
      have rn := r2.2.1
      have ev : hxV (K.2 1) (q + 2) n2 = hxV (M.2 4) (q + 2) n2 := hxV_c (fun i hi => tx_id hL (by omega) (by omega) (hexP_r (r2.2.2.1 (q + 2 + i) (by omega) (by omega))).2)
      unfold kfl_tx_scanHex_129 kfl_tx_scanHex_152 kfl_tx_scanHex_159 at hx
      rw [show (mO K [(205, q + 2 + (n2 : Int)), (208, hxV (K.2 1) (q + 2) n2)] []).1 205 = q + 2 + n2 from rfl, show (mO K [(205, q + 2 + (n2 : Int)), (208, hxV (K.2 1) (q + 2) n2)] []).1 207 = q from k7, cut_i (z := q + 2 + (n2 : Int) - q) (by omega) (by omega), cut_i (by omega) (by omega), show q + 2 + (n2 : Int) - q - 2 = n2 by omega, ev] at hx
      unfold rfl_lookNumber_172 rfl_lookNumber_194 rfl_lookNumber_198 at hz
      rw [show (mO M [(9, (n2 : Int) + 2), (12, hxV (M.2 4) (q + 2) n2)] []).1 9 = (n2 : Int) + 2 from rfl, if_neg (show ¬ (1 : Int) = 0 by decide)] at hz
      have key := av_num (K := K) (M := M) (q := q) (r := q + 2 + n2) (v := hxV (M.2 4) (q + 2) n2) (decide (1 ≤ (n2 : Int) ∧ (n2 : Int) ≤ 16)) k7 m8 q0 (by omega) (by omega) hf
      rw [show q + 2 + (n2 : Int) - q = (n2 : Int) + 2 by omega] at key
      by_cases h0 : (n2 : Int) < 1
      · rw [if_pos h0, bnd_some] at hx
        rw [if_neg (by omega), if_pos (by omega)] at hz
        rw [decide_eq_false (by omega)] at key
        exact key x z hx hz
      · rw [if_neg h0] at hx
        by_cases h16 : (n2 : Int) ≤ 16
        · rw [if_pos h16, bnd_some] at hx
          rw [if_neg (by omega), if_neg (by omega)] at hz
          rw [decide_eq_true ⟨by omega, h16⟩] at key
          exact key x z hx hz
        · rw [if_neg h16, bnd_some] at hx
          rw [if_pos (by omega)] at hz
          rw [decide_eq_false (by omega)] at key
          exact key x z hx hz
