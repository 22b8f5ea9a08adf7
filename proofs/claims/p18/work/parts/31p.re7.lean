/-! ===== EXPRs: behind an operand, whole ===== -/
section GON2
variable {K M : mR}
theorem open_d {u : Int} (h : K.1 213 = 1) : RP (kf_fm_open u K) (fun y => y.1 ≠ 0) := by
  unfold kf_fm_open
  have b25 : ∀ m : mR, m.1 213 = 1 → RP (kfl_fm_open_25 u m) (fun y => y.1 ≠ 0) := by
    intro m hm
    unfold kfl_fm_open_25
    exact thr_x (x1 := fun y => (y.1, 0, y.2.2)) (adv_d (show (mO m [(228, cut (m.1 228 + 1))] [(68, upI (m.2 68) (m.1 228) u), (69, upI (m.2 69) (m.1 228) (m.1 207))]).1 213 = 1 from hm)) (fun y hy => hy)
  exact RP_ite (fun _ => b25 K h) (fun _ => thr_l (A := fun y5 => kfl_fm_open_25 u y5.2.2) (fail_1 _ _ _))
theorem bC_O {y : Int × Int × mR} (h : bC y) : bO y := by
  rcases h with h | h
  · exact Or.inl h
  · exact Or.inr ⟨h.1, Or.inl h.2⟩
theorem k182_d (h : DM K) : RP (kfl_fm_goesOn_182 K) bC := by
  unfold kfl_fm_goesOn_182
  refine RP_bndT (fun a => RP_ite (fun _ => ?_) (fun _ => ech_d h))
  exact thr_x (x1 := fun y => (y.1, 0, y.2.2)) (exp_d h.1) (fun y hy => Or.inl hy)
theorem k153_d (h : DM K) : RP (kfl_fm_goesOn_153 K) bC := by
  unfold kfl_fm_goesOn_153
  refine RP_ite (fun _ => RP_bndT (fun a => RP_ite (fun _ => k182_d h) (fun _ => ?_))) (fun _ => k182_d h)
  exact thr_x (x1 := fun y => (y.1, 0, y.2.2)) (open_d h.1) (fun y hy => Or.inl hy)
theorem k124_d (h : DM K) : RP (kfl_fm_goesOn_124 K) bC := by
  unfold kfl_fm_goesOn_124
  rw [show kfb_fm_goesOn_126 = kfb_fm_goesOn_63 0 1 from funext k126]
  refine RP_bnd (clo_d (s := (0, K)) h) (fun x hx => ?_)
  cases x with
  | inl q => exact k153_d hx
  | inr e => exact RP_some (Or.inl hx)
theorem k91_d {v : Int} (h : DM K) : RP (kfl_fm_goesOn_91 v K) bC := by
  unfold kfl_fm_goesOn_91 kfl_fm_goesOn_111
  have o : RP (bnd (kf_fm_open (K.1 206) K) fun y58 => if y58.1 = 0 then some (0, 1, y58.2.2) else some (y58.1, 0, y58.2.2)) bC := thr_x (x1 := fun y => (y.1, 0, y.2.2)) (open_d h.1) (fun y hy => Or.inl hy)
  exact RP_ite (fun _ => k124_d h) (fun _ => RP_ite (fun _ => RP_bndT (fun a => RP_bndT (fun b => RP_ite (fun _ => k124_d h) (fun _ => o)))) (fun _ => o))
theorem k60_d {v c : Int} (h : DM K) : RP (kfl_fm_goesOn_60 v c K) bC := by
  unfold kfl_fm_goesOn_60
  refine RP_bnd (clo_d (s := (0, K)) h) (fun x hx => ?_)
  cases x with
  | inl q => exact k91_d hx
  | inr e => exact RP_some (Or.inl hx)
theorem k29_d (h : DM K) : RP (kfl_fm_goesOn_29 K) bC := by
  unfold kfl_fm_goesOn_29
  exact RP_bndT (fun a => RP_ite (fun _ => k60_d h) (fun _ => RP_ite (fun _ => k60_d h) (fun _ => k60_d h)))
/-- all signs are closed, the class's second loop is behind -/
theorem fin2_s {K0 M0 : mR} {k : Int} (hC : CLG K0 M0 k 0 K M) : RR (kfl_fm_goesOn_153 K) (rfl_goOn_204 k (-1) M) (PB (gO (M0.1 8)) bO) := by
  obtain ⟨hE, hU, hh, hk, hx, hx2, h8, h7⟩ := hC
  have hf := hE.1.2.2.2.2
  unfold rfl_goOn_204
  rw [if_pos (by omega), if_pos (by decide), ← h8]
  exact RR_tl (fin_s hE hU hh hk (fun x hx9 => hx x (by omega) hx9))
theorem k124_0 {K0 M0 : mR} {k : Int} (hC : CLG K0 M0 k 0 K M) : kfl_fm_goesOn_124 K = kfl_fm_goesOn_153 K := by
  obtain ⟨hE, hU, hh, hk, hx, hx2, h8, h7⟩ := hC
  obtain ⟨v9, l9, a1, a2, a3, a4, -⟩ := top_lv (s := 0) hU hE.2.2.2.2.1 hh hk (by omega) hx
  unfold kfl_fm_goesOn_124
  rw [whl_eq]
  unfold kfb_fm_goesOn_126
  rw [if_neg (show ¬ (288 : Int) ≤ 0 by decide), a1, bnd_some, a2, bnd_some, if_pos (by omega), bnd_some]
  rfl
theorem loop_x {k l : Int} {M : mR} {j : Int} (h : j < l ∨ j < 0) : whl (rfb_goOn_162 k l) (j, M) = some M := by
  rw [whl_eq]
  unfold rfb_goOn_162
  by_cases e : j < 0
  · rw [if_pos e]
    rfl
  · rw [if_neg e, if_pos (show j < l by omega)]
    rfl
theorem go29_s {k : Int} (hE : EB K M) (hU : EU K M 2) (hh : M.1 73 = k + 1) (hk : M.2 76 k = 0) : RR (kfl_fm_goesOn_29 K) (rf_goOn M) (PB (gO (M.1 8)) bO) := by
  have hX := hE.1.2.1
  have hf := hE.1.2.2.2.2
  have hd2 := hE.2.2.2.2.1
  have rg : 0 ≤ k ∧ k ≤ 300 ∧ K.1 228 ≤ 264 := by
    obtain ⟨t, n, p, Bd, hS, ht, hn, -⟩ := hU
    have := STK_b hS
    omega
  have L0 : -1 ≤ lvl (M.1 7) ∧ lvl (M.1 7) ≤ 8 := by
    have := lvl_in (M.1 7)
    omega
  have C9 : CLG K M k 9 K M := ⟨hE, hU, hh, hk, fun x x0 x1 => by omega, fun _ _ => rfl, rfl, rfl⟩
  unfold kfl_fm_goesOn_29 rf_goOn
  rw [hX.1, lvl_k hX.2.1, bnd_some, cut_i (z := M.1 73 - 1) (by omega) (by omega), show M.1 73 - 1 = k by omega, if_neg (show ¬ M.2 76 k = 1 by omega), level_r, bnd_some, cut_i (z := 9 * k) (by omega) (by omega), cut_i (z := 9 * k + 2) (by omega) (by omega)]
  -- one run of the closing loop of both
  have run : ∀ (s : Nat) (v l : Int), s ≤ 9 → l ≤ s → (∀ K' M' e, whl (rfb_goOn_162 k l) ((s : Int) - 1, M') = some e → CLG K M k s K' M' → RR (kfl_fm_goesOn_91 v K') (rfl_goOn_204 k l e) (PB (gO (M.1 8)) bO)) → RR (kfl_fm_goesOn_60 v ((s : Int) + 1) K) (rfl_goOn_159 k l M) (PB (gO (M.1 8)) bO) := by
    intro s v l hs hl hnext
    unfold kfl_fm_goesOn_60 rfl_goOn_159
    intro y z hy hz
    cases hk9 : whl (kfb_fm_goesOn_63 v ((s : Int) + 1)) (0, K) with
    | none => rw [hk9] at hy; cases hy
    | some a =>
      cases hm9 : whl (rfb_goOn_162 k l) (8, M) with
      | none => rw [hm9] at hz; cases hz
      | some e =>
        rw [hk9, bnd_some] at hy
        rw [hm9, bnd_some] at hz
        have hm8 : whl (rfb_goOn_162 k l) (((s + (9 - s) : Nat) : Int) - 1, M) = some e := by
          rw [show (((s + (9 - s) : Nat) : Int) - 1) = 8 by omega]
          exact hm9
        rcases clo_s hs hl rg.1 (by omega) (9 - s) 0 K M K M a e (by omega) (by rw [show s + (9 - s) = 9 by omega]; exact C9) (by decide) (by omega) hk9 hm8 with ⟨K', M', rfl, q1, q2⟩ | ⟨q1, q2⟩
        · exact hnext K' M' e q1 q2 y z hy hz
        · refine Or.inr ⟨(u_rfl_goOn_204 k l e z hz).2 q1, ?_⟩
          cases a with
          | inl q => exact bC_O (k91_d q2 y hy)
          | inr x =>
            have hy : some (x.1, 0, x.2) = some y := hy
            cases hy
            exact Or.inl q2
  -- a sign is opened
  have push : ∀ (K' M' : mR) (l : Nat), lvl (M.1 7) = l → l < 9 → EB K' M' → EU K' M' 2 → M'.1 73 = k + 1 → M'.2 76 k = 0 → M'.1 8 = M.1 8 → M'.1 7 = M.1 7 → (∀ x : Nat, l ≤ x → x < 9 → M'.2 80 (9 * k + x) < 0) → RR (kfl_fm_goesOn_111 K') (rfl_goOn_204 k l M') (PB (gO (M.1 8)) bO) := by
    intro K' M' l e1 e2 q1 q2 q3 q4 q5 q6 q7
    have hf' := q1.1.2.2.2.2
    unfold rfl_goOn_204
    rw [if_pos (by omega), if_neg (by omega), cut_i (z := 9 * k) (by omega) (by omega), cut_i (z := 9 * k + (l : Int)) (by omega) (by omega), ← q5]
    exact PB_w (psh_s (B := fun y => y.1 ≠ 0) (fun y hy => hy) q1 q2 q3 rg.1 q4 (by rw [q6]; exact e1) e2 q7) (fun y M' h => Or.inl h) (fun y h => Or.inl h)
  by_cases Lm : lvl (M.1 7) = -1
  · rw [if_pos (show lvl (M.1 7) + 1 = 0 by omega), if_neg (show ¬ lvl (M.1 7) = 2 by omega), Lm, show (-1 : Int) + 1 = 0 by decide]
    refine run 0 0 (-1) (by omega) (by omega) (fun K' M' e he hC => ?_)
    rw [loop_x (Or.inr (by decide))] at he
    cases he
    unfold kfl_fm_goesOn_91
    rw [if_pos (by decide), k124_0 hC]
    exact fin2_s hC
  · rw [if_neg (show ¬ lvl (M.1 7) + 1 = 0 by omega)]
    by_cases L2 : lvl (M.1 7) = 2
    · rw [if_pos (show lvl (M.1 7) + 1 = 3 by omega), if_pos L2, L2, show cut ((2 : Int) + 1 + 1) = ((3 : Nat) : Int) + 1 from rfl, show (2 : Int) + 1 = 3 by decide]
      by_cases w2 : M.2 80 (9 * k + 2) < 0
      · rw [if_pos w2]
        refine run 3 3 2 (by omega) (by omega) (fun K' M' e he hC => ?_)
        obtain ⟨hE', hU', hh', hk', hx', hx2', h8', h7'⟩ := hC
        have m2 : M'.2 80 (9 * k + 2) < 0 := by
          have := hx2' 2 (by omega)
          rw [show (9 * k + ((2 : Nat) : Int)) = 9 * k + 2 by omega] at this
          rw [this]
          exact w2
        have em : ∀ x : Nat, 2 ≤ x → x < 9 → M'.2 80 (9 * k + x) < 0 := by
          intro x x0 x1
          by_cases e2 : x = 2
          · rw [e2]
            exact m2
          · exact hx' x (by omega) x1
        have he : whl (rfb_goOn_162 k 2) (2, M') = some e := he
        rw [whl_eq] at he
        unfold rfb_goOn_162 rfl_goOn_198 at he
        have he : bnd (if (2 : Int) < 0 then some (Sum.inr M') else if (2 : Int) < 2 then some (Sum.inr M') else if (0 : Int) ≤ M'.2 80 (cut (cut (9 * k) + 2)) then bnd (rf_join (cut (cut (9 * k) + 2)) M') fun y14 => some (Sum.inl (cut (2 + -1), y14.2)) else some (Sum.inl (cut (2 + -1), M'))) (sel (whl (rfb_goOn_162 k 2)) some) = some e := he
        rw [if_neg (by decide), if_neg (by decide), cut_i (z := 9 * k) (by omega) (by omega), cut_i (z := 9 * k + 2) (by omega) (by omega), if_neg (by omega), bnd_some] at he
        have he : whl (rfb_goOn_162 k 2) (cut (2 + -1), M') = some e := he
        rw [loop_x (Or.inl (by decide))] at he
        cases he
        obtain ⟨v9, l9, a1, a2, a3, a4, -⟩ := top_lv (s := 2) hU' hE'.2.2.2.2.1 hh' hk' (by omega) em
        unfold kfl_fm_goesOn_91
        rw [if_neg (by decide), if_pos rfl, a1, bnd_some, a2, bnd_some, if_neg (by omega)]
        exact push K' M' 2 L2 (by omega) hE' hU' hh' hk' h8' h7' em
      · rw [if_neg w2]
        refine run 3 3 (-1) (by omega) (by omega) (fun K' M' e he hC => ?_)
        have hC' := hC
        obtain ⟨hE', hU', hh', hk', hx', hx2', h8', h7'⟩ := hC
        have m2 : 0 ≤ M'.2 80 (9 * k + ((2 : Nat) : Int)) := by
          rw [hx2' 2 (by omega), show (9 * k + ((2 : Nat) : Int)) = 9 * k + 2 by omega]
          omega
        obtain ⟨v9, a1, a2, a3, a4⟩ := top_wt (j := 2) hU' hE'.2.2.2.2.1 hh' hk' (by omega) (fun x x0 x1 => hx' x (by omega) x1) m2
        unfold kfl_fm_goesOn_91
        rw [if_neg (by decide), if_pos rfl, a1, bnd_some, a2, bnd_some, if_pos (by decide)]
        unfold kfl_fm_goesOn_124
        rw [show kfb_fm_goesOn_126 = kfb_fm_goesOn_63 0 1 from funext k126]
        intro y z hy hz
        cases hk9 : whl (kfb_fm_goesOn_63 0 1) (0, K') with
        | none => rw [hk9] at hy; cases hy
        | some a =>
          rw [hk9, bnd_some] at hy
          have hk8 : whl (kfb_fm_goesOn_63 0 (((0 : Nat) : Int) + 1)) (0, K') = some a := hk9
          have he8 : whl (rfb_goOn_162 k (-1)) (((0 + 3 : Nat) : Int) - 1, M') = some e := he
          rcases clo_s (s := 0) (by omega) (by omega) rg.1 (by omega) 3 0 K' M' K M a e (by omega) hC' (by decide) (by omega) hk8 he8 with ⟨K2, M2, rfl, q1, q2⟩ | ⟨q1, q2⟩
          · rw [loop_x (Or.inr (by decide))] at q1
            cases q1
            exact fin2_s q2 y z hy hz
          · refine Or.inr ⟨(u_rfl_goOn_204 k (-1) e z hz).2 q1, ?_⟩
            cases a with
            | inl q => exact bC_O (k153_d q2 y hy)
            | inr x =>
              have hy : some (x.1, 0, x.2) = some y := hy
              cases hy
              exact Or.inl q2
    · rw [if_neg (show ¬ lvl (M.1 7) + 1 = 3 by omega), if_neg L2]
      have eL : lvl (M.1 7) = (((lvl (M.1 7)).toNat : Nat) : Int) := by omega
      have r := run (lvl (M.1 7)).toNat (lvl (M.1 7) + 1) (lvl (M.1 7)) (by omega) (by omega) (fun K' M' e he hC => ?_)
      · rw [← eL] at r
        exact r
      · obtain ⟨hE', hU', hh', hk', hx', hx2', h8', h7'⟩ := hC
        rw [loop_x (Or.inl (by omega))] at he
        cases he
        unfold kfl_fm_goesOn_91
        rw [if_neg (by omega), if_neg (by omega)]
        have r := push K' M' (lvl (M.1 7)).toNat eL (by omega) hE' hU' hh' hk' h8' h7' hx'
        rw [← eL] at r
        exact r
theorem sngl_d {s : Int × mR} (h : DM s.2) : RP (whl kfb_fm_goesOn_2 s) (sel (fun q => DM q) (fun e => e.1 ≠ 0)) := by
  refine RP_whl (I := fun s : Int × mR => DM s.2) (fun s hs => ?_) h
  unfold kfb_fm_goesOn_2
  refine RP_ite (fun _ => RP_some hs) (fun _ => RP_bndT (fun a => RP_bndT (fun b => RP_ite (fun _ => RP_some hs) (fun _ => ?_))))
  refine RP_bnd (sng_d hs) (fun y hy => ?_)
  refine RP_ite (fun e => RP_some ?_) (fun e => RP_some e)
  rcases hy with hy | hy
  · exact absurd e hy
  · exact hy.2
/-- behind an operand -/
theorem goesOn_s (hE : EB K M) (hU : EU K M 2) : SM (kf_fm_goesOn K) M (gO (M.1 8)) bO := by
  unfold kf_fm_goesOn
  refine SM_bnd (P := fun x M' => sel (fun q => EB q M' ∧ EU q M' 2 ∧ M'.1 8 = M.1 8 ∧ M'.2 76 (M'.1 73 - 1) = 0) (fun _ => False) x) (B := sel (fun q => DM q) (fun e => e.1 ≠ 0)) ?_ (fun x M' hx => ?_) (fun x hx => ?_)
  · have i1 : (0 : Int) + K.1 228 ≤ 264 := by
      obtain ⟨t, n, p, Bd, hS, ht, hn, -⟩ := hU
      have := STK_b hS
      have := hE.2.2.2.2.1
      omega
    refine SM_whl (I := fun (s : Int × mR) M' => EB s.2 M' ∧ EU s.2 M' 2 ∧ M'.1 8 = M.1 8 ∧ 0 ≤ s.1 ∧ s.1 + s.2.1 228 ≤ 264) (D := fun s => DM s.2) ?_ (fun s hs => sngl_d hs) ⟨hE, hU, rfl, (show (0 : Int) ≤ 0 by decide), i1⟩
    intro s M1 hI
    obtain ⟨i, K1⟩ := s
    obtain ⟨hE1, hU1, h8, i0, i2⟩ := hI
    have hE1 : EB K1 M1 := hE1
    have hU1 : EU K1 M1 2 := hU1
    have i0 : 0 ≤ i := i0
    have i2 : i + K1.1 228 ≤ 264 := i2
    have hf := hE1.1.2.2.2.2
    have hd2 := hE1.2.2.2.2.1
    have hU' := hU1
    obtain ⟨t, n, p, Bd, hS, ht, hn, hp, hu, hu2, hop, hm⟩ := hU1
    have sb := STK_b hS
    unfold kfb_fm_goesOn_2
    show SM (if (288 : Int) ≤ i then some (Sum.inr (Sum.inl K1)) else bnd (kf_fm_top K1) fun y94 => bnd (kf_fm_isSingle y94 K1) fun y97 => if y97 = 0 then some (Sum.inr (Sum.inl K1)) else bnd (kf_fm_closeSingle K1) fun y101 => if y101.1 = 0 then some (Sum.inl (cut (i + 1), y101.2.2)) else some (Sum.inr (Sum.inr (y101.1, y101.2.2)))) M1 _ _
    rw [if_neg (by omega)]
    by_cases t4 : t = 4
    · have tt := top_k (K := K1) hn (by omega)
      have tsv : topv K1 n = 405 ∨ topv K1 n = 126 ∨ topv K1 n = 33 := by
        rcases STK_i hS with ⟨e, -⟩ | ⟨t0, h0, n0, d0, -, -, rfl, -, s, a, b, c⟩ | ⟨t0, k0, n0, e, -⟩ | ⟨t0, k0, n0, p0, B0, d0, o1, o2, e, -⟩ | ⟨t0, k0, n0, p0, B0, d0, n1, p1, B1, e, -⟩
        · omega
        · have := (STK_b s).2.2.2.1
          rw [topv_s (by omega)]
          omega
        · omega
        · omega
        · omega
      rcases single_k (topv K1 n) K1 with ⟨q1, -⟩ | ⟨-, q2⟩
      · rw [tt, bnd_some, q1, bnd_some, if_neg (by decide)]
        refine SM_bnd (SM_st (WX_2 hf hm) (single_s hE1 hS (by omega) rfl t4 hn hp hu hu2 hop hm)) (fun y M' hy => ?_) (fun y hy => ?_)
        · obtain ⟨y1, y2, y3, y4, y5, y6⟩ := hy
          rw [if_pos y1, cut_i (by omega) (by omega)]
          exact SM_some ⟨y2, y3, y4.trans h8, by show 0 ≤ i + 1; omega, by show i + 1 + y.2.2.1 228 ≤ 264; omega⟩
        · refine RP_ite (fun e => RP_some ?_) (fun e => RP_some e)
          rcases hy with hy | hy
          · exact absurd e hy
          · exact hy.2
      · omega
    · have h76 : M1.2 76 (M1.1 73 - 1) = 0 := by
        rcases STK_i hS with ⟨e, -⟩ | ⟨t0, h0, n0, d0, e, -⟩ | ⟨t0, k0, n0, e, -⟩ | ⟨t0, k0, n0, p0, B0, d0, o1, o2, e, -⟩ | ⟨t0, k0, n0, p0, B0, d0, n1, p1, B1, -, e73, -, -, -, e76, -⟩
        · omega
        · omega
        · omega
        · omega
        · rw [show M1.1 73 - 1 = k0 by omega]
          exact e76
      obtain ⟨v9, l9, a1, a2, a3, a4, a5⟩ := top_lv (s := 9) (k := M1.1 73 - 1) hU' hd2 (by omega) h76 (by omega) (fun x x0 x1 => by omega)
      rcases single_k v9 K1 with ⟨-, q2⟩ | ⟨q1, -⟩
      · exact (a5 q2).elim
      · rw [a1, bnd_some, q1, bnd_some, if_pos rfl]
        exact SM_some ⟨hE1, hU', h8, h76⟩
  · cases x with
    | inl q =>
      obtain ⟨q1, q2, q3, q4⟩ := hx
      have hm : M'.1 75 = 2 := by
        obtain ⟨t, n, p, Bd, hS, ht, hn, hp, hu, hu2, hop, hm⟩ := q2
        exact hm
      rw [← q3]
      exact SM_st (WX_2 q1.1.2.2.2.2 hm) (go29_s q1 q2 (by omega) q4)
    | inr e => exact False.elim hx
  · cases x with
    | inl q => exact RP_w (k29_d hx) (fun y hy => bC_O hy)
    | inr e => exact RP_some (Or.inl hx)
end GON2
