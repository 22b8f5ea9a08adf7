/-! ===== EXPRs: how an EXPR goes on behind an operand ===== -/
section GON
variable {K M : mR}
theorem bkt_d (h : DM K) : RP (kf_fm_closeBracket K) (fun y => y.1 ≠ 0) := by
  unfold kf_fm_closeBracket
  refine RP_ite (fun _ => ?_) (fun _ => thr_l (A := fun y5 => kfl_fm_closeBracket_19 y5.2.2) (refuse_1 _))
  unfold kfl_fm_closeBracket_19
  exact thr_x (x1 := fun y => (y.1, 0, y.2.2)) (adv_d (show (mO K [(228, cut (K.1 228 - 1)), (230, cut (K.1 230 - 1))] [(23, upI (K.2 23) (K.2 70 (cut (K.1 229 - 1))) (K.2 69 (cut (K.1 228 - 1))))]).1 213 = 1 from h.1)) (fun y hy => hy)
theorem k247_d (h : DM K) : RP (kfl_fm_goesOn_247 K) bC := by
  unfold kfl_fm_goesOn_247 kfl_fm_goesOn_262
  refine RP_ite (fun _ => RP_some (Or.inr ⟨rfl, rfl, h⟩)) (fun _ => ?_)
  exact RP_w (thr_l (A := fun y6 => some (0, y6.2.1, y6.2.2)) (bkt_d h)) (fun y hy => Or.inl hy)
theorem ech_d {i : Int} (h : DM K) : RP (bnd (whl kfb_fm_goesOn_221 (i, K)) (sel (fun e22 : mR => kfl_fm_goesOn_247 e22) (fun e25 : Int × mR => some (e25.1, 0, e25.2)))) bC := by
  refine RP_bnd (P := sel (fun q => DM q) (fun e => e.1 ≠ 0)) ?_ (fun x hx => ?_)
  · refine RP_whl (I := fun s : Int × mR => DM s.2) (fun s hs => ?_) h
    unfold kfb_fm_goesOn_221
    refine RP_ite (fun _ => RP_some hs) (fun _ => RP_bndT (fun a => RP_ite (fun _ => ?_) (fun _ => RP_some hs)))
    refine RP_bnd (chc_d hs) (fun y hy => ?_)
    refine RP_ite (fun e => RP_some ?_) (fun e => RP_some e)
    rcases hy with hy | hy
    · exact absurd e hy
    · exact hy.2
  · cases x with
    | inl q => exact k247_d hx
    | inr e => exact RP_some (Or.inl hx)
theorem ech_s : ∀ (f : Nat) (i : Int) (K M : mR), EC K M → M.1 73 = f → 0 ≤ i → i + K.1 228 ≤ 264 → RR (bnd (whl kfb_fm_goesOn_221 (i, K)) (sel (fun e22 : mR => kfl_fm_goesOn_247 e22) (fun e25 : Int × mR => some (e25.1, 0, e25.2)))) (bnd (whl rfb_endChoice_33 ((if M.1 73 = 0 then 0 else 1), M)) (fun e23 : mR => rfl_endChoice_195 e23)) (PB (gC (M.1 8)) bC) := by
  intro f
  induction f with
  | zero =>
    intro i K M hC hh i0 i1
    obtain ⟨hE, h230, h74, t, n, p, B, hS, ht, hn, hp, hu, hu2, hop⟩ := hC
    rw [hh] at hS
    have sb := STK_b hS
    have ht0 : t = 0 := by omega
    subst ht0
    have hn0 : n = 0 := by omega
    have hp0 : p = 0 := by omega
    subst hn0 hp0
    rw [whl_eq, whl_eq]
    unfold kfb_fm_goesOn_221 rfb_endChoice_33
    show RR (bnd (bnd (if (288 : Int) ≤ i then some (Sum.inr (Sum.inl K)) else bnd (kf_fm_top K) fun y11 => if y11 = 58 then bnd (kf_fm_closeChoice K) fun y15 => if y15.1 = 0 then some (Sum.inl (cut (i + 1), y15.2.2)) else some (Sum.inr (Sum.inr (y15.1, y15.2.2))) else some (Sum.inr (Sum.inl K))) _) _) (bnd (bnd (if (if M.1 73 = 0 then (0 : Int) else 1) = 0 then some (Sum.inr M) else _) _) _) _
    have tv : topv K 0 = -1 := rfl
    rw [if_neg (by omega), top_k hn (by omega), bnd_some, tv, if_neg (by decide), if_pos (show M.1 73 = 0 from hh), if_pos rfl, bnd_some, bnd_some]
    show RR (kfl_fm_goesOn_247 K) (rfl_endChoice_195 M) _
    unfold kfl_fm_goesOn_247 kfl_fm_goesOn_262 rfl_endChoice_195
    rw [if_pos hn, if_pos (show M.1 73 = 0 from hh)]
    refine RR_some (Or.inl ⟨rfl, Or.inr ⟨rfl, ?_⟩⟩)
    have fM : fr [75] [] M (mO M [(75, 3)] []) := fr_m fr_0 rfl rfl
    exact ⟨⟨hE.1, hE.2.1, hE.2.2.1, hE.2.2.2.2.2, rfl, ⟨by show 0 ≤ K.2 70 0; omega, hu2⟩, hop⟩, Int.le_refl _⟩
  | succ f ih =>
    intro i K M hC hh i0 i1
    have hC' := hC
    obtain ⟨hE, h230, h74, t, n, p, B, hS, ht, hn, hp, hu, hu2, hop⟩ := hC
    have sb := STK_b hS
    have h73 : M.1 73 ≠ 0 := by omega
    rw [whl_eq, whl_eq]
    have e1 : (if M.1 73 = 0 then (0 : Int) else 1) = 1 := if_neg h73
    rw [e1]
    have kb : kfb_fm_goesOn_221 (i, K) = if topv K n = 58 then bnd (kf_fm_closeChoice K) fun y15 => if y15.1 = 0 then some (Sum.inl (cut (i + 1), y15.2.2)) else some (Sum.inr (Sum.inr (y15.1, y15.2.2))) else some (Sum.inr (Sum.inl K)) := by
      unfold kfb_fm_goesOn_221
      show (if (288 : Int) ≤ i then some (Sum.inr (Sum.inl K)) else bnd (kf_fm_top K) fun y11 => if y11 = 58 then bnd (kf_fm_closeChoice K) fun y15 => if y15.1 = 0 then some (Sum.inl (cut (i + 1), y15.2.2)) else some (Sum.inr (Sum.inr (y15.1, y15.2.2))) else some (Sum.inr (Sum.inl K))) = _
      rw [if_neg (by omega), top_k hn (by omega), bnd_some]
    rw [kb]
    rcases tv_lo hS ht with ⟨e, -⟩ | ⟨e, tv⟩ | ⟨e, tv⟩
    · omega
    · -- ( stands below
      have h76 : M.2 76 (M.1 73 - 1) = 2 := by
        rcases STK_i hS with ⟨e, -⟩ | ⟨t0, h0, n0, d0, e, -⟩ | ⟨t0, k0, n0, -, e73, -, -, -, e76, -⟩ | ⟨t0, k0, n0, p0, B0, d0, o1, o2, e, -⟩ | ⟨t0, k0, n0, p0, B0, d0, n1, p1, B1, e, -⟩
        · omega
        · omega
        · rw [show M.1 73 - 1 = k0 by omega]
          exact e76
        · omega
        · omega
      have n1 : n ≠ 0 := by
        intro q
        rw [q] at tv
        exact absurd (show (-1 : Int) = 40 from tv) (by decide)
      rw [tv, if_neg (by decide), bnd_some]
      unfold rfb_endChoice_33
      show RR (kfl_fm_goesOn_247 K) (bnd (bnd (if (1 : Int) = 0 then some (Sum.inr M) else if M.2 76 (cut (M.1 73 - 1)) = 0 then _ else some (Sum.inr M)) _) _) _
      rw [if_neg (by decide), cut_i (by omega) (by omega), if_neg (by omega), bnd_some]
      show RR (kfl_fm_goesOn_247 K) (rfl_endChoice_195 M) _
      unfold kfl_fm_goesOn_247 kfl_fm_goesOn_262 rfl_endChoice_195
      rw [if_neg (by omega), if_neg h73]
      intro y z hy hz
      cases hk : kf_fm_closeBracket K with
      | none => rw [hk] at hy; cases hy
      | some x =>
        rw [hk, bnd_some] at hy
        have r := bkt_s hC' h76 h73 x z hk hz
        by_cases x1 : x.1 = 0
        · rw [if_pos x1] at hy
          cases hy
          rcases r with ⟨-, r⟩ | ⟨r1, r2⟩
          · exact Or.inl ⟨rfl, r⟩
          · refine Or.inr ⟨r1, ?_⟩
            rcases r2 with r2 | r2
            · exact absurd x1 r2
            · exact Or.inr ⟨rfl, r2.2⟩
        · rw [if_neg x1] at hy
          cases hy
          rcases r with ⟨r, -⟩ | ⟨r1, r2⟩
          · exact absurd r x1
          · exact Or.inr ⟨r1, Or.inl x1⟩
    · -- a choice ends
      have h76 : M.2 76 (M.1 73 - 1) = 0 := by
        rcases STK_i hS with ⟨e, -⟩ | ⟨t0, h0, n0, d0, e, -⟩ | ⟨t0, k0, n0, e, -⟩ | ⟨t0, k0, n0, p0, B0, d0, o1, o2, -, e73, -, -, -, -, -, -, e76, -⟩ | ⟨t0, k0, n0, p0, B0, d0, n1, p1, B1, e, -⟩
        · omega
        · omega
        · omega
        · rw [show M.1 73 - 1 = k0 by omega]
          exact e76
        · omega
      rw [tv, if_pos rfl]
      intro y z hy hz
      cases hk : kf_fm_closeChoice K with
      | none => rw [hk] at hy; cases hy
      | some x =>
        cases hm : rfb_endChoice_33 (1, M) with
        | none => rw [hm] at hz; cases hz
        | some v =>
          rw [hk, bnd_some] at hy
          rw [hm, bnd_some] at hz
          rcases chc_s hC' h76 h73 x v hk hm with ⟨x1, M', rfl, q1, q2, q3, q4⟩ | ⟨q1, q2⟩
          · rw [if_pos x1, bnd_some, cut_i (by omega) (by omega)] at hy
            have hy : bnd (whl kfb_fm_goesOn_221 (i + 1, x.2.2)) (sel (fun e22 : mR => kfl_fm_goesOn_247 e22) (fun e25 : Int × mR => some (e25.1, 0, e25.2))) = some y := hy
            have hz : bnd (whl rfb_endChoice_33 ((if M'.1 73 = 0 then 0 else 1), M')) (fun e23 : mR => rfl_endChoice_195 e23) = some z := hz
            have r := ih (i + 1) x.2.2 M' q1 (by omega) (by omega) (by omega) y z hy hz
            rw [q3] at r
            exact r
          · have zf : 0 < z.2.1 10 := by
              cases v with
              | inl s =>
                have hz : bnd (whl rfb_endChoice_33 s) (fun e23 : mR => rfl_endChoice_195 e23) = some z := hz
                exact RP_e (P := fun z : Int × mR => 0 < z.2.1 10) hz (RP_bnd (uw_rfb_endChoice_33 s) (fun e he => RP_w (u_rfl_endChoice_195 e) (fun w hw => hw.2 (he.2 q1))))
              | inr e =>
                have hz : rfl_endChoice_195 e = some z := hz
                exact (u_rfl_endChoice_195 e z hz).2 q1
            refine Or.inr ⟨zf, ?_⟩
            rcases q2 with q2 | ⟨q2, q3⟩
            · rw [if_neg q2, bnd_some] at hy
              have hy : some (x.1, 0, x.2.2) = some y := hy
              cases hy
              exact Or.inl q2
            · rw [if_pos q2, bnd_some] at hy
              have hy : bnd (whl kfb_fm_goesOn_221 (cut (i + 1), x.2.2)) (sel (fun e22 : mR => kfl_fm_goesOn_247 e22) (fun e25 : Int × mR => some (e25.1, 0, e25.2))) = some y := hy
              exact ech_d q3 y hy
def gO (x : Int) (y : Int × Int × mR) (M' : mR) : Prop := gW (x + 1) y M' ∨ gC x y M'
def bO (y : Int × Int × mR) : Prop := y.1 ≠ 0 ∨ (y.1 = 0 ∧ ((y.2.1 = 0 ∧ DM y.2.2) ∨ (y.2.1 = 1 ∧ D2 y.2.2)))
/-- no sign waits any more -/
theorem fin_s {k : Int} (hE : EB K M) (hU : EU K M 2) (hh : M.1 73 = k + 1) (hk : M.2 76 k = 0) (hx : ∀ x : Nat, x < 9 → M.2 80 (9 * k + x) < 0) : RR (kfl_fm_goesOn_153 K) (rf_endOr k M) (PB (gO (M.1 8)) bO) := by
  have hU' := hU
  obtain ⟨t, n, p, Bd, hS, ht, hn, hp, hu, hu2, hop, hm⟩ := hU
  have sb0 := STK_b hS
  have hd := hE.2.2.2.1
  have hd2 := hE.2.2.2.2.1
  have hX := hE.1.2.1
  have hS' := hS
  rw [hh] at hS
  obtain ⟨-, t0, n9, p9, B9, d0, n1, p1, B1, ed, s, s3, hg, hW⟩ := STK_3 hS ht hk
  obtain ⟨rfl, rfl, rfl⟩ := WTS_dn (K := K) (M := M) 9 0 hW (fun x x0 x1 => hx x (by omega))
  have sb := STK_b s
  have k0 : 0 ≤ k := by omega
  have tt := top_k (K := K) hn (by omega)
  unfold kfl_fm_goesOn_153 rf_endOr
  rw [hX.1, tt, bnd_some]
  rcases tv_st s s3 hg with ⟨st, en, tv⟩ | ⟨st, tv⟩
  · rw [if_pos st]
    have tn : topv K n ≠ 63 := by omega
    rw [if_neg tn]
    refine RR_ii (wm_big hX.2.1 (by omega)) (fun _ w63 => ?_) (fun _ w63 => ?_)
    · exact PB_w (que_s (B := fun y => y.1 ≠ 0) (fun y hy => hy) hE hU' hh k0 hk st w63 hx) (fun y M' h => Or.inl h) (fun y h => Or.inl h)
    · unfold kfl_fm_goesOn_182 rfl_endOr_77
      rw [tt, bnd_some, if_neg tn, if_neg (by omega)]
      refine RR_tl ?_
      unfold rf_endChoice rfl_endChoice_32
      have ek : cut (M.1 73 - 1) = k := by rw [cut_i (by omega) (by omega)]; omega
      have e74 : cut (M.1 74 - 1) = M.1 74 - 1 := cut_i (by omega) (by omega)
      rw [ek, e74]
      have hC : EC K (mO M [(73, k), (74, M.1 74 - 1)] []) := by
        refine ⟨⟨hE.1, hE.2.1, hE.2.2.1, rfl, ?_, hE.2.2.2.2.2⟩, ?_, ?_, t0, n, p, Bd, ?_, s3, hn, hp, hu, hu2, hop⟩
        · show M.1 74 - 1 ≤ 24
          omega
        · show K.1 230 = M.1 74 - 1 + 1
          omega
        · show M.1 74 - 1 < 24
          omega
        · rcases hg with ⟨-, e1, e2, e3⟩ | ⟨e, -⟩
          · show STK K (mO M [(73, k), (74, M.1 74 - 1)] []) t0 k n p Bd (M.1 74 - 1)
            rw [e1, e2, e3]
            have s' : STK K M t0 k n9 p9 B9 (M.1 74 - 1) := by
              rw [show M.1 74 - 1 = d0 by omega]
              exact s
            exact STK_c s' (q := 9 * k) (AG_f (F := []) (A := []) (G := [73, 74]) (C := []) fr_0 (fr_m fr_0 rfl rfl) rfl rfl) (Int.le_refl _)
          · omega
      have main := ech_s k.toNat 0 K (mO M [(73, k), (74, M.1 74 - 1)] []) hC (show k = _ by omega) (by decide) (by omega)
      have fin : RR (bnd (whl kfb_fm_goesOn_221 (0, K)) (sel (fun e22 : mR => kfl_fm_goesOn_247 e22) (fun e25 : Int × mR => some (e25.1, 0, e25.2)))) (bnd (whl rfb_endChoice_33 ((if k = 0 then 0 else 1), mO M [(73, k), (74, M.1 74 - 1)] [])) (fun e23 : mR => rfl_endChoice_195 e23)) (PB (gO (M.1 8)) bO) := PB_w main (fun y M' h => Or.inr h) (fun y h => by
        rcases h with h | h
        · exact Or.inl h
        · exact Or.inr ⟨h.1, Or.inl h.2⟩)
      refine RR_ir (fun g => ?_) (fun g => ?_)
      · rw [if_pos (show k = 0 by omega)] at fin
        exact fin
      · rw [if_neg (show ¬ k = 0 by omega)] at fin
        exact fin
  · rw [if_pos tv, if_neg (show ¬ M.2 79 k = 0 by omega)]
    unfold kfl_fm_goesOn_182 rfl_endOr_77
    rw [tt, bnd_some, if_pos tv, if_pos st]
    have d := PB_w (col_s hE hU' hh k0 hk st hx) (P' := gO (M.1 8)) (B' := bO) (fun y M' h => Or.inl h) (fun y h => by
      rcases h with h | h
      · exact Or.inl h
      · exact Or.inr ⟨h.1, Or.inr h.2⟩)
    exact RR_il (fun _ => d) (fun _ => d)
end GON
