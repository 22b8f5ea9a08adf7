/-! ===== statements ===== -/
section KN2
variable {K M : mR} {n v1 x : Int}
theorem e278 {u : Int} (hu : u = 324 ∨ u = 325 ∨ u = 326) (K9 : mR) : kfl_rd_statement_48 v1 u n K9 = kfl_rd_statement_278 u n K9 := by
  unfold kfl_rd_statement_48 kfl_rd_statement_74 kfl_rd_statement_89 kfl_rd_statement_162
  rw [if_neg (by omega), if_neg (by omega), if_neg (by omega), if_neg (by omega), if_neg (by omega), if_neg (by omega), if_neg (by omega)]
/-- add and take an instance -/
theorem inst_s {u : Int} (hu : u = 324 ∨ u = 325) (h : DX n K M) (hc : CF u u n K M) (hx : x ≤ M.1 8) : RR (kfl_rd_statement_48 v1 u n K) (rfl_takeStatement_206 n M) (GV (fun a K2 _ M2 => a = n ∧ SG1 n (x + 1) K2 M2)) := by
  obtain ⟨q1, q2, q3, q4, q5, q6⟩ := hc
  rw [e278 (by omega)]
  have e292 : kfl_rd_statement_278 u n K = kfl_rd_statement_292 u n K := by
    unfold kfl_rd_statement_278
    rcases hu with e | e
    · rw [if_pos e]
    · rw [if_neg (by omega), if_pos e]
  rw [e292]
  unfold kfl_rd_statement_292 rfl_takeStatement_206
  rw [q6, if_neg (by omega), show (301 : Int) = smp 2 from rfl]
  refine RR_sq (G := fun a K2 b M2 => (a = b ∧ ∃ k, 0 ≤ k ∧ k < M.1 13 ∧ M.2 16 k = 2 ∧ b = M.2 17 k) ∧ LR K2 M2 ∧ fr kF_tx_known kA_tx_known K K2 ∧ fr rF_oldName rA_oldName M M2 ∧ M.1 8 + 1 ≤ M2.1 8) (A := fun _ => True) (B := fun _ => True) (known_s h.1.1 (s := 2) (by omega) (by omega) (by omega)) (RP_T _) (RP_T _) (fun z hz => RP_w (u_rfl_takeStatement_228 n z.1 z.2) (fun w hw => hw.2 hz)) (fun a K1 b M1 hG _ _ => ?_)
  obtain ⟨⟨a2, k, k0, k1, k2, k3⟩, g1, g2, g3, g4⟩ := hG
  have hD1 : DX n K1 M1 := DX_f h g1 g2 g3 rfl rfl rfl rfl
  have i1 := (h.1.2.1.2.1 k k0 k1).2.1 k2
  have i0 := (h.1.1.2.2.1.2.2.1 k k0 k1).2.2.2.2.2.2.1
  have h20 := h.1.2.1.1.2.2.1
  unfold kfl_rd_statement_314 rfl_takeStatement_228
  dsimp only
  rw [if_neg (by omega), cut_i (by omega) (by omega)]
  have f46 : fr [] [46] K1 (mO K1 [] [(46, upI (K1.2 46) n (a * 17))]) := fr_m fr_0 rfl rfl
  have f104 : fr [] [104] M1 (mO M1 [] [(104, upI (M1.2 104) n b)]) := fr_m fr_0 rfl rfl
  have hD2 : DX n (mO K1 [] [(46, upI (K1.2 46) n (a * 17))]) (mO M1 [] [(104, upI (M1.2 104) n b)]) := DX_p hD1 (XP_f hD1.1 g1 f46 f104 rfl rfl rfl rfl) ⟨fun _ _ => rfl, fun k hk => upI_n hk, fun _ _ => rfl, fun _ _ => rfl, fun _ _ => rfl, fun _ _ => rfl, fun _ _ => rfl⟩ ⟨fun _ _ => rfl, fun _ _ => rfl, fun _ _ => rfl, fun k hk => upI_n hk, fun _ _ => rfl, fun _ _ => rfl, fun _ _ => rfl, fun _ _ => rfl⟩ rfl f104 rfl rfl
  refine RR_w (st333_s (x := x) hD2 (by show x ≤ M1.1 8; omega)) (fun y z q => ?_)
  rcases q with ⟨r0, r1, r2, r4, r5, r6⟩ | q
  · refine Or.inl ⟨r0, r1, DX_e r2 r6 (Or.inr (Or.inr (Or.inr (Or.inl ⟨?_, ?_, ⟨?_, ?_, ?_⟩, ?_, ?_, ?_⟩))))⟩
    · rw [fr2 r5 101 rfl]
      show M1.2 101 n = 324 ∨ M1.2 101 n = 325
      rw [fr2 g3 101 rfl, q6]; exact hu
    · rw [fr2 r4 45 rfl, fr2 r5 101 rfl]
      show K1.2 45 n = M1.2 101 n
      rw [fr2 g2 45 rfl, fr2 g3 101 rfl, q1, q6]
    · rw [fr2 r5 104 rfl]
      show 0 ≤ upI (M1.2 104) n b n
      rw [upI_s]; omega
    · rw [fr2 r5 104 rfl, fr1 r5 20 rfl]
      show upI (M1.2 104) n b n < M1.1 20
      rw [upI_s, fr1 g3 20 rfl]; omega
    · rw [fr2 r4 46 rfl, fr2 r5 104 rfl]
      show upI (K1.2 46) n (a * 17) n = 17 * upI (M1.2 104) n b n
      rw [upI_s, upI_s]; omega
    · rw [fr2 r4 47 rfl]
      show K1.2 47 n = _
      rw [fr2 g2 47 rfl]; exact q3
    · rw [fr2 r4 49 rfl]
      show K1.2 49 n = _
      rw [fr2 g2 49 rfl]; exact q4
    · rw [fr2 r4 51 rfl]
      show K1.2 51 n = _
      rw [fr2 g2 51 rfl]; exact q5
  · exact Or.inr q
theorem drop_s (h : DX n K M) (hc : CF 326 326 n K M) (hx : x ≤ M.1 8) : RR (kfl_rd_statement_48 v1 326 n K) (rfl_takeStatement_206 n M) (GV (fun a K2 _ M2 => a = n ∧ SG1 n (x + 1) K2 M2)) := by
  obtain ⟨q1, q2, q3, q4, q5, q6⟩ := hc
  rw [e278 (by omega)]
  unfold kfl_rd_statement_278 kfl_rd_statement_314 rfl_takeStatement_206
  rw [if_neg (by decide), if_neg (by decide), if_pos rfl, if_pos q6]
  have f46 : fr [] [46] K (mO K [] [(46, upI (K.2 46) n 220)]) := fr_m fr_0 rfl rfl
  have hD2 : DX n (mO K [] [(46, upI (K.2 46) n 220)]) M := DX_p (G := []) (C := []) h (XP_f (G := []) (C := []) h.1 h.1.1 f46 fr_0 rfl rfl rfl rfl) ⟨fun _ _ => rfl, fun k hk => upI_n hk, fun _ _ => rfl, fun _ _ => rfl, fun _ _ => rfl, fun _ _ => rfl, fun _ _ => rfl⟩ ⟨fun _ _ => rfl, fun _ _ => rfl, fun _ _ => rfl, fun _ _ => rfl, fun _ _ => rfl, fun _ _ => rfl, fun _ _ => rfl, fun _ _ => rfl⟩ rfl fr_0 rfl rfl
  refine RR_w (st333_s (x := x) hD2 hx) (fun y z q => ?_)
  rcases q with ⟨r0, r1, r2, r4, r5, r6⟩ | q
  · refine Or.inl ⟨r0, r1, DX_e r2 r6 (Or.inr (Or.inr (Or.inr (Or.inr ⟨?_, ?_, ?_, ?_, ?_, ?_⟩))))⟩
    · rw [fr2 r5 101 rfl]; exact q6
    · rw [fr2 r4 45 rfl]; exact q1
    · rw [fr2 r4 46 rfl]
      show upI (K.2 46) n 220 n = 220
      rw [upI_s]
    · rw [fr2 r4 47 rfl]; exact q3
    · rw [fr2 r4 49 rfl]; exact q4
    · rw [fr2 r4 51 rfl]; exact q5
  · exact Or.inr q
def isSt (w : Int) : Prop := w = 1 ∨ w = 324 ∨ w = 325 ∨ w = 326 ∨ w = 327 ∨ w = 328
/-- a statement -/
theorem statement_s (h : XP K M) (hD : DE K M) (hb : M.1 99 ≤ M.1 8) (hv : v1 = M.1 64) (hw : isSt (M.1 7)) : RR (kf_rd_statement v1 K) (rf_takeStatement M) (GV (fun a K2 _ M2 => a = M.1 99 ∧ SG1 (M.1 99) (M.1 8 + 1) K2 M2)) := by
  have hX := h.1.2.1
  have b4 := h.1.1.1.2.1
  have b6 := hX.2.2.2.2.1
  have hn := hD.1.1
  have n0 := hD.1.2
  unfold kf_rd_statement rf_takeStatement
  rw [hX.1, cut_i (z := M.1 99 + 1) (by omega) (by omega)]
  have row : ∀ u, kfl_rd_statement_25 v1 u K = (if u = 61 then kfl_rd_statement_48 v1 u (M.1 99) (mO K [(224, M.1 99 + 1)] [(45, upI (K.2 45) (M.1 99) u), (46, upI (K.2 46) (M.1 99) (-1)), (47, upI (K.2 47) (M.1 99) (-1)), (49, upI (K.2 49) (M.1 99) (-1)), (51, upI (K.2 51) (M.1 99) (-1))]) else bnd (kf_tx_advance (mO K [(224, M.1 99 + 1)] [(45, upI (K.2 45) (M.1 99) u), (46, upI (K.2 46) (M.1 99) (-1)), (47, upI (K.2 47) (M.1 99) (-1)), (49, upI (K.2 49) (M.1 99) (-1)), (51, upI (K.2 51) (M.1 99) (-1))])) fun y49 => if y49.1 = 0 then kfl_rd_statement_48 v1 u (M.1 99) y49.2.2 else some (y49.1, 0, y49.2.2)) := by
    intro u
    unfold kfl_rd_statement_25 kf_ac_addDeed
    rw [bnd_some, hn, cut_i (by omega) (by omega)]
  have cf : ∀ u, CF u (M.1 7) (M.1 99) (mO K [(224, M.1 99 + 1)] [(45, upI (K.2 45) (M.1 99) u), (46, upI (K.2 46) (M.1 99) (-1)), (47, upI (K.2 47) (M.1 99) (-1)), (49, upI (K.2 49) (M.1 99) (-1)), (51, upI (K.2 51) (M.1 99) (-1))]) (mO M [(99, M.1 99 + 1)] [(101, upI (M.2 101) (M.1 99) (M.1 7))]) := fun u => ⟨upI_s, upI_s, upI_s, upI_s, upI_s, upI_s⟩
  by_cases w1 : M.1 7 = 1
  · rw [if_pos ((wm_256 hX.2.1).mpr w1), if_pos w1, row 61, if_pos rfl]
    have c := cf 61
    rw [w1] at c
    rw [w1]
    have d := row_s (u := 61) h hD (by omega)
    rw [w1] at d
    exact put_s (x := M.1 8) d c hv (Int.le_refl _)
  · have e7 : wm (M.1 7) = M.1 7 := (wm_big hX.2.1 (c := M.1 7) (by unfold isSt at hw; omega)).mpr rfl
    rw [if_neg (fun q => w1 ((wm_256 hX.2.1).mp q)), if_neg w1, e7, row (M.1 7), if_neg (by unfold isSt at hw; omega)]
    have d := row_s (u := M.1 7) h hD (by omega)
    have adv := adv_s d.1.1 (show M.1 7 ≠ 0 by unfold isSt at hw; omega)
    have step : ∀ {l : mR → Option (Int × mR)}, (∀ m, 0 < m.1 10 → RP (l m) (fun w => 0 < w.2.1 10)) → (∀ K1 M1, DX (M.1 99) K1 M1 → CF (M.1 7) (M.1 7) (M.1 99) K1 M1 → v1 = M1.1 64 → M.1 8 ≤ M1.1 8 → RR (kfl_rd_statement_48 v1 (M.1 7) (M.1 99) K1) (l M1) (GV (fun a K2 _ M2 => a = M.1 99 ∧ SG1 (M.1 99) (M.1 8 + 1) K2 M2))) → RR (bnd (kf_tx_advance (mO K [(224, M.1 99 + 1)] [(45, upI (K.2 45) (M.1 99) (M.1 7)), (46, upI (K.2 46) (M.1 99) (-1)), (47, upI (K.2 47) (M.1 99) (-1)), (49, upI (K.2 49) (M.1 99) (-1)), (51, upI (K.2 51) (M.1 99) (-1))])) fun y49 => if y49.1 = 0 then kfl_rd_statement_48 v1 (M.1 7) (M.1 99) y49.2.2 else some (y49.1, 0, y49.2.2)) (bnd (rf_next (mO M [(99, M.1 99 + 1)] [(101, upI (M.2 101) (M.1 99) (M.1 7))])) fun y => l y.2) (GV (fun a K2 _ M2 => a = M.1 99 ∧ SG1 (M.1 99) (M.1 8 + 1) K2 M2)) := by
      intro l hs cont
      refine RR_sq (G := fun _ K1 _ M1 => LR K1 M1 ∧ fr kF_tx_advance kA_tx_advance (mO K [(224, M.1 99 + 1)] [(45, upI (K.2 45) (M.1 99) (M.1 7)), (46, upI (K.2 46) (M.1 99) (-1)), (47, upI (K.2 47) (M.1 99) (-1)), (49, upI (K.2 49) (M.1 99) (-1)), (51, upI (K.2 51) (M.1 99) (-1))]) K1 ∧ fr rF_next rA_next (mO M [(99, M.1 99 + 1)] [(101, upI (M.2 101) (M.1 99) (M.1 7))]) M1 ∧ M.1 8 + 1 ≤ M1.1 8) (A := fun _ => True) (B := fun _ => True) adv (RP_T _) (RP_T _) (fun z hz => hs z.2 hz) (fun a K1 b M1 hG _ _ => ?_)
      obtain ⟨g1, g2, g3, g4⟩ := hG
      have c := cf (M.1 7)
      obtain ⟨c1, c2, c3, c4, c5, c6⟩ := c
      refine cont K1 M1 (DX_f d g1 g2 g3 rfl rfl rfl rfl) ⟨?_, ?_, ?_, ?_, ?_, ?_⟩ (hv.trans (fr1 g3 64 rfl).symm) (by omega)
      · rw [fr2 g2 45 rfl]; exact c1
      · rw [fr2 g2 46 rfl]; exact c2
      · rw [fr2 g2 47 rfl]; exact c3
      · rw [fr2 g2 49 rfl]; exact c4
      · rw [fr2 g2 51 rfl]; exact c5
      · rw [fr2 g3 101 rfl]; exact c6
    by_cases w7 : M.1 7 = 327
    · rw [if_pos w7]
      refine step (fun m hm => RP_w (u_rfl_takeStatement_77 _ m) (fun w hw => hw.2 hm)) (fun K1 M1 d c e g => ?_)
      rw [w7] at c ⊢
      exact load_s (x := M.1 8) d c e g
    · rw [if_neg w7]
      by_cases w8 : M.1 7 = 328
      · rw [if_pos w8]
        refine step (fun m hm => RP_w (u_rfl_takeStatement_160 _ m) (fun w hw => hw.2 hm)) (fun K1 M1 d c e g => ?_)
        rw [w8] at c ⊢
        exact store_s (x := M.1 8) d c e g
      · rw [if_neg w8]
        refine step (fun m hm => RP_w (u_rfl_takeStatement_206 _ m) (fun w hw => hw.2 hm)) (fun K1 M1 d c e g => ?_)
        by_cases w6 : M.1 7 = 326
        · rw [w6] at c ⊢
          exact drop_s (x := M.1 8) d c g
        · exact inst_s (x := M.1 8) (by unfold isSt at hw; omega) d c g
theorem isSt_s (h : LR K M) : RR (kf_rd_isStatement K) (rf_isStatement M) (fun a b => (a = 1 ∧ b = 1 ∧ isSt (M.1 7)) ∨ (a = 0 ∧ b = 0 ∧ ¬ isSt (M.1 7))) := by
  have hX := h.2.1
  unfold kf_rd_isStatement rf_isStatement rfl_isStatement_58 rfl_isStatement_63
  rw [hX.1]
  by_cases w1 : M.1 7 = 1
  · rw [if_pos ((wm_256 hX.2.1).mpr w1), if_pos w1]
    exact RR_some (Or.inl ⟨rfl, rfl, Or.inl w1⟩)
  · rw [if_neg (fun q => w1 ((wm_256 hX.2.1).mp q)), if_neg w1]
    have e : ∀ c : Int, 300 ≤ c → c ≤ 330 → (wm (M.1 7) = c ↔ M.1 7 = c) := fun c c0 c1 => wm_big hX.2.1 (Or.inr ⟨c0, c1⟩)
    by_cases hs : isSt (M.1 7)
    · refine RR_w (RR_pr (A := fun a : Int => a = 1) (B := fun b : Int => b = 1) ?_ ?_) (fun a b q => Or.inl ⟨q.1, q.2, hs⟩)
      · refine RP_ite (fun _ => RP_some rfl) (fun g1 => RP_ite (fun _ => RP_some rfl) (fun g2 => RP_ite (fun _ => RP_some rfl) (fun g3 => RP_ite (fun _ => RP_some rfl) (fun g4 => RP_ite (fun _ => RP_some rfl) (fun g5 => ?_)))))
        rw [e 324 (by omega) (by omega)] at g1
        rw [e 325 (by omega) (by omega)] at g2
        rw [e 326 (by omega) (by omega)] at g3
        rw [e 327 (by omega) (by omega)] at g4
        rw [e 328 (by omega) (by omega)] at g5
        unfold isSt at hs
        omega
      · refine RP_ite (fun _ => RP_some rfl) (fun g1 => RP_ite (fun _ => RP_some rfl) (fun g2 => RP_ite (fun _ => RP_some rfl) (fun g3 => RP_ite (fun _ => RP_some rfl) (fun g4 => RP_ite (fun _ => RP_some rfl) (fun g5 => ?_)))))
        unfold isSt at hs
        omega
    · have hs' := hs
      unfold isSt at hs
      rw [if_neg (fun q => by have := (e 324 (by omega) (by omega)).mp q; omega), if_neg (fun q => by have := (e 325 (by omega) (by omega)).mp q; omega), if_neg (fun q => by have := (e 326 (by omega) (by omega)).mp q; omega), if_neg (fun q => by have := (e 327 (by omega) (by omega)).mp q; omega), if_neg (fun q => by have := (e 328 (by omega) (by omega)).mp q; omega), if_neg (by omega), if_neg (by omega), if_neg (by omega), if_neg (by omega), if_neg (by omega)]
      exact RR_some (Or.inr ⟨rfl, rfl, hs'⟩)
end KN2
