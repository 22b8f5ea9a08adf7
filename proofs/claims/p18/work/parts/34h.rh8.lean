/-! ===== a table, from its word to its end ===== -/
section TA8
variable {K M : mR} {t : Int}
theorem exp_x (h : LR K M) {c : Int} (hc : (33 ≤ c ∧ c ≤ 126) ∨ (300 ≤ c ∧ c ≤ 330)) (hw : M.1 7 ≠ c) : RP (kf_tx_expect c K) (fun y => y.1 ≠ 0) := by
  have hX := h.2.1
  unfold kf_tx_expect
  rw [hX.1, if_neg (fun q => hw ((wm_big hX.2.1 hc).mp q))]
  exact thr_l (refuse_1 _)
def ZZ (t : Int) (K : mR) : Prop := K.2 76 t = 0 ∧ K.2 77 t = 0
theorem ZZ_f {F A : List Nat} {K' : mR} (h : ZZ t K) (hK : fr F A K K') (c2 : chk [76, 77] A = true) : ZZ t K' := by
  unfold ZZ
  rw [fr2 hK 76 (chk_1 c2 (by decide)), fr2 hK 77 (chk_1 c2 (by decide))]
  exact h
theorem tab144_s {x : Int} (h : TY t K M) (hz : ZZ t K) (hx : x ≤ M.1 8) : RR (kfl_rd_table_144 t K) (bnd (rfl_takeList_183 M) fun y14 => rfl_takeTable_408 t y14.2) (GV (TG t x)) := by
  unfold kfl_rd_table_144 rfl_takeList_183
  rw [bnd_a]
  have s408 : ∀ z : Int × mR, 0 < z.2.1 10 → RP (bnd (some ((0 : Int), z.2)) fun y14 => rfl_takeTable_408 t y14.2) (fun w => 0 < w.2.1 10) := fun z hz => RP_w (u_rfl_takeTable_408 t z.2) (fun w hw => hw.2 hz)
  refine RR_sq (G := fun _ K1 _ M1 => LR K1 M1 ∧ fr kF_tx_expect kA_tx_expect K K1 ∧ fr rF_need rA_need M M1 ∧ M.1 8 + 1 ≤ M1.1 8) (A := fun _ => True) (B := fun _ => True) (exp_s h.1.1 (c := 59) (by omega)) (RP_T _) (RP_T _) s408 (fun _ K1 _ M1 hG _ _ => ?_)
  obtain ⟨g1, g2, g3, g4⟩ := hG
  have h1 : TY t K1 M1 := TY_f h g1 g2 g3 rfl rfl rfl rfl
  have z1 : ZZ t K1 := ZZ_f hz g2 rfl
  show RR _ (rfl_takeTable_408 t M1) _
  unfold rfl_takeTable_408 rf_takeElse
  rw [bnd_a]
  have s413 : ∀ z : Int × mR, 0 < z.2.1 10 → RP (rfl_takeTable_413 t z.2) (fun w => 0 < w.2.1 10) := fun z hz => RP_w (u_rfl_takeTable_413 t z.2) (fun w hw => hw.2 hz)
  refine RR_sq (G := fun _ K2 _ M2 => LR K2 M2 ∧ fr kF_tx_expect kA_tx_expect K1 K2 ∧ fr rF_need rA_need M1 M2 ∧ M1.1 8 + 1 ≤ M2.1 8) (A := fun _ => True) (B := fun _ => True) (exp_s g1 (c := 308) (by omega)) (RP_T _) (RP_T _) (fun z hz => RP_bnd (u_rfl_takeElse_7 t z.2) (fun w hw => s413 w (hw.2 hz))) (fun _ K2 _ M2 hG _ _ => ?_)
  obtain ⟨f1, f2, f3, f4⟩ := hG
  have h2 : TY t K2 M2 := TY_f h1 f1 f2 f3 rfl rfl rfl rfl
  have z2 : ZZ t K2 := ZZ_f z1 f2 rfl
  dsimp only
  refine RR_sq (A := fun q => fr kF_rd_defaultLine kA_rd_defaultLine K2 q) (B := fun _ => True) (default_s (x := x) h2 (by omega)) (u_kf_rd_defaultLine t K2) (RP_T _) s413 (fun _ K3 _ M3 hG fK3 _ => ?_)
  obtain ⟨h3, x3⟩ := hG
  have z3 : ZZ t K3 := ZZ_f z2 fK3 rfl
  unfold rfl_takeTable_413 rf_takeRoom
  dsimp only
  rw [bnd_a]
  have s418 : ∀ z : Int × mR, 0 < z.2.1 10 → RP (rfl_takeTable_418 z.2) (fun w => 0 < w.2.1 10) := fun z hz => RP_w (u_rfl_takeTable_418 z.2) (fun w hw => hw.2 hz)
  refine RR_sq (G := fun _ K4 _ M4 => LR K4 M4 ∧ fr kF_tx_expect kA_tx_expect K3 K4 ∧ fr rF_need rA_need M3 M4 ∧ M3.1 8 + 1 ≤ M4.1 8) (A := fun _ => True) (B := fun _ => True) (exp_s h3.1.1.1 (c := 316) (by omega)) (RP_T _) (RP_T _) (fun z hz => RP_bnd (u_rfl_takeRoom_7 t z.2) (fun w hw => s418 w (hw.2 hz))) (fun _ K4 _ M4 hG _ _ => ?_)
  obtain ⟨i1, i2, i3, i4⟩ := hG
  have h4 : TD t K4 M4 := TD_f h3 i1 i2 i3 rfl rfl rfl rfl
  have z4 : ZZ t K4 := ZZ_f z3 i2 rfl
  dsimp only
  refine RR_sq (A := fun _ => True) (B := fun _ => True) (room_s (x := x) h4 z4.1 z4.2 (by omega)) (RP_T _) (RP_T _) s418 (fun _ K5 _ M5 hG _ _ => ?_)
  obtain ⟨⟨h5, h64, h26, hTB⟩, x5⟩ := hG
  unfold rfl_takeTable_418
  dsimp only
  refine RR_sq (G := fun _ K6 _ M6 => LR K6 M6 ∧ fr kF_tx_expect kA_tx_expect K5 K6 ∧ fr rF_need rA_need M5 M6 ∧ M5.1 8 + 1 ≤ M6.1 8) (A := fun _ => True) (B := fun _ => True) (exp_s h5.1 (c := 125) (by omega)) (RP_T _) (RP_T _) (fun z hz => RP_some hz) (fun _ K6 _ M6 hG _ _ => ?_)
  obtain ⟨j1, j2, j3, j4⟩ := hG
  refine RR_some (Or.inl ⟨rfl, ⟨XP_f h5 j1 j2 j3 rfl rfl rfl rfl, (fr1 j3 64 rfl).trans h64, by rw [fr1 j3 26 rfl]; exact h26, fun b b0 b1 => ?_⟩, by show x ≤ M6.1 8; omega⟩)
  rw [fr1 j3 25 rfl]
  exact TB1_c (hTB b b0 b1) (AT_f j2 j3 rfl rfl)
theorem tab100_s {p q x : Int} (h : TX t K M) (hz : ZZ t K) (k73 : K.2 73 t = 0) (m53 : M.2 53 t = 0) (hpq : PM t p q M) (hx : x ≤ M.1 8) : RR (kfl_rd_table_100 t K) (rfl_takeTable_384 t p q M) (GV (TG t x)) := by
  obtain ⟨hX, h64, ⟨t0, t1⟩, hTB, hTK⟩ := h
  have t8 := hX.2.1.1.2.2.2.2.2.2.2.2.1
  -- what the keys are
  have go : ∀ v : Int, v = (if p = 0 then (if q = 0 then 1 else 0) else 0) → RR (kfl_rd_table_100 t K) (rfl_takeTable_402 t t v M) (GV (TG t x)) := by
    intro v hv
    have nv : nar1 v = v := by
      by_cases e1 : p = 0
      · by_cases e2 : q = 0
        · rw [hv, if_pos e1, if_pos e2]; rfl
        · rw [hv, if_pos e1, if_neg e2]; rfl
      · rw [hv, if_neg e1]; rfl
    unfold kfl_rd_table_100 rfl_takeTable_402
    rw [nv]
    have eN : ∃ N, N = mO M [] [(58, upI (M.2 58) t v)] := ⟨_, rfl⟩
    obtain ⟨N, eN⟩ := eN
    rw [← eN]
    have fN : fr [] [58] M N := by rw [eN]; exact fr_m fr_0 rfl rfl
    have n58 : N.2 58 = upI (M.2 58) t v := by rw [eN]; rfl
    have hL : LR K N := by rw [eN]; exact hX.1
    clear eN
    have hTKN : TK t K N := TK_f hTK (fr_0 : fr [] [] K K) fN rfl rfl
    have hpqN : PM t p q N := by
      unfold PM
      rw [fr2 fN 51 rfl, fr2 fN 113 rfl]
      exact hpq
    have hYN : TY t K N := by
      refine ⟨XP_f hX hL (fr_0 : fr [] [] K K) fN rfl rfl rfl rfl, (fr1 fN 64 rfl).trans h64, ⟨t0, by rw [fr1 fN 26 rfl]; exact t1⟩, fun b b0 b1 => ?_, hTKN, TE_pm hTKN hpqN (by rw [n58, upI_s, hv]), ?_⟩
      · rw [fr1 fN 25 rfl]
        refine TB1_c (hTB b b0 b1) ⟨⟨rfl, rfl, rfl, rfl, rfl, rfl⟩, fun j j0 j1 => ⟨rfl, rfl, rfl, rfl, rfl⟩, ⟨?_, ?_, ?_, ?_, ?_, ?_, ?_, ?_⟩, fun j j0 j1 => ⟨?_, ?_, ?_, ?_⟩, fun j j0 j1 => ?_⟩
        · rw [fr2 fN 51 rfl]
        · rw [fr2 fN 52 rfl]
        · rw [fr2 fN 53 rfl]
        · rw [fr2 fN 54 rfl]
        · rw [fr2 fN 55 rfl]
        · rw [fr2 fN 56 rfl]
        · rw [fr2 fN 57 rfl]
        · rw [n58, upI_n (by omega)]
        · rw [fr2 fN 110 rfl]
        · rw [fr2 fN 111 rfl]
        · rw [fr2 fN 112 rfl]
        · rw [fr2 fN 113 rfl]
        · rw [fr2 fN 114 rfl]
      · unfold TL
        rw [fr2 fN 53 rfl, k73, m53]
        exact ⟨rfl, by decide, by decide, fun i i0 i1 => absurd i1 (by omega)⟩
    have s408 : ∀ z : Int × mR, 0 < z.2.1 10 → RP (rfl_takeTable_408 t z.2) (fun w => 0 < w.2.1 10) := fun z hz => RP_w (u_rfl_takeTable_408 t z.2) (fun w hw => hw.2 hz)
    unfold rf_takeList
    rw [bnd_a]
    refine RR_sq (G := fun _ K1 _ M1 => LR K1 M1 ∧ fr kF_tx_expect kA_tx_expect K K1 ∧ fr rF_need rA_need N M1 ∧ N.1 8 + 1 ≤ M1.1 8) (A := fun _ => True) (B := fun _ => True) (exp_s hL (c := 315) (by omega)) (RP_T _) (RP_T _) (fun z hz => RP_bnd (u_rfl_takeList_7 t z.2) (fun w hw => s408 w (hw.2 hz))) (fun _ K1 _ M1 hG _ _ => ?_)
    obtain ⟨g1, g2, g3, g4⟩ := hG
    have h1 : TY t K1 M1 := TY_f hYN g1 g2 g3 rfl rfl rfl rfl
    have z1 : ZZ t K1 := ZZ_f hz g2 rfl
    unfold rfl_takeList_7
    dsimp only
    rw [bnd_a]
    intro u w hu hw
    cases hc : whl (rfb_takeList_9 t) (0, M1) with
    | none => rw [hc] at hw; cases hw
    | some e =>
      rw [hc, bnd_some] at hw
      obtain ⟨c1, c2⟩ := clear_r e hc
      have hLe : LR K1 e := LR_g g1 (fr_0 : fr [] [] K1 K1) c1 rfl rfl rfl rfl g1.2.2.2.1 ((fr1 c1 10 rfl).trans g1.2.2.2.2)
      have h2 : TY t K1 e := TY_f h1 hLe (fr_0 : fr [] [] K1 K1) c1 rfl rfl rfl rfl
      have e53 : e.2 53 t = 0 := by rw [fr2 c1 53 rfl, fr2 g3 53 rfl, fr2 fN 53 rfl]; exact m53
      have hS : LSt t e := fun a a0 a1 => Or.inr ⟨c2 a a0 a1, fun j j0 j1 => absurd j1 (by omega)⟩
      unfold rfl_takeList_28 at hw
      rw [bnd_a] at hw
      have e8 : e.1 8 = M1.1 8 := fr1 c1 8 rfl
      have n8 : N.1 8 = M.1 8 := fr1 fN 8 rfl
      cases hk : whl (kfb_rd_table_115 t) (1, 0, K1) with
      | none => rw [hk] at hu; cases hu
      | some a =>
        cases hq : whl (rfb_takeList_30 t) (1, e) with
        | none => rw [hq] at hw; cases hw
        | some b =>
          rw [hk, bnd_some] at hu
          rw [hq, bnd_some] at hw
          have fa := uw_kfb_rd_table_115 t (1, 0, K1) a hk
          rcases list_s (x := x) (s := (1, 0, K1)) (w := (1, e)) ⟨h2, hS, e53.symm, rfl, Or.inr rfl, by show x ≤ e.1 8; omega⟩ a b hk hq with ⟨K5, M5, rfl, rfl, h5, x5⟩ | ⟨⟨d, rfl, hd⟩, hb⟩
          · exact tab144_s h5 (ZZ_f z1 fa rfl) x5 u w hu hw
          · refine Or.inr ⟨?_, ?_⟩
            · cases hu
              exact hd
            · cases b with
              | inl m => exact s408 (0, m) hb w hw
              | inr m =>
                exact RP_bnd (u_rfl_takeList_183 m) (fun z hz => s408 z (hz.2 hb)) w hw
  unfold rfl_takeTable_384 rfl_takeTable_401
  by_cases e1 : p = 0
  · by_cases e2 : q = 0
    · rw [if_pos e1, if_pos e2]
      exact go 1 (by rw [if_pos e1, if_pos e2])
    · rw [if_pos e1, if_neg e2]
      exact go 0 (by rw [if_pos e1, if_neg e2])
  · rw [if_neg e1]
    exact go 0 (by rw [if_neg e1])
end TA8
