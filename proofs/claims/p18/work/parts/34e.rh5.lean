/-! ===== tables: the list of actions ===== -/
section LI5
variable {K M : mR} {t : Int}
def FV4 (v : Sum (Int × mR) (Sum mR mR)) : Prop := sel (fun s => 0 < s.2.1 10) (sel (fun m => 0 < m.1 10) (fun m => 0 < m.1 10)) v
theorem FV4_u {m : mR} {F A : List Nat} {X : Option (Sum (Int × mR) (Sum mR mR))} (h : RP X (sel (fun z : Int × mR => UR F A m z.2) (sel (fun z : mR => UR F A m z) (fun z : mR => UR F A m z)))) (hf : 0 < m.1 10) : RP X FV4 := RP_w h (fun v hv => by
  cases v with
  | inl s => exact hv.2 hf
  | inr r =>
    cases r with
    | inl q => exact hv.2 hf
    | inr q => exact hv.2 hf)
theorem TY_list {a i : Int} (h : TY t K M) (hi : i = M.2 53 t) (i8 : i < 8) (a0 : 0 ≤ a) (a1 : a < M.1 25) : TY t (mO K [] [(73, upI (K.2 73) t (i + 1)), (83, upI (K.2 83) (65536 * t + i) a)]) (mO M [] [(53, upI (M.2 53) t (i + 1)), (114, upI (M.2 114) (8 * t + i) a), (116, upI (M.2 116) a 1)]) := by
  obtain ⟨h1, h2, h3, h4, h5, h6, ⟨l1, l2, l3, l4⟩⟩ := h
  have fK : fr [] [73, 83] K (mO K [] [(73, upI (K.2 73) t (i + 1)), (83, upI (K.2 83) (65536 * t + i) a)]) := fr_m fr_0 rfl rfl
  have fM : fr [] [53, 114, 116] M (mO M [] [(53, upI (M.2 53) t (i + 1)), (114, upI (M.2 114) (8 * t + i) a), (116, upI (M.2 116) a 1)]) := fr_m fr_0 rfl rfl
  refine ⟨XP_f h1 h1.1 fK fM rfl rfl rfl rfl, h2, h3, fun b b0 b1 => ?_, TK_f h5 fK fM rfl rfl, TE_f h6 fM rfl, ?_⟩
  · refine TB1_c (h4 b b0 b1) ⟨⟨rfl, upI_n (by omega), rfl, rfl, rfl, rfl⟩, fun j j0 j1 => ⟨rfl, rfl, rfl, rfl, upI_n (by omega)⟩, ⟨rfl, rfl, upI_n (by omega), rfl, rfl, rfl, rfl, rfl⟩, fun j j0 j1 => ⟨rfl, rfl, rfl, rfl⟩, fun j j0 j1 => upI_n (by omega)⟩
  · show upI (K.2 73) t (i + 1) t = upI (M.2 53) t (i + 1) t ∧ 0 ≤ upI (M.2 53) t (i + 1) t ∧ upI (M.2 53) t (i + 1) t ≤ 8 ∧ ∀ j, 0 ≤ j → j < upI (M.2 53) t (i + 1) t → upI (K.2 83) (65536 * t + i) a (65536 * t + j) = upI (M.2 114) (8 * t + i) a (8 * t + j) ∧ 0 ≤ upI (M.2 114) (8 * t + i) a (8 * t + j) ∧ upI (M.2 114) (8 * t + i) a (8 * t + j) < M.1 25
    rw [upI_s, upI_s]
    refine ⟨rfl, by omega, by omega, fun j j0 j1 => ?_⟩
    by_cases e : j = i
    · subst e
      rw [upI_s, upI_s]
      exact ⟨rfl, a0, a1⟩
    · rw [upI_n (by omega), upI_n (by omega)]
      exact l4 j j0 (by omega)
def lsI (t x : Int) (s : Int × Int × mR) (w : Int × mR) : Prop := TY t s.2.2 w.2 ∧ LSt t w.2 ∧ s.2.1 = w.2.2 53 t ∧ s.1 = w.1 ∧ (w.1 = 0 ∨ w.1 = 1) ∧ x ≤ w.2.1 8
def lsE (t x : Int) (u : Sum mR (Int × mR)) (w : Sum mR mR) : Prop := (∃ K M, u = Sum.inl K ∧ w = Sum.inr M ∧ TY t K M ∧ x ≤ M.1 8) ∨ ((∃ e : Int × mR, u = Sum.inr e ∧ e.1 ≠ 0) ∧ sel (fun m => 0 < m.1 10) (fun m => 0 < m.1 10) w)
theorem list_s {x : Int} {s : Int × Int × mR} {w : Int × mR} (hI : lsI t x s w) : RR (whl (kfb_rd_table_115 t) s) (whl (rfb_takeList_30 t) w) (lsE t x) := by
  refine RR_whl2 (I := lsI t x) (fun s w hI => ?_) hI
  obtain ⟨more, i, K⟩ := s
  obtain ⟨more', M⟩ := w
  obtain ⟨hT, hS, hi, hm, hm2, hx⟩ := hI
  have hT : TY t K M := hT
  have hS : LSt t M := hS
  have hi : i = M.2 53 t := hi
  have hm : more = more' := hm
  have hm2 : more' = 0 ∨ more' = 1 := hm2
  have hx : x ≤ M.1 8 := hx
  have hT0 := hT
  obtain ⟨hXP, h64, ⟨t0, t1⟩, hTB, hTK, hTE, ⟨l1, l2, l3, l4⟩⟩ := hT
  have hX := hXP.1.2.1
  have hf := hXP.1.2.2.2.2
  have t8 := hXP.2.1.1.2.2.2.2.2.2.2.2.1
  have r7 := hXP.2.1.1.2.2.2.2.2.2.2.1
  have deadw : ∀ (z : Int × mR), 0 < z.2.1 10 → RP (whl (rfb_takeList_30 t) z) (sel (fun m => 0 < m.1 10) (fun m => 0 < m.1 10)) := fun z hz => RP_w (uw_rfb_takeList_30 t z) (fun v hv => by
    cases v with
    | inl m => exact hv.2 hz
    | inr m => exact hv.2 hz)
  -- the class has thrown, the reference has its fault
  have badv : ∀ (e : Int × mR) (v : Sum (Int × mR) (Sum mR mR)), e.1 ≠ 0 → FV4 v → (∃ s' t', (Sum.inr (Sum.inr e) : Sum (Int × Int × mR) (Sum mR (Int × mR))) = .inl s' ∧ v = .inl t' ∧ lsI t x s' t') ∨ (∃ x' y, (Sum.inr (Sum.inr e) : Sum (Int × Int × mR) (Sum mR (Int × mR))) = .inr x' ∧ v = .inr y ∧ lsE t x x' y) ∨ (∃ x' t', (Sum.inr (Sum.inr e) : Sum (Int × Int × mR) (Sum mR (Int × mR))) = .inr x' ∧ v = .inl t' ∧ RP (whl (rfb_takeList_30 t) t') (lsE t x x')) ∨ (∃ s' y, (Sum.inr (Sum.inr e) : Sum (Int × Int × mR) (Sum mR (Int × mR))) = .inl s' ∧ v = .inr y ∧ RP (whl (kfb_rd_table_115 t) s') (fun x' => lsE t x x' y)) := by
    intro e v he hv
    cases v with
    | inl s' => exact Or.inr (Or.inr (Or.inl ⟨_, _, rfl, rfl, RP_w (deadw s' hv) (fun w hw => Or.inr ⟨⟨_, rfl, he⟩, hw⟩)⟩))
    | inr r => exact Or.inr (Or.inl ⟨_, _, rfl, rfl, Or.inr ⟨⟨_, rfl, he⟩, hv⟩⟩)
  unfold kfb_rd_table_115 rfb_takeList_30
  show RR (if (8 : Int) < i then some (Sum.inr (Sum.inl K)) else if more = 0 then some (Sum.inr (Sum.inl K)) else bnd (kf_rd_listedAction t i K) fun y24 => if y24.1 = 0 then bnd (kf_rd_goesOnList y24.2.2) fun y27 => if y27.1 = 0 then some (Sum.inl (y27.2.1, cut (i + 1), y27.2.2)) else some (Sum.inr (Sum.inr (y27.1, y27.2.2))) else some (Sum.inr (Sum.inr (y24.1, y24.2.2)))) (if more' = 0 then some (Sum.inr (Sum.inr M)) else if M.1 10 = 0 then if M.1 7 = 1 then if M.2 53 t = 8 then bnd (rf_wrong 4 (M.1 8) M) fun y28 => rfl_takeList_69 t y28.2 else rfl_takeList_69 t M else rfl_takeList_69 t M else some (Sum.inr (Sum.inr M))) _
  rw [if_neg (by omega), hm]
  rcases hm2 with m0 | m1
  · rw [if_pos m0, if_pos m0]
    exact RR_some (Or.inr (Or.inl ⟨_, _, rfl, rfl, Or.inl ⟨K, M, rfl, rfl, hT0, hx⟩⟩))
  · rw [if_neg (show ¬ more' = 0 by omega), if_neg (show ¬ more' = 0 by omega), if_pos hf]
    unfold kf_rd_listedAction
    rw [hX.1]
    by_cases w1 : M.1 7 = 1
    · rw [if_pos ((wm_256 hX.2.1).mpr w1), if_pos w1]
      by_cases i8 : i < 8
      · rw [if_pos i8, if_neg (show ¬ M.2 53 t = 8 by omega)]
        unfold kfl_rd_listedAction_36 rfl_takeList_69
        rw [bnd_a]
        intro u v hu hv
        cases hk : kf_tx_known 309 K with
        | none => rw [hk] at hu; cases hu
        | some p =>
          cases hq : rf_oldName 6 M with
          | none => rw [hq] at hv; cases hv
          | some z =>
            rw [hk, bnd_some] at hu
            rw [hq, bnd_some] at hv
            rcases known_s hXP.1 (s := 6) (by omega) (by omega) (by omega) p z hk hq with ⟨a1, ⟨a2, k, k0, k1, k2, k3⟩, a3, a4, a5, a6⟩ | ⟨a1, a2⟩
            · have r0 := (hXP.1.2.2.1.2.2.1 k k0 k1).2.2.2.2.2.2.1
              have r1 := (hXP.2.1.2.1 k k0 k1).2.2.2.2.2.1 k2
              have hT1 : TY t p.2.2 z.2 := TY_f hT0 a3 a4 a5 rfl rfl rfl rfl
              rw [if_pos a1, bnd_a] at hu
              unfold rfl_takeList_80 at hv
              rw [if_pos a3.2.2.2.2, fr2 a5 116 rfl] at hv
              cases hl : kf_tb_lists t p.2.1 p.2.2 with
              | none => rw [hl] at hu; cases hu
              | some r =>
                rw [hl, bnd_some] at hu
                have lk := lists_k (K := p.2.2) (t := t) (v := p.2.1) (by rw [fr2 a4 73 rfl]; omega) (by rw [fr2 a4 73 rfl]; omega) r hl
                rw [fr2 a4 73 rfl, fr2 a4 83 rfl, l1, a2] at lk
                have same : (r = 1 ∧ M.2 116 z.1 = 1) ∨ (r = 0 ∧ M.2 116 z.1 = 0) := by
                  rcases hS z.1 (by omega) (by omega) with ⟨s1, j, j0, j1, j2⟩ | ⟨s1, s2⟩
                  · rcases lk with ⟨l9, -⟩ | ⟨-, l9⟩
                    · exact Or.inl ⟨l9, s1⟩
                    · exact absurd ((l4 j j0 j1).1.trans j2) (l9 j j0 j1)
                  · rcases lk with ⟨-, j, j0, j1, j2⟩ | ⟨l9, -⟩
                    · exact absurd ((l4 j j0 j1).1.symm.trans j2) (s2 j j0 j1)
                    · exact Or.inr ⟨l9, s1⟩
                rcases same with ⟨s1, s2⟩ | ⟨s1, s2⟩
                · rw [if_neg (by omega)] at hu hv
                  have hv' : FV4 v := RP_e hv (RP_bnd (wrong_1 (by decide)) (fun w hw => FV4_u (u_rfl_takeList_106 t z.1 w.2) hw))
                  have hu' : ∃ e : Int × mR, u = Sum.inr (Sum.inr e) ∧ e.1 ≠ 0 := by
                    refine RP_e (P := fun u => ∃ e : Int × mR, u = Sum.inr (Sum.inr e) ∧ e.1 ≠ 0) hu ?_
                    exact thr_x (thr_l (A := fun y8 => kfl_rd_listedAction_67 t i p.2.1 y8.2.2) (fail_1 _ _ _)) (fun y hy => ⟨_, rfl, hy⟩)
                  obtain ⟨e, rfl, he⟩ := hu'
                  exact badv e v he hv'
                · rw [if_pos s1] at hu
                  rw [if_pos s2] at hv
                  unfold kfl_rd_listedAction_67 at hu
                  rw [bnd_some, if_pos rfl, a2, cut_i (z := i + 1) (by omega) (by omega)] at hu
                  unfold rfl_takeList_106 at hv
                  have z53 : z.2.2 53 = M.2 53 := fr2 a5 53 rfl
                  rw [if_pos (show z.2.1 10 ≤ 0 by have := a3.2.2.2.2; omega), if_pos a3.2.2.2.2, z53, ← hi, cut_i (z := i + 1) (by omega) (by omega), cut_i (z := 8 * t) (by omega) (by omega), cut_i (z := 8 * t + i) (by omega) (by omega), show nar1 1 = 1 from rfl, ← z53] at hv
                  have hT2 := TY_list (a := z.1) hT1 (by rw [z53]; exact hi) i8 (by omega) (by rw [fr1 a5 25 rfl]; omega)
                  have eL : ∃ L, L = (mO p.2.2 [] [(73, upI (p.2.2.2 73) t (i + 1)), (83, upI (p.2.2.2 83) (65536 * t + i) z.1)]) := ⟨_, rfl⟩
                  obtain ⟨L, eL⟩ := eL
                  have eN : ∃ N, N = (mO z.2 [] [(53, upI (z.2.2 53) t (i + 1)), (114, upI (z.2.2 114) (8 * t + i) z.1), (116, upI (z.2.2 116) z.1 1)]) := ⟨_, rfl⟩
                  obtain ⟨N, eN⟩ := eN
                  rw [← eL, ← eN] at hT2
                  rw [← eL] at hu
                  rw [← eN] at hv
                  have N53 : N.2 53 = upI (z.2.2 53) t (i + 1) := by rw [eN]; rfl
                  have N114 : N.2 114 = upI (z.2.2 114) (8 * t + i) z.1 := by rw [eN]; rfl
                  have N116 : N.2 116 = upI (z.2.2 116) z.1 1 := by rw [eN]; rfl
                  have N8 : N.1 8 = z.2.1 8 := by rw [eN]; rfl
                  have N7 : z.2.1 7 = N.1 7 := by rw [eN]; rfl
                  clear eL eN
                  rw [N7] at hv
                  have hS2 : LSt t N := by
                    intro b b0 b1
                    rw [N53, N114, N116, upI_s]
                    by_cases eb : b = z.1
                    · subst eb
                      rw [upI_s]
                      exact Or.inl ⟨rfl, i, by omega, by omega, by rw [upI_s]⟩
                    · rw [upI_n eb, fr2 a5 116 rfl, fr2 a5 114 rfl]
                      rcases hS b b0 b1 with ⟨s1, j, j0, j1, j2⟩ | ⟨s1, s3⟩
                      · exact Or.inl ⟨s1, j, j0, by omega, by rw [upI_n (by omega)]; exact j2⟩
                      · refine Or.inr ⟨s1, fun j j0 j1 => ?_⟩
                        by_cases ej : j = i
                        · rw [ej, upI_s]; exact fun e => eb e.symm
                        · rw [upI_n (by omega)]
                          exact s3 j j0 (by omega)
                  have hX2 := hT2.1.1.2.1
                  have n53 : N.2 53 t = i + 1 := by rw [N53, upI_s]
                  unfold kf_rd_goesOnList at hu
                  rw [hX2.1] at hu
                  unfold rfl_takeList_170 rfl_takeList_171 rfl_takeList_180 at hv
                  by_cases w44 : N.1 7 = 44
                  · rw [if_pos ((wm_big hX2.2.1 (by omega)).mpr w44), bnd_a] at hu
                    rw [if_pos w44, if_neg (by decide)] at hv
                    cases hk2 : kf_tx_advance L with
                    | none => rw [hk2] at hu; cases hu
                    | some y =>
                      cases hq2 : rf_next N with
                      | none => rw [hq2] at hv; cases hv
                      | some c =>
                        rw [hk2, bnd_some] at hu
                        rw [hq2, bnd_some] at hv
                        cases hv
                        rcases adv_s hT2.1.1 (by omega) y c hk2 hq2 with ⟨b1, b2, b3, b4, b5⟩ | ⟨b1, b2⟩
                        · rw [if_pos b1, bnd_some, if_pos rfl] at hu
                          cases hu
                          refine Or.inl ⟨_, _, rfl, rfl, TY_f hT2 b2 b3 b4 rfl rfl rfl rfl, ?_, ?_, rfl, Or.inr rfl, by show x ≤ c.2.1 8; omega⟩
                          · show LSt t c.2
                            unfold LSt
                            rw [fr2 b4 53 rfl, fr2 b4 114 rfl, fr2 b4 116 rfl]
                            exact hS2
                          · show i + 1 = c.2.2 53 t
                            rw [fr2 b4 53 rfl]
                            exact n53.symm
                        · rw [if_neg b1, bnd_some, if_neg b1] at hu
                          cases hu
                          exact badv _ _ b1 b2
                  · rw [if_neg (fun q => w44 ((wm_big hX2.2.1 (by omega)).mp q)), bnd_some, if_pos rfl] at hu
                    rw [if_neg w44, if_pos rfl] at hv
                    cases hu
                    cases hv
                    exact Or.inl ⟨_, _, rfl, rfl, hT2, hS2, n53.symm, rfl, Or.inl rfl, by show x ≤ N.1 8; omega⟩
            · rw [if_neg a1, bnd_some, if_neg a1] at hu
              cases hu
              exact badv _ _ a1 (FV4_u (u_rfl_takeList_80 t (M.1 8) z.1 z.2) a2 v hv)
      · rw [if_neg i8, if_pos (show M.2 53 t = 8 by omega)]
        intro u v hu hv
        have hv' : FV4 v := RP_e hv (RP_bnd (wrong_1 (by decide)) (fun w hw => FV4_u (u_rfl_takeList_69 t w.2) hw))
        have hu' : ∃ e : Int × mR, u = Sum.inr (Sum.inr e) ∧ e.1 ≠ 0 := by
          refine RP_e (P := fun u => ∃ e : Int × mR, u = Sum.inr (Sum.inr e) ∧ e.1 ≠ 0) hu ?_
          exact thr_x (thr_l (A := fun y13 => kfl_rd_listedAction_36 t i (K.1 207) y13.2.2) (fail_1 _ _ _)) (fun y hy => ⟨_, rfl, hy⟩)
        obtain ⟨e, rfl, he⟩ := hu'
        exact badv e v he hv'
    · rw [if_neg (fun q => w1 ((wm_256 hX.2.1).mp q)), if_neg w1]
      intro u v hu hv
      have hv' : FV4 v := by
        refine RP_e hv ?_
        unfold rfl_takeList_69
        refine RP_bnd (P := fun z : Int × mR => 0 < z.2.1 10) ?_ (fun w hw => FV4_u (u_rfl_takeList_80 t (M.1 8) w.1 w.2) hw)
        unfold rf_oldName
        rw [if_pos (by omega), if_neg w1]
        exact RP_bnd (bad_1 M) (fun z hz => RP_w (u_rfl_oldName_42 z.2) (fun w hw => hw.2 hz))
      have hu' : ∃ e : Int × mR, u = Sum.inr (Sum.inr e) ∧ e.1 ≠ 0 := by
        refine RP_e (P := fun u => ∃ e : Int × mR, u = Sum.inr (Sum.inr e) ∧ e.1 ≠ 0) hu ?_
        unfold kfl_rd_listedAction_36 kf_tx_known
        rw [hX.1, if_neg (fun q => w1 ((wm_256 hX.2.1).mp q))]
        exact thr_x (thr_l (thr_l (A := fun y12 => kfl_tx_known_14 309 y12.2.2) (refuse_1 _))) (fun y hy => ⟨_, rfl, hy⟩)
      obtain ⟨e, rfl, he⟩ := hu'
      exact badv e v he hv'
end LI5
