/-! ===== action whole ===== -/
section AC8
variable {K M : mR}
def plI (a x : Int) (K0 M0 : mR) (s : Int × Int × mR) (t : Int × mR) : Prop := LR s.2.2 t.2 ∧ BP s.2.2 t.2 ∧ s.2.1 = t.2.2 46 a ∧ 0 ≤ s.2.1 ∧ s.2.1 ≤ 4 ∧ s.1 = t.1 ∧ (t.1 = 0 ∨ t.1 = 1) ∧ fr kF_rd_parameter kA_rd_parameter K0 s.2.2 ∧ fr rF_takeParameter rA_takeParameter M0 t.2 ∧ x ≤ t.2.1 8
def plE (x : Int) (K0 M0 : mR) (u : Sum mR (Int × mR)) (y : mR) : Prop := sel (fun K => LR K y ∧ BP K y ∧ fr kF_rd_parameter kA_rd_parameter K0 K ∧ fr rF_takeParameter rA_takeParameter M0 y ∧ x ≤ y.1 8) (fun e => e.1 ≠ 0 ∧ 0 < y.1 10) u
theorem pars_s {a x : Int} {K0 M0 : mR} (a0 : 0 ≤ a) (a1 : a < M0.1 25) {s : Int × Int × mR} {t : Int × mR} (hI : plI a x K0 M0 s t) : RR (whl (kfb_rd_action_80 a) s) (whl (rfb_takeAction_87 a) t) (plE x K0 M0) := by
  refine RR_whl2 (I := plI a x K0 M0) (fun s t hI => ?_) hI
  obtain ⟨more, i, K⟩ := s
  obtain ⟨more', M⟩ := t
  obtain ⟨hL, hP, hi, i0, i4, hm, hm2, fK, fM, hx⟩ := hI
  have hL : LR K M := hL
  have hP : BP K M := hP
  have hi : i = M.2 46 a := hi
  have i0 : 0 ≤ i := i0
  have i4 : i ≤ 4 := i4
  have hm : more = more' := hm
  have hm2 : more' = 0 ∨ more' = 1 := hm2
  have fK : fr kF_rd_parameter kA_rd_parameter K0 K := fK
  have fM : fr rF_takeParameter rA_takeParameter M0 M := fM
  have hx : x ≤ M.1 8 := hx
  have hf := hL.2.2.2.2
  unfold kfb_rd_action_80 rfb_takeAction_87
  show RR (if (4 : Int) < i then some (Sum.inr (Sum.inl K)) else if more = 0 then some (Sum.inr (Sum.inl K)) else bnd (kf_rd_parameter a i K) fun y33 => if y33.1 = 0 then bnd (kf_rd_goesOnList y33.2.2) fun y36 => if y36.1 = 0 then some (Sum.inl (y36.2.1, cut (i + 1), y36.2.2)) else some (Sum.inr (Sum.inr (y36.1, y36.2.2))) else some (Sum.inr (Sum.inr (y33.1, y33.2.2)))) (if more' = 0 then some (Sum.inr M) else if M.1 10 = 0 then bnd (rf_takeParameter a M) fun y37 => rfl_takeAction_103 a y37.2 else some (Sum.inr M)) _
  rw [if_neg (by omega), hm]
  rcases hm2 with m0 | m1
  · rw [if_pos m0, if_pos m0]
    exact RR_some (Or.inr (Or.inl ⟨_, _, rfl, rfl, hL, hP, fK, fM, hx⟩))
  · rw [if_neg (by omega), if_neg (by omega), if_pos hf]
    have dead : ∀ (z : Int × mR), 0 < z.2.1 10 → RP (whl (rfb_takeAction_87 a) z) (fun y => 0 < y.1 10) := fun z hz => RP_w (uw_rfb_takeAction_87 a z) (fun w hw => hw.2 hz)
    have r103 : ∀ (m : mR), 0 < m.1 10 → rfl_takeAction_103 a m = some (Sum.inl (0, m)) := by
      intro m hm
      unfold rfl_takeAction_103 rfl_takeAction_123 rfl_takeAction_124
      rw [if_neg (by omega), if_pos rfl]
    intro u v hu hv
    cases hk : kf_rd_parameter a i K with
    | none => rw [hk] at hu; cases hu
    | some y =>
      cases hq : rf_takeParameter a M with
      | none => rw [hq] at hv; cases hv
      | some z =>
        rw [hk, bnd_some] at hu
        rw [hq, bnd_some] at hv
        rcases parameter_s hL hP a0 (by rw [fr1 fM 25 rfl]; exact a1) hi y z hk hq with ⟨q0, q1, q2, q3, q4, q5, q6⟩ | ⟨q0, q1⟩
        · rw [if_pos q0] at hu
          have hX := q1.2.1
          have qf := q1.2.2.2.2
          have b4 : z.2.2 46 a ≤ 4 := (q2.2.2.2.2.2.2 a a0 (by rw [fr1 q5 25 rfl, fr1 fM 25 rfl]; exact a1)).2.2.1
          unfold kf_rd_goesOnList at hu
          unfold rfl_takeAction_103 rfl_takeAction_123 rfl_takeAction_124 at hv
          rw [if_pos qf] at hv
          rw [hX.1, cut_i (z := i + 1) (by omega) (by omega)] at hu
          by_cases w44 : z.2.1 7 = 44
          · rw [if_pos ((wm_big hX.2.1 (by omega)).mpr w44), bnd_a] at hu
            rw [if_pos w44, if_neg (by decide)] at hv
            cases hk2 : kf_tx_advance y.2.2 with
            | none => rw [hk2] at hu; cases hu
            | some p =>
              cases hq2 : rf_next z.2 with
              | none => rw [hq2] at hv; cases hv
              | some q =>
                rw [hk2, bnd_some] at hu
                rw [hq2, bnd_some] at hv
                cases hv
                rcases adv_s q1 (by omega) p q hk2 hq2 with ⟨a1', a2, a3, a4, a5⟩ | ⟨a1', a2⟩
                · rw [if_pos a1', bnd_some, if_pos rfl] at hu
                  cases hu
                  refine Or.inl ⟨_, _, rfl, rfl, a2, BP_f a3 a4 rfl rfl rfl rfl q2, ?_, by show 0 ≤ i + 1; omega, by show i + 1 ≤ 4; omega, rfl, Or.inr rfl, fr_s a3 (fr_s q4 fK rfl rfl) rfl rfl, fr_s a4 (fr_s q5 fM rfl rfl) rfl rfl, by show x ≤ q.2.1 8; omega⟩
                  show i + 1 = q.2.2 46 a
                  rw [fr2 a4 46 rfl]
                  omega
                · rw [if_neg a1', bnd_some, if_neg a1'] at hu
                  cases hu
                  exact Or.inr (Or.inr (Or.inl ⟨_, _, rfl, rfl, RP_w (dead (1, q.2) a2) (fun w hw => ⟨a1', hw⟩)⟩))
          · rw [if_neg (fun q => w44 ((wm_big hX.2.1 (by omega)).mp q)), bnd_some, if_pos rfl] at hu
            rw [if_neg w44, if_pos rfl] at hv
            cases hu
            cases hv
            exact Or.inl ⟨_, _, rfl, rfl, q1, q2, by show i + 1 = z.2.2 46 a; omega, by show 0 ≤ i + 1; omega, by show i + 1 ≤ 4; omega, rfl, Or.inl rfl, fr_s q4 fK rfl rfl, fr_s q5 fM rfl rfl, by show x ≤ z.2.1 8; omega⟩
        · rw [if_neg q0] at hu
          cases hu
          rw [r103 _ q1] at hv
          cases hv
          exact Or.inr (Or.inr (Or.inl ⟨_, _, rfl, rfl, RP_w (dead (0, z.2) q1) (fun w hw => ⟨q0, hw⟩)⟩))
def sMA : List Nat := 50 :: rA_takeStatement
def slI (a x : Int) (K0 M0 : mR) (s : Int × mR) (M : mR) : Prop := XP s.2 M ∧ DE s.2 M ∧ M.1 64 = a ∧ s.1 = M.2 50 a ∧ 0 ≤ s.1 ∧ s.1 ≤ 12 ∧ M.1 99 = M.2 109 a + s.1 ∧ M.1 99 ≤ M.1 8 ∧ x ≤ M.1 8 ∧ fr kF_rd_statement kA_rd_statement K0 s.2 ∧ fr rF_takeStatement sMA M0 M ∧ ∀ b, b ≠ a → M.2 50 b = M0.2 50 b
def slE (a x : Int) (K0 M0 : mR) (u : Sum mR (Int × mR)) (y : mR) : Prop := sel (fun K => ∃ i, slI a x K0 M0 (i, K) y) (fun e => e.1 ≠ 0 ∧ 0 < y.1 10) u
theorem stms_s {a x : Int} {K0 M0 : mR} {s : Int × mR} {t : mR} (hI : slI a x K0 M0 s t) : RR (whl (kfb_rd_action_142 a) s) (whl (rfb_takeAction_153 a) t) (slE a x K0 M0) := by
  refine RR_whl2 (I := slI a x K0 M0) (fun s M hI => ?_) hI
  obtain ⟨i, K⟩ := s
  have hI' := hI
  obtain ⟨hX, hD, h64, hi, i0, i12, h99, hb, hx, fK, fM, h50⟩ := hI
  have hX : XP K M := hX
  have hD : DE K M := hD
  have hi : i = M.2 50 a := hi
  have i0 : 0 ≤ i := i0
  have i12 : i ≤ 12 := i12
  have h99 : M.1 99 = M.2 109 a + i := h99
  have hf := hX.1.2.2.2.2
  unfold kfb_rd_action_142 rfb_takeAction_153
  show RR (if (12 : Int) < i then some (Sum.inr (Sum.inl K)) else bnd (kf_rd_isStatement K) fun y11 => if y11 = 0 then some (Sum.inr (Sum.inl K)) else if i < 12 then kfl_rd_action_176 a i K else bnd (kf_tx_fail 4 (K.1 207) K) fun y16 => if y16.1 = 0 then kfl_rd_action_176 a i y16.2.2 else some (Sum.inr (Sum.inr (y16.1, y16.2.2)))) _ _
  rw [if_neg (by omega), if_pos hf]
  have dead : ∀ (m : mR), 0 < m.1 10 → RP (whl (rfb_takeAction_153 a) m) (fun y => 0 < y.1 10) := fun m hm => RP_w (uw_rfb_takeAction_153 a m) (fun w hw => hw.2 hm)
  refine RR_bnd (isSt_s hX.1) (fun p q hpq => ?_)
  rcases hpq with ⟨p1, q1, hs⟩ | ⟨p1, q1, hs⟩
  · rw [if_neg (show ¬ p = 0 by omega), if_neg (show ¬ q = 0 by omega)]
    by_cases j12 : i < 12
    · rw [if_pos j12, if_neg (show ¬ M.2 50 a = 12 by omega)]
      unfold kfl_rd_action_176 rfl_takeAction_187
      rw [if_pos hf]
      intro u v hu hv
      cases hk : kf_rd_statement a K with
      | none => rw [hk] at hu; cases hu
      | some y =>
        cases hq : rf_takeStatement M with
        | none => rw [hq] at hv; cases hv
        | some z =>
          rw [hk, bnd_some] at hu
          rw [hq, bnd_some] at hv
          unfold rfl_takeAction_198 at hv
          cases hv
          have gK := u_kf_rd_statement a K y hk
          have gM := (u_rf_takeStatement M z hq).1
          rcases statement_s hX hD hb h64.symm hs y z hk hq with ⟨e0, e1, e2, e3, e4, e5⟩ | ⟨e0, e1⟩
          · rw [if_pos e0, cut_i (by omega) (by omega)] at hu
            cases hu
            have z50 : z.2.2 50 = M.2 50 := fr2 gM 50 rfl
            rw [z50, ← hi, cut_i (by omega) (by omega)]
            have f50 : fr [] [50] z.2 (mO z.2 [] [(50, upI (M.2 50) a (i + 1))]) := fr_m fr_0 rfl rfl
            refine Or.inl ⟨_, _, rfl, rfl, XP_f (F := []) (A := []) e2 e2.1 fr_0 f50 rfl rfl rfl rfl, DE_f (F := []) (A := []) fr_0 f50 rfl rfl rfl rfl e3, (fr1 gM 64 rfl).trans h64, ?_, by show 0 ≤ i + 1; omega, by show i + 1 ≤ 12; omega, ?_, ?_, ?_, fr_s gK fK rfl rfl, fr_m (fr_s gM fM rfl rfl) rfl rfl, fun b hb9 => ?_⟩
            · show i + 1 = upI (M.2 50) a (i + 1) a
              rw [upI_s]
            · show z.2.1 99 = z.2.2 109 a + (i + 1)
              rw [fr2 gM 109 rfl, e4]
              omega
            · show z.2.1 99 ≤ z.2.1 8
              omega
            · show x ≤ z.2.1 8
              omega
            · show upI (M.2 50) a (i + 1) b = _
              rw [upI_n hb9]
              exact h50 b hb9
          · rw [if_neg e0] at hu
            cases hu
            exact Or.inr (Or.inr (Or.inl ⟨_, _, rfl, rfl, RP_w (dead _ e1) (fun w hw => ⟨e0, hw⟩)⟩))
    · rw [if_neg j12, if_pos (show M.2 50 a = 12 by omega)]
      intro u v hu hv
      have hu' : ∃ e : Int × mR, u = Sum.inr (Sum.inr e) ∧ e.1 ≠ 0 := thr_x (B := fun u => ∃ e : Int × mR, u = Sum.inr (Sum.inr e) ∧ e.1 ≠ 0) (fail_1 _ _ _) (fun y hy => ⟨_, rfl, hy⟩) u hu
      obtain ⟨e, rfl, he⟩ := hu'
      have hv' : ∃ m, v = Sum.inl m ∧ 0 < m.1 10 := by
        refine RP_e (P := fun v : Sum mR mR => ∃ m, v = Sum.inl m ∧ 0 < m.1 10) hv (RP_bnd (wrong_1 (by decide)) (fun w hw => ?_))
        unfold rfl_takeAction_187 rfl_takeAction_198
        rw [if_neg (by omega)]
        exact RP_some ⟨_, rfl, hw⟩
      obtain ⟨m, rfl, hm⟩ := hv'
      exact Or.inr (Or.inr (Or.inl ⟨_, _, rfl, rfl, RP_w (dead m hm) (fun w hw => ⟨he, hw⟩)⟩))
  · rw [if_pos p1, if_pos q1]
    exact RR_some (Or.inr (Or.inl ⟨_, _, rfl, rfl, i, hI'⟩))
end AC8
