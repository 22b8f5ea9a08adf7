/-! ===== the control: all of it ===== -/
section CT5
variable {K M : mR}
theorem nstep_x {kd : Int} {l : Int × mR → Option (Sum mR (Sum mR mR))} (h : M.1 27 = 48) (hs : ∀ z : Int × mR, 0 < z.2.1 10 → RP (l z) FV5) : RP (bnd (rf_newStep kd M) l) FV5 := by
  unfold rf_newStep
  rw [if_pos h, bnd_a]
  exact RP_bnd (wrong_1 (by decide)) (fun z hz => RP_bnd (u_rfl_newStep_18 kd z.2) (fun w hw => hs w (hw.2 hz)))
theorem in77_s {v1 v2 kd : Int} {k1 : Int → mR → Option (Int × Int × mR)} {l : Int × mR → Option (Sum mR (Sum mR mR))} (h : CB K M) (hd : 1 ≤ M.1 119) (e1 : kfl_rd_inBlock_104 v1 v2 K = bnd (kf_sp_add kd (K.2 66 (K.1 227)) (K.2 67 (K.1 227)) K) fun y1 => k1 y1.1 y1.2) (hs : ∀ z : Int × mR, 0 < z.2.1 10 → RP (l z) FV5) (g : ∀ n K2 M2, SBg kd n K2 M2 → M2.1 7 = M.1 7 → M2.1 8 = M.1 8 → RR (k1 n K2) (l (n, M2)) (IG (M2.1 8 + 1))) : RR (kfl_rd_inBlock_77 v1 v2 K) (bnd (rf_newStep kd M) l) (IG (M.1 8 + 1)) := by
  have h27 := h.2.1
  unfold kfl_rd_inBlock_77
  rw [h27.1]
  by_cases c : M.1 27 < 48
  · rw [if_pos c, e1]
    refine RR_bnd (step_s h hd c) (fun y z hyz => ?_)
    obtain ⟨q1, q2, q3, q4, q5⟩ := hyz
    obtain ⟨z1, z2⟩ := z
    have q2 : z1 = M.1 27 := q2
    have q4 : z2.1 8 = M.1 8 := q4
    have q5 : z2.1 7 = M.1 7 := q5
    rw [q1, q2, ← q4]
    exact g _ _ _ q3 q5 q4
  · rw [if_neg c]
    refine RR_w (RR_pr (A := fun y : Int × Int × mR => y.1 ≠ 0) (B := FV5) (thr_l (A := fun y => kfl_rd_inBlock_104 v1 v2 y.2.2) (fail_1 _ _ _)) (nstep_x (by omega) hs)) (fun _ _ q => Or.inr q)
theorem inBlock_s (h : CB K M) (hd : 1 ≤ M.1 119) : RR (kf_rd_inBlock K) (rfb_takeControl_18 M) (IG (M.1 8 + 1)) := by
  have hL := h.1.1.1
  have hX := hL.2.1
  have hf := hL.2.2.2.2
  have bg : ∀ c : Int, ((33 ≤ c ∧ c ≤ 126) ∨ (300 ≤ c ∧ c ≤ 330)) → (K.1 206 = c ↔ M.1 7 = c) := fun c hc => by rw [hX.1]; exact wm_big hX.2.1 hc
  unfold rfb_takeControl_18
  rw [if_pos hf, if_neg (by omega)]
  refine RR_r isSt_r (fun b hb => ?_)
  unfold kf_rd_inBlock kfl_rd_inBlock_18 kfl_rd_inBlock_37
  by_cases w1 : M.1 7 = 321
  · have k1 := (bg 321 (by omega)).mpr w1
    have nst : ¬ isSt (M.1 7) := by unfold isSt; omega
    have b0 : b = 0 := by
      rcases hb with ⟨-, q⟩ | ⟨q, -⟩
      · exact absurd q nst
      · exact q
    rw [if_pos k1, if_neg (show ¬ K.1 206 = 320 by omega), if_neg (show ¬ K.1 206 = 125 by omega), if_neg (show ¬ (1 : Int) = 0 by decide), if_pos b0, if_neg (by omega), if_pos w1]
    refine in77_s (kd := 1) (k1 := fun n K2 => bnd (kf_rd_openIf n K2) fun y12 => if y12.1 = 0 then some ((0 : Int), (0 : Int), y12.2.2) else some (y12.1, 0, y12.2.2)) h hd ?_ (fun z hz => FV5_u (u_rfl_takeControl_170 z.1 z.2) hz) (fun n K2 M2 hS q7 q8 => IG_w (openIf_s hS (q7.trans w1)))
    unfold kfl_rd_inBlock_104 kfl_rd_inBlock_121
    rw [if_neg (show ¬ (1 : Int) = 0 by decide)]
    rfl
  · have k1 : ¬ K.1 206 = 321 := fun q => w1 ((bg 321 (by omega)).mp q)
    rw [if_neg k1]
    by_cases w2 : M.1 7 = 320
    · have k2 := (bg 320 (by omega)).mpr w2
      have nst : ¬ isSt (M.1 7) := by unfold isSt; omega
      have b0 : b = 0 := by
        rcases hb with ⟨-, q⟩ | ⟨q, -⟩
        · exact absurd q nst
        · exact q
      rw [if_pos k2, if_neg (show ¬ K.1 206 = 125 by omega), if_pos (show (0 : Int) = 0 from rfl), if_neg (show ¬ (1 : Int) = 0 by decide), if_pos b0, if_pos w2]
      refine in77_s (kd := 2) (k1 := fun n K2 => bnd (kf_rd_apply n K2) fun y9 => if y9.1 = 0 then some ((0 : Int), (0 : Int), y9.2.2) else some (y9.1, 0, y9.2.2)) h hd ?_ (fun z hz => FV5_u (u_rfl_takeControl_84 z.1 z.2) hz) (fun n K2 M2 hS q7 q8 => IG_w (apply_s hS (q7.trans w2)))
      unfold kfl_rd_inBlock_104 kfl_rd_inBlock_121
      rw [if_pos (show (0 : Int) = 0 from rfl), if_neg (show ¬ (1 : Int) = 0 by decide)]
      rfl
    · have k2 : ¬ K.1 206 = 320 := fun q => w2 ((bg 320 (by omega)).mp q)
      rw [if_neg k2]
      by_cases w3 : M.1 7 = 125
      · have k3 := (bg 125 (by omega)).mpr w3
        have nst : ¬ isSt (M.1 7) := by unfold isSt; omega
        have b0 : b = 0 := by
          rcases hb with ⟨-, q⟩ | ⟨q, -⟩
          · exact absurd q nst
          · exact q
        rw [if_pos k3, if_pos b0, if_neg w2, if_neg w1]
        refine RR_gq (FB := FV5) (closeBlock_s h hd w3) (fun y v hy hv => Or.inr ⟨hy, hv⟩) (fun z hz => RP_some (show FV5 (Sum.inl z.2) from hz)) (fun _ K1 _ M1 hG => ?_)
        exact RR_some (Or.inl ⟨rfl, M1, rfl, hG.1, hG.2⟩)
      · have k3 : ¬ K.1 206 = 125 := fun q => w3 ((bg 125 (by omega)).mp q)
        rw [if_neg k3, if_pos (show (0 : Int) = 0 from rfl), if_pos (show (0 : Int) = 0 from rfl)]
        refine RR_l (isSt_k hL) (fun a ha => ?_)
        by_cases st : isSt (M.1 7)
        · have a1 : a = 1 := by
            rcases ha with ⟨q, -⟩ | ⟨-, q⟩
            · exact q
            · exact absurd st q
          have b1 : b = 1 := by
            rcases hb with ⟨q, -⟩ | ⟨-, q⟩
            · exact q
            · exact absurd st q
          rw [if_neg (show ¬ a = 0 by omega), if_neg (show ¬ b = 0 by omega)]
          refine in77_s (kd := 0) (k1 := fun n K2 => bnd (kf_rd_statement (-1) K2) fun y6 => if y6.1 = 0 then some ((0 : Int), (0 : Int), (mO y6.2.2 [] [(56, upI (y6.2.2.2 56) n y6.2.1)])) else some (y6.1, 0, y6.2.2)) h hd ?_ (fun z hz => FV5_u (u_rfl_takeControl_44 z.1 z.2) hz) (fun n K2 M2 hS q7 q8 => stat_s hS (by rw [q7]; exact st))
          unfold kfl_rd_inBlock_104 kfl_rd_inBlock_121
          rw [if_pos (show (0 : Int) = 0 from rfl), if_pos (show (0 : Int) = 0 from rfl)]
          rfl
        · have a0 : a = 0 := by
            rcases ha with ⟨-, q⟩ | ⟨q, -⟩
            · exact absurd q st
            · exact q
          have b0 : b = 0 := by
            rcases hb with ⟨-, q⟩ | ⟨q, -⟩
            · exact absurd q st
            · exact q
          rw [if_pos a0, if_pos b0, if_neg w2, if_neg w1]
          refine RR_w (RR_pr (A := fun y : Int × Int × mR => y.1 ≠ 0) (B := FV5) (thr_l (A := fun y => kfl_rd_inBlock_77 0 0 y.2.2) (refuse_1 _)) ?_) (fun _ _ q => Or.inr q)
          unfold rf_closeBlock rf_need
          rw [if_pos (show M.1 10 ≤ 0 by omega), if_neg w3, bnd_a, bnd_a]
          exact RP_bnd (bad_1 M) (fun z hz => RP_bnd (P := fun z : Int × mR => 0 < z.2.1 10) (RP_some hz) (fun z hz => RP_bnd (u_rfl_closeBlock_6 z.2) (fun w hw => RP_some (show FV5 (Sum.inl w.2) from hw.2 hz))))
def ctI (x : Int) (s : Int × mR) (w : mR) : Prop := CB s.2 w ∧ 0 ≤ s.1 ∧ s.1 ≤ w.1 8 ∧ x ≤ w.1 8
def ctE (x : Int) (u : Sum mR (Int × mR)) (v : Sum mR mR) : Prop := (∃ K M, u = Sum.inl K ∧ v = Sum.inr M ∧ CB K M ∧ M.1 119 = 0 ∧ x ≤ M.1 8) ∨ ((∃ e : Int × mR, u = Sum.inr e ∧ e.1 ≠ 0) ∧ sel (fun m => 0 < m.1 10) (fun m => 0 < m.1 10) v)
theorem blocks_s {x : Int} {s : Int × mR} {w : mR} (hI : ctI x s w) : RR (whl kfb_pw_read_211 s) (whl rfb_takeControl_18 w) (ctE x) := by
  refine RR_whl2 (I := ctI x) (fun s w hI => ?_) hI
  obtain ⟨i, K⟩ := s
  obtain ⟨h, i0, i1, hx⟩ := hI
  have h : CB K w := h
  have i0 : 0 ≤ i := i0
  have i1 : i ≤ w.1 8 := i1
  have hL := h.1.1.1
  have hf := hL.2.2.2.2
  have b4 := hL.1.1.2.1
  have b6 := hL.2.1.2.2.2.2.1
  have deadw : ∀ (z : mR), 0 < z.1 10 → RP (whl rfb_takeControl_18 z) (sel (fun m => 0 < m.1 10) (fun m => 0 < m.1 10)) := fun z hz => RP_w (uw_rfb_takeControl_18 z) (fun v hv => by
    cases v with
    | inl m => exact hv.2 hz
    | inr m => exact hv.2 hz)
  unfold kfb_pw_read_211
  show RR (if (4000 : Int) < i then some (Sum.inr (Sum.inl K)) else if K.1 227 ≤ 0 then some (Sum.inr (Sum.inl K)) else bnd (kf_rd_inBlock K) fun y12 => if y12.1 = 0 then some (Sum.inl (cut (i + 1), y12.2.2)) else some (Sum.inr (Sum.inr (y12.1, y12.2.2)))) (rfb_takeControl_18 w) _
  rw [if_neg (show ¬ (4000 : Int) < i by omega), h.2.2.1.1.1]
  by_cases d0 : w.1 119 ≤ 0
  · rw [if_pos d0]
    intro u v hu hv
    cases hu
    unfold rfb_takeControl_18 at hv
    rw [if_pos hf, if_pos d0] at hv
    cases hv
    exact Or.inr (Or.inl ⟨_, _, rfl, rfl, Or.inl ⟨K, w, rfl, rfl, h, by have := h.2.2.1.1.2.1; omega, hx⟩⟩)
  · rw [if_neg d0]
    intro u v hu hv
    cases hk : kf_rd_inBlock K with
    | none => rw [hk] at hu; cases hu
    | some y =>
      rw [hk, bnd_some] at hu
      rcases inBlock_s h (by omega) y v hk hv with ⟨q1, M', rfl, q3, q4⟩ | ⟨q1, q2⟩
      · rw [if_pos q1, cut_i (by omega) (by omega)] at hu
        cases hu
        exact Or.inl ⟨_, _, rfl, rfl, q3, by show 0 ≤ i + 1; omega, by show i + 1 ≤ M'.1 8; omega, by omega⟩
      · rw [if_neg q1] at hu
        cases hu
        cases v with
        | inl m => exact Or.inr (Or.inr (Or.inl ⟨_, _, rfl, rfl, RP_w (deadw m q2) (fun w hw => Or.inr ⟨⟨_, rfl, q1⟩, hw⟩)⟩))
        | inr r => exact Or.inr (Or.inl ⟨_, _, rfl, rfl, Or.inr ⟨⟨_, rfl, q1⟩, q2⟩⟩)
end CT5
