/-! ===== a cycle of the class: all stages ===== -/
section TP6
variable {K M : mR} {W E C S : Int} {a : Int → Int} {HT : Int → Nat → Int → Int}
def xgD (K : mR) (C g : Int) (t : Int) : Int := if homeK K t < g then C + 1 - homeK K t else C - homeK K t
/-- rows from E on: those that wait -/
def rwK (lo hi : Int) (K K' : mR) : Prop := ∀ k, lo ≤ k → k < hi → ∀ i, 0 ≤ i → i < 4 → K'.2 103 (65536 * (k % 128) + i) = K.2 103 (65536 * (k % 128) + i) ∧ K'.2 104 (65536 * (k % 128) + i) = K.2 104 (65536 * (k % 128) + i) ∧ K'.2 105 (65536 * (k % 128) + i) = K.2 105 (65536 * (k % 128) + i)
theorem rwK_s {lo hi k0 : Int} {K K1 K2 : mR} (h : rwK lo hi K K1) (g : rwL (k0 % 128) K1 K2) (c0 : hi - 128 ≤ k0) (c1 : k0 < lo) : rwK lo hi K K2 := fun k q0 q1 i i0 i1 => by
  obtain ⟨a1, a2, a3⟩ := h k q0 q1 i i0 i1
  obtain ⟨b1, b2, b3⟩ := g (65536 * (k % 128) + i) (rw_o (by omega) i0 (by omega))
  exact ⟨b1.trans a1, b2.trans a2, b3.trans a3⟩
theorem lop_e {hi : Int} (h225 : 0 ≤ K.1 225 ∧ K.1 225 ≤ 1000) (hS : 1 ≤ S) (hS2 : S ≤ 12) (hG : ∀ t, 0 ≤ t → t < M.1 26 → GVQ t K M) (h26 : M.1 26 ≤ 8) (h72 : ∀ t, 0 ≤ K.2 72 t ∧ K.2 72 t ≤ 4) (hT : TMv S (C + 1) W E (skp K) a) (hhi : E ≤ hi ∧ hi - W ≤ 64) (h : PQg K M W E a (fun t => xgD K C 0 t) HT) : RP (whl (kfb_pi_cycle_133 (S - 1)) (0, K)) (fun e => fr [] kA_op_work_b71 K e ∧ PQg e M W E a (fun t => xgD K C S t) HT ∧ rwK E hi K e) := by
  obtain ⟨T1, T2, T3, T4⟩ := hT
  refine RP_whl (I := fun s : Int × mR => (0 ≤ s.1 ∧ s.1 ≤ S) ∧ fr [] kA_op_work_b71 K s.2 ∧ PQg s.2 M W E a (fun t => xgD K C s.1 t) HT ∧ rwK E hi K s.2) (fun s hs => ?_) ⟨⟨Int.le_refl _, show 0 ≤ S by omega⟩, fr_0, h, fun _ _ _ _ _ _ => ⟨rfl, rfl, rfl⟩⟩
  obtain ⟨⟨a0, a1⟩, a2, a3, a4⟩ := hs
  have hh : ∀ t, homeK s.2 t = homeK K t := fun t => home_c (fr1 a2 225 rfl) (fr2 a2 55 rfl) (fr2 a2 59 rfl)
  have sk : kopi (s.2.2 106) (s.2.2 107) s.1 = skp K s.1 := by
    unfold skp
    rw [fr2 a2 106 rfl, fr2 a2 107 rfl]
  unfold kfb_pi_cycle_133
  rw [sk]
  refine RP_ite (fun q => RP_some ?_) (fun q => ?_)
  · have e : s.1 = S := by omega
    rw [e] at a3
    exact ⟨a2, a3, a4⟩
  · have c1 : cut (s.1 + 1) = s.1 + 1 := cut_i (by omega) (by omega)
    refine RP_ite (fun z => ?_) (fun z => ?_)
    · unfold kfl_pi_cycle_168
      rw [c1]
      refine RP_some ⟨⟨show 0 ≤ s.1 + 1 by omega, show s.1 + 1 ≤ S by omega⟩, a2, ?_, a4⟩
      refine stg_0 a3 (fun t => ?_)
      show xgD K C (s.1 + 1) t = xgD K C s.1 t ∨ (xgD K C (s.1 + 1) t = xgD K C s.1 t + 1 ∧ _)
      unfold xgD
      by_cases e1 : homeK K t < s.1
      · rw [if_pos (show homeK K t < s.1 + 1 by omega), if_pos e1]
        exact Or.inl rfl
      · rw [if_neg e1]
        by_cases e2 : homeK K t = s.1
        · rw [if_pos (show homeK K t < s.1 + 1 by omega)]
          refine Or.inr ⟨by omega, fun k k0 k1 ek => ?_⟩
          have w := (T2 k k0 k1).2.2
          rw [show C + 1 - 1 - a (k % 128) = s.1 by omega] at w
          omega
        · rw [if_neg (show ¬ homeK K t < s.1 + 1 by omega)]
          exact Or.inl rfl
    · rcases T3 s.1 a0 (by omega) with w | ⟨k0, k1, k2, k3⟩
      · exact absurd w z
      have er : skp K s.1 = k0 % 128 := by
        have w := (T2 k0 k1 k2).2.2
        rw [show C + 1 - 1 - a (k0 % 128) = s.1 by omega] at w
        exact w
      rw [er]
      have hG' : ∀ t, 0 ≤ t → t < M.1 26 → GVQ t s.2 M := fun t t0 t1 => GVQ_f (hG t t0 t1) a2 (fr_0 (u := []) (v := []) (x := M)) rfl rfl rfl
      have hx : ∀ t, (homeK s.2 t ≠ s.1 ∧ xgD K C (s.1 + 1) t = xgD K C s.1 t) ∨ (homeK s.2 t = s.1 ∧ xgD K C s.1 t = a (k0 % 128) ∧ xgD K C (s.1 + 1) t = xgD K C s.1 t + 1) := fun t => by
        rw [hh]
        unfold xgD
        by_cases e1 : homeK K t < s.1
        · rw [if_pos (show homeK K t < s.1 + 1 by omega), if_pos e1]
          exact Or.inl ⟨by omega, rfl⟩
        · rw [if_neg e1]
          by_cases e2 : homeK K t = s.1
          · rw [if_pos (show homeK K t < s.1 + 1 by omega)]
            exact Or.inr ⟨e2, by omega, by omega⟩
          · rw [if_neg (show ¬ homeK K t < s.1 + 1 by omega)]
            exact Or.inl ⟨e2, rfl⟩
      have fin : ∀ K' : mR, fr [] kA_op_work_b71 s.2 K' → ((s.2.2 91 (k0 % 128) = 0 ∧ fr [] wkL s.2 K' ∧ rwL (k0 % 128) s.2 K') ∨ (s.2.2 91 (k0 % 128) ≠ 0 ∧ ((s.1 ≠ homeK s.2 (s.2.2 95 (k0 % 128)) ∧ K' = s.2) ∨ (s.1 = homeK s.2 (s.2.2 95 (k0 % 128)) ∧ ∃ w, kf_tb_serve (s.2.2 95 (k0 % 128)) (k0 % 128) s.2 = some w ∧ K' = mO w.2 [] [(98, upI (w.2.2 98) (k0 % 128) w.1)])))) → RP (kfl_pi_cycle_168 (S - 1) s.1 K') (sel (fun s : Int × mR => (0 ≤ s.1 ∧ s.1 ≤ S) ∧ fr [] kA_op_work_b71 K s.2 ∧ PQg s.2 M W E a (fun t => xgD K C s.1 t) HT ∧ rwK E hi K s.2) (fun e => fr [] kA_op_work_b71 K e ∧ PQg e M W E a (fun t => xgD K C S t) HT ∧ rwK E hi K e)) := fun K' hp hw => by
        obtain ⟨r1, r2⟩ := stg_1 (g := s.1) (k0 := k0) (x' := fun t => xgD K C (s.1 + 1) t) a3 hG' h26 T4 (by omega) k1 k2 hx hp hw
        unfold kfl_pi_cycle_168
        rw [c1]
        exact RP_some ⟨⟨show 0 ≤ s.1 + 1 by omega, show s.1 + 1 ≤ S by omega⟩, fr_s hp a2 (by decide +kernel) (by decide +kernel), r1, rwK_s a4 r2 (by omega) k2⟩
      by_cases hk : s.2.2 91 (k0 % 128) = 0
      · exact RP_bnd (RP_and (u_kf_op_work_b71 _ _ _) (wrk_p (K := s.2) (r := k0 % 128) (g := s.1) hk (by rw [fr2 a2 72 rfl]; exact h72))) (fun y hy => fin y.2 hy.1 (Or.inl ⟨hk, hy.2.1, hy.2.2⟩))
      · exact RP_bnd (RP_and (u_kf_op_work_b71 _ _ _) (wrk_e (K := s.2) (r := k0 % 128) (g := s.1) hk (by rw [fr1 a2 225 rfl]; exact h225.1) (by rw [fr1 a2 225 rfl]; exact h225.2))) (fun y hy => fin y.2 hy.1 (Or.inr ⟨hk, hy.2⟩))
/-- the class's cycle up to its stages -/
def cyA : List Nat := [25, 92, 94, 98, 99, 100, 101, 102, 106]
theorem cy2_130 {v1 : Int} {K3 : mR} (h : fr [233, 234] cyA K K3) : RP (kfl_pi_cycle_130 v1 K3) (fun y => ∃ K3 e, fr [233, 234] cyA K K3 ∧ whl (kfb_pi_cycle_133 v1) (0, K3) = some e ∧ y.2 = mO e [(235, cut (e.1 235 + 1))] []) := by
  unfold kfl_pi_cycle_130 kfl_pi_cycle_174
  intro y hy
  cases hw : whl (kfb_pi_cycle_133 v1) (0, K3) with
  | none => rw [hw] at hy; cases hy
  | some e =>
    rw [hw, bnd_some] at hy
    cases hy
    exact ⟨K3, e, h, hw, rfl⟩
theorem cy2_100 {v1 u0 : Int} {K2 : mR} (h : fr [233, 234] cyA K K2) : RP (kfl_pi_cycle_100 v1 u0 K2) (fun y => ∃ K3 e, fr [233, 234] cyA K K3 ∧ whl (kfb_pi_cycle_133 v1) (0, K3) = some e ∧ y.2 = mO e [(235, cut (e.1 235 + 1))] []) := by
  unfold kfl_pi_cycle_100
  refine RP_ite (fun _ => cy2_130 (fr_m h rfl rfl)) (fun _ => RP_bnd (u_kf_op_enter _ _) (fun y hy => cy2_130 (fr_m (fr_s hy (fr_m h rfl rfl) rfl rfl) rfl rfl)))
theorem cy2_0 : RP (kf_pi_cycle K) (fun y => ∃ K3 e, fr [233, 234] cyA K K3 ∧ whl (kfb_pi_cycle_133 (cut (K.1 226 - 1))) (0, K3) = some e ∧ y.2 = mO e [(235, cut (e.1 235 + 1))] []) := by
  have B : ∀ (v1 : Int) (K1 : mR), fr [233, 234] cyA K K1 → RP (kfl_pi_cycle_46 v1 K1) (fun y => ∃ K3 e, fr [233, 234] cyA K K3 ∧ whl (kfb_pi_cycle_133 v1) (0, K3) = some e ∧ y.2 = mO e [(235, cut (e.1 235 + 1))] []) := fun v1 K1 h => by
    unfold kfl_pi_cycle_46
    refine RP_bnd (uw_kfb_pi_cycle_48 _ _) (fun e he => ?_)
    have f := fr_s he h rfl rfl
    unfold kfl_pi_cycle_72
    exact RP_ite (fun _ => cy2_100 f) (fun _ => cy2_100 f)
  unfold kf_pi_cycle
  exact RP_ite (fun _ => B _ _ fr_0) (fun _ => RP_bnd (u_kf_op_leave _ _ _) (fun y hy => B _ _ (fr_m (fr_s hy fr_0 rfl rfl) rfl rfl)))
end TP6
