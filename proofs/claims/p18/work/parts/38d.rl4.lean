/-! ===== what a step reads and writes, side by side ===== -/
section GST
variable {K M K0 M0 : mR} {s : Int}
def ROWZ (s : Int) (M : mR) : Prop := (∀ y, 0 ≤ y → y < 221 → M.2 135 (221 * s + y) = 0 ∧ M.2 136 (221 * s + y) = 0) ∧ ∀ a, 0 ≤ a → a < 8 → M.2 137 (8 * s + a) = 0
theorem rowclear_k (s0 : 0 ≤ s) (s1 : s < 48) : RP (whl (kfb_sp_gather_2 s) (0, K)) (fun e => fr [] [60, 61] K e ∧ (∀ j, 0 ≤ j → j < 4 → e.2 60 (4 * s + j) = 0 ∧ e.2 61 (4 * s + j) = 0) ∧ ∀ r, (r < 4 * s ∨ 4 * s + 4 ≤ r) → e.2 60 r = K.2 60 r ∧ e.2 61 r = K.2 61 r) := by
  refine RP_whl (I := fun p : Int × mR => 0 ≤ p.1 ∧ p.1 ≤ 4 ∧ fr [] [60, 61] K p.2 ∧ (∀ j, 0 ≤ j → j < p.1 → p.2.2 60 (4 * s + j) = 0 ∧ p.2.2 61 (4 * s + j) = 0) ∧ ∀ r, (r < 4 * s ∨ 4 * s + 4 ≤ r) → p.2.2 60 r = K.2 60 r ∧ p.2.2 61 r = K.2 61 r) (fun p hp => ?_) ⟨Int.le_refl 0, (show (0 : Int) ≤ 4 by decide), fr_0, fun j j0 j1 => absurd (show j < 0 from j1) (by omega), fun r _ => ⟨rfl, rfl⟩⟩
  obtain ⟨k, m⟩ := p
  obtain ⟨b1, b2, b3, b4, b5⟩ := hp
  have b1 : 0 ≤ k := b1
  have b2 : k ≤ 4 := b2
  have b4 : ∀ j, 0 ≤ j → j < k → m.2 60 (4 * s + j) = 0 ∧ m.2 61 (4 * s + j) = 0 := b4
  unfold kfb_sp_gather_2
  dsimp only
  refine RP_ite (fun g => RP_some ⟨b3, fun j j0 j1 => b4 j j0 (by omega), b5⟩) (fun g => ?_)
  rw [show cut (cut (s * 4) + k) = 4 * s + k by rw [cut_i (show -2147483648 ≤ s * 4 by omega) (by omega), cut_i (by omega) (by omega)]; omega, cut_i (by omega) (by omega)]
  refine RP_some ⟨(by show 0 ≤ k + 1; omega), (by show k + 1 ≤ 4; omega), fr_m b3 rfl rfl, fun j j0 j1 => ?_, fun r hr => ?_⟩
  · have j1 : j < k + 1 := j1
    show upI (m.2 60) (4 * s + k) 0 (4 * s + j) = 0 ∧ upI (m.2 61) (4 * s + k) 0 (4 * s + j) = 0
    by_cases e : j = k
    · rw [e, upI_s, upI_s]
      exact ⟨rfl, rfl⟩
    · rw [upI_n (by omega), upI_n (by omega)]
      exact b4 j j0 (by omega)
  · show upI (m.2 60) (4 * s + k) 0 r = _ ∧ upI (m.2 61) (4 * s + k) 0 r = _
    rw [upI_n (by omega), upI_n (by omega)]
    exact b5 r hr
theorem keys_g {t : Int} (s0 : 0 ≤ s) (s1 : s < 48) (t0 : 0 ≤ t) (t8 : t < 8) (tn : t < M0.1 26) (hP : GP K0 M0) (hT : TK t K0 M0) (h : GS s K0 M0 K M) : RR (whl (kfb_sp_gather_115 s t) (0, K)) (whl (rfb_touchesAll_125 s t) (4 * t, M)) (GS s K0 M0) := by
  obtain ⟨c1, c2, c3, c4, -⟩ := hT
  have rg := hP.2.2.2.2.2.2.1 t t0 tn
  refine RR_whl (I := fun (p q : Int × mR) => q.1 = 4 * t + p.1 ∧ 0 ≤ p.1 ∧ GS s K0 M0 p.2 q.2) (fun p q hI => ?_) ⟨(Int.add_zero _).symm, Int.le_refl 0, h⟩
  obtain ⟨i, K1⟩ := p
  obtain ⟨j, M1⟩ := q
  obtain ⟨e, i0, hS⟩ := hI
  have e : j = 4 * t + i := e
  subst e
  have i0 : 0 ≤ i := i0
  have hS : GS s K0 M0 K1 M1 := hS
  unfold kfb_sp_gather_115 rfb_touchesAll_125
  dsimp only
  rw [fr2 hS.1 72 rfl, fr2 hS.1 79 rfl, fr2 hS.1 80 rfl, fr2 hS.2.1 51 rfl, fr2 hS.2.1 110 rfl, fr2 hS.2.1 111 rfl, c1, show cut (cut (4 * t) + M0.2 51 t) = 4 * t + M0.2 51 t by rw [cut_i (show -2147483648 ≤ 4 * t by omega) (by omega), cut_i (by omega) (by omega)]]
  refine RR_ii (by omega) (fun _ _ => RR_some hS) (fun g1 g2 => ?_)
  obtain ⟨d1, d2, d3, -⟩ := c4 i i0 (by omega)
  have r2 := rg i i0 (by omega)
  rw [d1]
  refine RR_bnd (gexpr_s s0 s1 hP.1 hP.2.1 hS r2.2 d2 d3 r2.1) (fun y z hyz => ?_)
  unfold rfl_touchesAll_156
  rw [cut_i (show -2147483648 ≤ i + 1 by omega) (by omega), cut_i (by omega) (by omega)]
  exact RR_some ⟨(by show 4 * t + i + 1 = 4 * t + (i + 1); omega), (by show 0 ≤ i + 1; omega), hyz⟩
theorem list_g {t : Int} (s0 : 0 ≤ s) (s1 : s < 48) (t0 : 0 ≤ t) (t8 : t < 8) (hP : GP K0 M0) (hA : ACw K0 M0) (hT : TL (M0.1 25) t K0 M0) (h : GS s K0 M0 K M) : RR (whl (kfb_sp_gather_156 s t) (0, K)) (whl (rfb_touchesAll_167 s t) (8 * t, M)) (GS s K0 M0) := by
  obtain ⟨c1, c2, c3, c4⟩ := hT
  refine RR_whl (I := fun (p q : Int × mR) => q.1 = 8 * t + p.1 ∧ 0 ≤ p.1 ∧ GS s K0 M0 p.2 q.2) (fun p q hI => ?_) ⟨(Int.add_zero _).symm, Int.le_refl 0, h⟩
  obtain ⟨i, K1⟩ := p
  obtain ⟨j, M1⟩ := q
  obtain ⟨e, i0, hS⟩ := hI
  have e : j = 8 * t + i := e
  subst e
  have i0 : 0 ≤ i := i0
  have hS : GS s K0 M0 K1 M1 := hS
  unfold kfb_sp_gather_156 rfb_touchesAll_167
  dsimp only
  rw [fr2 hS.1 73 rfl, fr2 hS.1 83 rfl, fr2 hS.2.1 53 rfl, fr2 hS.2.1 114 rfl, c1, show cut (cut (8 * t) + M0.2 53 t) = 8 * t + M0.2 53 t by rw [cut_i (show -2147483648 ≤ 8 * t by omega) (by omega), cut_i (by omega) (by omega)]]
  refine RR_ii (by omega) (fun _ _ => RR_some hS) (fun g1 g2 => ?_)
  obtain ⟨d1, d2, d3⟩ := c4 i i0 (by omega)
  rw [d1]
  refine RR_bnd (action_g s0 s1 hP hA hS d2 d3) (fun y z hyz => ?_)
  unfold rfl_touchesAll_193
  rw [cut_i (show -2147483648 ≤ i + 1 by omega) (by omega), cut_i (by omega) (by omega)]
  exact RR_some ⟨(by show 8 * t + i + 1 = 8 * t + (i + 1); omega), (by show 0 ≤ i + 1; omega), hyz⟩
theorem gather_s (hP : GP K0 M0) (hA : ACw K0 M0) (h26 : M0.1 26 ≤ 8) (hT : TBn (M0.1 26) K0 M0) (h27 : M0.1 27 ≤ 48) (hC : CSn (M0.1 27) K0 M0) (s0 : 0 ≤ s) (s1 : s < M0.1 27) (hz : ROWZ s M0) : RR (kf_sp_gather s K0) (rfb_touchesAll_53 (s, M0)) (fun y v => ∃ M', v = Sum.inl (s + 1, M') ∧ GS s K0 M0 y.2 M') := by
  have s48 : s < 48 := by omega
  unfold kf_sp_gather
  refine RR_l (rowclear_k s0 s48) (fun e he => ?_)
  obtain ⟨e1, e2, e3⟩ := he
  have hG : GS s K0 M0 (mO e [] [(62, upI (e.2 62) s 0)]) M0 := by
    refine ⟨fr_m (fr_s e1 fr_0 rfl rfl) rfl rfl, fr_0, SR_0 (fun r hr => (e3 r hr).1) (fun j j0 j1 => (e2 j j0 j1).1) (fun y y0 y1 => (hz.1 y y0 y1).1), SW_0 (fun r hr => (e3 r hr).2) (fun j j0 j1 => (e2 j j0 j1).2) (fun y y0 y1 => (hz.1 y y0 y1).2), SA_0 (fun r hr => ?_) upI_s hz.2⟩
    show upI (e.2 62) s 0 r = _
    rw [upI_n hr, fr2 e1 62 rfl]
  have fin : ∀ m : mR, rfl_touchesAll_210 s m = some (Sum.inl (s + 1, m)) := by
    intro m
    unfold rfl_touchesAll_210
    rw [cut_i (by omega) (by omega)]
  obtain ⟨c1, c2, c3, c4, c5, c6⟩ := hC s s0 s1
  unfold kfl_sp_gather_35 rfb_touchesAll_53
  dsimp only
  rw [if_neg (show ¬ M0.1 27 ≤ s by omega), fr2 e1 52 rfl, fr2 e1 57 rfl, fr2 e1 58 rfl, fr2 e1 56 rfl, fr2 e1 55 rfl, c1]
  rcases c6 with ⟨d1, d2, d3, d4, d5, d6⟩ | ⟨d1, d2, d3, d4, d5, d6⟩ | ⟨d1, ⟨d2, d3⟩, d4, d5⟩
  · rw [if_neg (by omega), if_pos d1, if_pos d1, d4]
    refine RR_bnd (deed_s s0 s48 hP hG d5 d6) (fun y z hyz => ?_)
    rw [fin]
    exact RR_some ⟨_, rfl, hyz⟩
  · have r2 := hP.2.2.2.2.2.2.2.1 s s0 s1 d1
    rw [if_pos d1, if_neg (by omega), if_pos d1, d4]
    refine RR_bnd (gexpr_s s0 s48 hP.1 hP.2.1 hG r2.2 d5 d6 r2.1) (fun y z hyz => ?_)
    rw [fin]
    exact RR_some ⟨_, rfl, hyz⟩
  · have hB := hT (M0.2 63 s) d2 d3
    rw [if_neg (by omega), if_neg (by omega), if_neg (by omega), if_neg (by omega), c4, show cut (4 * M0.2 63 s) = 4 * M0.2 63 s from cut_i (by omega) (by omega)]
    refine RR_bnd (keys_g s0 s48 d2 (by omega) d3 hP hB.1 hG) (fun K1 M1 h1 => ?_)
    unfold kfl_sp_gather_153 rfl_touchesAll_162
    rw [show cut (8 * M0.2 63 s) = 8 * M0.2 63 s from cut_i (by omega) (by omega)]
    refine RR_bnd (list_g s0 s48 d2 (by omega) hP hA hB.2.1 h1) (fun K2 M2 h2 => ?_)
    unfold kfl_sp_gather_184 rfl_touchesAll_199
    obtain ⟨b1, b2, b3⟩ := hB.2.2.2.1
    rw [fr2 h2.1 74 rfl, fr2 h2.2.1 57 rfl, b1]
    refine RR_bnd (action_g s0 s48 hP hA h2 b2 b3) (fun y z hyz => ?_)
    rw [fin]
    exact RR_some ⟨_, rfl, hyz⟩
end GST
