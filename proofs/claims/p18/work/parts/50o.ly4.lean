/-! ===== answers that change nothing, side by side ===== -/
theorem FP1_n {y a : Int} {t t' : af_T} (ha : R32 a) (h : FP1 t y ((.inl (some (.int (i32 a))), t', 0, 0) : ag_Re af_T)) : y = a := (i32_inj ha h.1 (Value.int.inj (Option.some.inj (Sum.inl.inj (Prod.mk.inj h.2).1)))).symm
section LY4
variable {K M : mR} {a b : Int}
theorem in_r {n : Int} : RP (rf_in a n) (fun y => (y = 0 ∧ (a < 0 ∨ n ≤ a)) ∨ (y = 1 ∧ 0 ≤ a ∧ a < n)) := by
  unfold rf_in
  exact RP_ite (fun h => RP_some (Or.inl ⟨rfl, Or.inl h⟩)) (fun h => RP_ite (fun g => RP_some (Or.inl ⟨rfl, Or.inr g⟩)) (fun g => RP_some (Or.inr ⟨rfl, by omega, by omega⟩)))
theorem laid_k : RP (kf_pw_isLaid K) (fun y => (y = 0 ∧ (K.1 201 = 0 ∨ K.1 226 ≤ 0)) ∨ (y = 1 ∧ K.1 201 ≠ 0 ∧ 0 < K.1 226)) := by
  unfold kf_pw_isLaid
  exact RP_ite (fun h => RP_some (Or.inl ⟨rfl, Or.inl h⟩)) (fun h => RP_ite (fun g => RP_some (Or.inl ⟨rfl, Or.inr g⟩)) (fun g => RP_some (Or.inr ⟨rfl, h, by omega⟩)))
theorem homeless_q (h : REL0 K M) : RR (kf_pw_homeless K) (rf_homeless M) (fun y z => y = z.1) := RR_some h.2.2.2.2.2.2.2.2.1
theorem step_q (h : REL0 K M) : RR (kf_pw_step a b K) (rf_step a b M) (fun y z => y = z.1) := by
  obtain ⟨h0, h1, h2, h3, h4, h5, h6, ⟨h7, h7b⟩, h8, h9, h10, h11⟩ := h
  unfold kf_pw_step rf_step
  refine RR_ii (by rw [h4]) (fun _ _ => RR_some rfl) (fun q1 q2 => ?_)
  obtain ⟨-, -, -, -, -, -, -, -, ⟨c1, c2, c3, c4⟩, -⟩ := h6 (by omega)
  refine RR_r in_r (fun y hy => ?_)
  rcases hy with ⟨e, hy⟩ | ⟨e, y0, y1⟩
  · refine RR_ir (fun _ => ?_) (fun q => absurd e q)
    exact RR_il (fun _ => RR_some rfl) (fun _ => RR_il (fun g => absurd g (by omega)) (fun _ => RR_some rfl))
  · refine RR_ir (fun q => absurd q (by omega)) (fun _ => ?_)
    refine RR_il (fun g => absurd g (by omega)) (fun _ => RR_il (fun _ => ?_) (fun g => absurd (show a < K.1 225 by omega) g))
    obtain ⟨s1, s2, s3, s4, -⟩ := c4 a y0 y1
    refine RR_ii Iff.rfl (fun _ _ => RR_some s1) (fun _ _ => ?_)
    refine RR_ii Iff.rfl (fun _ _ => ?_) (fun _ _ => ?_)
    · rcases h7 with ⟨l1, l2, l3, l4, l5⟩ | ⟨l1, l2⟩
      · exact RR_il (fun g => absurd g (by omega)) (fun _ => RR_ir (fun g => absurd g (by omega)) (fun _ => RR_some (l5 a y0 y1).1))
      · exact RR_il (fun _ => RR_ir (fun _ => RR_some rfl) (fun g => absurd l1 g)) (fun g => absurd (show K.1 226 ≤ 0 by omega) g)
    · exact RR_ii Iff.rfl (fun _ _ => RR_some s4) (fun _ _ => RR_some rfl)
theorem stage_q (h : REL0 K M) : RR (kf_pw_stage a b K) (rf_stage a b M) (fun y z => y = z.1) := by
  obtain ⟨h0, h1, h2, h3, h4, h5, h6, ⟨h7, h7b⟩, h8, h9, h10, h11⟩ := h
  unfold kf_pw_stage rf_stage
  refine RR_l laid_k (fun y hy => ?_)
  rcases h7 with ⟨l1, l2, l3, l4, l5⟩ | ⟨l1, l2⟩
  · have q := h7b l1
    refine RR_il (fun g => absurd g (by omega)) (fun _ => RR_ir (fun g => absurd g (by omega)) (fun _ => ?_))
    refine RR_r in_r (fun x hx => ?_)
    rcases hx with ⟨e, hx⟩ | ⟨e, x0, x1⟩
    · refine RR_ir (fun _ => ?_) (fun q => absurd e q)
      exact RR_il (fun _ => RR_some rfl) (fun _ => RR_il (fun g => absurd g (by omega)) (fun _ => RR_some rfl))
    · refine RR_ir (fun q => absurd q (by omega)) (fun _ => ?_)
      refine RR_il (fun g => absurd g (by omega)) (fun _ => RR_il (fun _ => ?_) (fun g => absurd (show a < K.1 226 by omega) g))
      obtain ⟨s1, s2, s3, s4, s5, s6⟩ := l4 a x0 (by omega)
      refine RR_ii Iff.rfl (fun _ _ => RR_some s1) (fun _ _ => ?_)
      refine RR_ii Iff.rfl (fun _ _ => RR_some (by show K.2 64 a = cut (M.2 133 a); rw [cut_i (by omega) (by omega)]; exact s2)) (fun _ _ => ?_)
      exact RR_ii Iff.rfl (fun _ _ => RR_some (by show K.2 65 a = cut (M.2 134 a); rw [cut_i (by omega) (by omega)]; exact s3)) (fun _ _ => RR_some rfl)
  · exact RR_il (fun _ => RR_ir (fun _ => RR_some rfl) (fun g => absurd l1 g)) (fun g => absurd (show y = 0 by omega) g)
theorem ibits_q (hN : CNq K M) (hH : HD K M) (hI : IN K M) : RR (kf_pr_instanceBits K) (whl (rfb_size_108 (mO M [(1, 0)] [])) (0, 0)) (fun y z => y = z) := by
  unfold kf_pr_instanceBits
  obtain ⟨⟨n1, n2, -⟩, n3, n4, -⟩ := hN
  have L : RR (whl (kfb_pr_instanceBits_4 K) (0, 0)) (whl (rfb_size_108 (mO M [(1, 0)] [])) (0, 0)) (fun y z => y = z) := by
    refine RR_whl (I := fun s t => s = t ∧ 0 ≤ s.2) (fun s t hs => ?_) ⟨rfl, Int.le_refl 0⟩
    obtain ⟨rfl, s0⟩ := hs
    unfold kfb_pr_instanceBits_4 rfb_size_108
    refine RR_ii (show K.1 215 ≤ s.2 ↔ M.1 20 ≤ s.2 by rw [n2]) (fun _ _ => RR_some rfl) (fun g _ => ?_)
    obtain ⟨i1, i2, i3⟩ := hI s.2 s0 (by omega)
    rw [i1]
    obtain ⟨d1, d2, ⟨d3, d4, d5⟩, d6, d7⟩ := hH.1 (M.2 34 s.2) i2 i3
    refine RR_l (hbits_k i2 (by omega) (fun i j0 j1 => ?_)) (fun y hy => ?_)
    · by_cases q : i < M.2 29 (M.2 34 s.2)
      · have := d6 i j0 q
        omega
      · have := d7 i (by omega) j1
        omega
    · refine RR_some ?_
      show (cut (s.1 + y), cut (s.2 + 1)) = (cut (s.1 + M.2 30 (M.2 34 s.2)), cut (s.2 + 1)) ∧ 0 ≤ cut (s.2 + 1)
      rw [hy, ← d3]
      refine ⟨rfl, ?_⟩
      rw [cut_i (by omega) (by omega)]
      omega
  first | exact L | exact RR_l (fun y hy => hy) (fun y hy => fun u w hu hw => by cases hu; exact L _ _ hy hw)
theorem size_q (h : REL0 K M) : RR (kf_pw_size a K) (rf_size a M) (fun y z => y = z.1) := by
  obtain ⟨h0, h1, h2, h3, h4, h5, h6, ⟨h7, h7b⟩, h8, h9, h10, h11⟩ := h
  unfold kf_pw_size rf_size
  refine RR_ii (by rw [h4]) (fun _ _ => RR_some rfl) (fun q1 q2 => ?_)
  obtain ⟨⟨b1, b2, b3, b4, b5, b6, b7⟩, -, -, -, -, -, -, -, ⟨c1, c2, c3, c4⟩, -⟩ := h6 (by omega)
  obtain ⟨⟨n1, n2, n3, n4, n5, n6, n7, n8⟩, -⟩ := id b1
  refine RR_ii Iff.rfl (fun _ _ => RR_some n1) (fun _ _ => ?_)
  refine RR_ii Iff.rfl (fun _ _ => RR_some n2) (fun _ _ => ?_)
  refine RR_ii Iff.rfl (fun _ _ => RR_some n3) (fun _ _ => ?_)
  refine RR_ii Iff.rfl (fun _ _ => RR_some n4) (fun _ _ => ?_)
  refine RR_ii Iff.rfl (fun _ _ => RR_some n7) (fun _ _ => ?_)
  refine RR_ii Iff.rfl (fun _ _ => RR_some n8) (fun _ _ => ?_)
  refine RR_ii Iff.rfl (fun _ _ => RR_some n5) (fun _ _ => ?_)
  refine RR_ii Iff.rfl (fun _ _ => RR_some c1) (fun _ _ => ?_)
  refine RR_ii Iff.rfl (fun _ _ => ?_) (fun _ _ => RR_some rfl)
  exact RR_bnd (ibits_q b1 b3 b5) (fun y z e => RR_some e)
end LY4
