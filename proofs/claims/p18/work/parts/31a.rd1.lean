/-! ===== EXPRs: signs' levels, operands, what fits ===== -/
def lvl (w : Int) : Int := (rf_level w).getD (-1)
theorem lvl_c (w : Int) : w = 4 ∨ w = 5 ∨ w = 6 ∨ w = 7 ∨ w = 60 ∨ w = 62 ∨ w = 8 ∨ w = 9 ∨ w = 10 ∨ w = 11 ∨ w = 12 ∨ w = 38 ∨ w = 43 ∨ w = 45 ∨ w = 94 ∨ w = 124 ∨ (w ≠ 4 ∧ w ≠ 5 ∧ w ≠ 6 ∧ w ≠ 7 ∧ w ≠ 60 ∧ w ≠ 62 ∧ w ≠ 8 ∧ w ≠ 9 ∧ w ≠ 10 ∧ w ≠ 11 ∧ w ≠ 12 ∧ w ≠ 38 ∧ w ≠ 43 ∧ w ≠ 45 ∧ w ≠ 94 ∧ w ≠ 124) := by
  by_cases h0 : w = 4
  · exact Or.inl h0
  by_cases h1 : w = 5
  · exact Or.inr (Or.inl h1)
  by_cases h2 : w = 6
  · exact Or.inr (Or.inr (Or.inl h2))
  by_cases h3 : w = 7
  · exact Or.inr (Or.inr (Or.inr (Or.inl h3)))
  by_cases h4 : w = 60
  · exact Or.inr (Or.inr (Or.inr (Or.inr (Or.inl h4))))
  by_cases h5 : w = 62
  · exact Or.inr (Or.inr (Or.inr (Or.inr (Or.inr (Or.inl h5)))))
  by_cases h6 : w = 8
  · exact Or.inr (Or.inr (Or.inr (Or.inr (Or.inr (Or.inr (Or.inl h6))))))
  by_cases h7 : w = 9
  · exact Or.inr (Or.inr (Or.inr (Or.inr (Or.inr (Or.inr (Or.inr (Or.inl h7)))))))
  by_cases h8 : w = 10
  · exact Or.inr (Or.inr (Or.inr (Or.inr (Or.inr (Or.inr (Or.inr (Or.inr (Or.inl h8))))))))
  by_cases h9 : w = 11
  · exact Or.inr (Or.inr (Or.inr (Or.inr (Or.inr (Or.inr (Or.inr (Or.inr (Or.inr (Or.inl h9)))))))))
  by_cases h10 : w = 12
  · exact Or.inr (Or.inr (Or.inr (Or.inr (Or.inr (Or.inr (Or.inr (Or.inr (Or.inr (Or.inr (Or.inl h10))))))))))
  by_cases h11 : w = 38
  · exact Or.inr (Or.inr (Or.inr (Or.inr (Or.inr (Or.inr (Or.inr (Or.inr (Or.inr (Or.inr (Or.inr (Or.inl h11)))))))))))
  by_cases h12 : w = 43
  · exact Or.inr (Or.inr (Or.inr (Or.inr (Or.inr (Or.inr (Or.inr (Or.inr (Or.inr (Or.inr (Or.inr (Or.inr (Or.inl h12))))))))))))
  by_cases h13 : w = 45
  · exact Or.inr (Or.inr (Or.inr (Or.inr (Or.inr (Or.inr (Or.inr (Or.inr (Or.inr (Or.inr (Or.inr (Or.inr (Or.inr (Or.inl h13)))))))))))))
  by_cases h14 : w = 94
  · exact Or.inr (Or.inr (Or.inr (Or.inr (Or.inr (Or.inr (Or.inr (Or.inr (Or.inr (Or.inr (Or.inr (Or.inr (Or.inr (Or.inr (Or.inl h14))))))))))))))
  by_cases h15 : w = 124
  · exact Or.inr (Or.inr (Or.inr (Or.inr (Or.inr (Or.inr (Or.inr (Or.inr (Or.inr (Or.inr (Or.inr (Or.inr (Or.inr (Or.inr (Or.inr (Or.inl h15)))))))))))))))
  exact Or.inr (Or.inr (Or.inr (Or.inr (Or.inr (Or.inr (Or.inr (Or.inr (Or.inr (Or.inr (Or.inr (Or.inr (Or.inr (Or.inr (Or.inr (Or.inr (⟨h0, h1, h2, h3, h4, h5, h6, h7, h8, h9, h10, h11, h12, h13, h14, h15⟩))))))))))))))))
theorem lvl_o {w : Int} (h : w ≠ 4 ∧ w ≠ 5 ∧ w ≠ 6 ∧ w ≠ 7 ∧ w ≠ 60 ∧ w ≠ 62 ∧ w ≠ 8 ∧ w ≠ 9 ∧ w ≠ 10 ∧ w ≠ 11 ∧ w ≠ 12 ∧ w ≠ 38 ∧ w ≠ 43 ∧ w ≠ 45 ∧ w ≠ 94 ∧ w ≠ 124) : rf_level w = some (-1) := by
  obtain ⟨h1, h2, h3, h4, h5, h6, h7, h8, h9, h10, h11, h12, h13, h14, h15, h16⟩ := h
  unfold rf_level
  rw [if_neg h1, if_neg h2, if_neg h3, if_neg h4, if_neg h7, if_neg h8, if_neg h9, if_neg h10, if_neg h11, if_neg h12, if_neg h13, if_neg h14, if_neg h5, if_neg h6, if_neg h15, if_neg h16]
theorem level_r (w : Int) : rf_level w = some (lvl w) := by
  rcases lvl_c w with rfl | rfl | rfl | rfl | rfl | rfl | rfl | rfl | rfl | rfl | rfl | rfl | rfl | rfl | rfl | rfl | h
  all_goals first
    | rfl
    | (unfold lvl; rw [lvl_o h]; rfl)
/-- all signs of two operands -/
theorem lvl_in (w : Int) : ((w = 4 ∨ w = 5 ∨ w = 6 ∨ w = 7 ∨ w = 60 ∨ w = 62) ∧ lvl w = 2) ∨ (w = 8 ∧ lvl w = 8) ∨ (w = 9 ∧ lvl w = 1) ∨ (w = 10 ∧ lvl w = 0) ∨ ((w = 11 ∨ w = 12) ∧ lvl w = 6) ∨ (w = 38 ∧ lvl w = 5) ∨ ((w = 43 ∨ w = 45) ∧ lvl w = 7) ∨ (w = 94 ∧ lvl w = 4) ∨ (w = 124 ∧ lvl w = 3) ∨ ((w ≠ 4 ∧ w ≠ 5 ∧ w ≠ 6 ∧ w ≠ 7 ∧ w ≠ 60 ∧ w ≠ 62 ∧ w ≠ 8 ∧ w ≠ 9 ∧ w ≠ 10 ∧ w ≠ 11 ∧ w ≠ 12 ∧ w ≠ 38 ∧ w ≠ 43 ∧ w ≠ 45 ∧ w ≠ 94 ∧ w ≠ 124) ∧ lvl w = -1) := by
  rcases lvl_c w with rfl | rfl | rfl | rfl | rfl | rfl | rfl | rfl | rfl | rfl | rfl | rfl | rfl | rfl | rfl | rfl | h
  · have e : lvl 4 = 2 := rfl
    omega
  · have e : lvl 5 = 2 := rfl
    omega
  · have e : lvl 6 = 2 := rfl
    omega
  · have e : lvl 7 = 2 := rfl
    omega
  · have e : lvl 60 = 2 := rfl
    omega
  · have e : lvl 62 = 2 := rfl
    omega
  · have e : lvl 8 = 8 := rfl
    omega
  · have e : lvl 9 = 1 := rfl
    omega
  · have e : lvl 10 = 0 := rfl
    omega
  · have e : lvl 11 = 6 := rfl
    omega
  · have e : lvl 12 = 6 := rfl
    omega
  · have e : lvl 38 = 5 := rfl
    omega
  · have e : lvl 43 = 7 := rfl
    omega
  · have e : lvl 45 = 7 := rfl
    omega
  · have e : lvl 94 = 4 := rfl
    omega
  · have e : lvl 124 = 3 := rfl
    omega
  · have e : lvl w = -1 := by
      unfold lvl
      rw [lvl_o h]
      rfl
    exact Or.inr (Or.inr (Or.inr (Or.inr (Or.inr (Or.inr (Or.inr (Or.inr (Or.inr ⟨h, e⟩))))))))
theorem lvl_k {w : Int} (h : wdom w) (m : mR) : kf_fm_levelOf (wm w) m = some (lvl w + 1) := by
  rcases lvl_c w with rfl | rfl | rfl | rfl | rfl | rfl | rfl | rfl | rfl | rfl | rfl | rfl | rfl | rfl | rfl | rfl | q
  all_goals first
    | rfl
    | skip
  have e : lvl w = -1 := by
    unfold lvl
    rw [lvl_o q]
    rfl
  rw [e]
  obtain ⟨h1, h2, h3, h4, h5, h6, h7, h8, h9, h10, h11, h12, h13, h14, h15, h16⟩ := q
  unfold wdom at h
  by_cases k12 : w ≤ 12
  · have : w = 0 ∨ w = 1 ∨ w = 2 := by
      clear h5 h6 h12 h13 h14 h15 h16 e
      omega
    rcases this with rfl | rfl | rfl <;> rfl
  · have k3 : 33 ≤ w ∧ w ≤ 330 := by
      clear h1 h2 h3 h4 h5 h6 h7 h8 h9 h10 h11 h12 h13 h14 h15 h16 e
      omega
    clear h1 h2 h3 h4 h7 h8 h9 h10 h11 h
    rw [wm_hi (by omega)]
    unfold kf_fm_levelOf
    rw [if_neg h12, if_neg h13, if_neg h14, if_neg h5, if_neg h6, if_neg h15, if_neg h16]
    clear h12 h13 h14 h5 h6 h15 h16 e
    rw [if_neg (by omega), if_neg (by omega), if_neg (by omega), if_neg (by omega), if_neg (by omega), if_neg (by omega), if_neg (by omega), if_neg (by omega), if_neg (by omega)]
    rfl
/-- an operand of the class is what the reference keeps of it -/
def OP (K : mR) (o bits bare val : Int) : Prop := (bare = 0 ∧ K.2 18 o ≠ 257 ∧ K.2 22 o = bits ∧ 1 ≤ bits ∧ bits ≤ 64) ∨ (bare = 1 ∧ K.2 18 o = 257 ∧ K.2 22 o = 64 ∧ bits = 64 ∧ K.2 24 o = val)
theorem OP_c {K K' : mR} {o b r v : Int} (h : OP K o b r v) (e1 : K'.2 18 o = K.2 18 o) (e2 : K'.2 22 o = K.2 22 o) (e3 : K'.2 24 o = K.2 24 o) : OP K' o b r v := by
  unfold OP at *
  rw [e1, e2, e3]
  exact h
theorem OP_r {K : mR} {o b r v : Int} (h : OP K o b r v) : (r = 0 ∨ r = 1) ∧ 1 ≤ b ∧ b ≤ 64 ∧ K.2 22 o = b := by
  rcases h with ⟨h1, h2, h3, h4, h5⟩ | ⟨h1, h2, h3, h4, h5⟩
  · exact ⟨Or.inl h1, h4, h5, h3⟩
  · exact ⟨Or.inr h1, by omega, by omega, by omega⟩
def fitv (v w : Int) : Prop := 64 ≤ w ∨ ushr64 v w = 0
def FIT (b r v w : Int) : Prop := (r = 0 → b = w) ∧ (r ≠ 0 → fitv v w)
section FITS
variable {K M : mR} {o b r v w : Int}
theorem fits_k (h : OP K o b r v) : RP (kf_nd_fits o w K) (fun y => fr [] [22] K y.2 ∧ (∀ i, i ≠ o → y.2.2 22 i = K.2 22 i) ∧ ((y.1 = 1 ∧ FIT b r v w ∧ y.2.2 22 o = w) ∨ (y.1 = 0 ∧ ¬ FIT b r v w))) := by
  unfold kf_nd_fits kfl_nd_fits_54 kfl_nd_fits_59 kfl_nd_fits_27
  rcases h with ⟨h1, h2, h3, h4, h5⟩ | ⟨h1, h2, h3, h4, h5⟩
  · rw [if_neg h2]
    refine RP_ite (fun g => RP_some ⟨fr_0, fun _ _ => rfl, Or.inl ⟨rfl, ⟨fun _ => by omega, fun q => absurd h1 q⟩, g⟩⟩) (fun g => RP_some ⟨fr_0, fun _ _ => rfl, Or.inr ⟨rfl, fun q => ?_⟩⟩)
    have := q.1 h1
    omega
  · have fw : fr [] [22] K (mO K [] [(22, upI (K.2 22) o w)]) := fr_m fr_0 rfl rfl
    have fn : ∀ i, i ≠ o → (mO K [] [(22, upI (K.2 22) o w)]).2 22 i = K.2 22 i := fun i hi => upI_n hi
    have fs : (mO K [] [(22, upI (K.2 22) o w)]).2 22 o = w := upI_s
    rw [if_pos h2]
    refine RP_ite (fun g => RP_some ⟨fw, fn, Or.inl ⟨rfl, ⟨fun q => absurd q (by omega), fun _ => Or.inl g⟩, fs⟩⟩) (fun g => ?_)
    rw [h5]
    refine RP_ite (fun g2 => RP_some ⟨fw, fn, Or.inl ⟨rfl, ⟨fun q => absurd q (by omega), fun _ => Or.inr (cmp64_0.mp g2)⟩, fs⟩⟩) (fun g2 => RP_some ⟨fw, fn, Or.inr ⟨rfl, fun q => ?_⟩⟩)
    rcases q.2 (by omega) with q | q
    · exact g q
    · exact g2 (cmp64_0.mpr q)
theorem fits_r (hw : w ≤ 64) : RP (rf_fits v w) (fun y => (y = 1 ∧ fitv v w) ∨ (y = 0 ∧ ¬ fitv v w)) := by
  unfold rf_fits rfl_fits_14 rfl_fits_19
  refine RP_ite (fun g => RP_some (Or.inl ⟨rfl, Or.inl (by omega)⟩)) (fun g => RP_ite (fun g2 => RP_some (Or.inl ⟨rfl, Or.inr (cmp64_0.mp g2)⟩)) (fun g2 => RP_some (Or.inr ⟨rfl, fun q => ?_⟩)))
  rcases q with q | q
  · omega
  · exact g2 (cmp64_0.mpr q)
/-- the reference's want -/
theorem want_r {a p : Int} : RP (rf_want a p M) (fun z => (a ≠ 0 ∧ z.2 = M) ∨ (a = 0 ∧ 0 < z.2.1 10)) := by
  unfold rf_want
  exact RP_ite (fun g => RP_bnd (wrong_1 (by decide)) (fun z hz => RP_some (Or.inr ⟨g, hz⟩))) (fun g => RP_some (Or.inl ⟨g, rfl⟩))
theorem wantBit_r {p : Int} (hr : r = 0 ∨ r = 1) : RP (rf_wantBit b r v p M) (fun z => (FIT b r v 1 ∧ z.2 = M) ∨ (¬ FIT b r v 1 ∧ 0 < z.2.1 10)) := by
  unfold rf_wantBit rfl_wantBit_31
  have ok : FIT b r v 1 → RP (bnd (rf_want 1 p M) fun y1 => some ((0 : Int), y1.2)) (fun z => (FIT b r v 1 ∧ z.2 = M) ∨ (¬ FIT b r v 1 ∧ 0 < z.2.1 10)) := by
    intro h
    refine RP_bnd want_r (fun z hz => RP_some ?_)
    rcases hz with hz | hz
    · exact Or.inl ⟨h, hz.2⟩
    · exact absurd hz.1 (by decide)
  have no : ¬ FIT b r v 1 → RP (bnd (rf_want 0 p M) fun y1 => some ((0 : Int), y1.2)) (fun z => (FIT b r v 1 ∧ z.2 = M) ∨ (¬ FIT b r v 1 ∧ 0 < z.2.1 10)) := by
    intro h
    refine RP_bnd want_r (fun z hz => RP_some ?_)
    rcases hz with hz | hz
    · exact absurd rfl hz.1
    · exact Or.inr ⟨h, hz.2⟩
  refine RP_ite (fun g => RP_ite (fun g2 => ok ⟨fun _ => g2, fun q => absurd g q⟩) (fun g2 => no (fun q => g2 (q.1 g)))) (fun g => RP_ite (fun g2 => ok ⟨fun q => absurd q g, fun _ => Or.inr (cmp64_0.mp g2)⟩) (fun g2 => no (fun q => ?_)))
  rcases q.2 g with q | q
  · omega
  · exact g2 (cmp64_0.mpr q)
end FITS
/-- two operands have a width together -/
def COM (b1 r1 v1 b2 r2 v2 : Int) : Prop := (r1 ≠ 0 → r2 = 0 → fitv v1 b2) ∧ (r1 = 0 → r2 ≠ 0 → fitv v2 b1) ∧ (r1 = 0 → r2 = 0 → b1 = b2)
def CWD (b1 r1 b2 r2 : Int) : Int := if r1 = 0 then b1 else if r2 = 0 then b2 else 64
section AGR
variable {K M : mR} {o1 b1 r1 v1 o2 b2 r2 v2 : Int}
theorem common_r {a1 a2 : Int} (h1 : b1 ≤ 64) (h2 : b2 ≤ 64) : RP (rf_common b1 r1 v1 a1 b2 r2 v2 a2 M) (fun z => (COM b1 r1 v1 b2 r2 v2 ∧ z.2 = M ∧ z.1 = CWD b1 r1 b2 r2) ∨ (¬ COM b1 r1 v1 b2 r2 v2 ∧ 0 < z.2.1 10)) := by
  unfold rf_common rfl_common_12 rfl_common_63
  have wk : ∀ (a p c : Int), (a ≠ 0 ↔ COM b1 r1 v1 b2 r2 v2) → c = CWD b1 r1 b2 r2 → RP (bnd (rf_want a p M) fun y1 => some (c, y1.2)) (fun z => (COM b1 r1 v1 b2 r2 v2 ∧ z.2 = M ∧ z.1 = CWD b1 r1 b2 r2) ∨ (¬ COM b1 r1 v1 b2 r2 v2 ∧ 0 < z.2.1 10)) := by
    intro a p c hc hw
    refine RP_bnd want_r (fun z hz => RP_some ?_)
    rcases hz with ⟨z1, z2⟩ | ⟨z1, z2⟩
    · exact Or.inl ⟨hc.mp z1, z2, hw⟩
    · exact Or.inr ⟨fun q => hc.mpr q z1, z2⟩
  by_cases e1 : r1 = 0
  · rw [if_pos e1, if_pos e1]
    have cw : b1 = CWD b1 r1 b2 r2 := by unfold CWD; rw [if_pos e1]
    by_cases e2 : r2 = 0
    · rw [if_pos e2]
      refine RP_ite (fun g => wk 1 _ _ ⟨fun _ => ⟨fun q => absurd e1 q, fun _ q => absurd e2 q, fun _ _ => g⟩, fun _ => by decide⟩ cw) (fun g => wk 0 _ _ ⟨fun q => absurd rfl q, fun q => absurd (q.2.2 e1 e2) g⟩ cw)
    · rw [if_neg e2]
      refine RP_bnd (fits_r h1) (fun y hy => ?_)
      rcases hy with ⟨y1, y2⟩ | ⟨y1, y2⟩
      · exact wk y _ _ ⟨fun _ => ⟨fun q => absurd e1 q, fun _ _ => y2, fun _ q => absurd q e2⟩, fun _ => by omega⟩ cw
      · exact wk y _ _ ⟨fun q => absurd y1 q, fun q => absurd (q.2.1 e1 e2) y2⟩ cw
  · rw [if_neg e1, if_neg e1]
    by_cases e2 : r2 = 0
    · rw [if_pos e2]
      have cw : b2 = CWD b1 r1 b2 r2 := by unfold CWD; rw [if_neg e1, if_pos e2]
      refine RP_bnd (fits_r h2) (fun y hy => ?_)
      rcases hy with ⟨y1, y2⟩ | ⟨y1, y2⟩
      · exact wk y _ _ ⟨fun _ => ⟨fun _ _ => y2, fun q => absurd q e1, fun q => absurd q e1⟩, fun _ => by omega⟩ cw
      · exact wk y _ _ ⟨fun q => absurd y1 q, fun q => absurd (q.1 e1 e2) y2⟩ cw
    · rw [if_neg e2]
      refine RP_some (Or.inl ⟨⟨fun _ q => absurd q e2, fun q => absurd q e1, fun q => absurd q e1⟩, rfl, ?_⟩)
      unfold CWD
      rw [if_neg e1, if_neg e2]
theorem agree91_k {o b r v w : Int} (h : OP K o b r v) : RP (kfl_fm_agree_91 o w K) (fun y => (y.1 = 0 ∧ FIT b r v w ∧ y.2.2.2 22 o = w ∧ fr [] [22] K y.2.2 ∧ ∀ i, i ≠ o → y.2.2.2 22 i = K.2 22 i) ∨ (y.1 ≠ 0 ∧ ¬ FIT b r v w)) := by
  unfold kfl_fm_agree_91
  refine RP_bnd (fits_k h) (fun y hy => ?_)
  obtain ⟨f1, f2, f3⟩ := hy
  rcases f3 with ⟨y1, y2, y3⟩ | ⟨y1, y2⟩
  · rw [if_neg (by omega)]
    exact RP_some (Or.inl ⟨rfl, y2, y3, f1, f2⟩)
  · rw [if_pos y1]
    exact RP_w (thr_l (A := fun y5 => some (0, 0, y5.2.2)) (fail_1 _ _ _)) (fun z hz => Or.inr ⟨hz, y2⟩)
theorem agree1_k {o b r v : Int} (h : OP K o b r v) : RP (kf_fm_agree o (-1) K) (fun y => (y.1 = 0 ∧ FIT b r v 1 ∧ y.2.2.2 22 o = 1 ∧ fr [] [22] K y.2.2 ∧ ∀ i, i ≠ o → y.2.2.2 22 i = K.2 22 i) ∨ (y.1 ≠ 0 ∧ ¬ FIT b r v 1)) := by
  unfold kf_fm_agree kfl_fm_agree_39 kfl_fm_agree_40 kfl_fm_agree_50 kfl_fm_agree_55
  rw [if_pos rfl, if_pos rfl, if_pos rfl]
  exact agree91_k h
theorem agree2_k (h1 : OP K o1 b1 r1 v1) (h2 : OP K o2 b2 r2 v2) (n2 : o2 ≠ -1) (n12 : o1 ≠ o2) : RP (kf_fm_agree o1 o2 K) (fun y => (y.1 = 0 ∧ COM b1 r1 v1 b2 r2 v2 ∧ y.2.2.2 22 o1 = CWD b1 r1 b2 r2 ∧ fr [] [22] K y.2.2 ∧ ∀ i, i ≠ o1 → i ≠ o2 → y.2.2.2 22 i = K.2 22 i) ∨ (y.1 ≠ 0 ∧ ¬ COM b1 r1 v1 b2 r2 v2)) := by
  unfold kf_fm_agree kfl_fm_agree_39 kfl_fm_agree_40 kfl_fm_agree_50 kfl_fm_agree_55
  rw [if_neg n2, if_neg n2, if_neg n2, if_neg n2, if_neg n2]
  obtain ⟨q1, q2, q3, q4⟩ := OP_r h1
  obtain ⟨p1, p2, p3, p4⟩ := OP_r h2
  have k1 : K.2 18 o1 = 257 ↔ r1 ≠ 0 := by
    rcases h1 with ⟨a, b, -⟩ | ⟨a, b, -⟩
    · exact ⟨fun q => absurd q b, fun q => absurd a q⟩
    · exact ⟨fun _ => by omega, fun _ => b⟩
  have k2 : K.2 18 o2 = 257 ↔ r2 ≠ 0 := by
    rcases h2 with ⟨a, b, -⟩ | ⟨a, b, -⟩
    · exact ⟨fun q => absurd q b, fun q => absurd a q⟩
    · exact ⟨fun _ => by omega, fun _ => b⟩
  -- the second is looked at, at the first's width
  have snd : (r1 = 0 ∨ r2 ≠ 0) → RP (kfl_fm_agree_91 o2 (K.2 22 o1) K) (fun y => (y.1 = 0 ∧ COM b1 r1 v1 b2 r2 v2 ∧ y.2.2.2 22 o1 = CWD b1 r1 b2 r2 ∧ fr [] [22] K y.2.2 ∧ ∀ i, i ≠ o1 → i ≠ o2 → y.2.2.2 22 i = K.2 22 i) ∨ (y.1 ≠ 0 ∧ ¬ COM b1 r1 v1 b2 r2 v2)) := by
    intro hc
    have fc : FIT b2 r2 v2 (K.2 22 o1) ↔ COM b1 r1 v1 b2 r2 v2 := by
      rw [q4]
      constructor
      · intro q
        refine ⟨fun x y => ?_, fun x y => q.2 y, fun x y => (q.1 y).symm⟩
        omega
      · intro q
        refine ⟨fun x => ?_, fun x => ?_⟩
        · by_cases e : r1 = 0
          · exact (q.2.2 e x).symm
          · omega
        · by_cases e : r1 = 0
          · exact q.2.1 e x
          · have : b1 = 64 := by
              rcases h1 with h1 | h1
              · exact absurd h1.1 e
              · exact h1.2.2.2.1
            exact Or.inl (by omega)
    have cw : K.2 22 o1 = CWD b1 r1 b2 r2 := by
      unfold CWD
      rw [q4]
      by_cases e : r1 = 0
      · rw [if_pos e]
      · rw [if_neg e, if_neg (by omega)]
        rcases h1 with h1 | h1
        · exact absurd h1.1 e
        · exact h1.2.2.2.1
    refine RP_w (agree91_k h2) (fun y hy => ?_)
    rcases hy with ⟨y1, y2, y3, y4, y5⟩ | ⟨y1, y2⟩
    · exact Or.inl ⟨y1, fc.mp y2, (y5 o1 n12).trans cw, y4, fun i _ i2 => y5 i i2⟩
    · exact Or.inr ⟨y1, fun q => y2 (fc.mpr q)⟩
  by_cases e1 : r1 = 0
  · rw [if_neg (fun q => k1.mp q e1), if_pos rfl, if_pos rfl]
    exact snd (Or.inl e1)
  · rw [if_pos (k1.mpr e1)]
    by_cases e2 : r2 = 0
    · rw [if_neg (fun q => k2.mp q e2), if_neg (show ¬ (1 : Int) = 0 by decide), if_neg n2, if_neg (show ¬ (1 : Int) = 0 by decide)]
      have fc : FIT b1 r1 v1 (K.2 22 o2) ↔ COM b1 r1 v1 b2 r2 v2 := by
        rw [p4]
        exact ⟨fun q => ⟨fun x _ => q.2 x, fun x => absurd x e1, fun x => absurd x e1⟩, fun q => ⟨fun x => absurd x e1, fun x => q.1 x e2⟩⟩
      have cw : K.2 22 o2 = CWD b1 r1 b2 r2 := by
        unfold CWD
        rw [p4, if_neg e1, if_pos e2]
      refine RP_w (agree91_k h1) (fun y hy => ?_)
      rcases hy with ⟨y1, y2, y3, y4, y5⟩ | ⟨y1, y2⟩
      · exact Or.inl ⟨y1, fc.mp y2, y3.trans cw, y4, fun i i1 _ => y5 i i1⟩
      · exact Or.inr ⟨y1, fun q => y2 (fc.mpr q)⟩
    · rw [if_pos (k2.mpr e2), if_pos rfl, if_pos rfl]
      exact snd (Or.inr e2)
theorem joined_k (h1 : OP K o1 b1 r1 v1) (h2 : OP K o2 b2 r2 v2) : RP (kf_fm_joined o1 o2 K) (fun y => (y.1 = 0 ∧ (r1 = 0 ∧ r2 = 0 ∧ b1 + b2 ≤ 64) ∧ y.2.1 = b1 + b2 ∧ y.2.2 = K) ∨ (y.1 ≠ 0 ∧ ¬ (r1 = 0 ∧ r2 = 0 ∧ b1 + b2 ≤ 64))) := by
  obtain ⟨q1, q2, q3, q4⟩ := OP_r h1
  obtain ⟨p1, p2, p3, p4⟩ := OP_r h2
  unfold kf_fm_joined kfl_fm_joined_40 kfl_fm_joined_68 kfl_fm_joined_91
  rw [q4, p4, cut_i (by omega) (by omega)]
  have bad : ∀ (u o : Int), ¬ (r1 = 0 ∧ r2 = 0 ∧ b1 + b2 ≤ 64) → RP (bnd (kf_tx_fail u ((K.2 23) o) K) fun y1 => if y1.1 = 0 then some (0, b1 + b2, y1.2.2) else some (y1.1, 0, y1.2.2)) (fun y => (y.1 = 0 ∧ (r1 = 0 ∧ r2 = 0 ∧ b1 + b2 ≤ 64) ∧ y.2.1 = b1 + b2 ∧ y.2.2 = K) ∨ (y.1 ≠ 0 ∧ ¬ (r1 = 0 ∧ r2 = 0 ∧ b1 + b2 ≤ 64))) := fun u o hn => RP_w (thr_l (A := fun y1 => some (0, b1 + b2, y1.2.2)) (fail_1 _ _ _)) (fun z hz => Or.inr ⟨hz, hn⟩)
  rcases h1 with ⟨a1, a2, -⟩ | ⟨a1, a2, -⟩
  · rw [if_neg a2, if_pos rfl]
    rcases h2 with ⟨c1, c2, -⟩ | ⟨c1, c2, -⟩
    · rw [if_neg c2]
      refine RP_ite (fun g => RP_some (Or.inl ⟨rfl, ⟨a1, c1, g⟩, rfl, rfl⟩)) (fun g => ?_)
      rw [if_pos rfl]
      exact bad _ _ (fun q => g q.2.2)
    · rw [if_pos c2, if_pos rfl]
      exact bad _ _ (fun q => by omega)
  · rw [if_pos a2, if_neg (show ¬ (1 : Int) = 0 by decide), if_neg (show ¬ (1 : Int) = 0 by decide)]
    exact bad _ _ (fun q => by omega)
end AGR
