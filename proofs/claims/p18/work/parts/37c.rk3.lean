/-! ===== all that declarations keep ===== -/
section FB3
variable {K M K' M' : mR} {F A G C : List Nat}
theorem fld29_r {x : Int} : RP (rf_takeFieldOf x M) (fun z => ∀ h, h ≠ x → z.2.2 29 h = M.2 29 h) := by
  have f106 : ∀ v m, RP (rfl_takeFieldOf_106 x v m) (fun z => ∀ h, h ≠ x → z.2.2 29 h = m.2 29 h) := by
    intro v m
    unfold rfl_takeFieldOf_106 rfl_takeFieldOf_138 rfl_takeFieldOf_144 rfl_takeFieldOf_156 rfl_takeFieldOf_163
    refine RP_ite (fun g => ?_) (fun g => RP_some (fun h _ => rfl))
    refine RP_bnd (u_rf_next _) (fun y1 h1 => RP_bnd (u_rf_need 58 _) (fun y2 h2 => RP_bnd (u_rf_number 1 64 _) (fun y3 h3 => RP_bnd (u_rf_need 59 _) (fun y4 h4 => RP_some (fun h hh => ?_)))))
    show upI (y4.2.2 29) x _ h = _
    rw [upI_n hh, fr2 h4.1 29 rfl]
    show y3.2.2 29 h = _
    rw [fr2 h3.1 29 rfl, fr2 h2.1 29 rfl, fr2 h1.1 29 rfl]
    rfl
  have f55 : ∀ v m, RP (rfl_takeFieldOf_55 x v m) (fun z => ∀ h, h ≠ x → z.2.2 29 h = m.2 29 h) := by
    intro v m
    unfold rfl_takeFieldOf_55
    refine RP_bnd (uw_rfb_takeFieldOf_60 x v _) (fun e he => RP_w (f106 v e) (fun z hz h hh => ?_))
    rw [hz h hh, fr2 he.1 29 rfl]
  unfold rf_takeFieldOf
  refine RP_ite (fun _ => RP_ite (fun _ => RP_ite (fun _ => RP_bnd (u_rf_wrong 4 _ M) (fun y hy => RP_w (f55 _ y.2) (fun z hz h hh => ?_))) (fun _ => f55 _ M)) (fun _ => RP_bnd (u_rf_bad M) (fun y hy => RP_w (f55 _ y.2) (fun z hz h hh => ?_)))) (fun _ => RP_some (fun h _ => rfl))
  · rw [hz h hh, fr2 hy.1 29 rfl]
  · rw [hz h hh, fr2 hy.1 29 rfl]
theorem hdr29_r : RP (rf_takeHeader M) (fun z => ∀ h, h ≠ M.1 19 → z.2.2 29 h = M.2 29 h) := by
  unfold rf_takeHeader rfl_takeHeader_4 rfl_takeHeader_20 rfl_takeHeader_59
  refine RP_bnd (u_rf_next M) (fun y hy => RP_bnd (u_rf_newName 1 _ 12 y.2) (fun z hz => ?_))
  have e19 : z.2.1 19 = M.1 19 := (fr1 hz.1 19 rfl).trans (fr1 hy.1 19 rfl)
  have e29 : z.2.2 29 = M.2 29 := (fr2 hz.1 29 rfl).trans (fr2 hy.1 29 rfl)
  refine RP_ite (fun g => RP_some (fun h _ => by rw [e29])) (fun g => RP_bnd (u_rf_need 123 _) (fun w hw => ?_))
  have w29 : ∀ h, h ≠ M.1 19 → w.2.2 29 h = M.2 29 h := by
    intro h hh
    rw [fr2 hw.1 29 rfl]
    show upI (z.2.2 29) (z.2.1 19) 0 h = _
    rw [e19, upI_n hh, e29]
  rw [e19]
  refine RP_bnd (P := fun e : mR => ∀ h, h ≠ M.1 19 → e.2 29 h = M.2 29 h) ?_ (fun e he => RP_w (u_rfl_takeHeader_102 _ _ e) (fun q hq h hh => by rw [fr2 hq.1 29 rfl]; exact he h hh))
  refine RP_whl (I := fun s : Int × mR => ∀ h, h ≠ M.1 19 → s.2.2 29 h = M.2 29 h) (fun s hs => ?_) w29
  unfold rfb_takeHeader_61 rfl_takeHeader_77 rfl_takeHeader_97 rfl_takeHeader_98
  refine RP_ite (fun _ => RP_some hs) (fun _ => RP_ite (fun _ => RP_bnd fld29_r (fun q hq => ?_)) (fun _ => RP_some hs))
  have hq : ∀ h, h ≠ M.1 19 → q.2.2 29 h = M.2 29 h := fun h hh => (hq h hh).trans (hs h hh)
  exact RP_ite (fun _ => RP_ite (fun _ => RP_some hq) (fun _ => RP_some hq)) (fun _ => RP_some hq)
def FBs (K M : mR) : Prop := M.1 64 = -1 ∧ DE K M ∧ AC K M ∧ M.1 99 ≤ M.1 8 ∧ SO K M ∧ SGd (M.1 23) (M.1 24) K M ∧ TBn (M.1 26) K M ∧ (∀ t, 0 ≤ t → t < M.1 26 → M.2 59 t = 0) ∧ K.1 218 = 0 ∧ K.1 225 = 0 ∧ M.1 27 = 0
def FB (K M : mR) : Prop := XP K M ∧ FBs K M
def dcl (M : mR) : Int := M.1 19 + M.1 20 + M.1 21 + M.1 22 + M.1 24 + M.1 25 + M.1 26
/-- what headers, instances, metas, arrays leave as it is -/
theorem FBs_d (h : FBs K M) (hK : fr F A K K') (hM : fr G C M M') (hD : DE K' M') (h8 : M.1 8 ≤ M'.1 8) (c1 : chk [218, 225] F = true) (c2 : chk [26, 30, 33, 34, 35, 36, 37, 43, 44, 72, 73, 74, 75, 76, 77, 79, 80, 81, 82, 83] A = true) (c3 : chk [23, 24, 25, 26, 27, 64, 99] G = true) (c4 : chk [37, 38, 39, 41, 42, 44, 45, 50, 51, 52, 53, 54, 55, 56, 57, 58, 59, 109, 110, 111, 112, 113, 114] C = true) : FBs K' M' := by
  obtain ⟨h1, h2, h3, h4, h5, h6, h7, h8', h9, h10, h11⟩ := h
  refine ⟨(fr1 hM 64 (chk_1 c3 (by decide))).trans h1, hD, ?_, ?_, SO_f hK hM rfl (chk_s c2 rfl) (chk_s c3 rfl) (chk_s c4 rfl) h5, ?_, fun b b0 b1 => ?_, fun t t0 t1 => ?_, (fr1 hK 218 (chk_1 c1 (by decide))).trans h9, (fr1 hK 225 (chk_1 c1 (by decide))).trans h10, (fr1 hM 27 (chk_1 c3 (by decide))).trans h11⟩
  · unfold AC
    rw [fr2 hK 43 (chk_1 c2 (by decide)), fr2 hK 44 (chk_1 c2 (by decide)), fr1 hM 25 (chk_1 c3 (by decide)), fr1 hM 99 (chk_1 c3 (by decide)), fr2 hM 50 (chk_1 c4 (by decide)), fr2 hM 109 (chk_1 c4 (by decide))]
    exact h3
  · rw [fr1 hM 99 (chk_1 c3 (by decide))]; omega
  · unfold SGd
    rw [fr2 hK 26 (chk_1 c2 (by decide)), fr2 hK 30 (chk_1 c2 (by decide)), fr2 hK 33 (chk_1 c2 (by decide)), fr2 hK 34 (chk_1 c2 (by decide)), fr1 hM 23 (chk_1 c3 (by decide)), fr1 hM 24 (chk_1 c3 (by decide)), fr2 hM 39 (chk_1 c4 (by decide)), fr2 hM 41 (chk_1 c4 (by decide)), fr2 hM 42 (chk_1 c4 (by decide)), fr2 hM 44 (chk_1 c4 (by decide)), fr2 hM 45 (chk_1 c4 (by decide))]
    exact h6
  · rw [fr1 hM 25 (chk_1 c3 (by decide))]
    rw [fr1 hM 26 (chk_1 c3 (by decide))] at b1
    exact TB1_c (h7 b b0 b1) (AT_f hK hM (chk_s c2 rfl) (chk_s c4 rfl))
  · rw [fr1 hM 26 (chk_1 c3 (by decide))] at t1
    rw [fr2 hM 59 (chk_1 c4 (by decide))]
    exact h8' t t0 t1
end FB3
