/-! ===== a declaration more ===== -/
section CN9
variable {M : mR}
theorem st179_r {v : Int} (b0 : 0 ≤ M.1 24) (b1 : M.1 24 ≤ 16) : RP (rfl_takeState_179 v M) (fun z => 0 < z.2.1 10 ∨ z.2.1 24 = M.1 24 + 1) := by
  unfold rfl_takeState_179
  refine RP_bnd (u_rf_next _) (fun y hy => RP_w (u_rfl_takeState_243 _ y.2) (fun z hz => Or.inr ?_))
  rw [fr1 hz.1 24 rfl, fr1 hy.1 24 rfl]
  show cut (M.1 24 + 1) = _
  rw [cut_i (by omega) (by omega)]
theorem st140_r {v1 v2 : Int} (b0 : 0 ≤ M.1 24) (b1 : M.1 24 ≤ 16) : RP (rfl_takeState_140 v1 v2 M) (fun z => 0 < z.2.1 10 ∨ z.2.1 24 = M.1 24 + 1) := by
  unfold rfl_takeState_140 rfl_takeState_169
  refine RP_ite (fun g => RP_ite (fun g2 => ?_) (fun g2 => st179_r b0 b1)) (fun g => RP_some (Or.inl (by show 0 < M.1 10; omega)))
  refine RP_bnd (u_rf_enter 5 v2 _) (fun y hy => ?_)
  have e : y.2.1 24 = M.1 24 := fr1 hy.1 24 rfl
  refine RP_w (st179_r (M := mO y.2 [(23, cut (y.2.1 23 + 1))] []) (by show 0 ≤ y.2.1 24; omega) (by show y.2.1 24 ≤ 16; omega)) (fun z hz => ?_)
  rcases hz with q | q
  · exact Or.inl q
  · have q : z.2.1 24 = y.2.1 24 + 1 := q
    exact Or.inr (by omega)
theorem state24_r (b0 : 0 ≤ M.1 24) (b1 : M.1 24 ≤ 16) : RP (rf_takeState M) (fun z => 0 < z.2.1 10 ∨ z.2.1 24 = M.1 24 + 1) := by
  unfold rf_takeState rfl_takeState_4 rfl_takeState_113 rfl_takeState_58 rfl_takeState_76 rfl_takeState_77 rfl_takeState_133
  refine RP_bnd (u_rf_next M) (fun y hy => ?_)
  have e : y.2.1 24 = M.1 24 := fr1 hy.1 24 rfl
  have go : ∀ v1 v2, RP (rfl_takeState_140 v1 v2 y.2) (fun z => 0 < z.2.1 10 ∨ z.2.1 24 = M.1 24 + 1) := fun v1 v2 => RP_w (st140_r (by omega) (by omega)) (fun z hz => by omega)
  have wr : ∀ a v1 v2, RP (bnd (rf_wrong a (y.2.1 8) y.2) fun y60 => rfl_takeState_140 v1 v2 y60.2) (fun z => 0 < z.2.1 10 ∨ z.2.1 24 = M.1 24 + 1) := fun a v1 v2 => RP_bnd (u_rf_wrong a (y.2.1 8) y.2) (fun w hw => by
    have e2 : w.2.1 24 = y.2.1 24 := fr1 hw.1 24 rfl
    exact RP_w (st140_r (by omega) (by omega)) (fun z hz => by omega))
  refine RP_ite (fun g => RP_ite (fun g2 => RP_bndT (fun t => RP_ite (fun g3 => RP_bndT (fun i => RP_ite (fun g4 => ?_) (fun g4 => RP_ite (fun _ => go _ _) (fun _ => ?_)))) (fun g3 => ?_))) (fun g2 => RP_bnd (bad_1 y.2) (fun w hw => RP_some (Or.inl hw)))) (fun g => RP_some (Or.inl (by show 0 < y.2.1 10; omega)))
  · exact RP_ite (fun _ => wr _ _ _) (fun _ => RP_ite (fun _ => wr _ _ _) (fun _ => wr _ _ _))
  · exact RP_ite (fun _ => wr _ _ _) (fun _ => RP_ite (fun _ => wr _ _ _) (fun _ => wr _ _ _))
  · exact RP_ite (fun g4 => RP_ite (fun _ => wr _ _ _) (fun _ => RP_ite (fun _ => go _ _) (fun _ => RP_ite (fun _ => wr _ _ _) (fun _ => wr _ _ _)))) (fun g4 => RP_ite (fun _ => go _ _) (fun _ => RP_ite (fun _ => wr _ _ _) (fun _ => wr _ _ _)))
theorem newN_0 {s n b : Int} : RP (rf_newName s n b M) (fun z => z.1 = 0 → 0 < z.2.1 10) := by
  have go : ∀ m : mR, RP (rfl_newName_58 s n m) (fun z => z.1 = 0 → 0 < z.2.1 10) := by
    intro m
    unfold rfl_newName_58 rfl_newName_73
    exact RP_ite (fun g => RP_bndT (fun y => RP_bndT (fun z => RP_some (fun q => absurd (show (1 : Int) = 0 from q) (by decide))))) (fun g => RP_some (fun _ => by show 0 < m.1 10; omega))
  unfold rf_newName
  exact RP_ite (fun g => RP_ite (fun _ => RP_ite (fun _ => RP_bndT (fun y => go _)) (fun _ => RP_bndT (fun t => RP_ite (fun _ => go _) (fun _ => RP_bndT (fun y => go _))))) (fun _ => RP_bndT (fun y => go _))) (fun g => RP_some (fun _ => by show 0 < M.1 10; omega))
theorem act25_r (b0 : 0 ≤ M.1 25) (b1 : M.1 25 ≤ 16) : RP (rf_takeAction M) (fun z => 0 < z.2.1 10 ∨ z.2.1 25 = M.1 25 + 1) := by
  unfold rf_takeAction rfl_takeAction_4 rfl_takeAction_16
  refine RP_bnd (u_rf_next M) (fun y hy => ?_)
  refine RP_bnd (P := fun z : Int × mR => (z.1 = 0 → 0 < z.2.1 10) ∧ UR rF_newName rA_newName y.2 z.2) (fun z hz => ⟨newN_0 z hz, u_rf_newName _ _ _ y.2 z hz⟩) (fun z hz => ?_)
  have e : z.2.1 25 = M.1 25 := (fr1 hz.2.1 25 rfl).trans (fr1 hy.1 25 rfl)
  refine RP_ite (fun g => RP_some (Or.inl (hz.1 g))) (fun g => RP_bnd (u_rf_need 40 _) (fun w hw => RP_w (u_rfl_takeAction_65 _ w.2) (fun q hq => Or.inr ?_)))
  rw [fr1 hq.1 25 rfl, fr1 hw.1 25 rfl]
  show cut (z.2.1 25 + 1) = _
  rw [cut_i (by omega) (by omega), e]
theorem tab26_r (b0 : 0 ≤ M.1 26) (b1 : M.1 26 ≤ 8) : RP (rf_takeTable M) (fun z => 0 < z.2.1 10 ∨ z.2.1 26 = M.1 26 + 1) := by
  unfold rf_takeTable rfl_takeTable_4 rfl_takeTable_16
  refine RP_bnd (u_rf_next M) (fun y hy => ?_)
  refine RP_bnd (P := fun z : Int × mR => (z.1 = 0 → 0 < z.2.1 10) ∧ UR rF_newName rA_newName y.2 z.2) (fun z hz => ⟨newN_0 z hz, u_rf_newName _ _ _ y.2 z hz⟩) (fun z hz => ?_)
  have e : z.2.1 26 = M.1 26 := (fr1 hz.2.1 26 rfl).trans (fr1 hy.1 26 rfl)
  refine RP_ite (fun g => RP_some (Or.inl (hz.1 g))) (fun g => RP_bnd (u_rf_need 123 _) (fun w hw => RP_w (u_rfl_takeTable_76 _ w.2) (fun q hq => Or.inr ?_)))
  rw [fr1 hq.1 26 rfl, fr1 hw.1 26 rfl]
  show cut (z.2.1 26 + 1) = _
  rw [cut_i (by omega) (by omega), e]
end CN9
