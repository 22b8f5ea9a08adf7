/-! ===== action ===== -/
section ACT
variable {K M : mR}
theorem next_8b {M' : mR} {G C : List Nat} (h : LR K M) (h0 : M.1 7 ≠ 0) (fM : fr G C M M') (c3 : chk [6, 8, 9, 10] G = true) (c4 : chk [4] C = true) : RP (rf_next M') (fun z => M.1 8 + 1 ≤ z.2.1 8) := by
  obtain ⟨hL, hX, hN, ho, hf⟩ := h
  obtain ⟨p, p1, p2, p3, p4⟩ := LX_end hX h0 hL.1
  have hp : M.1 8 + 1 ≤ p := by
    obtain ⟨b1, b2, b3⟩ := hX.2.2.2.2.2.1 h0
    omega
  have e6 := fr1 fM 6 (chk_1 c3 (by decide))
  have e8 := fr1 fM 8 (chk_1 c3 (by decide))
  have e9 := fr1 fM 9 (chk_1 c3 (by decide))
  have e10 := fr1 fM 10 (chk_1 c3 (by decide))
  have e4 := fr2 fM 4 (chk_1 c4 (by decide))
  have hS : SRC M' := by
    unfold SRC
    rw [e6, e4]
    exact hL.1
  unfold rf_next
  rw [if_pos (show M'.1 10 ≤ 0 by omega), e8, e9, p2]
  refine RP_bnd (ws_r hS p3 (by omega)) (fun e he => ?_)
  obtain ⟨q, rfl, hr⟩ := he
  unfold rfl_next_60
  refine RP_bnd (u_rf_look _) (fun y hy => RP_some ?_)
  have e8 : y.2.1 8 = q := fr1 hy.1 8 rfl
  show M.1 8 + 1 ≤ y.2.1 8
  rw [e8]
  have := hr.1
  omega
theorem newN_8 (h : LR K M) {s n b : Int} : RP (rf_newName s n b M) (fun z => 0 < z.2.1 10 ∨ M.1 8 + 1 ≤ z.2.1 8) := by
  have hf := h.2.2.2.2
  have st : ∀ z : Int × mR, 0 < z.2.1 10 → RP (rfl_newName_58 s n z.2) (fun z => 0 < z.2.1 10 ∨ M.1 8 + 1 ≤ z.2.1 8) := fun z hz => RP_w (u_rfl_newName_58 s n z.2) (fun w hw => Or.inl (hw.2 hz))
  have go : M.1 7 = 1 → RP (rfl_newName_58 s n M) (fun z => 0 < z.2.1 10 ∨ M.1 8 + 1 ≤ z.2.1 8) := by
    intro w1
    unfold rfl_newName_58 rf_enter
    rw [if_pos (by omega), bnd_some]
    unfold rfl_newName_73
    have fM : fr [13] [14, 15, 16, 17] M (mO M [(13, cut (M.1 13 + 1))] [(14, upI (M.2 14) (M.1 13) (M.1 8)), (15, upI (M.2 15) (M.1 13) (M.1 9)), (16, upI (M.2 16) (M.1 13) s), (17, upI (M.2 17) (M.1 13) n)]) := fr_m fr_0 rfl rfl
    exact RP_bnd (next_8b h (by omega) fM rfl rfl) (fun q hq => RP_some (Or.inr hq))
  unfold rf_newName
  rw [if_pos (show M.1 10 ≤ 0 by omega)]
  refine RP_ite (fun w1 => ?_) (fun w1 => RP_bnd (bad_1 M) st)
  refine RP_ite (fun e => RP_bnd (wrong_1 (by decide)) st) (fun e => ?_)
  refine RP_bndT (fun t => ?_)
  exact RP_ite (fun _ => go w1) (fun _ => RP_bnd (wrong_1 (by decide)) st)
end ACT
