/-! ===== room in stages; the first stage, the whole of it ===== -/
section PLC
variable {K M : mR} {j : Int}
theorem cmp64_gt {x y : Int} : (0 : Int) < cmp64 x y ↔ y < x := by
  unfold cmp64
  by_cases h : y < x
  · rw [if_pos h]
    exact ⟨fun _ => h, fun _ => by decide⟩
  · rw [if_neg h]
    by_cases h2 : x = y
    · rw [if_pos h2]
      exact ⟨fun q => absurd q (by decide), fun q => absurd q h⟩
    · rw [if_neg h2]
      exact ⟨fun q => absurd q (by decide), fun q => absurd q h⟩
def SGR (K M : mR) : Prop := ∀ g, 0 ≤ g → g < 12 → K.2 63 g = M.2 132 g ∧ K.2 64 g = M.2 133 g ∧ K.2 65 g = M.2 134 g ∧ (0 ≤ M.2 132 g ∧ M.2 132 g ≤ 8) ∧ (0 ≤ M.2 133 g ∧ M.2 133 g ≤ 2147483647) ∧ (0 ≤ M.2 134 g ∧ M.2 134 g ≤ 2147483647)
theorem room_g {n me wi nm nw o f : Int} (n1 : n ≤ 12) (f0 : 0 ≤ f) (o0 : -1 ≤ o) (me0 : 0 ≤ me ∧ me ≤ 2147483647) (wi0 : 0 ≤ wi ∧ wi ≤ 2147483647) (nm0 : 0 ≤ nm ∧ nm ≤ 100000) (nw0 : 0 ≤ nw ∧ nw ≤ 100000) (hR : SGR K M) (hm : RP (rf_memoryOf j M) (fun v => v = nm)) (hw : RP (rf_wiresOf j M) (fun v => v = nw)) : RR (whl (kfb_sp_earliest_182 n (me - nm) (wi - nw) o K) f) (whl (rfb_stageFor_146 j n me wi o M) f) (fun u v => (∃ g, u = Sum.inl g ∧ v = Sum.inl g ∧ f ≤ g ∧ g < n ∧ M.2 132 g < 8 ∧ M.2 133 g + nm ≤ me ∧ M.2 134 g + nw ≤ wi) ∨ (u = Sum.inr () ∧ v = Sum.inr ())) := by
  refine RR_whl (I := fun p q : Int => p = q ∧ f ≤ p) (fun p q hI => ?_) ⟨rfl, Int.le_refl _⟩
  obtain ⟨rfl, p0⟩ := hI
  unfold kfb_sp_earliest_182 rfb_stageFor_146
  by_cases g : n ≤ p
  · rw [if_pos g, if_pos g]
    exact RR_some (Or.inr ⟨rfl, rfl⟩)
  rw [if_neg g, if_neg g]
  obtain ⟨e1, e2, e3, b1, b2, b3⟩ := hR p (by omega) (by omega)
  have cp : cut (p + 1) = p + 1 := cut_i (by omega) (by omega)
  have go : RR (kfl_sp_earliest_206 n (me - nm) (wi - nw) o p 1 K) (rfl_stageFor_164 j n me wi o p M) (fun u v => sel (fun s' => sel (fun t' => s' = t' ∧ f ≤ s') (fun _ => False) v) (fun x => sel (fun _ => False) (fun y => (∃ g, x = Sum.inl g ∧ y = Sum.inl g ∧ f ≤ g ∧ g < n ∧ M.2 132 g < 8 ∧ M.2 133 g + nm ≤ me ∧ M.2 134 g + nw ≤ wi) ∨ (x = Sum.inr () ∧ y = Sum.inr ())) v) u) := by
    unfold kfl_sp_earliest_206 rfl_stageFor_164 kfl_sp_earliest_235 kfl_sp_earliest_236 kfl_sp_earliest_263 rfl_stageFor_216
    rw [e1, e2, e3, cp, if_neg (show ¬ (1 : Int) = 0 by decide), if_neg (show ¬ (1 : Int) = 0 by decide), if_pos (show (0 : Int) = 0 from rfl)]
    have cont : RR (some (Sum.inl (p + 1)) : Option (Sum Int (Sum Int Unit))) (some (Sum.inl (p + 1)) : Option (Sum Int (Sum Int Unit))) (fun u v => sel (fun s' => sel (fun t' => s' = t' ∧ f ≤ s') (fun _ => False) v) (fun x => sel (fun _ => False) (fun y => (∃ g, x = Sum.inl g ∧ y = Sum.inl g ∧ f ≤ g ∧ g < n ∧ M.2 132 g < 8 ∧ M.2 133 g + nm ≤ me ∧ M.2 134 g + nw ≤ wi) ∨ (x = Sum.inr () ∧ y = Sum.inr ())) v) u) := RR_some ⟨rfl, by omega⟩
    by_cases q1 : (8 : Int) ≤ M.2 132 p
    · rw [if_pos q1, if_pos q1]
      exact RR_il (fun _ => cont) (fun _ => RR_il (fun _ => cont) (fun _ => cont))
    · rw [if_neg q1, if_neg q1]
      refine RR_r hm (fun y hy => ?_)
      rw [hy, cutl_i (by omega) (by omega)]
      by_cases q2 : me - nm < M.2 133 p
      · rw [if_pos q2, if_pos (show (0 : Int) < cmp64 (M.2 133 p + nm) me from cmp64_gt.mpr (by omega))]
        exact cont
      · rw [if_neg q2, if_neg (show ¬ (0 : Int) < cmp64 (M.2 133 p + nm) me from fun q => q2 (by have := cmp64_gt.mp q; omega))]
        refine RR_r hw (fun y2 hy2 => ?_)
        rw [hy2, cutl_i (by omega) (by omega)]
        by_cases q3 : wi - nw < M.2 134 p
        · rw [if_pos q3, if_pos (show (0 : Int) < cmp64 (M.2 134 p + nw) wi from cmp64_gt.mpr (by omega))]
          exact cont
        · rw [if_neg q3, if_neg (show ¬ (0 : Int) < cmp64 (M.2 134 p + nw) wi from fun q => q3 (by have := cmp64_gt.mp q; omega))]
          exact RR_some (Or.inl ⟨p, rfl, rfl, p0, by omega, by omega, by omega, by omega⟩)
  by_cases q1 : o = -1
  · rw [if_pos q1, if_pos (show o < 0 by omega)]
    exact go
  · rw [if_neg q1, if_neg (show ¬ o < 0 by omega)]
    by_cases q2 : o = p
    · rw [if_pos q2, if_pos q2.symm]
      exact go
    · rw [if_neg q2, if_neg (fun q => q2 q.symm)]
      unfold kfl_sp_earliest_206 kfl_sp_earliest_235 kfl_sp_earliest_236 kfl_sp_earliest_263 rfl_stageFor_216
      rw [cp, if_pos (show (0 : Int) = 0 from rfl), if_pos (show (0 : Int) = 0 from rfl)]
      exact RR_il (fun _ => RR_some ⟨rfl, by omega⟩) (fun _ => RR_il (fun _ => RR_some ⟨rfl, by omega⟩) (fun _ => RR_some ⟨rfl, by omega⟩))
theorem earliest_s {n me wi nm nw : Int} (j0 : 0 ≤ j) (j1 : j < 48) (hp : -1 ≤ M.2 61 j ∧ M.2 61 j < j) (hk : K.2 53 j = M.2 61 j) (hP : PO j M) (hH : ∀ i, 0 ≤ i → i < j → K.2 59 i = M.2 131 i) (hS : ∀ i, 0 ≤ i → i ≤ j → SRW i K M) (n1 : n ≤ 12) (me0 : 0 ≤ me ∧ me ≤ 2147483647) (wi0 : 0 ≤ wi ∧ wi ≤ 2147483647) (nm0 : 0 ≤ nm ∧ nm ≤ 100000) (nw0 : 0 ≤ nw ∧ nw ≤ 100000) (hR : SGR K M) (hm : RP (rf_memoryOf j M) (fun v => v = nm)) (hw : RP (rf_wiresOf j M) (fun v => v = nw)) : RR (kf_sp_earliest j n (me - nm) (wi - nw) K) (rf_stageFor j n me wi M) (fun a b => a = b ∧ (a = -1 ∨ (0 ≤ a ∧ a < n ∧ (0 ≤ M.2 61 j → M.2 131 (M.2 61 j) + 1 ≤ a) ∧ M.2 132 a < 8 ∧ M.2 133 a + nm ≤ me ∧ M.2 134 a + nw ≤ wi))) := by
  unfold kf_sp_earliest rf_stageFor
  refine RR_bnd (early_s j0 j1 hp hk hP hH hS) (fun u v huv => ?_)
  unfold rfl_stageFor_135
  rcases huv with ⟨a, b, rfl, rfl, a0, b0, pa⟩ | ⟨rfl, hv⟩
  · show RR (kfl_sp_earliest_178 n (me - nm) (wi - nw) a b K) _ _
    unfold kfl_sp_earliest_178
    rw [if_neg (show ¬ (1 : Int) = 0 by decide)]
    refine RR_bnd (room_g n1 a0 b0 me0 wi0 nm0 nw0 hR hm hw) (fun x y hxy => ?_)
    rcases hxy with ⟨g, rfl, rfl, h1, h2, h3, h4, h5⟩ | ⟨rfl, rfl⟩
    · exact RR_some ⟨rfl, Or.inr ⟨by omega, h2, fun q => by have := pa q; omega, h3, h4, h5⟩⟩
    · exact RR_some ⟨rfl, Or.inl rfl⟩
  · rw [if_pos hv]
    exact RR_some ⟨rfl, Or.inl rfl⟩
end PLC
