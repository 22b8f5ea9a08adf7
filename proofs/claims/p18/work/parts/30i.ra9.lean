/-! ===== NAMES ===== -/
theorem isHere_r {m : mR} (hS : SRC m) (h8 : 0 ≤ m.1 8 ∧ m.1 8 + m.1 9 ≤ m.1 6) {at' n : Int} (a0 : 0 ≤ at') (n0 : 0 ≤ n) (a1 : at' + n ≤ m.1 6) : RP (rf_isHere at' n m) (fun r => (r = 1 ∧ sameN (m.2 4) (m.1 8) (m.1 9) at' n) ∨ (r = 0 ∧ ¬ sameN (m.2 4) (m.1 8) (m.1 9) at' n)) := by
  have qs := hS.2.1
  have main : ∀ u, ((u = 1 ∧ n = m.1 9) ∨ (u = 0 ∧ n ≠ m.1 9)) → RP (rfl_isHere_13 at' n u m) (fun r => (r = 1 ∧ sameN (m.2 4) (m.1 8) (m.1 9) at' n) ∨ (r = 0 ∧ ¬ sameN (m.2 4) (m.1 8) (m.1 9) at' n)) := by
    intro u hu
    unfold rfl_isHere_13
    refine RP_bnd (P := fun e => (e = 1 ∧ sameN (m.2 4) (m.1 8) (m.1 9) at' n) ∨ (e = 0 ∧ ¬ sameN (m.2 4) (m.1 8) (m.1 9) at' n)) ?_ (fun e he => RP_some he)
    refine RP_whl (I := fun s : Int × Int => 0 ≤ s.2 ∧ s.2 ≤ n ∧ ((s.1 = 1 ∧ n = m.1 9 ∧ ∀ j, 0 ≤ j → j < s.2 → m.2 4 (at' + j) = m.2 4 (m.1 8 + j)) ∨ (s.1 = 0 ∧ ¬ sameN (m.2 4) (m.1 8) (m.1 9) at' n))) (fun s hs => ?_) ⟨by show (0 : Int) ≤ 0; omega, by show (0 : Int) ≤ n; omega, ?_⟩
    · obtain ⟨x, k⟩ := s
      obtain ⟨a, b, c⟩ := hs
      have a : 0 ≤ k := a
      have b : k ≤ n := b
      unfold rfb_isHere_17
      show RP (if n ≤ k then some (Sum.inr x) else if x = 0 then some (Sum.inr x) else if m.2 4 (cut (at' + k)) = m.2 4 (cut (m.1 8 + k)) then rfl_isHere_56 at' n k 1 m else rfl_isHere_56 at' n k 0 m) _
      refine RP_ite (fun g => ?_) (fun g => ?_)
      · rcases c with ⟨c1, c2, c3⟩ | ⟨c1, c2⟩
        · exact RP_some (Or.inl ⟨c1, c2, fun j j0 j1 => c3 j j0 (show j < k by omega)⟩)
        · exact RP_some (Or.inr ⟨c1, c2⟩)
      · refine RP_ite (fun g2 => ?_) (fun g2 => ?_)
        · rcases c with ⟨c1, c2, c3⟩ | ⟨c1, c2⟩
          · exact absurd (show x = 1 from c1) (by omega)
          · exact RP_some (Or.inr ⟨c1, c2⟩)
        · rcases c with ⟨c1, c2, c3⟩ | ⟨c1, c2⟩
          · rw [cut_i (z := at' + k) (by omega) (by omega), cut_i (z := m.1 8 + k) (by omega) (by omega)]
            unfold rfl_isHere_56
            rw [cut_i (z := k + 1) (by omega) (by omega)]
            refine RP_ite (fun g3 => ?_) (fun g3 => ?_)
            · refine RP_some ⟨by show 0 ≤ k + 1; omega, by show k + 1 ≤ n; omega, Or.inl ⟨rfl, c2, fun j j0 j1 => ?_⟩⟩
              have j1 : j < k + 1 := j1
              by_cases hj : j < k
              · exact c3 j j0 hj
              · rw [show j = k by omega]
                exact g3
            · refine RP_some ⟨by show 0 ≤ k + 1; omega, by show k + 1 ≤ n; omega, Or.inr ⟨rfl, fun hs => ?_⟩⟩
              exact g3 (hs.2 k a (by omega))
          · exact absurd (show x = 0 from c1) g2
    · rcases hu with ⟨u1, u2⟩ | ⟨u1, u2⟩
      · exact Or.inl ⟨u1, u2, fun j j0 j1 => absurd (show j < 0 from j1) (by omega)⟩
      · exact Or.inr ⟨u1, fun hs => u2 hs.1⟩
  unfold rf_isHere
  exact RP_ite (fun g => main 1 (Or.inl ⟨rfl, g⟩)) (fun g => main 0 (Or.inr ⟨rfl, g⟩))
theorem gvL_r {m : mR} (h0 : m.2 18 = gvF) {k : Int} (k0 : 0 ≤ k) (k1 : k < 5) : RP (whl (rfb_givenHere_11 (gst k) k m) 0) (fun e => e = glen k) := by
  have hk := gv_a k k0 k1
  refine RP_whl (I := fun s => 0 ≤ s ∧ s ≤ glen k) (fun s hs => ?_) ⟨by omega, by omega⟩
  obtain ⟨a, b⟩ := hs
  unfold rfb_givenHere_11
  rw [h0, cut_i (by omega) (by omega)]
  by_cases hl : s < glen k
  · rw [if_neg (by have := gv_b k s k0 k1 a hl hk.2.2.1; omega), cut_i (by omega) (by omega)]
    exact RP_some ⟨by omega, by omega⟩
  · rw [show s = glen k by omega, if_pos (by rw [hk.2.2.2.2.1]; decide)]
    exact RP_some rfl
theorem gvS_r {m : mR} (h0 : m.2 18 = gvF) (h8 : 0 ≤ m.1 8 ∧ m.1 8 ≤ 4000) {k u : Int} (k0 : 0 ≤ k) (k1 : k < 5) (hu : (u = 1 ∧ glen k = m.1 9) ∨ (u = 0 ∧ glen k ≠ m.1 9)) : RP (whl (rfb_givenHere_46 (gst k) k (glen k) m) (u, 0)) (fun e => (e = 0 ∧ ¬ sameG (m.2 4) (m.1 8) (m.1 9) k) ∨ (e = 1 ∧ sameG (m.2 4) (m.1 8) (m.1 9) k)) := by
  have hk := gv_a k k0 k1
  refine RP_whl (I := fun s : Int × Int => 0 ≤ s.2 ∧ s.2 ≤ glen k ∧ ((s.1 = 1 ∧ glen k = m.1 9 ∧ ∀ j, 0 ≤ j → j < s.2 → m.2 4 (m.1 8 + j) = gvF (gst k + j)) ∨ (s.1 = 0 ∧ ¬ sameG (m.2 4) (m.1 8) (m.1 9) k))) (fun s hs => ?_) ⟨by show (0 : Int) ≤ 0; omega, by show (0 : Int) ≤ _; omega, ?_⟩
  · obtain ⟨x, n⟩ := s
    obtain ⟨a, b, c⟩ := hs
    have a : 0 ≤ n := a
    have b : n ≤ glen k := b
    unfold rfb_givenHere_46
    show RP (if glen k ≤ n then some (Sum.inr x) else if x = 0 then some (Sum.inr x) else if m.2 4 (cut (m.1 8 + n)) = m.2 18 (cut (gst k + n)) then rfl_givenHere_86 (gst k) k (glen k) n 1 m else rfl_givenHere_86 (gst k) k (glen k) n 0 m) _
    refine RP_ite (fun g => ?_) (fun g => ?_)
    · rcases c with ⟨c1, c2, c3⟩ | ⟨c1, c2⟩
      · exact RP_some (Or.inr ⟨c1, c2, fun j j0 j1 => c3 j j0 (show j < n by omega)⟩)
      · exact RP_some (Or.inl ⟨c1, c2⟩)
    · refine RP_ite (fun g2 => ?_) (fun g2 => ?_)
      · rcases c with ⟨c1, c2, c3⟩ | ⟨c1, c2⟩
        · exact absurd (show x = 1 from c1) (by omega)
        · exact RP_some (Or.inl ⟨c1, c2⟩)
      · rcases c with ⟨c1, c2, c3⟩ | ⟨c1, c2⟩
        · rw [h0, cut_i (z := m.1 8 + n) (by omega) (by omega), cut_i (z := gst k + n) (by omega) (by omega)]
          unfold rfl_givenHere_86
          rw [cut_i (z := n + 1) (by omega) (by omega)]
          refine RP_ite (fun g3 => ?_) (fun g3 => ?_)
          · refine RP_some ⟨by show 0 ≤ n + 1; omega, by show n + 1 ≤ _; omega, Or.inl ⟨rfl, c2, fun j j0 j1 => ?_⟩⟩
            have j1 : j < n + 1 := j1
            by_cases hj : j < n
            · exact c3 j j0 hj
            · rw [show j = n by omega]
              exact g3
          · refine RP_some ⟨by show 0 ≤ n + 1; omega, by show n + 1 ≤ _; omega, Or.inr ⟨rfl, fun hs => ?_⟩⟩
            exact g3 (hs.2 n a (by omega))
        · exact absurd (show x = 0 from c1) g2
  · rcases hu with ⟨u1, u2⟩ | ⟨u1, u2⟩
    · exact Or.inl ⟨u1, u2, fun j j0 j1 => absurd (show j < 0 from j1) (by omega)⟩
    · exact Or.inr ⟨u1, fun hs => u2 hs.1⟩
theorem given_r {m : mR} (h0 : m.2 18 = gvF) (h8 : 0 ≤ m.1 8 ∧ m.1 8 ≤ 4000) : RP (rf_givenHere m) (isGH (m.2 4) (m.1 8) (m.1 9)) := by
  unfold rf_givenHere
  refine RP_bnd (P := sel (fun k : Int => isGH (m.2 4) (m.1 8) (m.1 9) k) (fun _ : Unit => isGH (m.2 4) (m.1 8) (m.1 9) (-1))) ?_ (RP_sl (fun e he => RP_some he) (fun e he => RP_some he))
  refine RP_whl (I := fun s : Int × Int => 0 ≤ s.2 ∧ s.2 ≤ 5 ∧ s.1 = gst s.2 ∧ ∀ k', 0 ≤ k' → k' < s.2 → ¬ sameG (m.2 4) (m.1 8) (m.1 9) k') (fun s hs => ?_) ⟨by decide, by decide, by decide, fun k' a b => absurd (show k' < 0 from b) (by omega)⟩
  obtain ⟨f, k⟩ := s
  obtain ⟨a, b, c, d⟩ := hs
  have c : f = gst k := c
  have a : 0 ≤ k := a
  have b : k ≤ 5 := b
  subst c
  unfold rfb_givenHere_4
  show RP (if (5 : Int) ≤ k then some (Sum.inr (Sum.inr ())) else bnd (whl (rfb_givenHere_11 (gst k) k m) 0) (fun e17 : Int => rfl_givenHere_28 (gst k) k e17 m)) _
  refine RP_ite (fun g => ?_) (fun g => ?_)
  · exact RP_some (Or.inr ⟨rfl, fun k' k0 k1 => d k' k0 (show k' < k by omega)⟩)
  · have hk := gv_a k a (by omega)
    refine RP_bnd (gvL_r h0 a (by omega)) (fun e he => ?_)
    subst he
    have main : ∀ u, ((u = 1 ∧ glen k = m.1 9) ∨ (u = 0 ∧ glen k ≠ m.1 9)) → RP (rfl_givenHere_41 (gst k) k (glen k) u m) (sel (fun s : Int × Int => 0 ≤ s.2 ∧ s.2 ≤ 5 ∧ s.1 = gst s.2 ∧ ∀ k', 0 ≤ k' → k' < s.2 → ¬ sameG (m.2 4) (m.1 8) (m.1 9) k') (sel (fun k : Int => isGH (m.2 4) (m.1 8) (m.1 9) k) (fun _ : Unit => isGH (m.2 4) (m.1 8) (m.1 9) (-1)))) := by
      intro u hu
      unfold rfl_givenHere_41
      refine RP_bnd (gvS_r h0 h8 a (by omega) hu) (fun e he => ?_)
      unfold rfl_givenHere_94
      rcases he with ⟨e1, e2⟩ | ⟨e1, e2⟩
      · rw [if_pos e1, cut_i (z := glen k + 1) (by omega) (by omega), cut_i (by omega) (by omega), cut_i (z := k + 1) (by omega) (by omega)]
        refine RP_some ⟨by show 0 ≤ k + 1; omega, by show k + 1 ≤ 5; omega, by show gst k + (glen k + 1) = gst (k + 1); rw [hk.2.2.2.2.2]; omega, fun k' k0 k1 => ?_⟩
        have k1 : k' < k + 1 := k1
        by_cases hj : k' < k
        · exact d k' k0 hj
        · rw [show k' = k by omega]
          exact e2
      · rw [if_neg (by omega)]
        exact RP_some (Or.inl ⟨a, by omega, e2, fun k' k0 k1 => d k' k0 k1⟩)
    unfold rfl_givenHere_28
    exact RP_ite (fun g1 => main 1 (Or.inl ⟨rfl, g1⟩)) (fun g1 => main 0 (Or.inr ⟨rfl, g1⟩))
/-- the reference's names stand in the text -/
def NMs (m : mR) : Prop := 0 ≤ m.1 13 ∧ m.1 13 ≤ 85 ∧ ∀ k, 0 ≤ k → k < m.1 13 → 0 ≤ m.2 14 k ∧ 1 ≤ m.2 15 k ∧ m.2 15 k ≤ 16 ∧ m.2 14 k + m.2 15 k ≤ m.1 6 ∧ ∀ i, 0 ≤ i → i < m.2 15 k → namP (m.2 4 (m.2 14 k + i))
theorem find_r {m : mR} (hS : SRC m) (hN : NMs m) (h8 : 0 ≤ m.1 8 ∧ m.1 8 + m.1 9 ≤ m.1 6) : RP (rf_findHere m) (isFH (m.2 4) (m.2 14) (m.2 15) (m.1 8) (m.1 9) (m.1 13)) := by
  obtain ⟨n0, n1, n2⟩ := hN
  unfold rf_findHere
  refine RP_bnd (P := isFH (m.2 4) (m.2 14) (m.2 15) (m.1 8) (m.1 9) (m.1 13)) ?_ (fun e he => RP_some he)
  refine RP_whl (I := fun s : Int × Int => 0 ≤ s.2 ∧ s.2 ≤ m.1 13 ∧ isFH (m.2 4) (m.2 14) (m.2 15) (m.1 8) (m.1 9) s.2 s.1) (fun s hs => ?_) ⟨by decide, n0, Or.inr ⟨rfl, fun k a b => absurd (show k < 0 from b) (by omega)⟩⟩
  obtain ⟨f, k⟩ := s
  obtain ⟨a, b, c⟩ := hs
  have a : 0 ≤ k := a
  have b : k ≤ m.1 13 := b
  have c : isFH (m.2 4) (m.2 14) (m.2 15) (m.1 8) (m.1 9) k f := c
  unfold rfb_findHere_4 rfl_findHere_36
  show RP (if m.1 13 ≤ k then some (Sum.inr f) else bnd (rf_isHere ((m.2 14) k) ((m.2 15) k) m) fun y4 => if y4 = 0 then some (Sum.inl (f, cut (k + 1))) else some (Sum.inl (k, cut (k + 1)))) _
  refine RP_ite (fun g => ?_) (fun g => ?_)
  · refine RP_some ?_
    show isFH (m.2 4) (m.2 14) (m.2 15) (m.1 8) (m.1 9) (m.1 13) f
    rw [show m.1 13 = k by omega]
    exact c
  · obtain ⟨d1, d2, d3, d4, d5⟩ := n2 k a (by omega)
    rw [cut_i (by omega) (by omega)]
    refine RP_bnd (isHere_r hS h8 d1 (by omega) d4) (fun y hy => ?_)
    rcases hy with ⟨y1, y2⟩ | ⟨y1, y2⟩
    · rw [if_neg (by omega)]
      refine RP_some ⟨by show 0 ≤ k + 1; omega, by show k + 1 ≤ m.1 13; omega, Or.inl ⟨a, by show k < k + 1; omega, y2, fun j j0 j1 => absurd j1 (by show ¬ j < k + 1; omega)⟩⟩
    · rw [if_pos y1]
      refine RP_some ⟨by show 0 ≤ k + 1; omega, by show k + 1 ≤ m.1 13; omega, ?_⟩
      show isFH (m.2 4) (m.2 14) (m.2 15) (m.1 8) (m.1 9) (k + 1) f
      rcases c with ⟨c1, c2, c3, c4⟩ | ⟨c1, c2⟩
      · refine Or.inl ⟨c1, by omega, c3, fun j j0 j1 => ?_⟩
        by_cases hj : j < k
        · exact c4 j j0 hj
        · rw [show j = k by omega]
          exact y2
      · refine Or.inr ⟨c1, fun j j0 j1 => ?_⟩
        by_cases hj : j < k
        · exact c2 j j0 hj
        · rw [show j = k by omega]
          exact y2
theorem sort_r {m : mR} (hS : SRC m) (hN : NMs m) (h18 : m.2 18 = gvF) (h8 : 0 ≤ m.1 8 ∧ m.1 8 + m.1 9 ≤ m.1 6 ∧ m.1 8 ≤ 4000) : RP (rf_sortHere m) (fun r => ∃ g k, isGH (m.2 4) (m.1 8) (m.1 9) g ∧ (g < 0 → isFH (m.2 4) (m.2 14) (m.2 15) (m.1 8) (m.1 9) (m.1 13) k) ∧ r = sortV (m.2 16) g k) := by
  unfold rf_sortHere
  refine RP_bnd (given_r h18 ⟨h8.1, h8.2.2⟩) (fun g hg => ?_)
  refine RP_ite (fun g0 => ?_) (fun g0 => ?_)
  · refine RP_bnd (find_r hS hN ⟨h8.1, h8.2.1⟩) (fun k hk => ?_)
    unfold rfl_sortHere_39
    refine RP_ite (fun k0 => ?_) (fun k0 => ?_)
    · exact RP_some ⟨g, k, hg, fun _ => hk, by unfold sortV; rw [if_neg (by omega), if_neg (by omega)]⟩
    · exact RP_some ⟨g, k, hg, fun _ => hk, by unfold sortV; rw [if_neg (by omega), if_pos (by omega)]⟩
  · unfold rfl_sortHere_19
    refine RP_ite (fun g3 => ?_) (fun g3 => ?_)
    · exact RP_some ⟨g, 0, hg, fun h => absurd h g0, by unfold sortV; rw [if_pos (by omega), if_neg (by omega)]⟩
    · exact RP_some ⟨g, 0, hg, fun h => absurd h g0, by unfold sortV; rw [if_pos (by omega), if_pos (by omega)]⟩
theorem which_r {m : mR} (hS : SRC m) (hN : NMs m) (h18 : m.2 18 = gvF) (h8 : 0 ≤ m.1 8 ∧ m.1 8 + m.1 9 ≤ m.1 6 ∧ m.1 8 ≤ 4000) : RP (rf_whichHere m) (fun r => ∃ g k, isGH (m.2 4) (m.1 8) (m.1 9) g ∧ (g < 0 → isFH (m.2 4) (m.2 14) (m.2 15) (m.1 8) (m.1 9) (m.1 13) k) ∧ r = whichV (m.2 17) g k) := by
  unfold rf_whichHere rfl_whichHere_29
  refine RP_bnd (given_r h18 ⟨h8.1, h8.2.2⟩) (fun g hg => ?_)
  refine RP_ite (fun g0 => ?_) (fun g0 => ?_)
  · refine RP_bnd (find_r hS hN ⟨h8.1, h8.2.1⟩) (fun k hk => ?_)
    exact RP_some ⟨g, k, hg, fun _ => hk, by unfold whichV; rw [if_neg (by omega)]⟩
  · refine RP_ite (fun g3 => ?_) (fun g3 => ?_)
    · refine RP_ite (fun g4 => ?_) (fun g4 => ?_)
      · exact RP_some ⟨g, 0, hg, fun h => absurd h g0, by unfold whichV; rw [if_pos (by omega), if_neg (by omega), if_pos g4]⟩
      · exact RP_some ⟨g, 0, hg, fun h => absurd h g0, by unfold whichV; rw [if_pos (by omega), if_neg (by omega), if_neg g4]⟩
    · exact RP_some ⟨g, 0, hg, fun h => absurd h g0, by unfold whichV; rw [if_pos (by omega), if_pos (by omega)]⟩
theorem find_k {K : mR} (h0 : 0 ≤ K.1 203) (h1 : K.1 203 ≤ 90) : RP (kf_tx_find K) (fun r => (0 ≤ r ∧ r < K.1 203 ∧ K.2 6 r = K.1 209 ∧ K.2 7 r = K.1 210 ∧ ∀ i, 0 ≤ i → i < r → ¬ (K.2 6 i = K.1 209 ∧ K.2 7 i = K.1 210)) ∨ (r = -1 ∧ ∀ i, 0 ≤ i → i < K.1 203 → ¬ (K.2 6 i = K.1 209 ∧ K.2 7 i = K.1 210))) := by
  unfold kf_tx_find
  refine RP_bnd (P := sel (fun r : Int => 0 ≤ r ∧ r < K.1 203 ∧ K.2 6 r = K.1 209 ∧ K.2 7 r = K.1 210 ∧ ∀ i, 0 ≤ i → i < r → ¬ (K.2 6 i = K.1 209 ∧ K.2 7 i = K.1 210)) (fun _ : Unit => ∀ i, 0 ≤ i → i < K.1 203 → ¬ (K.2 6 i = K.1 209 ∧ K.2 7 i = K.1 210))) ?_ (RP_sl (fun e he => RP_some (Or.inl he)) (fun e he => RP_some (Or.inr ⟨rfl, he⟩)))
  refine RP_whl (I := fun s : Int => 0 ≤ s ∧ s ≤ K.1 203 ∧ ∀ i, 0 ≤ i → i < s → ¬ (K.2 6 i = K.1 209 ∧ K.2 7 i = K.1 210)) (fun s hs => ?_) ⟨by decide, h0, fun i a b => absurd b (by omega)⟩
  obtain ⟨a, b, c⟩ := hs
  unfold kfb_tx_find_2 kfl_tx_find_40
  refine RP_ite (fun g => RP_some (fun i i0 i1 => c i i0 (by omega))) (fun g => ?_)
  rw [cut_i (by omega) (by omega)]
  have step : ¬ (K.2 6 s = K.1 209 ∧ K.2 7 s = K.1 210) → RP (some (Sum.inl (s + 1)) : Option (Sum Int (Sum Int Unit))) (sel (fun s : Int => 0 ≤ s ∧ s ≤ K.1 203 ∧ ∀ i, 0 ≤ i → i < s → ¬ (K.2 6 i = K.1 209 ∧ K.2 7 i = K.1 210)) (sel (fun r : Int => 0 ≤ r ∧ r < K.1 203 ∧ K.2 6 r = K.1 209 ∧ K.2 7 r = K.1 210 ∧ ∀ i, 0 ≤ i → i < r → ¬ (K.2 6 i = K.1 209 ∧ K.2 7 i = K.1 210)) (fun _ : Unit => ∀ i, 0 ≤ i → i < K.1 203 → ¬ (K.2 6 i = K.1 209 ∧ K.2 7 i = K.1 210)))) := by
    intro hn
    refine RP_some ⟨by omega, by omega, fun i i0 i1 => ?_⟩
    by_cases hi : i < s
    · exact c i i0 hi
    · rw [show i = s by omega]
      exact hn
  refine RP_ite (fun g1 => ?_) (fun g1 => step (fun h => g1 (cmp64_0.mpr h.1)))
  exact RP_ite (fun g2 => RP_some ⟨a, by omega, cmp64_0.mp g1, cmp64_0.mp g2, c⟩) (fun g2 => step (fun h => g2 (cmp64_0.mpr h.2)))
