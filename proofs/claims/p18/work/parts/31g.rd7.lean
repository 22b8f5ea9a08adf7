/-! ===== EXPRs: names as operands ===== -/
section NAM
variable {K M : mR}
/-- a name kept as two longs is the word at hand -/
theorem two_iff (h : LR K M) (h1 : M.1 7 = 1) {a b s n : Int} (t4 : 0 ≤ s) (t5 : 1 ≤ n) (t6 : n ≤ 16) (t8 : ∀ j, 0 ≤ j → j < n → namP (M.2 4 (s + j))) (t9 : PK a b (fun j => M.2 4 (s + j)) n) (t10 : R64 a) (t11 : R64 b) : (a = K.1 209 ∧ b = K.1 210) ↔ sameN (M.2 4) (M.1 8) (M.1 9) s n := by
  obtain ⟨n16, nch, npk, nr1, nr2⟩ := h.2.1.2.2.2.2.2.2.2.2 h1
  obtain ⟨xe, y1, y2⟩ := h.2.1.2.2.2.2.2.1 (by omega)
  constructor
  · intro hh
    have npk2 := npk
    rw [← hh.1, ← hh.2] at npk2
    have := PK_inj t9 npk2 (by omega) (by omega) t6 n16 (fun j j0 j1 => namP_p (t8 j j0 j1)) (fun j j0 j1 => namP_p (nch j j0 j1))
    exact ⟨this.1, this.2⟩
  · intro hs
    have npk2 : PK (K.1 209) (K.1 210) (fun j => M.2 4 (M.1 8 + j)) n := by
      rw [hs.1]
      exact npk
    exact PK_c t10 t11 nr1 nr2 t9 npk2 (fun j j0 j1 => hs.2 j j0 j1)
theorem parOf_k {a u v : Int} (a0 : 0 ≤ a) (a1 : a < 16) (h4 : K.2 39 a ≤ 4) (h0 : 0 ≤ K.2 39 a) : RP (kf_ac_parameterOf a u v K) (fun r => (0 ≤ r ∧ r < K.2 39 a ∧ K.2 41 (4 * a + r) = u ∧ K.2 42 (4 * a + r) = v) ∨ (r = -1 ∧ ∀ j, 0 ≤ j → j < K.2 39 a → ¬ (K.2 41 (4 * a + j) = u ∧ K.2 42 (4 * a + j) = v))) := by
  unfold kf_ac_parameterOf
  refine RP_bnd (P := sel (fun r : Int => 0 ≤ r ∧ r < K.2 39 a ∧ K.2 41 (4 * a + r) = u ∧ K.2 42 (4 * a + r) = v) (fun _ : Unit => ∀ j, 0 ≤ j → j < K.2 39 a → ¬ (K.2 41 (4 * a + j) = u ∧ K.2 42 (4 * a + j) = v))) ?_ (RP_sl (fun e he => RP_some (Or.inl he)) (fun e he => RP_some (Or.inr ⟨rfl, he⟩)))
  refine RP_whl (I := fun s : Int => 0 ≤ s ∧ s ≤ 4 ∧ ∀ j, 0 ≤ j → j < s → ¬ (K.2 41 (4 * a + j) = u ∧ K.2 42 (4 * a + j) = v)) (fun s hs => ?_) ⟨by decide, by decide, fun i a b => absurd b (by omega)⟩
  obtain ⟨s0, s1, s2⟩ := hs
  unfold kfb_ac_parameterOf_3 kfl_ac_parameterOf_55
  rw [if_neg (by omega)]
  refine RP_ite (fun g => RP_some (fun j j0 j1 => s2 j j0 (by omega))) (fun g => ?_)
  rw [cut_i (z := a * 4) (by omega) (by omega), cut_i (z := a * 4 + s) (by omega) (by omega), cut_i (z := s + 1) (by omega) (by omega), show a * 4 + s = 4 * a + s by omega]
  have step : ¬ (K.2 41 (4 * a + s) = u ∧ K.2 42 (4 * a + s) = v) → RP (some (Sum.inl (s + 1)) : Option (Sum Int (Sum Int Unit))) (sel (fun s : Int => 0 ≤ s ∧ s ≤ 4 ∧ ∀ j, 0 ≤ j → j < s → ¬ (K.2 41 (4 * a + j) = u ∧ K.2 42 (4 * a + j) = v)) (sel (fun r : Int => 0 ≤ r ∧ r < K.2 39 a ∧ K.2 41 (4 * a + r) = u ∧ K.2 42 (4 * a + r) = v) (fun _ : Unit => ∀ j, 0 ≤ j → j < K.2 39 a → ¬ (K.2 41 (4 * a + j) = u ∧ K.2 42 (4 * a + j) = v)))) := by
    intro hn
    refine RP_some ⟨by omega, by omega, fun j j0 j1 => ?_⟩
    by_cases hj : j < s
    · exact s2 j j0 hj
    · rw [show j = s by omega]
      exact hn
  refine RP_ite (fun g2 => ?_) (fun g2 => step (fun q => g2 (cmp64_0.mpr q.1)))
  exact RP_ite (fun g3 => RP_some ⟨s0, by omega, cmp64_0.mp g2, cmp64_0.mp g3⟩) (fun g3 => step (fun q => g3 (cmp64_0.mpr q.2)))
/-- the parameter that the word at hand names -/
theorem par_s (hE : EB K M) (h1 : M.1 7 = 1) : RR (kf_ac_parameterOf (K.1 231) (K.1 209) (K.1 210) K) (rf_parameterHere M) (fun r y => (r = -1 ∧ y < 0) ∨ (0 ≤ M.1 64 ∧ 0 ≤ r ∧ r < M.2 46 (M.1 64) ∧ y = 4 * M.1 64 + r)) := by
  obtain ⟨hL, hN, hP, hd, hd2, ha, ha1, ha2⟩ := id hE
  rw [ha]
  unfold rf_parameterHere
  have h25 : M.1 25 ≤ 16 := hP.1.2.2.2.2.2.2.2.1.2
  by_cases a0 : M.1 64 < 0
  · rw [if_pos a0]
    refine RR_w (RR_pr (A := fun r : Int => r = -1) (B := fun y : Int => y < 0) ?_ (RP_some (by decide))) (fun r y q => Or.inl q)
    unfold kf_ac_parameterOf
    refine RP_bnd (P := sel (fun _ => False) (fun _ => True)) ?_ (RP_sl (fun e he => False.elim he) (fun e _ => RP_some rfl))
    refine RP_whl (I := fun _ => True) (fun s _ => ?_) trivial
    unfold kfb_ac_parameterOf_3
    rw [if_pos (by omega)]
    exact RP_some trivial
  · rw [if_neg a0]
    obtain ⟨p1, p2, p3, p4, p5⟩ := hP.2.2.2.2.2.2 (M.1 64) (by omega) ha2
    have h8 := LR_8 hL h1
    have hit : ∀ i, 0 ≤ i → i < M.2 46 (M.1 64) → ((K.2 41 (4 * M.1 64 + i) = K.1 209 ∧ K.2 42 (4 * M.1 64 + i) = K.1 210) ↔ sameN (M.2 4) (M.1 8) (M.1 9) (M.2 47 (4 * M.1 64 + i)) (M.2 48 (4 * M.1 64 + i))) := by
      intro i i0 i1
      obtain ⟨t1, t2, t3, t4, t5, t6, t7, t8, t9, t10, t11⟩ := p4 i i0 i1
      exact two_iff hL h1 t4 t5 t6 t8 t9 t10 t11
    have ref : RP (bnd (whl (rfb_parameterHere_16 M) ((-1), cut (4 * (M.1 64)))) (fun e8 : Int => some e8)) (fun y => (∃ i, 0 ≤ i ∧ i < M.2 46 (M.1 64) ∧ y = 4 * M.1 64 + i ∧ sameN (M.2 4) (M.1 8) (M.1 9) (M.2 47 (4 * M.1 64 + i)) (M.2 48 (4 * M.1 64 + i))) ∨ (y = -1 ∧ ∀ i, 0 ≤ i → i < M.2 46 (M.1 64) → ¬ sameN (M.2 4) (M.1 8) (M.1 9) (M.2 47 (4 * M.1 64 + i)) (M.2 48 (4 * M.1 64 + i)))) := by
      refine RP_bnd (P := fun y => (∃ i, 0 ≤ i ∧ i < M.2 46 (M.1 64) ∧ y = 4 * M.1 64 + i ∧ sameN (M.2 4) (M.1 8) (M.1 9) (M.2 47 (4 * M.1 64 + i)) (M.2 48 (4 * M.1 64 + i))) ∨ (y = -1 ∧ ∀ i, 0 ≤ i → i < M.2 46 (M.1 64) → ¬ sameN (M.2 4) (M.1 8) (M.1 9) (M.2 47 (4 * M.1 64 + i)) (M.2 48 (4 * M.1 64 + i)))) ?_ (fun e he => RP_some he)
      rw [cut_i (by omega) (by omega)]
      refine RP_whl (I := fun s : Int × Int => ∃ j, s.2 = 4 * M.1 64 + j ∧ 0 ≤ j ∧ j ≤ M.2 46 (M.1 64) ∧ ((∃ i, 0 ≤ i ∧ i < j ∧ s.1 = 4 * M.1 64 + i ∧ sameN (M.2 4) (M.1 8) (M.1 9) (M.2 47 (4 * M.1 64 + i)) (M.2 48 (4 * M.1 64 + i))) ∨ (s.1 = -1 ∧ ∀ i, 0 ≤ i → i < j → ¬ sameN (M.2 4) (M.1 8) (M.1 9) (M.2 47 (4 * M.1 64 + i)) (M.2 48 (4 * M.1 64 + i))))) (fun s hs => ?_) ⟨0, by show 4 * M.1 64 = _; omega, by decide, p2, Or.inr ⟨rfl, fun i i0 i1 => absurd i1 (by omega)⟩⟩
      obtain ⟨f, k⟩ := s
      obtain ⟨j, e1, j0, j1, hc⟩ := hs
      have e1 : k = 4 * M.1 64 + j := e1
      subst e1
      unfold rfb_parameterHere_16 rfl_parameterHere_57
      rw [cut_i (z := 4 * M.1 64) (by omega) (by omega), cut_i (z := 4 * M.1 64 + M.2 46 (M.1 64)) (by omega) (by omega)]
      show RP (if 4 * M.1 64 + M.2 46 (M.1 64) ≤ 4 * M.1 64 + j then some (Sum.inr f) else bnd (rf_isHere (M.2 47 (4 * M.1 64 + j)) (M.2 48 (4 * M.1 64 + j)) M) fun y4 => if y4 = 0 then some (Sum.inl (f, cut (4 * M.1 64 + j + 1))) else some (Sum.inl (4 * M.1 64 + j, cut (4 * M.1 64 + j + 1)))) _
      refine RP_ite (fun g => RP_some ?_) (fun g => ?_)
      · rcases hc with ⟨i, i0, i1, i2, i3⟩ | ⟨c1, c2⟩
        · exact Or.inl ⟨i, i0, by omega, i2, i3⟩
        · exact Or.inr ⟨c1, fun i i0 i1 => c2 i i0 (by omega)⟩
      · obtain ⟨t1, t2, t3, t4, t5, t6, t7, t8, t9, t10, t11⟩ := p4 j j0 (by omega)
        rw [cut_i (by omega) (by omega)]
        refine RP_bnd (isHere_r hL.1.1 ⟨h8.1, h8.2.1⟩ t4 (by omega) t7) (fun y hy => ?_)
        rcases hy with ⟨y1, y2⟩ | ⟨y1, y2⟩
        · rw [if_neg (by omega)]
          exact RP_some ⟨j + 1, by show 4 * M.1 64 + j + 1 = _; omega, by omega, by omega, Or.inl ⟨j, j0, by omega, rfl, y2⟩⟩
        · rw [if_pos y1]
          refine RP_some ⟨j + 1, by show 4 * M.1 64 + j + 1 = _; omega, by omega, by omega, ?_⟩
          rcases hc with ⟨i, i0, i1, i2, i3⟩ | ⟨c1, c2⟩
          · exact Or.inl ⟨i, i0, by omega, i2, i3⟩
          · refine Or.inr ⟨c1, fun i i0 i1 => ?_⟩
            by_cases e : i = j
            · rw [e]; exact y2
            · exact c2 i i0 (by omega)
    intro r y hr hy
    have a := parOf_k (K := K) (a := M.1 64) (by omega) (by omega) (by omega) (by omega) r hr
    have b := ref y hy
    rw [p1] at a
    rcases a with ⟨a1, a2, a3, a4⟩ | ⟨a1, a2⟩
    · rcases b with ⟨i, i0, i1, i2, i3⟩ | ⟨b1, b2⟩
      · have hi := (hit i i0 i1).mpr i3
        have : i = r := by
          apply Classical.byContradiction
          intro hne
          rcases Int.lt_or_gt_of_ne hne with hlt | hlt
          · exact p5 i r i0 hlt a2 ⟨hi.1.trans a3.symm, hi.2.trans a4.symm⟩
          · exact p5 r i a1 hlt i1 ⟨a3.trans hi.1.symm, a4.trans hi.2.symm⟩
        subst this
        exact Or.inr ⟨by omega, a1, a2, i2⟩
      · exact absurd ((hit r a1 a2).mp ⟨a3, a4⟩) (b2 r a1 a2)
    · rcases b with ⟨i, i0, i1, i2, i3⟩ | ⟨b1, b2⟩
      · exact absurd ((hit i i0 i1).mpr i3) (a2 i i0 i1)
      · exact Or.inl ⟨a1, by omega⟩
/-- a field of a header by its name -/
theorem fieldW_s (h : LR K M) (hD : HD K M) (hU : HU K M) (h1 : M.1 7 = 1) {x v1 : Int} (x0 : 0 ≤ x) (x1 : x < M.1 19) (x12 : M.1 19 ≤ 12) : RR (kf_pr_fieldOf x (K.1 209) (K.1 210) K) (whl (rfb_takeField_38 v1 x M) ((-1), cut (16 * x))) (fun r e => (0 ≤ r ∧ r < M.2 29 x ∧ e = 16 * x + r) ∨ (r = -1 ∧ e = -1)) := by
  obtain ⟨d1, d2, d3, d4, d5⟩ := hD.1 x x0 x1
  have h8 := LR_8 h h1
  have ref : RP (whl (rfb_takeField_38 v1 x M) ((-1), cut (16 * x))) (fun y => (∃ i, 0 ≤ i ∧ i < M.2 29 x ∧ y = 16 * x + i ∧ sameN (M.2 4) (M.1 8) (M.1 9) (M.2 31 (16 * x + i)) (M.2 32 (16 * x + i))) ∨ (y = -1 ∧ ∀ i, 0 ≤ i → i < M.2 29 x → ¬ sameN (M.2 4) (M.1 8) (M.1 9) (M.2 31 (16 * x + i)) (M.2 32 (16 * x + i)))) := by
    rw [cut_i (by omega) (by omega)]
    refine RP_whl (I := fun s : Int × Int => ∃ j, s.2 = 16 * x + j ∧ 0 ≤ j ∧ j ≤ M.2 29 x ∧ ((∃ i, 0 ≤ i ∧ i < j ∧ s.1 = 16 * x + i ∧ sameN (M.2 4) (M.1 8) (M.1 9) (M.2 31 (16 * x + i)) (M.2 32 (16 * x + i))) ∨ (s.1 = -1 ∧ ∀ i, 0 ≤ i → i < j → ¬ sameN (M.2 4) (M.1 8) (M.1 9) (M.2 31 (16 * x + i)) (M.2 32 (16 * x + i))))) (fun s hs => ?_) ⟨0, by show 16 * x = _; omega, by decide, d1, Or.inr ⟨rfl, fun i i0 i1 => absurd i1 (by omega)⟩⟩
    obtain ⟨f, k⟩ := s
    obtain ⟨j, e1, j0, j1, hc⟩ := hs
    have e1 : k = 16 * x + j := e1
    subst e1
    unfold rfb_takeField_38 rfl_takeField_81
    rw [cut_i (z := 16 * x) (by omega) (by omega), cut_i (z := 16 * x + M.2 29 x) (by omega) (by omega)]
    show RP (if 16 * x + M.2 29 x ≤ 16 * x + j then some (Sum.inr f) else bnd (rf_isHere (M.2 31 (16 * x + j)) (M.2 32 (16 * x + j)) M) fun y4 => if y4 = 0 then some (Sum.inl (f, cut (16 * x + j + 1))) else some (Sum.inl (16 * x + j, cut (16 * x + j + 1)))) _
    refine RP_ite (fun g => RP_some ?_) (fun g => ?_)
    · rcases hc with ⟨i, i0, i1, i2, i3⟩ | ⟨c1, c2⟩
      · exact Or.inl ⟨i, i0, by omega, i2, i3⟩
      · exact Or.inr ⟨c1, fun i i0 i1 => c2 i i0 (by omega)⟩
    · obtain ⟨t1, t2, t3, t4, t5, t6, t7, t8, t9, t10, t11⟩ := d4 j j0 (by omega)
      rw [cut_i (by omega) (by omega)]
      refine RP_bnd (isHere_r h.1.1 ⟨h8.1, h8.2.1⟩ t4 (by omega) t7) (fun y hy => ?_)
      rcases hy with ⟨y1, y2⟩ | ⟨y1, y2⟩
      · rw [if_neg (by omega)]
        exact RP_some ⟨j + 1, by show 16 * x + j + 1 = _; omega, by omega, by omega, Or.inl ⟨j, j0, by omega, rfl, y2⟩⟩
      · rw [if_pos y1]
        refine RP_some ⟨j + 1, by show 16 * x + j + 1 = _; omega, by omega, by omega, ?_⟩
        rcases hc with ⟨i, i0, i1, i2, i3⟩ | ⟨c1, c2⟩
        · exact Or.inl ⟨i, i0, by omega, i2, i3⟩
        · refine Or.inr ⟨c1, fun i i0 i1 => ?_⟩
          by_cases e : i = j
          · rw [e]; exact y2
          · exact c2 i i0 (by omega)
  intro r y hr hy
  have a := fieldOf_k (K := K) (h := x) x0 (by omega) r hr
  have b := ref y hy
  have wid : ∀ j, 0 ≤ j → j < 16 → 0 < K.2 10 (16 * x + j) → j < M.2 29 x := by
    intro j j0 j1 hj
    apply Classical.byContradiction
    intro hn
    have := d5 j (by omega) j1
    omega
  have pos : ∀ j, 0 ≤ j → j < M.2 29 x → 0 < K.2 10 (16 * x + j) := by
    intro j j0 j1
    obtain ⟨t1, t2, t3, -⟩ := d4 j j0 j1
    omega
  rcases a with ⟨a1, a2, a3, a4, a5⟩ | ⟨a1, a2⟩
  · have ar := wid r a1 a2 a3
    rcases b with ⟨i, i0, i1, i2, i3⟩ | ⟨b1, b2⟩
    · have hi := (fld_iff h hD h1 x0 x1 i0 i1).mpr i3
      have : i = r := by
        apply Classical.byContradiction
        intro hne
        exact hU x i r x0 (by omega) i0 (by omega) a1 a2 hne (pos i i0 i1) a3 ⟨hi.1.trans a4.symm, hi.2.trans a5.symm⟩
      subst this
      exact Or.inl ⟨i0, i1, i2⟩
    · exact absurd ((fld_iff h hD h1 x0 x1 a1 ar).mp ⟨a4, a5⟩) (b2 r a1 ar)
  · rcases b with ⟨i, i0, i1, i2, i3⟩ | ⟨b1, b2⟩
    · exact absurd ⟨pos i i0 i1, (fld_iff h hD h1 x0 x1 i0 i1).mpr i3⟩ (a2 i i0 (by omega))
    · exact Or.inr ⟨a1, b1⟩
end NAM
