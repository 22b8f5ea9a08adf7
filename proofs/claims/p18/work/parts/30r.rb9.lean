section HDR
variable {K M : mR}
theorem hbits_k {x : Int} (x0 : 0 ≤ x) (x1 : x < 12) (hb : ∀ i, 0 ≤ i → i < 16 → 0 ≤ K.2 10 (16 * x + i) ∧ K.2 10 (16 * x + i) ≤ 64) : RP (kf_pr_headerBits x K) (fun r => r = sumW (K.2 10) (16 * x) 16) := by
  unfold kf_pr_headerBits
  refine RP_bnd (P := fun r => r = sumW (K.2 10) (16 * x) 16) ?_ (fun e he => RP_some he)
  refine RP_whl (I := fun s : Int × Int => ∃ n : Nat, s.2 = n ∧ n ≤ 16 ∧ s.1 = sumW (K.2 10) (16 * x) n ∧ 0 ≤ s.1 ∧ s.1 ≤ 64 * n) (fun s hs => ?_) ⟨0, rfl, by omega, rfl, by decide, by decide⟩
  obtain ⟨a, b⟩ := s
  obtain ⟨n, e1, n1, e2, e3, e4⟩ := hs
  have e1 : b = n := e1
  have e2 : a = sumW (K.2 10) (16 * x) n := e2
  have e3 : 0 ≤ a := e3
  have e4 : a ≤ 64 * n := e4
  subst e1
  unfold kfb_pr_headerBits_4
  show RP (if (16 : Int) ≤ (n : Int) then some (Sum.inr a) else some (Sum.inl (cut (a + K.2 10 (cut (cut (x * 16) + n))), cut ((n : Int) + 1)))) _
  refine RP_ite (fun g => ?_) (fun g => ?_)
  · obtain rfl : n = 16 := by omega
    exact RP_some e2
  · have h9 := hb n (by omega) (by omega)
    rw [cut_i (z := x * 16) (by omega) (by omega), cut_i (z := x * 16 + n) (by omega) (by omega), show x * 16 + (n : Int) = 16 * x + n by omega, cut_i (z := a + _) (by omega) (by omega), cut_i (z := (n : Int) + 1) (by omega) (by omega)]
    refine RP_some ⟨n + 1, by show (n : Int) + 1 = ((n + 1 : Nat) : Int); omega, by omega, ?_, by show 0 ≤ a + _; omega, by show a + _ ≤ 64 * ((n + 1 : Nat) : Int); omega⟩
    show a + K.2 10 (16 * x + n) = sumW (K.2 10) (16 * x) n + K.2 10 (16 * x + n)
    omega
theorem need_is {c : Int} (hf : M.1 10 ≤ 0) (h : M.1 7 = c) : rf_need c M = bnd (rf_next M) fun y => some (0, y.2) := by
  unfold rf_need
  rw [if_pos hf, if_pos h]
def hdI (x : Int) (s t : Int × mR) : Prop := LR s.2 t.2 ∧ HD s.2 t.2 ∧ t.2.1 19 = x + 1 ∧ s.1 = t.2.2 29 x ∧ 0 ≤ s.1 ∧ s.1 ≤ 16 ∧ ((t.1 = 1 ∧ (s.1 = 0 ∨ t.2.1 7 ≠ 125)) ∨ (t.1 = 0 ∧ s.1 ≠ 0 ∧ t.2.1 7 = 125))
def hdE (x : Int) (u : Sum mR (Int × mR)) (y : mR) : Prop := sel (fun K => (LR K y ∧ HD K y ∧ y.1 19 = x + 1 ∧ y.1 7 = 125) ∨ (K.1 206 ≠ 125 ∧ 0 < y.1 10)) (fun e => e.1 ≠ 0 ∧ 0 < y.1 10) u
theorem hdr_loop {x p q : Int} (x0 : 0 ≤ x) (x1 : x < 12) {s t : Int × mR} (hI : hdI x s t) : RR (whl (kfb_rd_header_60 x p) s) (whl (rfb_takeHeader_61 q x) t) (hdE x) := by
  refine RR_whl2 (I := hdI x) (fun s t hI => ?_) hI
  obtain ⟨i, K⟩ := s
  obtain ⟨more, M⟩ := t
  obtain ⟨hL, hD, h19, hi, i0, i1, hc⟩ := hI
  have hL : LR K M := hL
  have hD : HD K M := hD
  have h19 : M.1 19 = x + 1 := h19
  have hi : i = M.2 29 x := hi
  have i0 : 0 ≤ i := i0
  have i1 : i ≤ 16 := i1
  have hX := hL.2.1
  have hf := hL.2.2.2.2
  unfold kfb_rd_header_60 rfb_takeHeader_61
  show RR (if (16 : Int) < i then some (Sum.inr (Sum.inl K)) else if i = 0 then kfl_rd_header_83 x p i K else if K.1 206 = 256 then kfl_rd_header_83 x p i K else some (Sum.inr (Sum.inl K))) (if more = 0 then some (Sum.inr M) else if M.1 10 = 0 then bnd (rf_takeFieldOf x M) fun y16 => rfl_takeHeader_77 q x y16.2 else some (Sum.inr M)) _
  rw [if_neg (by omega)]
  -- a fault ends the reference's loop
  have dead : ∀ (z : Int × mR), 0 < z.2.1 10 → RP (whl (rfb_takeHeader_61 q x) z) (fun y => 0 < y.1 10) := fun z hz => RP_w (uw_rfb_takeHeader_61 q x z) (fun w hw => hw.2 hz)
  have r77 : ∀ (z : Int × mR), 0 < z.2.1 10 → rfl_takeHeader_77 q x z.2 = some (Sum.inl (0, z.2)) := by
    intro z hz
    unfold rfl_takeHeader_77 rfl_takeHeader_97 rfl_takeHeader_98
    rw [if_neg (by omega)]
  rcases hc with ⟨c1, c2⟩ | ⟨c1, c2, c3⟩
  · have c1 : more = 1 := c1
    have c2 : i = 0 ∨ M.1 7 ≠ 125 := c2
    rw [if_neg (show ¬ more = 0 by omega), if_pos hf]
    have fieldcase : RR (kfl_rd_header_83 x p i K) (bnd (rf_takeFieldOf x M) fun y16 => rfl_takeHeader_77 q x y16.2) (fun u v => (∃ s' t', u = .inl s' ∧ v = .inl t' ∧ hdI x s' t') ∨ (∃ x' y, u = .inr x' ∧ v = .inr y ∧ hdE x x' y) ∨ (∃ x' t', u = .inr x' ∧ v = .inl t' ∧ RP (whl (rfb_takeHeader_61 q x) t') (hdE x x')) ∨ (∃ s' y, u = .inl s' ∧ v = .inr y ∧ RP (whl (kfb_rd_header_60 x p) s') (fun x' => hdE x x' y))) := by
      unfold kfl_rd_header_83
      have f19 : RP (rf_takeFieldOf x M) (fun z => z.2.1 19 = M.1 19) := RP_w (u_rf_takeFieldOf x M) (fun z hz => fr1 hz.1 19 rfl)
      intro u v hu hv
      cases hk : kf_rd_field x i K with
      | none => rw [hk] at hu; cases hu
      | some y =>
        cases hm : rf_takeFieldOf x M with
        | none => rw [hm] at hv; cases hv
        | some z =>
          rw [hk, bnd_some] at hu
          rw [hm, bnd_some] at hv
          have z19 := f19 z hm
          rcases rr_field hL hD x0 (by omega) (by omega) hi y z hk hm with ⟨e1, e2, e3, e4⟩ | ⟨e1, e2⟩
          · rw [if_pos e1] at hu
            cases hu
            have zf := e2.2.2.2.2
            have hi16 : i < 16 := by
              have := (e3.1 x x0 (by omega)).2.1
              omega
            rw [cut_i (by omega) (by omega)]
            unfold rfl_takeHeader_77 rfl_takeHeader_97 rfl_takeHeader_98 at hv
            rw [if_pos zf] at hv
            by_cases hw : z.2.1 7 = 125
            · rw [if_pos hw] at hv
              cases hv
              exact Or.inl ⟨_, _, rfl, rfl, e2, e3, z19.trans h19, e4.symm, by show 0 ≤ i + 1; omega, by show i + 1 ≤ 16; omega, Or.inr ⟨rfl, by show i + 1 ≠ 0; omega, hw⟩⟩
            · rw [if_neg hw] at hv
              cases hv
              exact Or.inl ⟨_, _, rfl, rfl, e2, e3, z19.trans h19, e4.symm, by show 0 ≤ i + 1; omega, by show i + 1 ≤ 16; omega, Or.inl ⟨rfl, Or.inr hw⟩⟩
          · rw [if_neg e1] at hu
            cases hu
            rw [r77 z e2] at hv
            cases hv
            exact Or.inr (Or.inr (Or.inl ⟨_, _, rfl, rfl, RP_w (dead (0, z.2) e2) (fun y hy => ⟨e1, hy⟩)⟩))
    by_cases h0 : i = 0
    · rw [if_pos h0]
      exact fieldcase
    · rw [if_neg h0, hX.1]
      by_cases hn : M.1 7 = 1
      · rw [if_pos ((wm_256 hX.2.1).mpr hn)]
        exact fieldcase
      · rw [if_neg (fun g => hn ((wm_256 hX.2.1).mp g))]
        intro u v hu hv
        cases hu
        cases hm : rf_takeFieldOf x M with
        | none => rw [hm] at hv; cases hv
        | some z =>
          rw [hm, bnd_some] at hv
          have zf : 0 < z.2.1 10 := by
            refine (?_ : RP (rf_takeFieldOf x M) (fun z => 0 < z.2.1 10)) z hm
            unfold rf_takeFieldOf
            rw [if_pos (show M.1 10 ≤ 0 by omega), if_neg hn]
            exact RP_bnd (bad_1 M) (fun z hz => RP_w (u_rfl_takeFieldOf_55 x _ z.2) (fun w hw => hw.2 hz))
          rw [r77 z zf] at hv
          cases hv
          have hw : M.1 7 ≠ 125 := by
            rcases c2 with c2 | c2
            · exact absurd c2 h0
            · exact c2
          refine Or.inr (Or.inr (Or.inl ⟨_, _, rfl, rfl, RP_w (dead (0, z.2) zf) (fun y hy => Or.inr ⟨?_, hy⟩)⟩))
          rw [hX.1]
          exact fun g => hw ((wm_big hX.2.1 (by omega)).mp g)
  · have c1 : more = 0 := c1
    have c2 : i ≠ 0 := c2
    have c3 : M.1 7 = 125 := c3
    rw [if_pos c1, if_neg c2, hX.1, if_neg (fun g => by have := (wm_256 hX.2.1).mp g; omega)]
    intro u v hu hv
    cases hu
    cases hv
    exact Or.inr (Or.inl ⟨_, _, rfl, rfl, Or.inl ⟨hL, hD, h19, c3⟩⟩)
end HDR
