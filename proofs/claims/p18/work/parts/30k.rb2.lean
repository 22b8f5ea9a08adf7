section LR2
variable {K M : mR}
theorem thr_l {A : Int × Int × mR → Option (Int × Int × mR)} {X : Option (Int × Int × mR)} (h : RP X (fun y => y.1 ≠ 0)) : RP (bnd X fun y => if y.1 = 0 then A y else some (y.1, 0, y.2.2)) (fun y => y.1 ≠ 0) := by
  refine RP_bnd h (fun y hy => ?_)
  rw [if_neg hy]
  exact RP_some hy
theorem LV_x {V : Int → Int → Prop} {X : Option (Int × Int × mR)} {Y : Option (Int × mR)} (h1 : RP X (fun y => y.1 ≠ 0)) (h2 : RP Y (fun z => 0 < z.2.1 10)) : RR X Y (LVq V) := RR_w (RR_pr h1 h2) (fun _ _ q => Or.inr q)
theorem bad_1 (M : mR) : RP (rf_bad M) (fun z => 0 < z.2.1 10) := by
  unfold rf_bad
  exact RP_bnd (wrong_1 (by decide)) (fun z hz => RP_some hz)
theorem cmp64_lt {x y : Int} : cmp64 x y < 0 ↔ x < y := by
  unfold cmp64
  split
  · constructor <;> intro h <;> omega
  · split
    · constructor <;> intro h <;> omega
    · constructor <;> intro h <;> omega
theorem cmp64_le {x y : Int} : cmp64 x y ≤ 0 ↔ x ≤ y := by
  unfold cmp64
  split
  · constructor <;> intro h <;> omega
  · split
    · constructor <;> intro h <;> omega
    · constructor <;> intro h <;> omega
/-- a number of a range -/
theorem rr_num (h : LR K M) {a b : Int} (hab : -2147483648 ≤ a ∧ b < 2147483648) : RR (kf_tx_within a b K) (rf_number a b M) (LVq (fun x y => x = y ∧ a ≤ x ∧ x ≤ b)) := by
  have hX := h.2.1
  have hf := h.2.2.2.2
  unfold kf_tx_within rf_number
  rw [if_pos (show M.1 10 ≤ 0 by omega), hX.1]
  have n53 : ∀ z : Int × mR, 0 < z.2.1 10 → RP (rfl_number_53 a z.2) (fun z => 0 < z.2.1 10) := by
    intro z hz
    unfold rfl_number_53
    rw [if_neg (by omega)]
    exact RP_some hz
  refine RR_ii (wm_257 hX.2.1) (fun g1 g2 => ?_) (fun g1 g2 => LV_x (thr_l (refuse_1 _)) (RP_bnd (bad_1 M) n53))
  have e8 : K.1 208 = M.1 12 := hX.2.2.2.2.2.2.2.1 g2
  unfold kfl_tx_within_14
  rw [e8]
  have bad : RR (kfl_tx_within_34 K) (rfl_number_44 a M) (LVq (fun x y => x = y ∧ a ≤ x ∧ x ≤ b)) := by
    unfold kfl_tx_within_34 rfl_number_44
    exact LV_x (thr_l (fail_1 _ _ _)) (RP_bnd (wrong_1 (by decide)) n53)
  refine RR_ii Iff.rfl (fun _ _ => bad) (fun l1 _ => ?_)
  refine RR_ii Iff.rfl (fun l2 _ => ?_) (fun _ _ => bad)
  unfold kfl_tx_within_43 rfl_number_53
  rw [if_pos (show M.1 10 ≤ 0 by omega), e8]
  refine RR_bnd (rr_adv h (by omega)) (fun y z hyz => ?_)
  rcases hyz with ⟨e1, e2, e3⟩ | ⟨e1, e2⟩
  · rw [if_pos e1]
    have r1 : a ≤ M.1 12 := by
      have : ¬ M.1 12 < a := fun q => l1 (cmp64_lt.mpr q)
      omega
    have r2 : M.1 12 ≤ b := cmp64_le.mp l2
    refine RR_some (Or.inl ⟨rfl, ⟨rfl, ?_, ?_⟩, e3⟩)
    · show a ≤ cut (M.1 12)
      rw [cut_i (by omega) (by omega)]
      exact r1
    · show cut (M.1 12) ≤ b
      rw [cut_i (by omega) (by omega)]
      exact r2
  · rw [if_neg e1]
    exact RR_some (Or.inr ⟨e1, e2⟩)
/-- a name that the class has is the word at hand -/
def hitP (K M : mR) (e : Int) : Prop := if e < 5 then sameG (M.2 4) (M.1 8) (M.1 9) e else sameN (M.2 4) (M.1 8) (M.1 9) (M.2 14 (e - 5)) (M.2 15 (e - 5))
theorem gvF_7 : ∀ n : Nat, n < 38 → gvF n < 128 := by decide +kernel
theorem hit_iff (h : LR K M) (h1 : M.1 7 = 1) {e : Int} (e0 : 0 ≤ e) (e1 : e < K.1 203) : (K.2 6 e = K.1 209 ∧ K.2 7 e = K.1 210) ↔ hitP K M e := by
  obtain ⟨hL, hX, hN, ho, hf⟩ := h
  obtain ⟨n16, nch, npk, nr1, nr2⟩ := hX.2.2.2.2.2.2.2.2 h1
  obtain ⟨xe, x1, x2⟩ := hX.2.2.2.2.2.1 (by omega)
  obtain ⟨s1, s2, s3, s4, s5, s6⟩ := hN
  unfold hitP
  by_cases h5 : e < 5
  · rw [if_pos h5]
    obtain ⟨g1, g2, g3, g4, g5⟩ := s4 e e0 h5
    have hk := gv_a e e0 h5
    have hq : PK (K.2 6 e) 0 (fun j => gvF (gst e + j)) (glen e) := ⟨g1, pkH_0 _ (by omega)⟩
    constructor
    · intro hh
      rw [g3] at hh
      have npk2 := npk
      rw [← hh.1, ← hh.2] at npk2
      have := PK_inj npk2 hq (by omega) (by omega) n16 (by omega) (fun i i0 i1 => namP_p (nch i i0 i1)) (fun i i0 i1 => ⟨gv_b e i e0 h5 i0 i1 hk.2.2.1, by
        have := gvF_7 (gst e + i).toNat (by omega)
        rw [show (((gst e + i).toNat : Nat) : Int) = gst e + i by omega] at this
        exact this⟩)
      exact ⟨this.1.symm, fun j j0 j1 => this.2 j j0 (by omega)⟩
    · intro hs
      have npk2 : PK (K.1 209) (K.1 210) (fun i => M.2 4 (M.1 8 + i)) (glen e) := by
        rw [hs.1]
        exact npk
      have := PK_c g2 ⟨by decide, by decide⟩ nr1 nr2 hq npk2 (fun i i0 i1 => (hs.2 i i0 i1).symm)
      exact ⟨this.1, g3.trans this.2⟩
  · rw [if_neg h5]
    have q := s3 (e - 5) (by omega) (by omega)
    rw [show e - 5 + 5 = e by omega] at q
    obtain ⟨q1, q2, q3, q4⟩ := q
    obtain ⟨t1, t2, t3, t4, t5⟩ := s1.2.2 (e - 5) (by omega) (by omega)
    constructor
    · intro hh
      have npk2 := npk
      rw [← hh.1, ← hh.2] at npk2
      have := PK_inj q1 npk2 (by omega) (by omega) t3 n16 (fun i i0 i1 => namP_p (t5 i i0 i1)) (fun i i0 i1 => namP_p (nch i i0 i1))
      exact ⟨this.1, this.2⟩
    · intro hs
      have npk2 : PK (K.1 209) (K.1 210) (fun i => M.2 4 (M.1 8 + i)) (M.2 15 (e - 5)) := by
        rw [hs.1]
        exact npk
      exact PK_c q2 q3 nr1 nr2 q1 npk2 (fun i i0 i1 => hs.2 i i0 i1)
/-- what both find of the name at hand -/
def fndP (M : mR) (f g k : Int) : Prop := (f = -1 ∧ g = -1 ∧ k = -1) ∨ (0 ≤ f ∧ f < 5 ∧ g = f) ∨ (5 ≤ f ∧ f < M.1 13 + 5 ∧ g = -1 ∧ k = f - 5)
theorem fnd (h : LR K M) (h1 : M.1 7 = 1) {f g k : Int} (hf : (0 ≤ f ∧ f < K.1 203 ∧ K.2 6 f = K.1 209 ∧ K.2 7 f = K.1 210 ∧ ∀ i, 0 ≤ i → i < f → ¬ (K.2 6 i = K.1 209 ∧ K.2 7 i = K.1 210)) ∨ (f = -1 ∧ ∀ i, 0 ≤ i → i < K.1 203 → ¬ (K.2 6 i = K.1 209 ∧ K.2 7 i = K.1 210))) (hg : isGH (M.2 4) (M.1 8) (M.1 9) g) (hk : g < 0 → isFH (M.2 4) (M.2 14) (M.2 15) (M.1 8) (M.1 9) (M.1 13) k) : fndP M f g k := by
  have hit := fun e (e0 : 0 ≤ e) (e1 : e < K.1 203) => hit_iff h h1 (e := e) e0 e1
  have hc : K.1 203 = M.1 13 + 5 := h.2.2.1.2.1
  have hn := h.2.2.1.1.1
  have hd := h.2.2.1.2.2.2.2.1
  unfold fndP
  rcases hg with ⟨g0, g5, g1, g2⟩ | ⟨g0, g1⟩
  · have hgK : K.2 6 g = K.1 209 ∧ K.2 7 g = K.1 210 := (hit g g0 (by omega)).mpr (by unfold hitP; rw [if_pos g5]; exact g1)
    rcases hf with ⟨f0, f1, f2, f3, f4⟩ | ⟨f0, f1⟩
    · have : f = g := by
        apply Classical.byContradiction
        intro hne
        rcases Int.lt_or_gt_of_ne hne with hlt | hlt
        · exact hd f g f0 hlt (by omega) ⟨f2.trans hgK.1.symm, f3.trans hgK.2.symm⟩
        · exact f4 g g0 hlt hgK
      exact Or.inr (Or.inl ⟨f0, by omega, this.symm⟩)
    · exact absurd hgK (f1 g g0 (by omega))
  · have hk := hk (by omega)
    rcases hf with ⟨f0, f1, f2, f3, f4⟩ | ⟨f0, f1⟩
    · have hF := (hit f f0 f1).mp ⟨f2, f3⟩
      unfold hitP at hF
      by_cases h5 : f < 5
      · rw [if_pos h5] at hF
        exact absurd hF (g1 f f0 h5)
      · rw [if_neg h5] at hF
        rcases hk with ⟨k0, k1, k2, k3⟩ | ⟨k0, k1⟩
        · have hK2 : K.2 6 (k + 5) = K.1 209 ∧ K.2 7 (k + 5) = K.1 210 := (hit (k + 5) (by omega) (by omega)).mpr (by unfold hitP; rw [if_neg (by omega), show k + 5 - 5 = k by omega]; exact k2)
          have : f = k + 5 := by
            apply Classical.byContradiction
            intro hne
            rcases Int.lt_or_gt_of_ne hne with hlt | hlt
            · exact hd f (k + 5) f0 hlt (by omega) ⟨f2.trans hK2.1.symm, f3.trans hK2.2.symm⟩
            · exact f4 (k + 5) (by omega) hlt hK2
          exact Or.inr (Or.inr ⟨by omega, by omega, g0, by omega⟩)
        · exact absurd hF (k1 (f - 5) (by omega) (by omega))
    · rcases hk with ⟨k0, k1, k2, k3⟩ | ⟨k0, k1⟩
      · exact absurd ((hit (k + 5) (by omega) (by omega)).mpr (by unfold hitP; rw [if_neg (by omega), show k + 5 - 5 = k by omega]; exact k2)) (f1 (k + 5) (by omega) (by omega))
      · exact Or.inl ⟨f0, g0, k0⟩
theorem LR_8 (h : LR K M) (h1 : M.1 7 = 1) : 0 ≤ M.1 8 ∧ M.1 8 + M.1 9 ≤ M.1 6 ∧ M.1 8 ≤ 4000 := by
  obtain ⟨hL, hX, hN, ho, hf⟩ := h
  obtain ⟨xe, x1, x2⟩ := hX.2.2.2.2.2.1 (by omega)
  have := hX.2.2.2.1
  have := hX.2.2.2.2.1
  have := hL.1.2.1
  omega
/-- the class's find and the reference's sort of the word at hand -/
theorem rr_sort (h : LR K M) (h1 : M.1 7 = 1) : RR (kf_tx_find K) (rf_sortHere M) (fun f s => ∃ g k, fndP M f g k ∧ s = sortV (M.2 16) g k) := by
  intro f s hf hs
  have n0 := h.2.2.1.1.1
  have n1 := h.2.2.1.1.2.1
  have hc : K.1 203 = M.1 13 + 5 := h.2.2.1.2.1
  have a := find_k (K := K) (by omega) (by omega) f hf
  obtain ⟨g, k, b1, b2, b3⟩ := sort_r h.1.1 h.2.2.1.1 h.2.2.1.2.2.2.2.2 (LR_8 h h1) s hs
  exact ⟨g, k, fnd h h1 a b1 b2, b3⟩
theorem sort_of (h : LR K M) {f g k : Int} (hp : fndP M f g k) : (f = -1 ∧ sortV (M.2 16) g k = -1) ∨ (0 ≤ f ∧ K.2 8 f = smp (sortV (M.2 16) g k) ∧ 1 ≤ sortV (M.2 16) g k ∧ sortV (M.2 16) g k ≤ 7 ∧ ((g = -1 ∧ 0 ≤ k ∧ k < M.1 13 ∧ sortV (M.2 16) g k = M.2 16 k ∧ K.2 9 f = M.2 17 k ∧ whichV (M.2 17) g k = M.2 17 k) ∨ (0 ≤ g ∧ g < 3 ∧ sortV (M.2 16) g k = 3 ∧ K.2 9 f = g ∧ whichV (M.2 17) g k = g) ∨ (3 ≤ g ∧ g < 5 ∧ sortV (M.2 16) g k = 5 ∧ K.2 9 f = g + 13 ∧ whichV (M.2 17) g k = 2 - g))) := by
  obtain ⟨s1, s2, s3, s4, s5, s6⟩ := h.2.2.1
  rcases hp with ⟨a, b, c⟩ | ⟨a, b, c⟩ | ⟨a, b, c, d⟩
  · refine Or.inl ⟨a, ?_⟩
    unfold sortV
    rw [if_neg (by omega), if_pos (by omega)]
  · refine Or.inr ⟨a, ?_⟩
    subst c
    obtain ⟨g1, g2, g3, g4, g5⟩ := s4 g a b
    by_cases h3 : g < 3
    · have e : sortV (M.2 16) g k = 3 := by
        unfold sortV
        rw [if_pos a, if_pos h3]
      rw [if_pos h3] at g4 g5
      refine ⟨by rw [e, g4]; rfl, by omega, by omega, Or.inr (Or.inl ⟨a, h3, e, g5, ?_⟩)⟩
      unfold whichV
      rw [if_pos a, if_pos h3]
    · have e : sortV (M.2 16) g k = 5 := by
        unfold sortV
        rw [if_pos a, if_neg h3]
      rw [if_neg h3] at g4 g5
      refine ⟨by rw [e, g4]; rfl, by omega, by omega, Or.inr (Or.inr ⟨by omega, b, e, g5, ?_⟩)⟩
      unfold whichV
      rw [if_pos a, if_neg h3]
      split <;> omega
  · refine Or.inr ⟨by omega, ?_⟩
    subst d
    have q := s3 (f - 5) (by omega) (by omega)
    rw [show f - 5 + 5 = f by omega] at q
    obtain ⟨q1, q2, q3, q4, q5, q6, q7⟩ := q
    have e : sortV (M.2 16) g (f - 5) = M.2 16 (f - 5) := by
      unfold sortV
      rw [if_neg (by omega), if_neg (by omega)]
    refine ⟨by rw [e]; exact q4, by omega, by omega, Or.inl ⟨c, by omega, by omega, e, q6, ?_⟩⟩
    unfold whichV
    rw [if_neg (by omega)]
end LR2
