section LR3
variable {K M : mR}
theorem rr_idx (h : LR K M) (h1 : M.1 7 = 1) {s : Int} (hs : 1 ≤ s ∧ s ≤ 7) : RR (kf_tx_indexOf (smp s) K) (rf_sortHere M) (fun i t => (t = s ∧ 0 ≤ i ∧ (∀ v, rf_whichHere M = some v → (s ≠ 5 → i = v) ∧ (s = 5 → (0 ≤ v ∧ i = v) ∨ (v < 0 ∧ i = 15 - v))) ∧ ((∃ k, 0 ≤ k ∧ k < M.1 13 ∧ M.2 16 k = s ∧ i = M.2 17 k) ∨ (s = 3 ∧ i < 3) ∨ (s = 5 ∧ 16 ≤ i ∧ i ≤ 17))) ∨ (t ≠ s ∧ i = -1)) := by
  intro i t hi ht
  have n0 := h.2.2.1.1.1
  have n1 := h.2.2.1.1.2.1
  have hc : K.1 203 = M.1 13 + 5 := h.2.2.1.2.1
  unfold kf_tx_indexOf kfl_tx_indexOf_30 at hi
  cases hf : kf_tx_find K with
  | none => rw [hf] at hi; cases hi
  | some f =>
    rw [hf, bnd_some] at hi
    have a := find_k (K := K) (by omega) (by omega) f hf
    obtain ⟨g, k, b1, b2, b3⟩ := sort_r h.1.1 h.2.2.1.1 h.2.2.1.2.2.2.2.2 (LR_8 h h1) t ht
    have q := sort_of h (fnd h h1 a b1 b2)
    rw [← b3] at q
    rcases q with ⟨q1, q2⟩ | ⟨q1, q2, q3, q4, q5⟩
    · rw [if_pos q1] at hi
      cases hi
      exact Or.inr ⟨by omega, rfl⟩
    · rw [if_neg (by omega), q2] at hi
      by_cases e : t = s
      · rw [if_pos (by rw [e])] at hi
        cases hi
        refine Or.inl ⟨e, ?_, fun v hv => ?_, ?_⟩
        · rcases q5 with ⟨c1, c2, c3, c4, c5, c6⟩ | ⟨c1, c2, c3, c4, c5⟩ | ⟨c1, c2, c3, c4, c5⟩
          · rw [c5]
            exact (h.2.2.1.2.2.1 k c2 c3).2.2.2.2.2.2.1
          · omega
          · omega
        · obtain ⟨g', k', d1, d2, d3⟩ := which_r h.1.1 h.2.2.1.1 h.2.2.1.2.2.2.2.2 (LR_8 h h1) v hv
          have eg := isGH_u d1 b1
          subst eg
          rcases q5 with ⟨c1, c2, c3, c4, c5, c6⟩ | ⟨c1, c2, c3, c4, c5⟩ | ⟨c1, c2, c3, c4, c5⟩
          · have ek := isFH_u (d2 (by omega)) (b2 (by omega))
            subst ek
            have hr := (h.2.2.1.2.2.1 k' c2 c3).2.2.2.2.2.2.1
            rw [c5, d3, c6]
            exact ⟨fun _ => rfl, fun _ => Or.inl ⟨hr, rfl⟩⟩
          · rw [c4, d3]
            have : whichV (M.2 17) g' k' = g' := by
              unfold whichV
              rw [if_pos c1, if_pos c2]
            rw [this]
            exact ⟨fun _ => rfl, fun h5 => absurd h5 (by omega)⟩
          · rw [c4, d3]
            have : whichV (M.2 17) g' k' = 2 - g' := by
              unfold whichV
              rw [if_pos (by omega), if_neg (by omega)]
              split <;> omega
            rw [this]
            exact ⟨fun h5 => absurd (c3.symm.trans e) (by omega), fun _ => Or.inr ⟨by omega, by omega⟩⟩
        · rcases q5 with ⟨c1, c2, c3, c4, c5, c6⟩ | ⟨c1, c2, c3, c4, c5⟩ | ⟨c1, c2, c3, c4, c5⟩
          · exact Or.inl ⟨k, c2, c3, by omega, c5⟩
          · exact Or.inr (Or.inl ⟨by omega, by omega⟩)
          · exact Or.inr (Or.inr ⟨by omega, by omega, by omega⟩)
      · rw [if_neg (fun q => e ((sm_inj ⟨q3, q4⟩ hs).mp q))] at hi
        cases hi
        exact Or.inr ⟨e, rfl⟩
/-- an old name -/
theorem rr_known (h : LR K M) {s : Int} (hs : 1 ≤ s ∧ s ≤ 7) (h3 : s ≠ 3) (h5 : s ≠ 5) : RR (kf_tx_known (smp s) K) (rf_oldName s M) (LVq (fun x y => x = y ∧ ∃ k, 0 ≤ k ∧ k < M.1 13 ∧ M.2 16 k = s ∧ y = M.2 17 k)) := by
  have hX := h.2.1
  have hf := h.2.2.2.2
  unfold kf_tx_known rf_oldName
  rw [if_pos (show M.1 10 ≤ 0 by omega), hX.1]
  have n42 : ∀ z : Int × mR, 0 < z.2.1 10 → RP (rfl_oldName_42 z.2) (fun z => 0 < z.2.1 10) := by
    intro z hz
    unfold rfl_oldName_42
    rw [if_neg (by omega)]
    exact RP_some hz
  refine RR_ii (wm_256 hX.2.1) (fun g1 g2 => ?_) (fun g1 g2 => LV_x (thr_l (refuse_1 _)) (RP_bnd (bad_1 M) n42))
  unfold kfl_tx_known_14
  refine RR_bnd (rr_idx h g2 hs) (fun i t hit => ?_)
  rcases hit with ⟨t1, t2, t3, t4⟩ | ⟨t1, t2⟩
  · rw [if_neg (by omega), if_pos t1]
    unfold kfl_tx_known_35 rfl_oldName_42
    rw [if_pos (show M.1 10 ≤ 0 by omega)]
    intro x z hx hz
    cases hv : rf_whichHere M with
    | none => rw [hv] at hz; cases hz
    | some v =>
      rw [hv, bnd_some] at hz
      refine RR_bnd (rr_adv h (by omega)) (fun y z hyz => ?_) x z hx hz
      rcases hyz with ⟨e1, e2, e3⟩ | ⟨e1, e2⟩
      · rw [if_pos e1]
        have ev : i = v := (t3 v hv).1 h5
        refine RR_some (Or.inl ⟨rfl, ⟨ev, ?_⟩, e3⟩)
        rcases t4 with t4 | t4 | t4
        · obtain ⟨k, k0, k1, k2, k3⟩ := t4
          exact ⟨k, k0, k1, k2, by show v = _; omega⟩
        · exact absurd t4.1 h3
        · exact absurd t4.1 h5
      · rw [if_neg e1]
        exact RR_some (Or.inr ⟨e1, e2⟩)
  · rw [if_pos t2, if_neg t1]
    exact LV_x (thr_l (fail_1 _ _ _)) (RP_bnd (wrong_1 (by decide)) n42)
def NWV (M : mR) (s n : Int) (y : Int × Int × mR) (z : Int × mR) : Prop := (y.1 = 0 ∧ z.1 = 1 ∧ LR y.2.2 z.2 ∧ z.2.1 13 = M.1 13 + 1 ∧ z.2.2 16 = upI (M.2 16) (M.1 13) s ∧ z.2.2 17 = upI (M.2 17) (M.1 13) n) ∨ (y.1 ≠ 0 ∧ 0 < z.2.1 10)
/-- the names with one more -/
theorem NMR_new (h : LR K M) (h1 : M.1 7 = 1) {s n : Int} (hs : 1 ≤ s ∧ s ≤ 7) (hn : 0 ≤ n ∧ n ≤ 15) (hr : M.1 13 < 85) (hno : ∀ i, 0 ≤ i → i < K.1 203 → ¬ (K.2 6 i = K.1 209 ∧ K.2 7 i = K.1 210)) : NMR (mO K [(203, K.1 203 + 1)] [(6, upI (K.2 6) (K.1 203) (K.1 209)), (7, upI (K.2 7) (K.1 203) (K.1 210)), (8, upI (K.2 8) (K.1 203) (smp s)), (9, upI (K.2 9) (K.1 203) n)]) (mO M [(13, M.1 13 + 1)] [(14, upI (M.2 14) (M.1 13) (M.1 8)), (15, upI (M.2 15) (M.1 13) (M.1 9)), (16, upI (M.2 16) (M.1 13) s), (17, upI (M.2 17) (M.1 13) n)]) := by
  obtain ⟨hL, hX, hN, ho, hf⟩ := h
  obtain ⟨n16, nch, npk, nr1, nr2⟩ := hX.2.2.2.2.2.2.2.2 h1
  obtain ⟨xe, x1, x2⟩ := hX.2.2.2.2.2.1 (by omega)
  obtain ⟨⟨t0, t1, t2⟩, s2, s3, s4, s5, s6⟩ := hN
  have x8 := hX.2.2.2.1
  refine ⟨⟨by show 0 ≤ M.1 13 + 1; omega, by show M.1 13 + 1 ≤ 85; omega, fun k k0 k1 => ?_⟩, by show K.1 203 + 1 = M.1 13 + 1 + 5; omega, fun k k0 k1 => ?_, fun g g0 g5 => ?_, fun i j i0 ij j1 => ?_, s6⟩
  · have k1 : k < M.1 13 + 1 := k1
    show 0 ≤ upI (M.2 14) (M.1 13) (M.1 8) k ∧ 1 ≤ upI (M.2 15) (M.1 13) (M.1 9) k ∧ upI (M.2 15) (M.1 13) (M.1 9) k ≤ 16 ∧ upI (M.2 14) (M.1 13) (M.1 8) k + upI (M.2 15) (M.1 13) (M.1 9) k ≤ M.1 6 ∧ ∀ i, 0 ≤ i → i < upI (M.2 15) (M.1 13) (M.1 9) k → namP (M.2 4 (upI (M.2 14) (M.1 13) (M.1 8) k + i))
    by_cases e : k = M.1 13
    · rw [e, upI_s, upI_s]
      exact ⟨x8, x1, n16, x2, nch⟩
    · rw [upI_n e, upI_n e]
      exact t2 k k0 (by omega)
  · have k1 : k < M.1 13 + 1 := k1
    show PK (upI (K.2 6) (K.1 203) (K.1 209) (k + 5)) (upI (K.2 7) (K.1 203) (K.1 210) (k + 5)) (fun i => M.2 4 (upI (M.2 14) (M.1 13) (M.1 8) k + i)) (upI (M.2 15) (M.1 13) (M.1 9) k) ∧ R64 (upI (K.2 6) (K.1 203) (K.1 209) (k + 5)) ∧ R64 (upI (K.2 7) (K.1 203) (K.1 210) (k + 5)) ∧ upI (K.2 8) (K.1 203) (smp s) (k + 5) = smp (upI (M.2 16) (M.1 13) s k) ∧ (1 ≤ upI (M.2 16) (M.1 13) s k ∧ upI (M.2 16) (M.1 13) s k ≤ 7) ∧ upI (K.2 9) (K.1 203) n (k + 5) = upI (M.2 17) (M.1 13) n k ∧ 0 ≤ upI (M.2 17) (M.1 13) n k ∧ upI (M.2 17) (M.1 13) n k ≤ 15
    by_cases e : k = M.1 13
    · rw [e, show M.1 13 + 5 = K.1 203 by omega, upI_s, upI_s, upI_s, upI_s, upI_s, upI_s, upI_s, upI_s]
      exact ⟨npk, nr1, nr2, rfl, hs, rfl, hn⟩
    · rw [upI_n e, upI_n e, upI_n e, upI_n e, upI_n (show k + 5 ≠ K.1 203 by omega), upI_n (show k + 5 ≠ K.1 203 by omega), upI_n (show k + 5 ≠ K.1 203 by omega), upI_n (show k + 5 ≠ K.1 203 by omega)]
      exact s3 k k0 (by omega)
  · show pkH (upI (K.2 6) (K.1 203) (K.1 209) g) (fun j => gvF (gst g + j)) (glen g) 0 ∧ R64 (upI (K.2 6) (K.1 203) (K.1 209) g) ∧ upI (K.2 7) (K.1 203) (K.1 210) g = 0 ∧ upI (K.2 8) (K.1 203) (smp s) g = (if g < 3 then 302 else 304) ∧ upI (K.2 9) (K.1 203) n g = (if g < 3 then g else g + 13)
    rw [upI_n (show g ≠ K.1 203 by omega), upI_n (show g ≠ K.1 203 by omega), upI_n (show g ≠ K.1 203 by omega), upI_n (show g ≠ K.1 203 by omega)]
    exact s4 g g0 g5
  · have j1 : j < K.1 203 + 1 := j1
    show ¬ (upI (K.2 6) (K.1 203) (K.1 209) i = upI (K.2 6) (K.1 203) (K.1 209) j ∧ upI (K.2 7) (K.1 203) (K.1 210) i = upI (K.2 7) (K.1 203) (K.1 210) j)
    rw [upI_n (show i ≠ K.1 203 by omega), upI_n (show i ≠ K.1 203 by omega)]
    by_cases e : j = K.1 203
    · rw [e, upI_s, upI_s]
      exact hno i i0 (by omega)
    · rw [upI_n e, upI_n e]
      exact s5 i j i0 ij (by omega)
theorem rr_new (h : LR K M) {s n b : Int} (hs : 1 ≤ s ∧ s ≤ 7) (hn : 0 ≤ n ∧ n ≤ b ∧ b ≤ 16) (hr : n < b → M.1 13 < 85) : RR (kf_tx_makeNew (smp s) n b K) (rf_newName s n b M) (NWV M s n) := by
  have hX := h.2.1
  have hf := h.2.2.2.2
  unfold kf_tx_makeNew rf_newName
  rw [if_pos (show M.1 10 ≤ 0 by omega), hX.1]
  have bad : ∀ (X : Option (Int × Int × mR)) (Y : Option (Int × mR)), RP X (fun y => y.1 ≠ 0) → RP Y (fun z => 0 < z.2.1 10) → RR X Y (NWV M s n) := fun X Y h1 h2 => RR_w (RR_pr h1 h2) (fun _ _ q => Or.inr q)
  have n58 : ∀ z : Int × mR, 0 < z.2.1 10 → RP (rfl_newName_58 s n z.2) (fun z => 0 < z.2.1 10) := by
    intro z hz
    unfold rfl_newName_58
    rw [if_neg (by omega)]
    exact RP_some hz
  refine RR_ii (wm_256 hX.2.1) (fun g1 g2 => ?_) (fun g1 g2 => bad _ _ (thr_l (refuse_1 _)) (RP_bnd (bad_1 M) n58))
  unfold kfl_tx_makeNew_14
  by_cases hb : n < b
  · rw [if_pos hb, if_neg (show ¬ n = b by omega)]
    unfold kfl_tx_makeNew_28
    intro x z hx hz
    cases hff : kf_tx_find K with
    | none => rw [hff] at hx; cases hx
    | some f =>
      cases hss : rf_sortHere M with
      | none => rw [hss] at hz; cases hz
      | some t =>
        rw [hff, bnd_some] at hx
        rw [hss, bnd_some] at hz
        obtain ⟨g, k, p1, p2⟩ := rr_sort h g2 f t hff hss
        have q := sort_of h p1
        rw [← p2] at q
        have hc : K.1 203 = M.1 13 + 5 := h.2.2.1.2.1
        have n0 := h.2.2.1.1.1
        have hro := hr hb
        have fk := find_k (K := K) (by omega) (by omega) f hff
        rcases q with ⟨q1, q2⟩ | ⟨q1, q2, q3, q4, q5⟩
        · rw [if_pos q1] at hx
          rw [if_pos q2] at hz
          have hno : ∀ i, 0 ≤ i → i < K.1 203 → ¬ (K.2 6 i = K.1 209 ∧ K.2 7 i = K.1 210) := by
            rcases fk with fk | fk
            · omega
            · exact fk.2
          unfold kfl_tx_makeNew_45 kf_tx_makeName at hx
          rw [if_neg (show ¬ (90 : Int) ≤ K.1 203 by omega), bnd_some, cut_i (by omega) (by omega)] at hx
          unfold rfl_newName_58 rf_enter at hz
          rw [if_pos (show M.1 10 ≤ 0 by omega), bnd_some, cut_i (by omega) (by omega)] at hz
          unfold rfl_newName_73 at hz
          have hN2 := NMR_new (n := n) h g2 hs (by omega) hro hno
          obtain ⟨p, e1, e2, e3, e4⟩ := LX_end hX (by omega) h.1.1
          have ra := rr_adv1 (K := mO K [(203, K.1 203 + 1)] [(6, upI (K.2 6) (K.1 203) (K.1 209)), (7, upI (K.2 7) (K.1 203) (K.1 210)), (8, upI (K.2 8) (K.1 203) (smp s)), (9, upI (K.2 9) (K.1 203) n)]) (M := mO M [(13, M.1 13 + 1)] [(14, upI (M.2 14) (M.1 13) (M.1 8)), (15, upI (M.2 15) (M.1 13) (M.1 9)), (16, upI (M.2 16) (M.1 13) s), (17, upI (M.2 17) (M.1 13) n)]) h.1 hN2 h.2.2.2.1 hf e1 e2 e3 e4
          have ub := fun z hz => (u_rf_next (mO M [(13, M.1 13 + 1)] [(14, upI (M.2 14) (M.1 13) (M.1 8)), (15, upI (M.2 15) (M.1 13) (M.1 9)), (16, upI (M.2 16) (M.1 13) s), (17, upI (M.2 17) (M.1 13) n)]) z hz).1
          have ra2 : RR _ _ _ := fun y z hy hz => (⟨ra y z hy hz, ub z hz⟩ : LVq (fun _ _ => True) y z ∧ fr rF_next rA_next _ z.2)
          refine RR_bnd ra2 (fun y z hyz => ?_) x z hx hz
          obtain ⟨hyz, fz⟩ := hyz
          rcases hyz with ⟨d1, d2, d3⟩ | ⟨d1, d2⟩
          · rw [if_pos d1]
            exact RR_some (Or.inl ⟨rfl, rfl, d3, fr1 fz 13 rfl, fr2 fz 16 rfl, fr2 fz 17 rfl⟩)
          · rw [if_neg d1]
            exact RR_some (Or.inr ⟨d1, d2⟩)
        · rw [if_neg (by omega)] at hx
          rw [if_neg (by omega)] at hz
          exact bad _ _ (thr_l (fail_1 _ _ _)) (RP_bnd (wrong_1 (by decide)) n58) x z hx hz
  · rw [if_neg hb, if_pos (show n = b by omega)]
    exact bad _ _ (thr_l (fail_1 _ _ _)) (RP_bnd (wrong_1 (by decide)) n58)
end LR3
