/-! ===== the end of the text: states that are missing, states that come round ===== -/
section CL6
variable {K M : mR}
theorem missing_k (n0 : 0 ≤ K.1 221) (n1 : K.1 221 ≤ 16) (h35 : ∀ s, 0 ≤ s → s < K.1 221 → K.2 36 s = -1 → 0 ≤ K.2 35 s) : RP (kf_ss_missing K) (fun r => (r = -1 ∧ ∀ s, 0 ≤ s → s < K.1 221 → K.2 36 s ≠ -1) ∨ (r ≠ -1 ∧ ∃ s, 0 ≤ s ∧ s < K.1 221 ∧ K.2 36 s = -1)) := by
  unfold kf_ss_missing kfl_ss_missing_20
  refine RP_bnd (P := sel (fun s : Int => 0 ≤ s ∧ s < K.1 221 ∧ K.2 36 s = -1) (fun _ : Unit => ∀ s, 0 ≤ s → s < K.1 221 → K.2 36 s ≠ -1)) ?_ (RP_sl (fun s hs => RP_some (Or.inr ⟨by have := h35 s hs.1 hs.2.1 hs.2.2; omega, s, hs⟩)) (fun _ hs => RP_some (Or.inl ⟨rfl, hs⟩)))
  refine RP_whl (I := fun s : Int => 0 ≤ s ∧ s ≤ 16 ∧ ∀ i, 0 ≤ i → i < s → K.2 36 i ≠ -1) (fun s hs => ?_) ⟨by decide, by decide, fun i a b => absurd b (by omega)⟩
  obtain ⟨s0, s1, s2⟩ := hs
  unfold kfb_ss_missing_2
  refine RP_ite (fun g => RP_some (fun i i0 i1 => s2 i i0 (by omega))) (fun g => RP_ite (fun g2 => RP_some ⟨s0, by omega, g2⟩) (fun g2 => ?_))
  rw [cut_i (by omega) (by omega)]
  refine RP_some ⟨by omega, by omega, fun i i0 i1 => ?_⟩
  by_cases e : i = s
  · rw [e]; exact g2
  · exact s2 i i0 (by omega)
theorem missing_r (n0 : 0 ≤ M.1 23) (n1 : M.1 23 ≤ 16) (h37 : ∀ s, 0 ≤ s → s < M.1 23 → M.2 38 s < 0 → 0 ≤ M.2 37 s) : RP (whl (rfb_checkStates_4 M) (-1, 0)) (fun r => (r = -1 ∧ ∀ s, 0 ≤ s → s < M.1 23 → 0 ≤ M.2 38 s) ∨ (0 ≤ r ∧ ∃ s, 0 ≤ s ∧ s < M.1 23 ∧ M.2 38 s < 0)) := by
  refine RP_whl (I := fun q : Int × Int => 0 ≤ q.2 ∧ q.2 ≤ 16 ∧ ((q.1 = -1 ∧ ∀ s, 0 ≤ s → s < q.2 → 0 ≤ M.2 38 s) ∨ (0 ≤ q.1 ∧ ∃ s, 0 ≤ s ∧ s < M.1 23 ∧ M.2 38 s < 0))) (fun q hq => ?_) ⟨(show (0 : Int) ≤ 0 by decide), (show (0 : Int) ≤ 16 by decide), Or.inl ⟨rfl, fun s a b => absurd (show s < 0 from b) (by omega)⟩⟩
  obtain ⟨r, i⟩ := q
  obtain ⟨q0, q1, q2⟩ := hq
  have q0 : 0 ≤ i := q0
  have q1 : i ≤ 16 := q1
  have q2 : (r = -1 ∧ ∀ s, 0 ≤ s → s < i → 0 ≤ M.2 38 s) ∨ (0 ≤ r ∧ ∃ s, 0 ≤ s ∧ s < M.1 23 ∧ M.2 38 s < 0) := q2
  unfold rfb_checkStates_4 rfl_checkStates_35 rfl_checkStates_42
  show RP (if M.1 23 ≤ i then some (Sum.inr r) else if (0 : Int) ≤ M.2 38 i then some (Sum.inl (r, cut (i + 1))) else if r < 0 then some (Sum.inl (M.2 37 i, cut (i + 1))) else if r ≤ M.2 37 i then some (Sum.inl (r, cut (i + 1))) else some (Sum.inl (M.2 37 i, cut (i + 1)))) _
  refine RP_ite (fun g => RP_some ?_) (fun g => ?_)
  · rcases q2 with ⟨a1, a2⟩ | a
    · exact Or.inl ⟨a1, fun s s0 s1 => a2 s s0 (by omega)⟩
    · exact Or.inr a
  rw [cut_i (by omega) (by omega)]
  refine RP_ite (fun g1 => RP_some ⟨by show 0 ≤ i + 1; omega, by show i + 1 ≤ 16; omega, ?_⟩) (fun g1 => ?_)
  · rcases q2 with ⟨a1, a2⟩ | a
    · refine Or.inl ⟨a1, fun s s0 s1 => ?_⟩
      have s1 : s < i + 1 := s1
      by_cases e : s = i
      · rw [e]; exact g1
      · exact a2 s s0 (by omega)
    · exact Or.inr a
  · have p := h37 i q0 (by omega) (by omega)
    have w : ∃ s, 0 ≤ s ∧ s < M.1 23 ∧ M.2 38 s < 0 := ⟨i, q0, by omega, by omega⟩
    exact RP_ite (fun _ => RP_some ⟨by show 0 ≤ i + 1; omega, by show i + 1 ≤ 16; omega, Or.inr ⟨p, w⟩⟩) (fun g2 => RP_ite (fun _ => RP_some ⟨by show 0 ≤ i + 1; omega, by show i + 1 ≤ 16; omega, Or.inr ⟨by show 0 ≤ r; omega, w⟩⟩) (fun _ => RP_some ⟨by show 0 ≤ i + 1; omega, by show i + 1 ≤ 16; omega, Or.inr ⟨p, w⟩⟩))
/-- the edges are the same -/
theorem edges (n16 : M.1 23 ≤ 16) (hO : SO K M) (hG : SGd (M.1 23) (M.1 24) K M) (h221 : K.1 221 = M.1 23) (all : ∀ s, 0 ≤ s → s < M.1 23 → 0 ≤ M.2 38 s) {c d : Int} (c0 : 0 ≤ c) (c1 : c < M.1 24) : (ER M c d → 0 ≤ d ∧ d < M.1 24 ∧ EK K (M.2 39 c) (M.2 39 d)) ∧ (0 ≤ d → d < M.1 24 → EK K (M.2 39 c) (M.2 39 d) → ER M c d) := by
  obtain ⟨a1, a2, a3, a4, a5, a6, a7, a8⟩ := hG c c0 c1
  have st : ∀ s, 0 ≤ s → s < M.1 23 → 0 ≤ M.2 38 s ∧ M.2 38 s < M.1 24 ∧ M.2 39 (M.2 38 s) = s := by
    intro s s0 s1
    rcases hO.1 s s0 s1 with ⟨-, q, -⟩ | ⟨-, q1, q2, q3⟩
    · have := all s s0 s1
      omega
    · exact ⟨q1, q2, q3⟩
  have gl : ∀ a b, GL (M.1 23) a b → 0 ≤ b → M.2 38 b = d → 0 ≤ d ∧ d < M.1 24 ∧ M.2 39 d = a := by
    intro a b hg b0 hb
    rcases hg with ⟨p1, p2, p3⟩ | ⟨p1, -⟩
    · obtain ⟨q1, q2, q3⟩ := st b p1 p2
      rw [hb] at q1 q2 q3
      exact ⟨q1, q2, by rw [q3, p3]⟩
    · omega
  constructor
  · rintro ⟨-, -, e3, e4⟩
    rcases e4 with ⟨p1, p2⟩ | ⟨i, i0, i1, p1, p2⟩
    · obtain ⟨q1, q2, q3⟩ := gl _ _ a5 p1 p2
      exact ⟨q1, q2, a1, by omega, by omega, Or.inl q3⟩
    · obtain ⟨q1, q2, q3⟩ := gl _ _ (a8 i i0 i1) p1 p2
      exact ⟨q1, q2, a1, by omega, by omega, Or.inr ⟨i, i0, by omega, q3⟩⟩
  · intro d0 d1 hE
    obtain ⟨b1, b2, b3, b4⟩ := hO.2 d d0 d1
    obtain ⟨-, -, e3, e4⟩ := hE
    have bk : ∀ a b, GL (M.1 23) a b → M.2 39 d = a → 0 ≤ b ∧ M.2 38 b = d := by
      intro a b hg ha
      rcases hg with ⟨p1, p2, p3⟩ | ⟨p1, p2⟩
      · exact ⟨p1, by rw [← p3, ← ha]; exact b3⟩
      · omega
    refine ⟨c0, c1, by omega, ?_⟩
    rcases e4 with e4 | ⟨i, i0, i1, e4⟩
    · exact Or.inl (bk _ _ a5 e4)
    · exact Or.inr ⟨i, i0, by omega, bk _ _ (a8 i i0 (by omega)) e4⟩
theorem tc_rk (n16 : M.1 23 ≤ 16) (hO : SO K M) (hG : SGd (M.1 23) (M.1 24) K M) (h221 : K.1 221 = M.1 23) (all : ∀ s, 0 ≤ s → s < M.1 23 → 0 ≤ M.2 38 s) {c d : Int} (c0 : 0 ≤ c) (c1 : c < M.1 24) (h : TCl (ER M) c d) : 0 ≤ d ∧ d < M.1 24 ∧ TCl (EK K) (M.2 39 c) (M.2 39 d) := by
  refine h (fun x => 0 ≤ x ∧ x < M.1 24 ∧ TCl (EK K) (M.2 39 c) (M.2 39 x)) (fun x hx => ?_) (fun y x hy hx => ?_)
  · obtain ⟨q1, q2, q3⟩ := (edges n16 hO hG h221 all c0 c1).1 hx
    exact ⟨q1, q2, TCl_1 q3⟩
  · obtain ⟨q1, q2, q3⟩ := (edges n16 hO hG h221 all hy.1 hy.2.1).1 hx
    exact ⟨q1, q2, TCl_s hy.2.2 q3⟩
theorem tc_kr (n16 : M.1 23 ≤ 16) (hO : SO K M) (hG : SGd (M.1 23) (M.1 24) K M) (h221 : K.1 221 = M.1 23) (all : ∀ s, 0 ≤ s → s < M.1 23 → 0 ≤ M.2 38 s) {c b : Int} (c0 : 0 ≤ c) (c1 : c < M.1 24) (h : TCl (EK K) (M.2 39 c) b) : 0 ≤ b → b < M.1 23 → TCl (ER M) c (M.2 38 b) := by
  have st : ∀ s, 0 ≤ s → s < M.1 23 → 0 ≤ M.2 38 s ∧ M.2 38 s < M.1 24 ∧ M.2 39 (M.2 38 s) = s := by
    intro s s0 s1
    rcases hO.1 s s0 s1 with ⟨-, q, -⟩ | ⟨-, q1, q2, q3⟩
    · have := all s s0 s1
      omega
    · exact ⟨q1, q2, q3⟩
  refine h (fun x => 0 ≤ x → x < M.1 23 → TCl (ER M) c (M.2 38 x)) (fun x hx x0 x1 => ?_) (fun y x hy hx x0 x1 => ?_)
  · obtain ⟨q1, q2, q3⟩ := st x x0 x1
    refine TCl_1 ((edges n16 hO hG h221 all c0 c1).2 q1 q2 ?_)
    rw [q3]
    exact hx
  · have y0 := hx.1
    have y1 : y < M.1 23 := by have := hx.2.1; omega
    obtain ⟨p1, p2, p3⟩ := st y y0 y1
    obtain ⟨q1, q2, q3⟩ := st x x0 x1
    refine TCl_s (hy y0 y1) ((edges n16 hO hG h221 all p1 p2).2 q1 q2 ?_)
    rw [p3, q3]
    exact hx
def CLoG (K M : mR) (y : Int × Int × mR) (z : Int × mR) : Prop := (y.1 = 0 ∧ fr [] [38] K y.2.2 ∧ fr [] [126] M z.2) ∨ (y.1 ≠ 0 ∧ 0 < z.2.1 10)
theorem close20_s (hL : LR K M) (hP : BP K M) (hO : SO K M) (hG : SGd (M.1 23) (M.1 24) K M) : RR (kfl_rd_close_20 K) (rf_checkStates M) (CLoG K M) := by
  obtain ⟨⟨c1, c2, c3, c4, c5, c6, c7, c8⟩, r1, r2, r3, r4, r5, r6, r7, r8, hsum⟩ := id hP.1
  have hf := hL.2.2.2.2
  have bad : ∀ (X : Option (Int × Int × mR)) (Y : Option (Int × mR)), RP X (fun y => y.1 ≠ 0) → RP Y (fun z => 0 < z.2.1 10) → RR X Y (CLoG K M) := fun X Y h1 h2 => RR_w (RR_pr h1 h2) (fun _ _ q => Or.inr q)
  unfold kfl_rd_close_20 rf_checkStates
  refine RR_l (missing_k (K := K) (by omega) (by omega) (fun s s0 s1 hs => ?_)) (fun a ha => RR_r (missing_r (M := M) (by omega) (by omega) (fun s s0 s1 hs => ?_)) (fun b hb => ?_))
  · rcases hO.1 s s0 (by omega) with ⟨-, -, -, -, q, -⟩ | ⟨q, -⟩
    · exact q
    · omega
  · rcases hO.1 s s0 s1 with ⟨-, -, -, -, -, q⟩ | ⟨-, q, -⟩
    · exact q
    · omega
  unfold rfl_checkStates_48
  rw [c6] at ha
  rcases hb with ⟨b1, all⟩ | ⟨b1, s, s0, s1, s2⟩
  · have ak : a = -1 := by
      rcases ha with ⟨q, -⟩ | ⟨-, s, s0, s1, s2⟩
      · exact q
      · rcases hO.1 s s0 s1 with ⟨-, q, -⟩ | ⟨q, -⟩
        · have := all s s0 s1
          omega
        · omega
    rw [if_pos ak, if_pos (by omega)]
    have hSR : SR K := by
      refine ⟨⟨by omega, by omega⟩, fun s s0 s1 => ?_⟩
      rcases hO.1 s s0 (by omega) with ⟨-, q, -⟩ | ⟨-, q1, q2, q3⟩
      · have := all s s0 (by omega)
        omega
      · obtain ⟨a1, a2, a3, a4, a5, a6, a7, a8⟩ := hG (M.2 38 s) q1 q2
        rw [q3] at a5 a6 a8
        have rg : ∀ x y, GL (M.1 23) x y → 0 ≤ x ∧ x < 18 := by
          intro x y hg
          rcases hg with ⟨p1, p2, p3⟩ | ⟨p1, p2⟩ <;> omega
        refine ⟨⟨by omega, by omega⟩, rg _ _ a5, fun i i0 i1 => rg _ _ (a8 i i0 (by omega))⟩
    have h37 : ∀ d, 0 ≤ d → d < K.1 222 → (0 ≤ K.2 37 d ∧ K.2 37 d < K.1 221) ∧ 0 ≤ K.2 36 (K.2 37 d) := by
      intro d d0 d1
      obtain ⟨q1, q2, q3, q4⟩ := hO.2 d d0 (by omega)
      rw [q4]
      refine ⟨⟨q1, by omega⟩, ?_⟩
      rcases hO.1 (M.2 39 d) q1 q2 with ⟨-, q, -⟩ | ⟨q, -⟩
      · omega
      · exact q
    have hSRr : SRr M := by
      refine ⟨⟨by omega, by omega⟩, fun c c0 c1 => ⟨(hG c c0 c1).2.2.2.2.2.2.1, fun d hd => ?_⟩⟩
      rcases hd with ⟨p1, p2⟩ | ⟨i, i0, i1, p1, p2⟩
      · rcases (hG c c0 c1).2.2.2.2.1 with ⟨g1, g2, g3⟩ | ⟨g1, -⟩
        · rcases hO.1 _ g1 g2 with ⟨-, q, -⟩ | ⟨-, q1, q2, -⟩
          · have := all _ g1 g2
            omega
          · omega
        · omega
      · rcases (hG c c0 c1).2.2.2.2.2.2.2 i i0 i1 with ⟨g1, g2, g3⟩ | ⟨g1, -⟩
        · rcases hO.1 _ g1 g2 with ⟨-, q, -⟩ | ⟨-, q1, q2, -⟩
          · have := all _ g1 g2
            omega
          · omega
        · omega
    unfold kfl_rd_close_43
    refine RR_l (circling_k hSR ⟨by omega, by omega⟩ h37) (fun y hy => ?_)
    obtain ⟨fy, hy⟩ := hy
    intro u z hu hz
    have hz := check59_r hSRr hf z hz
    rcases hy with ⟨y1, y2⟩ | ⟨y1, d, d0, d1, d2⟩
    · rw [if_pos y1] at hu
      cases hu
      rcases hz with ⟨z1, -⟩ | ⟨-, d, d0, d1, d2⟩
      · exact Or.inl ⟨rfl, fy, z1⟩
      · obtain ⟨-, -, t⟩ := tc_rk r5.2 hO hG c6 all d0 d1 d2
        rw [← (hO.2 d d0 d1).2.2.2] at t
        exact absurd t (y2 d d0 (by omega))
    · rw [if_neg y1] at hu
      have hu := thr_l (A := fun y5 => some (0, 0, y5.2.2)) (fail_1 _ _ _) u hu
      rcases hz with ⟨-, z1⟩ | ⟨z1, -⟩
      · rw [c7] at d1
        obtain ⟨q1, q2, q3, q4⟩ := hO.2 d d0 d1
        rw [q4] at d2
        have t := tc_kr r5.2 hO hG c6 all d0 d1 d2 q1 q2
        rw [q3] at t
        exact absurd t (z1 d d0 d1)
      · exact Or.inr ⟨hu, z1⟩
  · have ak : a ≠ -1 := by
      rcases ha with ⟨-, q⟩ | ⟨q, -⟩
      · rcases hO.1 s s0 s1 with ⟨p, -⟩ | ⟨-, p, -⟩
        · exact absurd p (q s s0 s1)
        · omega
      · exact q
    rw [if_neg ak, if_neg (by omega)]
    exact bad _ _ (thr_l (A := fun y12 => kfl_rd_close_43 y12.2.2) (fail_1 _ _ _)) (RP_bnd (wrong_1 (by decide)) (fun z hz => RP_w (u_rfl_checkStates_59 z.2) (fun w hw => hw.2 hz)))
end CL6
