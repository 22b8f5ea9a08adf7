/-! ===== states that come round, in the reference: the closure ===== -/
section CR5
variable {M : mR} {e : Int}
def RNm (M : mR) (e : Int) (m : mR) : Prop := fr [] [126] M m ∧ (∀ d, 0 ≤ d → d < M.1 24 → m.2 126 d = 0 ∨ m.2 126 d = 1) ∧ (∀ d, 0 ≤ d → d < M.1 24 → m.2 126 d = 1 → TCl (ER M) e d) ∧ ∀ d, 0 ≤ d → d < M.1 24 → ER M e d → m.2 126 d = 1
def RNc (M m : mR) : Prop := ∀ c, 0 ≤ c → c < M.1 24 → m.2 126 c = 1 → M.2 41 c ≤ 0 → ∀ d, 0 ≤ d → d < M.1 24 → LD M c d → m.2 126 d = 1
theorem RNm_1 {L : mR} {d : Int} (h : RNm M e L) (d0 : 0 ≤ d) (hd : TCl (ER M) e d) : RNm M e (mO L [] [(126, upI (L.2 126) d 1)]) := by
  obtain ⟨h1, h2, h3, h4⟩ := h
  refine ⟨fr_m h1 rfl rfl, fun x x0 x1 => ?_, fun x x0 x1 => ?_, fun x x0 x1 hx => ?_⟩
  · show upI (L.2 126) d 1 x = 0 ∨ upI (L.2 126) d 1 x = 1
    by_cases ed : x = d
    · rw [ed, upI_s]; exact Or.inr rfl
    · rw [upI_n ed]; exact h2 x x0 x1
  · show upI (L.2 126) d 1 x = 1 → _
    by_cases ed : x = d
    · rw [ed]; exact fun _ => hd
    · rw [upI_n ed]; exact h3 x x0 x1
  · show upI (L.2 126) d 1 x = 1
    by_cases ed : x = d
    · rw [ed, upI_s]
    · rw [upI_n ed]; exact h4 x x0 x1 hx
theorem inner_r {v1 c ch : Int} {L0 : mR} (h : SRr M) (h0 : RNm M e L0) (c0 : 0 ≤ c) (c1 : c < M.1 24) (hc : L0.2 126 c = 1) (h41 : M.2 41 c ≤ 0) : RP (whl (rfb_comesRound_81 v1 c) (ch, 0, L0)) (fun z => RNm M e z.2 ∧ (z.1 = 0 → ch = 0 ∧ (∀ x, z.2.2 126 x = L0.2 126 x) ∧ ∀ d, 0 ≤ d → d < M.1 24 → LD M c d → L0.2 126 d = 1)) := by
  have n1 := h.1.2
  have tc := h0.2.2.1 c c0 c1 hc
  refine RP_whl (I := fun q : Int × Int × mR => 0 ≤ q.2.1 ∧ q.2.1 ≤ 16 ∧ RNm M e q.2.2 ∧ (q.1 = 0 → ch = 0 ∧ (∀ x, q.2.2.2 126 x = L0.2 126 x) ∧ ∀ d, 0 ≤ d → d < q.2.1 → d < M.1 24 → LD M c d → L0.2 126 d = 1)) (fun q hq => ?_) ⟨(show (0 : Int) ≤ 0 by decide), (show (0 : Int) ≤ 16 by decide), h0, fun q => ⟨q, fun _ => rfl, fun d d0 d1 => absurd (show d < 0 from d1) (by omega)⟩⟩
  obtain ⟨x, d, L⟩ := q
  obtain ⟨q0, q1, q2, q3⟩ := hq
  have q0 : 0 ≤ d := q0
  have q1 : d ≤ 16 := q1
  have q2 : RNm M e L := q2
  have q3 : x = 0 → ch = 0 ∧ (∀ y, L.2 126 y = L0.2 126 y) ∧ ∀ y, 0 ≤ y → y < d → y < M.1 24 → LD M c y → L0.2 126 y = 1 := q3
  have f := q2.1
  unfold rfb_comesRound_81 rfl_comesRound_123
  show RP (if L.1 24 ≤ d then some (Sum.inr (x, L)) else if L.2 126 d = 0 then bnd (rf_leads c d L) fun y11 => if y11 = 0 then some (Sum.inl (x, cut (d + 1), L)) else some (Sum.inl (1, cut (d + 1), mO L [] [(126, upI (L.2 126) d (nar1 1))])) else some (Sum.inl (x, cut (d + 1), L))) _
  rw [fr1 f 24 rfl]
  refine RP_ite (fun g => RP_some ⟨q2, fun hx => ⟨(q3 hx).1, (q3 hx).2.1, fun y y0 y1 => (q3 hx).2.2 y y0 (by omega) y1⟩⟩) (fun g => ?_)
  rw [cut_i (by omega) (by omega), show nar1 1 = 1 from rfl]
  -- the mark at hand stays
  have stay : (LD M c d → L.2 126 d = 1) → sel (fun q : Int × Int × mR => 0 ≤ q.2.1 ∧ q.2.1 ≤ 16 ∧ RNm M e q.2.2 ∧ (q.1 = 0 → ch = 0 ∧ (∀ x, q.2.2.2 126 x = L0.2 126 x) ∧ ∀ d, 0 ≤ d → d < q.2.1 → d < M.1 24 → LD M c d → L0.2 126 d = 1)) (fun z : Int × mR => RNm M e z.2 ∧ (z.1 = 0 → ch = 0 ∧ (∀ x, z.2.2 126 x = L0.2 126 x) ∧ ∀ d, 0 ≤ d → d < M.1 24 → LD M c d → L0.2 126 d = 1)) (Sum.inl (x, d + 1, L)) := by
    intro hl
    refine ⟨by show 0 ≤ d + 1; omega, by show d + 1 ≤ 16; omega, q2, fun hx => ?_⟩
    obtain ⟨a1, a2, a3⟩ := q3 hx
    refine ⟨a1, a2, fun y y0 y1 y2 y3 => ?_⟩
    have y1 : y < d + 1 := y1
    by_cases ey : y = d
    · rw [ey] at y3
      rw [ey, ← a2 d]
      exact hl y3
    · exact a3 y y0 (by omega) y2 y3
  refine RP_ite (fun g2 => ?_) (fun g2 => RP_some (stay (fun _ => ?_)))
  · obtain ⟨⟨k0, k1⟩, -⟩ := h.2 c c0 c1
    refine RP_bnd (leads_r (M := L) (c := c) (d := d) c0 (by omega) (by rw [fr2 f 42 rfl]; exact k0) (by rw [fr2 f 42 rfl]; exact k1)) (fun r hr => ?_)
    rw [LD_f f rfl] at hr
    rcases hr with ⟨r1, r2⟩ | ⟨r1, r2⟩
    · rw [if_neg (by omega)]
      refine RP_some ⟨by show 0 ≤ d + 1; omega, by show d + 1 ≤ 16; omega, RNm_1 q2 q0 (TCl_s tc ⟨c0, c1, h41, r2⟩), fun hx => absurd (show (1 : Int) = 0 from hx) (by decide)⟩
    · rw [if_pos r1]
      exact RP_some (stay (fun p => absurd p r2))
  · rcases q2.2.1 d q0 (by omega) with q | q
    · exact absurd q g2
    · exact q
theorem pass_r {v1 : Int} {m : mR} (h : SRr M) (h0 : RNm M e m) : RP (whl (rfb_comesRound_49 v1) (0, 0, m)) (fun z => RNm M e z.2 ∧ (z.1 = 0 → RNc M z.2)) := by
  have n1 := h.1.2
  refine RP_whl (I := fun q : Int × Int × mR => 0 ≤ q.2.1 ∧ q.2.1 ≤ 16 ∧ RNm M e q.2.2 ∧ (q.1 = 0 → (∀ x, q.2.2.2 126 x = m.2 126 x) ∧ ∀ c, 0 ≤ c → c < q.2.1 → c < M.1 24 → m.2 126 c = 1 → M.2 41 c ≤ 0 → ∀ d, 0 ≤ d → d < M.1 24 → LD M c d → m.2 126 d = 1)) (fun q hq => ?_) ⟨(show (0 : Int) ≤ 0 by decide), (show (0 : Int) ≤ 16 by decide), h0, fun q => ⟨fun _ => rfl, fun d d0 d1 => absurd (show d < 0 from d1) (by omega)⟩⟩
  obtain ⟨x, c, L⟩ := q
  obtain ⟨q0, q1, q2, q3⟩ := hq
  have q0 : 0 ≤ c := q0
  have q1 : c ≤ 16 := q1
  have q2 : RNm M e L := q2
  have q3 : x = 0 → (∀ y, L.2 126 y = m.2 126 y) ∧ ∀ y, 0 ≤ y → y < c → y < M.1 24 → m.2 126 y = 1 → M.2 41 y ≤ 0 → ∀ d, 0 ≤ d → d < M.1 24 → LD M y d → m.2 126 d = 1 := q3
  have f := q2.1
  unfold rfb_comesRound_49 rfl_comesRound_129
  show RP (if L.1 24 ≤ c then some (Sum.inr (x, L)) else if L.2 126 c = 0 then some (Sum.inl (x, cut (c + 1), L)) else if L.2 41 c ≤ 0 then bnd (whl (rfb_comesRound_81 v1 c) (x, 0, L)) (fun e19 : Int × mR => some (Sum.inl (e19.1, cut (c + 1), e19.2))) else some (Sum.inl (x, cut (c + 1), L))) _
  rw [fr1 f 24 rfl, fr2 f 41 rfl]
  refine RP_ite (fun g => RP_some ⟨q2, fun hx y y0 y1 y2 y3 d d0 d1 d2 => ?_⟩) (fun g => ?_)
  · obtain ⟨a1, a2⟩ := q3 hx
    have y2 : L.2 126 y = 1 := y2
    show L.2 126 d = 1
    rw [a1] at y2 ⊢
    exact a2 y y0 (by omega) y1 y2 y3 d d0 d1 d2
  rw [cut_i (by omega) (by omega)]
  have stay : (L.2 126 c = 1 → ¬ M.2 41 c ≤ 0) → sel (fun q : Int × Int × mR => 0 ≤ q.2.1 ∧ q.2.1 ≤ 16 ∧ RNm M e q.2.2 ∧ (q.1 = 0 → (∀ x, q.2.2.2 126 x = m.2 126 x) ∧ ∀ c, 0 ≤ c → c < q.2.1 → c < M.1 24 → m.2 126 c = 1 → M.2 41 c ≤ 0 → ∀ d, 0 ≤ d → d < M.1 24 → LD M c d → m.2 126 d = 1)) (fun z : Int × mR => RNm M e z.2 ∧ (z.1 = 0 → RNc M z.2)) (Sum.inl (x, c + 1, L)) := by
    intro hl
    refine ⟨by show 0 ≤ c + 1; omega, by show c + 1 ≤ 16; omega, q2, fun hx => ?_⟩
    obtain ⟨a1, a2⟩ := q3 hx
    refine ⟨a1, fun y y0 y1 y2 y3 y4 => ?_⟩
    have y1 : y < c + 1 := y1
    by_cases ey : y = c
    · rw [ey] at y3 y4
      rw [← a1] at y3
      exact absurd y4 (hl y3)
    · exact a2 y y0 (by omega) y2 y3 y4
  refine RP_ite (fun g2 => RP_some (stay (fun p => by omega))) (fun g2 => RP_ite (fun g3 => ?_) (fun g3 => RP_some (stay (fun _ => g3))))
  have hc : L.2 126 c = 1 := by
    rcases q2.2.1 c q0 (by omega) with q | q
    · exact absurd q g2
    · exact q
  refine RP_bnd (inner_r (v1 := v1) (ch := x) h q2 q0 (by omega) hc g3) (fun z hz => ?_)
  obtain ⟨z1, z2⟩ := hz
  refine RP_some ⟨by show 0 ≤ c + 1; omega, by show c + 1 ≤ 16; omega, z1, fun hx => ?_⟩
  obtain ⟨b1, b2, b3⟩ := z2 hx
  obtain ⟨a1, a2⟩ := q3 b1
  refine ⟨fun y => (b2 y).trans (a1 y), fun y y0 y1 y2 y3 y4 d d0 d1 d2 => ?_⟩
  have y1 : y < c + 1 := y1
  by_cases ey : y = c
  · rw [ey] at d2
    rw [← a1 d]
    exact b3 d d0 d1 d2
  · exact a2 y y0 (by omega) y2 y3 y4 d d0 d1 d2
theorem round_r (h : SRr M) (e0 : 0 ≤ e) (e1 : e < M.1 24) : RP (rf_comesRound e M) (fun z => fr [] [126] M z.2 ∧ ((z.1 ≠ 0 ∧ TCl (ER M) e e) ∨ (z.1 = 0 ∧ ¬ TCl (ER M) e e))) := by
  unfold rf_comesRound
  refine RP_ite (fun g => ?_) (fun g => RP_some ⟨fr_0, Or.inr ⟨rfl, fun p => p (fun _ => False) (fun x hx => g hx.2.2.1) (fun c x hc _ => hc)⟩⟩)
  refine RP_bnd (round1_r h e0 e1) (fun m hm => ?_)
  obtain ⟨f, hm⟩ := hm
  have hR : RNm M e m := by
    refine ⟨f, fun d d0 d1 => ?_, fun d d0 d1 hd => ?_, fun d d0 d1 hd => ?_⟩
    · rcases hm d d0 d1 with ⟨q, -⟩ | ⟨q, -⟩
      · exact Or.inr q
      · exact Or.inl q
    · rcases hm d d0 d1 with ⟨-, q⟩ | ⟨q, -⟩
      · exact TCl_1 ⟨e0, e1, g, q⟩
      · omega
    · rcases hm d d0 d1 with ⟨q, -⟩ | ⟨-, q⟩
      · exact q
      · exact absurd hd.2.2.2 q
  unfold rfl_comesRound_39 rfl_comesRound_138
  refine RP_bnd (P := fun m => RNm M e m ∧ RNc M m) ?_ (fun m hm => ?_)
  · refine RP_whl (I := fun q : Int × mR => RNm M e q.2 ∧ (q.1 = 0 → RNc M q.2)) (fun q hq => ?_) ⟨hR, fun q => absurd (show (1 : Int) = 0 from q) (by decide)⟩
    obtain ⟨q1, q2⟩ := hq
    unfold rfb_comesRound_41 rfl_comesRound_135
    refine RP_ite (fun g => RP_some ⟨q1, q2 g⟩) (fun g => RP_bnd (pass_r h q1) (fun z hz => RP_some hz))
  · obtain ⟨⟨f, m1, m2, m3⟩, m4⟩ := hm
    have all : TCl (ER M) e e → m.2 126 e = 1 := by
      intro p
      refine (p (fun x => 0 ≤ x ∧ x < M.1 24 ∧ m.2 126 x = 1) (fun x hx => ?_) (fun c x hc hx => ?_)).2.2
      · obtain ⟨r0, r1⟩ := (h.2 e e0 e1).2 x hx.2.2.2
        exact ⟨r0, r1, m3 x r0 r1 hx⟩
      · obtain ⟨c0, c1, c2, c3⟩ := hx
        obtain ⟨r0, r1⟩ := (h.2 c c0 c1).2 x c3
        exact ⟨r0, r1, m4 c c0 c1 hc.2.2 c2 x r0 r1 c3⟩
    refine RP_some ⟨f, ?_⟩
    rcases m1 e e0 e1 with q | q
    · refine Or.inr ⟨q, fun p => ?_⟩
      have := all p
      omega
    · exact Or.inl ⟨by show m.2 126 e ≠ 0; omega, m2 e e0 e1 q⟩
theorem SRr_f {m : mR} {F A : List Nat} (h : SRr M) (hM : fr F A M m) (c1 : chk [24] F = true) (c2 : chk [38, 42, 44, 45] A = true) : SRr m := by
  unfold SRr
  rw [fr1 hM 24 (chk_1 c1 (by decide)), fr2 hM 42 (chk_1 c2 (by decide))]
  exact ⟨h.1, fun c c0 c1 => ⟨(h.2 c c0 c1).1, fun d hd => (h.2 c c0 c1).2 d ((LD_f hM c2).mp hd)⟩⟩
theorem ER_f {m : mR} {F A : List Nat} (hM : fr F A M m) (c1 : chk [24] F = true) (c2 : chk [38, 41, 42, 44, 45] A = true) : ER m = ER M := by
  funext c d
  unfold ER LD
  rw [fr1 hM 24 (chk_1 c1 (by decide)), fr2 hM 38 (chk_1 c2 (by decide)), fr2 hM 41 (chk_1 c2 (by decide)), fr2 hM 42 (chk_1 c2 (by decide)), fr2 hM 44 (chk_1 c2 (by decide)), fr2 hM 45 (chk_1 c2 (by decide))]
theorem check59_r (h : SRr M) (hf : M.1 10 = 0) : RP (rfl_checkStates_59 M) (fun z => (fr [] [126] M z.2 ∧ ∀ d, 0 ≤ d → d < M.1 24 → ¬ TCl (ER M) d d) ∨ (0 < z.2.1 10 ∧ ∃ d, 0 ≤ d ∧ d < M.1 24 ∧ TCl (ER M) d d)) := by
  have n1 := h.1.2
  unfold rfl_checkStates_59
  refine RP_bnd (P := fun m => (fr [] [126] M m ∧ ∀ d, 0 ≤ d → d < M.1 24 → ¬ TCl (ER M) d d) ∨ (0 < m.1 10 ∧ ∃ d, 0 ≤ d ∧ d < M.1 24 ∧ TCl (ER M) d d)) ?_ (fun m hm => RP_some hm)
  refine RP_whl (I := fun q : Int × mR => (0 ≤ q.1 ∧ q.1 ≤ 16 ∧ fr [] [126] M q.2 ∧ ∀ d, 0 ≤ d → d < q.1 → d < M.1 24 → ¬ TCl (ER M) d d) ∨ (0 < q.2.1 10 ∧ ∃ d, 0 ≤ d ∧ d < M.1 24 ∧ TCl (ER M) d d)) (fun q hq => ?_) (Or.inl ⟨(show (0 : Int) ≤ 0 by decide), (show (0 : Int) ≤ 16 by decide), fr_0, fun d d0 d1 => absurd (show d < 0 from d1) (by omega)⟩)
  obtain ⟨i, L⟩ := q
  unfold rfb_checkStates_61 rfl_checkStates_81 rfl_checkStates_96
  show RP (if L.1 24 ≤ i then some (Sum.inr L) else if L.1 10 = 0 then bnd (rf_comesRound i L) fun y10 => if y10.1 = 0 then some (Sum.inl (cut (i + 1), y10.2)) else bnd (rf_wrong 8 (y10.2.2 40 i) y10.2) fun y4 => some (Sum.inl (cut (i + 1), y4.2)) else some (Sum.inr L)) _
  rcases hq with ⟨q0, q1, q2, q3⟩ | ⟨q0, q1⟩
  · have q0 : 0 ≤ i := q0
    have q1 : i ≤ 16 := q1
    have q2 : fr [] [126] M L := q2
    have q3 : ∀ d, 0 ≤ d → d < i → d < M.1 24 → ¬ TCl (ER M) d d := q3
    rw [fr1 q2 24 rfl, fr1 q2 10 rfl, if_pos hf]
    refine RP_ite (fun g => RP_some (Or.inl ⟨q2, fun d d0 d1 => q3 d d0 (by omega) d1⟩)) (fun g => ?_)
    refine RP_bnd (round_r (M := L) (e := i) (SRr_f h q2 rfl rfl) q0 (by rw [fr1 q2 24 rfl]; omega)) (fun z hz => ?_)
    obtain ⟨z1, z2⟩ := hz
    rw [ER_f q2 rfl rfl] at z2
    rw [cut_i (by omega) (by omega)]
    rcases z2 with ⟨z2, z3⟩ | ⟨z2, z3⟩
    · rw [if_neg z2]
      exact RP_bnd (wrong_1 (by decide)) (fun w hw => RP_some (Or.inr ⟨hw, i, q0, by omega, z3⟩))
    · rw [if_pos z2]
      refine RP_some (Or.inl ⟨by show 0 ≤ i + 1; omega, by show i + 1 ≤ 16; omega, fr_s z1 q2 rfl rfl, fun d d0 d1 d2 => ?_⟩)
      have d1 : d < i + 1 := d1
      by_cases ed : d = i
      · rw [ed]; exact z3
      · exact q3 d d0 (by omega) d2
  · have q0 : 0 < L.1 10 := q0
    rw [if_neg (show ¬ L.1 10 = 0 by omega)]
    exact RP_ite (fun g => RP_some (Or.inr ⟨q0, q1⟩)) (fun g => RP_some (Or.inr ⟨q0, q1⟩))
end CR5
