/-! ===== states that come round, in the class: the closure ===== -/
section CI3
variable {K m : mR}
def WRi (K e : mR) (k : Int) (m : mR) : Prop := fr [] [38] K m ∧ (∀ s, 0 ≤ s → s < K.1 221 → ∀ b, 0 ≤ b → b < 18 → btt (m.2 38 s) b → TCl (EK K) s b) ∧ (∀ s, 0 ≤ s → s < K.1 221 → ∀ b, 0 ≤ b → b < 18 → EK K s b → btt (m.2 38 s) b) ∧ ∀ v, 0 ≤ v → v < k → v < K.1 221 → ∀ s, 0 ≤ s → s < K.1 221 → ∀ b, 0 ≤ b → b < 18 → btt (m.2 38 s) v → btt (m.2 38 v) b → btt (m.2 38 s) b
theorem circ3_k {e : mR} (h : SR K) (he : fr [] [38] K e ∧ ∀ s, 0 ≤ s → s < K.1 221 → ∀ b, 0 ≤ b → b < 18 → (btt (e.2 38 s) b ↔ EK K s b)) : RP (whl kfb_ss_circling_42 (0, e)) (fun m => fr [] [38] K m ∧ ∀ s, 0 ≤ s → s < K.1 221 → ∀ b, 0 ≤ b → b < 18 → (btt (m.2 38 s) b ↔ TCl (EK K) s b)) := by
  have n0 := h.1.1
  have n1 := h.1.2
  refine RP_whl (I := fun q : Int × mR => 0 ≤ q.1 ∧ q.1 ≤ 16 ∧ WRi K e q.1 q.2) (fun q hq => ?_) ⟨(show (0 : Int) ≤ 0 by decide), (show (0 : Int) ≤ 16 by decide), he.1, fun s s0 s1 b b0 b1 p => TCl_1 ((he.2 s s0 s1 b b0 b1).mp p), fun s s0 s1 b b0 b1 p => (he.2 s s0 s1 b b0 b1).mpr p, fun v v0 v1 => absurd (show v < 0 from v1) (by omega)⟩
  obtain ⟨k, L⟩ := q
  obtain ⟨q0, q1, f, sd, bs, cl⟩ := hq
  have q0 : 0 ≤ k := q0
  have q1 : k ≤ 16 := q1
  have f : fr [] [38] K L := f
  unfold kfb_ss_circling_42 kfl_ss_circling_98
  show RP (if L.1 221 ≤ k then some (Sum.inr L) else bnd (whl (kfb_ss_circling_52 k) (0, L)) fun e18 => some (Sum.inl (cut (k + 1), e18))) _
  have l221 : L.1 221 = K.1 221 := fr1 f 221 rfl
  refine RP_ite (fun g => RP_some ⟨f, fun s s0 s1 b b0 b1 => ⟨fun p => sd s s0 s1 b b0 b1 p, fun p => ?_⟩⟩) (fun g => ?_)
  · -- all that edges lead to is marked
    refine (p (fun x => 0 ≤ x ∧ x < 18 ∧ btt (L.2 38 s) x) (fun x hx => ?_) (fun c x hc hx => ?_)).2.2
    · have rg : 0 ≤ x ∧ x < 18 := by
        obtain ⟨-, -, -, r⟩ := id hx
        obtain ⟨r1, r2, r3⟩ := h.2 s s0 s1
        rcases r with r | ⟨i, i0, i1, r⟩
        · rw [r]; exact r2
        · rw [r]; exact r3 i i0 i1
      exact ⟨rg.1, rg.2, bs s s0 s1 x rg.1 rg.2 hx⟩
    · have hx' := id hx
      obtain ⟨c0, c1, -, r⟩ := hx
      have rg : 0 ≤ x ∧ x < 18 := by
        obtain ⟨r1, r2, r3⟩ := h.2 c c0 c1
        rcases r with r | ⟨i, i0, i1, r⟩
        · rw [r]; exact r2
        · rw [r]; exact r3 i i0 i1
      exact ⟨rg.1, rg.2, cl c c0 (by show c < k; omega) c1 s s0 s1 x rg.1 rg.2 hc.2.2 (bs c c0 c1 x rg.1 rg.2 hx')⟩
  · refine RP_bnd (circ2_k (m := L) (k := k) (by omega) (by omega) q0 (by omega)) (fun m hm => ?_)
    obtain ⟨fm, hm⟩ := hm
    rw [l221] at hm
    rw [cut_i (by omega) (by omega)]
    have kn : k < K.1 221 := by omega
    refine RP_some ⟨by show 0 ≤ k + 1; omega, by show k + 1 ≤ 16; omega, fr_s fm f rfl rfl, fun s s0 s1 b b0 b1 p => ?_, fun s s0 s1 b b0 b1 p => ?_, fun v v0 v1 v2 s s0 s1 b b0 b1 p1 p2 => ?_⟩
    · rcases (hm s s0 s1 b b0 b1).mp p with p | ⟨p1, p2⟩
      · exact sd s s0 s1 b b0 b1 p
      · exact TCl_t (sd s s0 s1 k q0 (by omega) p1) (sd k q0 kn b b0 b1 p2)
    · exact (hm s s0 s1 b b0 b1).mpr (Or.inl (bs s s0 s1 b b0 b1 p))
    · have v1 : v < k + 1 := v1
      have p1 := (hm s s0 s1 v v0 (by omega)).mp p1
      have p2 := (hm v v0 v2 b b0 b1).mp p2
      refine (hm s s0 s1 b b0 b1).mpr ?_
      by_cases ev : v = k
      · subst ev
        have a1 : btt (L.2 38 s) v := by
          rcases p1 with p1 | ⟨p1, -⟩ <;> exact p1
        have a2 : btt (L.2 38 v) b := by
          rcases p2 with p2 | ⟨-, p2⟩ <;> exact p2
        exact Or.inr ⟨a1, a2⟩
      · have cv := cl v v0 (by show v < k; omega) v2
        rcases p1 with p1 | ⟨p1, p1'⟩
        · rcases p2 with p2 | ⟨p2, p2'⟩
          · exact Or.inl (cv s s0 s1 b b0 b1 p1 p2)
          · exact Or.inr ⟨cv s s0 s1 k q0 (by omega) p1 p2, p2'⟩
        · rcases p2 with p2 | ⟨p2, p2'⟩
          · exact Or.inr ⟨p1, cv k q0 kn b b0 b1 p1' p2⟩
          · exact Or.inr ⟨p1, p2'⟩
theorem circling_k (h : SR K) (hd : 0 ≤ K.1 222 ∧ K.1 222 ≤ 16) (h37 : ∀ d, 0 ≤ d → d < K.1 222 → (0 ≤ K.2 37 d ∧ K.2 37 d < K.1 221) ∧ 0 ≤ K.2 36 (K.2 37 d)) : RP (kf_ss_circling K) (fun y => fr [] [38] K y.2 ∧ ((y.1 = -1 ∧ ∀ d, 0 ≤ d → d < K.1 222 → ¬ TCl (EK K) (K.2 37 d) (K.2 37 d)) ∨ (y.1 ≠ -1 ∧ ∃ d, 0 ≤ d ∧ d < K.1 222 ∧ TCl (EK K) (K.2 37 d) (K.2 37 d)))) := by
  unfold kf_ss_circling kfl_ss_circling_40
  refine RP_bnd (circ1_k h) (fun e he => RP_bnd (circ3_k h he) (fun m hm => ?_))
  obtain ⟨f, hm⟩ := hm
  have n1 := h.1.2
  unfold kfl_ss_circling_104 kfl_ss_circling_137
  refine RP_bnd (P := sel (fun d : Int => 0 ≤ d ∧ d < K.1 222 ∧ TCl (EK K) (K.2 37 d) (K.2 37 d)) (fun _ : Unit => ∀ d, 0 ≤ d → d < K.1 222 → ¬ TCl (EK K) (K.2 37 d) (K.2 37 d))) ?_ (RP_sl (fun d hd' => ?_) (fun _ hd' => RP_some ⟨f, Or.inl ⟨rfl, hd'⟩⟩))
  · refine RP_whl (I := fun s : Int => 0 ≤ s ∧ s ≤ 16 ∧ ∀ d, 0 ≤ d → d < s → d < K.1 222 → ¬ TCl (EK K) (K.2 37 d) (K.2 37 d)) (fun s hs => ?_) ⟨by decide, by decide, fun d a b => absurd b (by omega)⟩
    obtain ⟨s0, s1, s2⟩ := hs
    unfold kfb_ss_circling_106
    rw [fr1 f 222 rfl, fr2 f 37 rfl]
    refine RP_ite (fun g => RP_some (fun d d0 d1 => s2 d d0 (by omega) d1)) (fun g => ?_)
    obtain ⟨⟨a0, a1⟩, -⟩ := h37 s s0 (by omega)
    have q := hm (K.2 37 s) a0 a1 (K.2 37 s) a0 (by omega)
    refine RP_ite (fun g2 => ?_) (fun g2 => RP_some ⟨s0, by omega, q.mp g2⟩)
    rw [cut_i (by omega) (by omega)]
    refine RP_some ⟨by omega, by omega, fun d d0 d1 d2 => ?_⟩
    by_cases e : d = s
    · rw [e]
      exact fun p => (q.mpr p) g2
    · exact s2 d d0 (by omega) d2
  · obtain ⟨d0, d1, d2⟩ := hd'
    refine RP_some ⟨f, Or.inr ⟨?_, d, d0, d1, d2⟩⟩
    show m.2 36 (m.2 37 d) ≠ -1
    rw [fr2 f 36 rfl, fr2 f 37 rfl]
    have := (h37 d d0 d1).2
    omega
end CI3
