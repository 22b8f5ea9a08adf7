/-! ===== lay, side by side ===== -/
section LYS
variable {K M K0 M0 M1 : mR} {n me wi : Int}
def stI (me wi : Int) (K0 M1 : mR) (p : Int × Int × mR) (q : Int × mR) : Prop := p.2.1 = q.1 ∧ 0 ≤ q.1 ∧ fr [] [59, 60, 61, 62, 63, 64, 65] K0 p.2.2 ∧ fr [129] [131, 132, 133, 134] M1 q.2 ∧ PO q.1 q.2 ∧ (∀ i, 0 ≤ i → i < q.1 → p.2.2.2 59 i = q.2.2 131 i) ∧ (∀ i, 0 ≤ i → i < q.1 → SRW i p.2.2 q.2) ∧ SGR p.2.2 q.2 ∧ p.1 = q.2.1 129 ∧ 1 ≤ p.1 ∧ p.1 ≤ 12
def stE (K0 M1 : mR) (u : Sum (Int × mR) (Int × mR)) (v : Sum (Int × mR) mR) : Prop := (∃ s K M, u = Sum.inl (s, K) ∧ v = Sum.inl (s, M) ∧ 0 ≤ s ∧ fr [] [59, 60, 61, 62, 63, 64, 65] K0 K ∧ fr [129] [131, 132, 133, 134] M1 M) ∨ (∃ a K M, u = Sum.inr (a, K) ∧ v = Sum.inr M ∧ fr [] [59, 60, 61, 62, 63, 64, 65] K0 K ∧ fr [129] [131, 132, 133, 134] M1 M ∧ a = M.1 129 ∧ 1 ≤ a ∧ a ≤ 12 ∧ SGR K M ∧ (∀ i, 0 ≤ i → i < M1.1 27 → K.2 59 i = M.2 131 i ∧ 0 ≤ M.2 131 i ∧ M.2 131 i < 12))
theorem needs_s (h : LYP K M) {s : Int} (s0 : 0 ≤ s) (s1 : s < M.1 27) {X : Int → Int → Option (Sum (Int × Int × mR) (Sum (Int × mR) (Int × mR)))} {Y : Option (Sum (Int × mR) (Sum (Int × mR) mR))} {P : Sum (Int × Int × mR) (Sum (Int × mR) (Int × mR)) → Sum (Int × mR) (Sum (Int × mR) mR) → Prop} {v2 v3 v4 v5 : Int} (hX : ∀ a b, kfl_sp_settle_109 v2 v3 v4 v5 s a b K = X a b) (g : ∀ nm nw, (0 ≤ nm ∧ nm ≤ 100000) → (0 ≤ nw ∧ nw ≤ 100000) → (∀ M', fr [129] [131, 132, 133, 134] M M' → RP (rf_memoryOf s M') (fun v => v = nm) ∧ RP (rf_wiresOf s M') (fun v => v = nw)) → RR (X nm nw) Y P) : RR (if K.2 55 s = (-1) then kfl_sp_settle_73 v2 v3 v4 v5 s (-1) K else kfl_sp_settle_73 v2 v3 v4 v5 s (K.2 55 s) K) Y P := by
  obtain ⟨c1, c2, c3, c4, c5, c6⟩ := h.2.2.2.2.2.1 s s0 s1
  have none : M.2 60 s ≠ 2 → M.2 63 s = -1 → RR (if K.2 55 s = (-1) then kfl_sp_settle_73 v2 v3 v4 v5 s (-1) K else kfl_sp_settle_73 v2 v3 v4 v5 s (K.2 55 s) K) Y P := by
    intro hk h63
    rw [if_pos (by omega)]
    unfold kfl_sp_settle_73 kfl_sp_settle_93
    rw [if_pos (by decide), if_pos (by decide), hX]
    refine g 0 0 ⟨by decide, by decide⟩ ⟨by decide, by decide⟩ (fun M' f => ?_)
    unfold rf_memoryOf rf_wiresOf rfl_wiresOf_26
    rw [fr2 f 60 rfl, if_neg hk, if_neg hk]
    exact ⟨RP_some rfl, RP_some rfl⟩
  rcases c6 with ⟨d1, d2, -⟩ | ⟨d1, d2, -⟩ | ⟨d1, ⟨d2, d3⟩, -⟩
  · exact none (by omega) d2
  · exact none (by omega) d2
  · rw [if_neg (by omega), c4]
    unfold kfl_sp_settle_73 kfl_sp_settle_93
    rw [if_neg (by omega)]
    intro u v hu hv
    cases h1 : kf_tb_memory (M.2 63 s) K with
    | none => rw [h1] at hu; cases hu
    | some a =>
      rw [h1, bnd_some, if_neg (by omega)] at hu
      cases h2 : kf_tb_wires (M.2 63 s) K with
      | none => rw [h2] at hu; cases hu
      | some b =>
        rw [h2, bnd_some, hX] at hu
        have hB := h.2.2.2.1 (M.2 63 s) d2 d3
        obtain ⟨w1, w2, w3⟩ := wires_k d2 hB.1 b h2
        have all : ∀ M', fr [129] [131, 132, 133, 134] M M' → RP (rf_memoryOf s M') (fun v => v = a ∧ 0 ≤ v ∧ v ≤ 100000) ∧ RP (rf_wiresOf s M') (fun v => v = b) := by
          intro M' f
          have hL : LYP K M' := LYP_f h (fr_0 : fr [] [] K K) f rfl rfl rfl rfl
          refine ⟨fun v hv => ?_, ?_⟩
          · obtain ⟨q1, q2, q3⟩ := memo_s hL s0 (by rw [fr1 f 27 rfl]; exact s1) (by rw [fr2 f 60 rfl]; exact d1) (t := M.2 63 s) (by rw [fr2 f 63 rfl]) d2 (by rw [fr1 f 26 rfl]; exact d3) a v h1 hv
            exact ⟨q1.symm, q2, q3⟩
          · unfold rf_wiresOf rfl_wiresOf_26
            rw [fr2 f 60 rfl, if_pos d1, fr2 f 63 rfl, fr2 f 52 rfl]
            exact RP_some w1.symm
        have hb := memo_k h d2 d3 a h1
        exact g a b hb ⟨by omega, by omega⟩ (fun M' f => ⟨RP_w (all M' f).1 (fun v q => q.1), (all M' f).2⟩) u v hu hv
/-- a step is laid -/
theorem settle1_s (hL : LYP K0 M1) (f01 : fr [] [135, 136, 137] M0 M1) (hD : ∀ s, 0 ≤ s → s < M1.1 27 → TDn M0 M1 s) (n1 : n ≤ 12) (me0 : 0 ≤ me ∧ me ≤ 2147483647) (wi0 : 0 ≤ wi ∧ wi ≤ 2147483647) {p : Int × Int × mR} {q : Int × mR} (hI : stI me wi K0 M1 p q) : RR (kfb_sp_settle_30 n me wi p) (rfb_lay_112 n me wi q) (fun u v => sel (fun s' => sel (fun t' => stI me wi K0 M1 s' t') (fun _ => False) v) (fun x => sel (fun _ => False) (fun y => stE K0 M1 x y) v) u) := by
  obtain ⟨us, s, K⟩ := p
  obtain ⟨s', M⟩ := q
  obtain ⟨e1, s0, fK, fM, hP, hH, hS, hR, e2, u1, u2⟩ := hI
  have e1 : s = s' := e1
  subst e1
  have s0 : 0 ≤ s := s0
  have fK : fr [] [59, 60, 61, 62, 63, 64, 65] K0 K := fK
  have fM : fr [129] [131, 132, 133, 134] M1 M := fM
  have hP : PO s M := hP
  have hH : ∀ i, 0 ≤ i → i < s → K.2 59 i = M.2 131 i := hH
  have hS : ∀ i, 0 ≤ i → i < s → SRW i K M := hS
  have hR : SGR K M := hR
  have e2 : us = M.1 129 := e2
  have u1 : 1 ≤ us := u1
  have u2 : us ≤ 12 := u2
  have hLK : LYP K M1 := LYP_f hL fK (fr_0 : fr [] [] M1 M1) rfl rfl rfl rfl
  have h27 := hLK.2.2.2.2.1
  have m27 : M.1 27 = M1.1 27 := fr1 fM 27 rfl
  have k225 : K.1 225 = M1.1 27 := hLK.2.2.2.2.2.2.1.1
  unfold kfb_sp_settle_30 rfb_lay_112
  dsimp only
  by_cases g : M1.1 27 ≤ s
  · rw [if_pos (by omega), if_pos (by omega)]
    refine RR_some (Or.inr ⟨us, K, M, rfl, rfl, fK, fM, e2, u1, u2, hR, fun i i0 i1 => ?_⟩)
    obtain ⟨b, -⟩ := hP i i0 (by omega)
    exact ⟨hH i i0 (by omega), b.1, b.2⟩
  rw [if_neg (by omega), if_neg (by omega)]
  refine RR_l (gathered hLK f01 (hD s s0 (by omega)) s0 (by omega)) (fun y hy => ?_)
  obtain ⟨y1, y2, y3⟩ := hy
  obtain ⟨y0, L⟩ := y
  have y1 : fr [] [60, 61, 62] K L := y1
  have y2 : SRW s L M1 := y2
  have y3 : ∀ i, i ≠ s → (∀ r, 4 * i ≤ r → r < 4 * i + 4 → L.2 60 r = K.2 60 r ∧ L.2 61 r = K.2 61 r) ∧ L.2 62 i = K.2 62 i := y3
  dsimp only
  have fL : fr [] [59, 60, 61, 62, 63, 64, 65] K0 L := fr_s y1 fK rfl rfl
  have hLM : LYP L M := LYP_f hL fL fM rfl rfl rfl rfl
  have hSL : ∀ i, 0 ≤ i → i ≤ s → SRW i L M := by
    intro i i0 i1
    by_cases e : i = s
    · rw [e]
      refine SRW_c y2 (fun r _ _ => ⟨rfl, rfl⟩) rfl ⟨fun y _ _ => ?_, fun a _ _ => ?_⟩ (fr2 fM 29 rfl) (fr2 fM 34 rfl)
      · rw [fr2 fM 135 rfl, fr2 fM 136 rfl]
        exact ⟨rfl, rfl⟩
      · rw [fr2 fM 137 rfl]
    · exact SRW_c (hS i i0 (by omega)) (y3 i e).1 (y3 i e).2 ROWE_r rfl rfl
  have hHL : ∀ i, 0 ≤ i → i < s → L.2 59 i = M.2 131 i := fun i i0 i1 => by rw [fr2 y1 59 rfl]; exact hH i i0 i1
  have hRL : SGR L M := by
    unfold SGR
    rw [fr2 y1 63 rfl, fr2 y1 64 rfl, fr2 y1 65 rfl]
    exact hR
  obtain ⟨c1, c2, c3, c4, c5, c6⟩ := hLM.2.2.2.2.2.1 s s0 (by omega)
  have hp : -1 ≤ M.2 61 s ∧ M.2 61 s < s := by
    rcases c5 with ⟨q, -⟩ | ⟨q1, q2, -⟩ <;> omega
  refine needs_s hLM s0 (by omega) (fun a b => rfl) (fun nm nw nm0 nw0 hN => ?_)
  unfold kfl_sp_settle_109
  rw [show cut (me - nm) = me - nm from cut_i (by omega) (by omega), show cut (wi - nw) = wi - nw from cut_i (by omega) (by omega)]
  refine RR_bnd (earliest_s s0 (by omega) hp c2 hP hHL hSL n1 me0 wi0 nm0 nw0 hRL (hN M fr_0).1 (hN M fr_0).2) (fun a b hab => ?_)
  obtain ⟨rfl, hab⟩ := hab
  rcases hab with ha | ⟨a0, a1, a2, a3, a4, a5⟩
  · rw [if_pos ha, if_neg (by omega)]
    exact RR_some (Or.inl ⟨s, L, M, rfl, rfl, s0, fL, fM⟩)
  · rw [if_neg (by omega), if_pos a0, max_k, bnd_some]
    obtain ⟨d1, d2, d3, d4, d5, d6⟩ := hRL a a0 (by omega)
    have ca : cut (a + 1) = a + 1 := cut_i (by omega) (by omega)
    rw [d1, d2, d3, ca, show cut (M.2 132 a + 1) = M.2 132 a + 1 from cut_i (by omega) (by omega), show cut (M.2 133 a + nm) = M.2 133 a + nm from cut_i (by omega) (by omega), show cut (M.2 134 a + nw) = M.2 134 a + nw from cut_i (by omega) (by omega), show cut (s + 1) = s + 1 from cut_i (by omega) (by omega)]
    refine RR_r (hN _ (fr_m fr_0 rfl rfl)).1 (fun z1 hz1 => RR_r (hN _ (fr_m fr_0 rfl rfl)).2 (fun z2 hz2 => ?_))
    rw [hz1, hz2, show cutl (M.2 133 a + nm) = M.2 133 a + nm from cutl_i (by omega) (by omega), show cutl (M.2 134 a + nw) = M.2 134 a + nw from cutl_i (by omega) (by omega)]
    unfold rfl_lay_227
    rw [show cut (s + 1) = s + 1 from cut_i (by omega) (by omega), ← e2]
    -- both go on
    have nx : ∀ x, (x = us ∧ a + 1 ≤ us) ∨ (x = a + 1 ∧ us < a + 1) → stI me wi K0 M1 (x, s + 1, mO L [] [(59, upI (L.2 59) s a), (63, upI (L.2 63) a (M.2 132 a + 1)), (64, upI (L.2 64) a (M.2 133 a + nm)), (65, upI (L.2 65) a (M.2 134 a + nw))]) (s + 1, mO (mO M [] [(131, upI (M.2 131) s a), (132, upI (M.2 132) a (M.2 132 a + 1)), (133, upI (M.2 133) a (M.2 133 a + nm)), (134, upI (M.2 134) a (M.2 134 a + nw))]) [(129, x)] []) := by
      intro x hx
      refine ⟨rfl, (by show 0 ≤ s + 1; omega), fr_m fL rfl rfl, fr_m (fr_m fM rfl rfl) rfl rfl, fun i i0 i1 => ?_, fun i i0 i1 => ?_, fun i i0 i1 => ?_, fun g g0 g1 => ?_, rfl, (by show 1 ≤ x; omega), (by show x ≤ 12; omega)⟩
      · have i1 : i < s + 1 := i1
        show (0 ≤ upI (M.2 131) s a i ∧ upI (M.2 131) s a i < 12) ∧ (-1 ≤ M.2 61 i ∧ M.2 61 i < i) ∧ (0 ≤ M.2 61 i → upI (M.2 131) s a (M.2 61 i) + 1 ≤ upI (M.2 131) s a i)
        by_cases e : i = s
        · rw [e, upI_s]
          refine ⟨⟨a0, by omega⟩, hp, fun q => ?_⟩
          rw [upI_n (by omega)]
          exact a2 q
        · obtain ⟨b1, b2, b3⟩ := hP i i0 (by omega)
          rw [upI_n e, upI_n (by omega)]
          exact ⟨b1, b2, b3⟩
      · have i1 : i < s + 1 := i1
        show upI (L.2 59) s a i = upI (M.2 131) s a i
        by_cases e : i = s
        · rw [e, upI_s, upI_s]
        · rw [upI_n e, upI_n e]
          exact hHL i i0 (by omega)
      · have i1 : i < s + 1 := i1
        exact SRW_c (hSL i i0 (by omega)) (fun r _ _ => ⟨rfl, rfl⟩) rfl ⟨fun y _ _ => ⟨rfl, rfl⟩, fun a _ _ => rfl⟩ rfl rfl
      · obtain ⟨r1, r2, r3, r4, r5, r6⟩ := hRL g g0 g1
        show upI (L.2 63) a (M.2 132 a + 1) g = upI (M.2 132) a (M.2 132 a + 1) g ∧ upI (L.2 64) a (M.2 133 a + nm) g = upI (M.2 133) a (M.2 133 a + nm) g ∧ upI (L.2 65) a (M.2 134 a + nw) g = upI (M.2 134) a (M.2 134 a + nw) g ∧ (0 ≤ upI (M.2 132) a (M.2 132 a + 1) g ∧ upI (M.2 132) a (M.2 132 a + 1) g ≤ 8) ∧ (0 ≤ upI (M.2 133) a (M.2 133 a + nm) g ∧ upI (M.2 133) a (M.2 133 a + nm) g ≤ 2147483647) ∧ (0 ≤ upI (M.2 134) a (M.2 134 a + nw) g ∧ upI (M.2 134) a (M.2 134 a + nw) g ≤ 2147483647)
        by_cases e : g = a
        · rw [e, upI_s, upI_s, upI_s, upI_s, upI_s, upI_s]
          refine ⟨rfl, rfl, rfl, ?_, ?_, ?_⟩ <;> omega
        · rw [upI_n e, upI_n e, upI_n e, upI_n e, upI_n e, upI_n e]
          exact ⟨r1, r2, r3, r4, r5, r6⟩
    have eM : (mO M [] [(131, upI (M.2 131) s a), (132, upI (M.2 132) a (M.2 132 a + 1)), (133, upI (M.2 133) a (M.2 133 a + nm)), (134, upI (M.2 134) a (M.2 134 a + nw))]).1 129 = us := e2.symm
    by_cases q : a + 1 ≤ us
    · rw [if_neg (show ¬ us < a + 1 by omega), if_pos q]
      exact RR_some (nx us (Or.inl ⟨rfl, q⟩))
    · rw [if_pos (show us < a + 1 by omega), if_neg q]
      exact RR_some (nx (a + 1) (Or.inr ⟨rfl, by omega⟩))
end LYS
