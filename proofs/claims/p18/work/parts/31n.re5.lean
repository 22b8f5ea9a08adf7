/-! ===== EXPRs: all choices that end are closed, then ( or the EXPR ===== -/
def EN (K M : mR) : Prop := LR K M ∧ NDR K M ∧ BP K M ∧ (K.1 231 = M.1 64 ∧ -1 ≤ M.1 64 ∧ M.1 64 < M.1 25) ∧ M.1 75 = 3 ∧ (0 ≤ K.2 70 0 ∧ K.2 70 0 + 1 = M.1 28) ∧ OP K (K.2 70 0) (M.1 69) (M.1 71) (M.1 72)
def EC (K M : mR) : Prop := EB (mO K [(230, M.1 74)] []) M ∧ K.1 230 = M.1 74 + 1 ∧ M.1 74 < 24 ∧ ∃ t n p B, STK K M t (M.1 73) n p B (M.1 74) ∧ t < 3 ∧ K.1 228 = n ∧ K.1 229 = p + 1 ∧ B ≤ K.2 70 p ∧ K.2 70 p + 1 = M.1 28 ∧ OP K (K.2 70 p) (M.1 69) (M.1 71) (M.1 72)
def gC (x : Int) (y : Int × Int × mR) (M' : mR) : Prop := y.1 = 0 ∧ ((y.2.1 = 2 ∧ EB y.2.2 M' ∧ EU y.2.2 M' 1 ∧ x + 1 ≤ M'.1 8) ∨ (y.2.1 = 0 ∧ EN y.2.2 M' ∧ x ≤ M'.1 8))
def bC (y : Int × Int × mR) : Prop := y.1 ≠ 0 ∨ (y.1 = 0 ∧ y.2.1 = 0 ∧ DM y.2.2)
section ECH
variable {K M : mR}
/-- ) -/
theorem bkt_s (hC : EC K M) (hk : M.2 76 (M.1 73 - 1) = 2) (h0 : M.1 73 ≠ 0) {v2 : Int} : RR (kf_fm_closeBracket K) (bnd (rf_need 41 M) fun y3 => rfl_endChoice_226 v2 y3.2) (PB (gC (M.1 8)) bC) := by
  obtain ⟨hE, h230, h74, t, n, p, B, hS, ht, hn, hp, hu, hu2, hop⟩ := hC
  have hL : LR K M := hE.1
  have hX := hL.2.1
  have hf := hL.2.2.2.2
  have sb0 := STK_b hS
  rcases STK_i hS with ⟨-, e, -⟩ | ⟨t0, h0, n0, d0, e, -⟩ | ⟨t0, k0, n0, rfl, e73, rfl, s, a, b, c⟩ | ⟨t0, k0, n0, p0, B0, d0, o1, o2, e, e73, -, -, -, -, -, -, e76, -⟩ | ⟨t0, k0, n0, p0, B0, d0, n1, p1, B1, e, -⟩
  · exact absurd e h0
  · omega
  · have sb := STK_b s
    unfold kf_fm_closeBracket kfl_fm_closeBracket_19
    rw [hX.1]
    by_cases w41 : M.1 7 = 41
    · rw [if_pos ((wm_big hX.2.1 (by omega)).mpr w41), need_is (by omega) w41, bnd_a, hn, h230, hp, cut_i (z := n0 + 1 - 1) (by omega) (by omega), cut_i (z := M.1 74 + 1 - 1) (by omega) (by omega), cut_i (z := p + 1 - 1) (by omega) (by omega), show n0 + 1 - 1 = n0 by omega, show M.1 74 + 1 - 1 = M.1 74 by omega, show p + 1 - 1 = p by omega]
      have f1 : fr [228, 230] [23] K (mO K [(228, n0), (230, M.1 74)] [(23, upI (K.2 23) (K.2 70 p) (K.2 69 n0))]) := fr_m fr_0 rfl rfl
      have hL1 : LR (mO K [(228, n0), (230, M.1 74)] [(23, upI (K.2 23) (K.2 70 p) (K.2 69 n0))]) M := hL
      refine RR_pq (adv_s hL1 (by omega)) (fun z hz => by rw [bnd_some]; exact RP_w (u_rfl_endChoice_226 v2 z.2) (fun w hw => hw.2 hz)) (fun y hy => Or.inl hy) (fun y z _ hG => ?_)
      obtain ⟨g1, g2, g3, g4⟩ := hG
      rw [bnd_some]
      unfold rfl_endChoice_226
      have e73' : cut (z.2.1 73 - 1) = k0 := by
        rw [fr1 g3 73 rfl, cut_i (by omega) (by omega)]
        omega
      show RR (some (0, 2, y.2.2)) (some (0, mO z.2 [(70, v2), (73, cut (z.2.1 73 - 1)), (75, 1)] [])) _
      rw [e73']
      have fK : fr [205, 206, 207, 208, 209, 210, 211, 212, 228] [23] (mO K [(230, M.1 74)] []) y.2.2 := by
        refine ⟨fun k hk => ?_, fun k hk => ?_⟩
        · have q1 : fr [205, 206, 207, 208, 209, 210, 211, 212, 228, 230] [23] K y.2.2 := fr_s g2 (fr_s f1 fr_0 rfl rfl) rfl rfl
          by_cases e : k = 230
          · subst e
            exact fr1 g2 230 rfl
          · have q2 : (mO K [(230, M.1 74)] []).1 k = K.1 k := fr1 (u := [230]) (v := []) (fr_m fr_0 rfl rfl) k (by
              unfold nin nin
              have : Nat.beq 230 k = false := by
                cases hb : Nat.beq 230 k with
                | false => rfl
                | true => exact absurd (Nat.eq_of_beq_eq_true hb).symm e
              simp [this])
            rw [q2]
            refine q1.1 k ?_
            have hb : Nat.beq 230 k = false := by
              cases hb : Nat.beq 230 k with
              | false => rfl
              | true => exact absurd (Nat.eq_of_beq_eq_true hb).symm e
            simp [nin, hb] at hk ⊢
            exact hk
        · have q1 : fr [205, 206, 207, 208, 209, 210, 211, 212, 228, 230] [23] K y.2.2 := fr_s g2 (fr_s f1 fr_0 rfl rfl) rfl rfl
          exact q1.2 k hk
      have fM : fr [7, 8, 9, 10, 11, 12, 70, 73, 75] [] M (mO z.2 [(70, v2), (73, k0), (75, 1)] []) := fr_m (fr_s g3 fr_0 rfl rfl) rfl rfl
      have fz : fr [70, 73, 75] [] z.2 (mO z.2 [(70, v2), (73, k0), (75, 1)] []) := fr_m fr_0 rfl rfl
      have hL2 : LR y.2.2 (mO z.2 [(70, v2), (73, k0), (75, 1)] []) := LR_g g1 (F := []) (A := []) fr_0 fz rfl rfl rfl rfl g1.2.2.2.1 g1.2.2.2.2
      have k70 : y.2.2.2 70 = K.2 70 := fr2 fK 70 rfl
      refine RR_some (Or.inl ⟨rfl, Or.inl ⟨rfl, EB_a hE hL2 fK fM rfl rfl rfl rfl, ⟨t0, n0, p, B, ?_, a, ?_, ?_, ?_, ?_, ?_, rfl⟩, g4⟩⟩)
      · show STK y.2.2 (mO z.2 [(70, v2), (73, k0), (75, 1)] []) t0 k0 n0 p B (z.2.1 74)
        rw [fr1 g3 74 rfl]
        have fK0 : fr [205, 206, 207, 208, 209, 210, 211, 212, 228, 230] [23] K y.2.2 := fr_s g2 (fr_s f1 fr_0 rfl rfl) rfl rfl
        exact STK_c s (q := 9 * k0) (AG_f fK0 fM rfl rfl) (Int.le_refl _)
      · exact fr1 g2 228 rfl
      · exact (fr1 g2 229 rfl).trans hp
      · rw [k70]; exact hu
      · rw [k70, fr1 fM 28 rfl]; exact hu2
      · rw [k70, fr1 fM 69 rfl, fr1 fM 71 rfl, fr1 fM 72 rfl]
        exact OP_c hop (by rw [fr2 fK 18 rfl]; rfl) (by rw [fr2 fK 22 rfl]; rfl) (by rw [fr2 fK 24 rfl]; rfl)
    · rw [if_neg (fun q => w41 ((wm_big hX.2.1 (by omega)).mp q))]
      refine RR_xx (thr_x (refuse_1 _) (fun y hy => Or.inl hy)) (RP_bnd ?_ (fun z hz => RP_w (u_rfl_endChoice_226 v2 z.2) (fun w hw => hw.2 hz)))
      unfold rf_need
      rw [if_pos (by omega), if_neg w41]
      exact RP_bnd (bad_1 M) (fun z hz => RP_some hz)
  · have : M.1 73 - 1 = k0 := by omega
    rw [this] at hk
    omega
  · omega
def FV (v : Sum (Int × mR) mR) : Prop := sel (fun z => 0 < z.2.1 10) (fun z => 0 < z.1 10) v
/-- a choice -/
theorem chc_s (hC : EC K M) (hk : M.2 76 (M.1 73 - 1) = 0) (h0 : M.1 73 ≠ 0) : RR (kf_fm_closeChoice K) (rfb_endChoice_33 (1, M)) (fun y v => (y.1 = 0 ∧ ∃ M', v = Sum.inl ((if M'.1 73 = 0 then 0 else 1), M') ∧ EC y.2.2 M' ∧ M'.1 73 = M.1 73 - 1 ∧ M'.1 8 = M.1 8 ∧ y.2.2.1 228 = K.1 228 - 1) ∨ (FV v ∧ (y.1 ≠ 0 ∨ (y.1 = 0 ∧ DM y.2.2)))) := by
  obtain ⟨hE, h230, h74, t, n, p, B, hS, ht, hn, hp, hu, hu2, hop⟩ := hC
  have hL : LR K M := hE.1
  have hf := hL.2.2.2.2
  have sb0 := STK_b hS
  rcases STK_i hS with ⟨-, e, -⟩ | ⟨t0, h0, n0, d0, e, -⟩ | ⟨t0, k0, n0, -, e73, -, -, -, e76, -⟩ | ⟨t0, k0, n0, p0, B0, d0, o1, o2, rfl, e73, rfl, rfl, rfl, ed, s, a1, a2, a3, a4, a5, a6, a7, a8, a9, a10⟩ | ⟨t0, k0, n0, p0, B0, d0, n1, p1, B1, e, -⟩
  · exact absurd e h0
  · omega
  · have : M.1 73 - 1 = k0 := by omega
    rw [this] at hk
    omega
  · have sb := STK_b s
    obtain ⟨⟨m1, m2, m3⟩, -⟩ := hE.2.1
    have m1 : K.1 220 = M.1 28 := m1
    obtain ⟨x0, x1, x2, x3⟩ := OP_r a9
    obtain ⟨y0, y1, y2, y3⟩ := OP_r a10
    obtain ⟨z0, z1, z2, z3⟩ := OP_r hop
    have eu : ∃ u, u = K.2 70 (p0 + 2) := ⟨_, rfl⟩
    obtain ⟨u, eu⟩ := eu
    rw [← eu] at hu hu2 hop z3
    have e1 : cut (K.1 229 - 3) = p0 := by rw [hp, cut_i (by omega) (by omega)]; omega
    have e2 : cut (K.1 229 - 2) = p0 + 1 := by rw [hp, cut_i (by omega) (by omega)]; omega
    have e3 : cut (K.1 229 - 1) = p0 + 2 := by rw [hp, cut_i (by omega) (by omega)]; omega
    have eh : cut (M.1 73 - 1) = k0 := by rw [cut_i (by omega) (by omega)]; omega
    unfold kf_fm_closeChoice rfb_endChoice_33
    show RR _ (if (1 : Int) = 0 then some (Sum.inr M) else if M.2 76 (cut (M.1 73 - 1)) = 0 then bnd (rf_wantBit (M.2 85 (cut (M.1 73 - 1))) (M.2 89 (cut (M.1 73 - 1))) (M.2 91 (cut (M.1 73 - 1))) (M.2 86 (cut (M.1 73 - 1))) M) fun y20 => rfl_endChoice_86 (cut (M.1 73 - 1)) y20.2 else some (Sum.inr M)) _
    rw [if_neg (by decide), eh, if_pos a2, e1, e2, e3, ← a5, ← a6, ← eu]
    have bad : ∀ (X : Option (Int × Int × mR)) (Y : Option (Sum (Int × mR) mR)), RP X (fun y => y.1 ≠ 0) → RP Y FV → RR X Y (fun y v => (y.1 = 0 ∧ ∃ M', v = Sum.inl ((if M'.1 73 = 0 then 0 else 1), M') ∧ EC y.2.2 M' ∧ M'.1 73 = M.1 73 - 1 ∧ M'.1 8 = M.1 8 ∧ y.2.2.1 228 = K.1 228 - 1) ∨ (FV v ∧ (y.1 ≠ 0 ∨ (y.1 = 0 ∧ DM y.2.2)))) := fun X Y h1 h2 => RR_w (RR_pr h1 h2) (fun _ _ q => Or.inr ⟨q.2, Or.inl q.1⟩)
    refine RR_l (agree1_k a9) (fun y hy => ?_)
    refine RR_r (wantBit_r x0) (fun z hz => ?_)
    rcases hy with ⟨b1, b2, b3, b4, b5⟩ | ⟨b1, b2⟩
    · rw [if_pos b1]
      rcases hz with ⟨-, c2⟩ | ⟨c1, -⟩
      · rw [c2]
        unfold rfl_endChoice_86
        have op2 : OP y.2.2 o2 (M.2 87 k0) (M.2 90 k0) (M.2 92 k0) := OP_c a10 (by rw [fr2 b4 18 rfl]) (b5 o2 (by omega)) (by rw [fr2 b4 24 rfl])
        have op3 : OP y.2.2 u (M.1 69) (M.1 71) (M.1 72) := OP_c hop (by rw [fr2 b4 18 rfl]) (b5 u (by omega)) (by rw [fr2 b4 24 rfl])
        refine RR_l (agree2_k op2 op3 (by omega) (by omega)) (fun w hw => ?_)
        refine RR_r (common_r y2 z2) (fun q hq => ?_)
        rcases hw with ⟨d1, d2, d3, d4, d5⟩ | ⟨d1, d2⟩
        · rw [if_pos d1]
          rcases hq with ⟨-, q2, q3⟩ | ⟨q1, -⟩
          · rw [q2, q3, d3]
            have cwr : 1 ≤ CWD (M.2 87 k0) (M.2 90 k0) (M.1 69) (M.1 71) ∧ CWD (M.2 87 k0) (M.2 90 k0) (M.1 69) (M.1 71) ≤ 64 := by
              unfold CWD
              by_cases c1 : M.2 90 k0 = 0
              · rw [if_pos c1]; exact ⟨y1, y2⟩
              · rw [if_neg c1]
                by_cases c2 : M.1 71 = 0
                · rw [if_pos c2]; exact ⟨z1, z2⟩
                · rw [if_neg c2]; exact ⟨by decide, by decide⟩
            have ew : ∃ wd, wd = CWD (M.2 87 k0) (M.2 90 k0) (M.1 69) (M.1 71) := ⟨_, rfl⟩
            obtain ⟨wd, ew⟩ := ew
            rw [← ew] at cwr ⊢
            unfold rfl_endChoice_130 rfl_endChoice_141
            have fK2 : fr [] [22] K w.2.2 := fr_s d4 (fr_s b4 fr_0 rfl rfl) rfl rfl
            rw [fr1 fK2 228 rfl, fr1 fK2 229 rfl, fr1 fK2 230 rfl, e1, hn, h230, cut_i (z := n0 + 1 - 1) (by omega) (by omega), cut_i (z := M.1 74 + 1 - 1) (by omega) (by omega), show n0 + 1 - 1 = n0 by omega, show M.1 74 + 1 - 1 = M.1 74 by omega]
            have fKx : fr [228, 229, 230] [22] K (mO w.2.2 [(228, n0), (229, p0), (230, M.1 74)] []) := fr_m (fr_s fK2 fr_0 rfl rfl) rfl rfl
            have hLx : LR (mO w.2.2 [(228, n0), (229, p0), (230, M.1 74)] []) M := LR_g hL fKx (G := []) (B := []) fr_0 rfl rfl rfl rfl ((fr1 fKx 213 rfl).trans hL.2.2.2.1) hf
            have hEx : EB (mO w.2.2 [(228, n0), (229, p0), (230, M.1 74)] []) M := ⟨hLx, NDR_f fKx (G := []) (B := []) fr_0 rfl rfl rfl rfl (show NDR K M from hE.2.1), BP_f fKx (G := []) (B := []) fr_0 rfl rfl rfl rfl (show BP K M from hE.2.2.1), rfl, by omega, (fr1 fKx 231 rfl).trans hE.2.2.2.2.2.1, hE.2.2.2.2.2.2.1, hE.2.2.2.2.2.2.2⟩
            refine RR_l (add_k (K := mO w.2.2 [(228, n0), (229, p0), (230, M.1 74)] []) (by rw [fr1 fKx 220 rfl]; omega) (by rw [fr1 fKx 220 rfl]; omega) (show -2 ≤ p0 by omega) (show p0 ≤ 10000 by omega)) (fun r hr => ?_)
            refine RR_r (node_r hf (by omega) (by omega)) (fun s9 hs9 => ?_)
            obtain ⟨-, hA⟩ := hr
            unfold rf_unit
            rw [bnd_some]
            rcases hs9 with ⟨s1, hN⟩ | ⟨s1, s2⟩
            · have n10 : s9.2.1 10 = 0 := (fr1 hN.1 10 rfl).trans hf
              have n73 : s9.2.1 73 = M.1 73 := fr1 hN.1 73 rfl
              have n74 : s9.2.1 74 = M.1 74 := fr1 hN.1 74 rfl
              have fM : fr [69, 70, 71, 72, 73, 74] [] s9.2 (mO (mO s9.2 [(69, wd), (70, s9.2.2 86 k0), (71, 0), (72, 0)] []) [(73, k0), (74, M.1 74 - 1)] []) := fr_m (fr_m fr_0 rfl rfl) rfl rfl
              have fM0 : fr [69, 70, 71, 72] [] s9.2 (mO s9.2 [(69, wd), (70, s9.2.2 86 k0), (71, 0), (72, 0)] []) := fr_m fr_0 rfl rfl
              have hA' := hA
              obtain ⟨t1, t2, t3, t4, t5, t6, t7, t8⟩ := hA
              have t4 : r.2.1 229 = p0 + 1 := t4
              have tm : (mO w.2.2 [(228, n0), (229, p0), (230, M.1 74)] []).1 220 = M.1 28 := (fr1 fKx 220 rfl).trans m1
              rw [tm] at t5 t7 t8
              have t8 : r.2.2 70 = upI (w.2.2.2 70) p0 (M.1 28) := t8
              have t5 : r.2.2 18 = upI (w.2.2.2 18) (M.1 28) 404 := t5
              have t7 : r.2.2 22 = upI (w.2.2.2 22) (M.1 28) wd := t7
              have f21 : fr [] [21] r.2 (mO r.2 [] [(21, upI (r.2.2 21) r.1 u)]) := fr_m fr_0 rfl rfl
              have hEB := EB_add hEx hA' hN (Or.inr (Or.inr (Or.inr ⟨by decide, by decide, by decide, by decide⟩))) s1 f21 fM0 rfl rfl rfl rfl
              have fKr : fr [213, 220, 228, 229, 230] [18, 19, 20, 21, 22, 23, 70] K (mO r.2 [] [(21, upI (r.2.2 21) r.1 u)]) := fr_m (fr_s t1 (fr_s fKx fr_0 rfl rfl) rfl rfl) rfl rfl
              have fMr : fr [28, 69, 70, 71, 72, 73, 74] [65, 66, 67, 68] M (mO (mO s9.2 [(69, wd), (70, s9.2.2 86 k0), (71, 0), (72, 0)] []) [(73, k0), (74, M.1 74 - 1)] []) := fr_s fM (fr_s hN.1 fr_0 rfl rfl) rfl rfl
              have kr70 : (mO r.2 [] [(21, upI (r.2.2 21) r.1 u)]).2 70 = upI (K.2 70) p0 (M.1 28) := by
                show r.2.2 70 = _
                rw [t8, fr2 fK2 70 rfl]
              have good : EC (mO r.2 [] [(21, upI (r.2.2 21) r.1 u)]) (mO (mO s9.2 [(69, wd), (70, s9.2.2 86 k0), (71, 0), (72, 0)] []) [(73, k0), (74, M.1 74 - 1)] []) := by
                refine ⟨⟨hEB.1, hEB.2.1, hEB.2.2.1, rfl, ?_, hEB.2.2.2.2.2.1, hEB.2.2.2.2.2.2.1, hEB.2.2.2.2.2.2.2⟩, ?_, ?_, t0, n0, p0, B0, ?_, a1, ?_, t4, ?_, ?_, ?_⟩
                · show M.1 74 - 1 ≤ 24
                  omega
                · show r.2.1 230 = M.1 74 - 1 + 1
                  rw [fr1 t1 230 rfl]
                  show M.1 74 = _
                  omega
                · show M.1 74 - 1 < 24
                  omega
                · show STK _ _ t0 k0 n0 p0 B0 (M.1 74 - 1)
                  have s' : STK K M t0 k0 n0 p0 B0 (M.1 74 - 1) := by
                    rw [show M.1 74 - 1 = d0 by omega]
                    exact s
                  refine STK_c s' (q := 9 * k0) ⟨fun i _ => ?_, fun i hi => ?_, fun i hi => ⟨?_, ?_, ?_⟩, fun i _ => ?_, fun i _ => ?_⟩ (Int.le_refl _)
                  · rw [fr2 fKr 68 rfl]
                  · rw [kr70, upI_n (by omega)]
                  · show r.2.2 18 i = _
                    rw [t5, upI_n (by omega), fr2 fK2 18 rfl]
                  · show r.2.2 22 i = _
                    rw [t7, upI_n (by omega), d5 i (by omega) (by omega), b5 i (by omega)]
                  · rw [fr2 fKr 24 rfl]
                  · rw [fr2 fMr 76 rfl, fr2 fMr 78 rfl, fr2 fMr 79 rfl, fr2 fMr 85 rfl, fr2 fMr 89 rfl, fr2 fMr 91 rfl, fr2 fMr 87 rfl, fr2 fMr 90 rfl, fr2 fMr 92 rfl]
                    exact ⟨rfl, rfl, rfl, rfl, rfl, rfl, rfl, rfl, rfl⟩
                  · rw [fr2 fMr 80 rfl, fr2 fMr 81 rfl, fr2 fMr 83 rfl, fr2 fMr 84 rfl]
                    exact ⟨rfl, rfl, rfl, rfl⟩
                · show r.2.1 228 = n0
                  rw [fr1 t1 228 rfl]
                  rfl
                · rw [kr70, upI_s]
                  omega
                · rw [kr70, upI_s]
                  show M.1 28 + 1 = s9.2.1 28
                  rw [hN.2.1]
                · rw [kr70, upI_s]
                  refine Or.inl ⟨rfl, ?_, ?_, cwr.1, cwr.2⟩
                  · show r.2.2 18 (M.1 28) ≠ 257
                    rw [t5, upI_s]
                    decide
                  · show r.2.2 22 (M.1 28) = wd
                    rw [t7, upI_s]
              have r228 : r.2.1 228 = n0 := by
                rw [fr1 t1 228 rfl]
                rfl
              unfold rfl_endChoice_152 rfl_endChoice_190 rfl_endChoice_191
              show RR _ (if cut (s9.2.1 73 - 1) ≤ 0 then some (Sum.inl (0, mO (mO s9.2 [(69, wd), (70, s9.2.2 86 k0), (71, 0), (72, 0)] []) [(73, cut (s9.2.1 73 - 1)), (74, cut (s9.2.1 74 - 1))] [])) else if s9.2.1 10 = 0 then some (Sum.inl (1, mO (mO s9.2 [(69, wd), (70, s9.2.2 86 k0), (71, 0), (72, 0)] []) [(73, cut (s9.2.1 73 - 1)), (74, cut (s9.2.1 74 - 1))] [])) else some (Sum.inl (0, mO (mO s9.2 [(69, wd), (70, s9.2.2 86 k0), (71, 0), (72, 0)] []) [(73, cut (s9.2.1 73 - 1)), (74, cut (s9.2.1 74 - 1))] []))) _
              rw [n73, n74, eh, cut_i (z := M.1 74 - 1) (by omega) (by omega), if_pos n10]
              have e8 : s9.2.1 8 = M.1 8 := fr1 hN.1 8 rfl
              refine RR_ir (fun g => RR_some (Or.inl ⟨rfl, _, ?_, good, ?_, e8, ?_⟩)) (fun g => RR_some (Or.inl ⟨rfl, _, ?_, good, ?_, e8, ?_⟩))
              · exact congrArg (fun c => Sum.inl (c, _)) (if_pos (show k0 = 0 by omega)).symm
              · show k0 = _
                omega
              · show r.2.1 228 = _
                omega
              · exact congrArg (fun c => Sum.inl (c, _)) (if_neg (show ¬ k0 = 0 by omega)).symm
              · show k0 = _
                omega
              · show r.2.1 228 = _
                omega
            · refine RR_w (RR_pr (A := fun y : Int × Int × mR => y.1 = 0 ∧ DM y.2.2) (B := FV) (RP_some ⟨rfl, ?_⟩) ?_) (fun _ _ q => Or.inr ⟨q.2, Or.inr q.1⟩)
              · refine DM_f (F := []) (A := [21]) (K := r.2) ⟨?_, ?_⟩ (fr_m fr_0 rfl rfl) rfl
                · rw [hA.2.1, fr1 fKx 220 rfl, if_neg (by omega)]
                · rw [hA.2.2.1, fr1 fKx 220 rfl]
                  omega
              · exact RP_w (u_rfl_endChoice_152 _) (sl_w (fun z hz => hz.2 s2) (fun z hz => hz.2 s2))
          · exact absurd d2 q1
        · rw [if_neg d1]
          rcases hq with ⟨q1, -⟩ | ⟨-, q2⟩
          · exact absurd q1 d2
          · exact bad _ _ (RP_some d1) (RP_w (u_rfl_endChoice_130 _ _ _) (sl_w (fun z hz => hz.2 q2) (fun z hz => hz.2 q2)))
      · exact absurd b2 c1
    · rw [if_neg b1]
      rcases hz with ⟨c1, -⟩ | ⟨-, c2⟩
      · exact absurd c1 b2
      · exact bad _ _ (RP_some b1) (RP_w (u_rfl_endChoice_86 _ _) (sl_w (fun z hz => hz.2 c2) (fun z hz => hz.2 c2)))
  · omega
end ECH
