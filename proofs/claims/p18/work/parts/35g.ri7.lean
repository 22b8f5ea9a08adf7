/-! ===== what is emitted ===== -/
section EM7
variable {K M : mR}
theorem sumW_le {f : Int → Int} {b : Int} : ∀ n : Nat, (∀ i : Nat, i < n → f (b + i) ≤ 1) → sumW f b n ≤ n := by
  intro n
  induction n with
  | zero => intro _; exact Int.le_refl _
  | succ n ih =>
    intro h
    have h1 := ih (fun i hi => h i (by omega))
    have h2 := h n (by omega)
    show sumW f b n + f (b + n) ≤ _
    omega
theorem dup_k {i pl v : Int} (h0 : 0 ≤ K.1 218) (h4 : K.1 218 ≤ 12) : RP (whl (kfb_rd_emit_47 i pl v) (0, K)) (fun u => (u = Sum.inl K ∧ ∀ j, 0 ≤ j → j < K.1 218 → K.2 17 j ≠ v) ∨ (∃ e : Int × mR, u = Sum.inr e ∧ e.1 ≠ 0 ∧ ∃ j, 0 ≤ j ∧ j < K.1 218 ∧ K.2 17 j = v)) := by
  refine RP_whl (I := fun s : Int × mR => s.2 = K ∧ 0 ≤ s.1 ∧ s.1 ≤ 12 ∧ ∀ j, 0 ≤ j → j < s.1 → K.2 17 j ≠ v) (fun s hs => ?_) ⟨rfl, (show (0 : Int) ≤ 0 by decide), (show (0 : Int) ≤ 12 by decide), fun j a b => absurd (show j < 0 from b) (by omega)⟩
  obtain ⟨j, K1⟩ := s
  obtain ⟨s1, s2, s3, s4⟩ := hs
  have s1 : K1 = K := s1
  subst s1
  have s2 : 0 ≤ j := s2
  have s3 : j ≤ 12 := s3
  unfold kfb_rd_emit_47 kfl_rd_emit_84
  show RP (if K1.1 218 ≤ j then some (Sum.inr (Sum.inl K1)) else if K1.2 17 j = v then bnd (kf_tx_fail 8 pl K1) fun y12 => if y12.1 = 0 then some (Sum.inl (cut (j + 1), y12.2.2)) else some (Sum.inr (Sum.inr (y12.1, y12.2.2))) else some (Sum.inl (cut (j + 1), K1))) _
  refine RP_ite (fun g => RP_some (Or.inl ⟨rfl, fun x x0 x1 => s4 x x0 (by show x < j; omega)⟩)) (fun g => RP_ite (fun g2 => ?_) (fun g2 => ?_))
  · exact thr_x (fail_1 _ _ _) (fun y hy => Or.inr ⟨_, rfl, hy, j, s2, by omega, g2⟩)
  · rw [cut_i (by omega) (by omega)]
    refine RP_some ⟨rfl, by show 0 ≤ j + 1; omega, by show j + 1 ≤ 12; omega, fun x x0 x1 => ?_⟩
    have x1 : x < j + 1 := x1
    by_cases e : x = j
    · rw [e]; exact g2
    · exact s4 x x0 (by show x < j; omega)
def EMx (K M : mR) : Prop := (K.1 218 = M.1 125 ∧ 0 ≤ M.1 125 ∧ M.1 125 ≤ 12) ∧ ∀ i, 0 ≤ i → i < M.1 125 → K.2 17 i = M.2 124 i ∧ 0 ≤ M.2 124 i ∧ M.2 124 i < M.1 20
def EMk (M : mR) : Prop := (∀ a, 0 ≤ a → a < 12 → (M.2 123 a = 1 ∧ ∃ j, 0 ≤ j ∧ j < M.1 125 ∧ M.2 124 j = a) ∨ (M.2 123 a = 0 ∧ ∀ j, 0 ≤ j → j < M.1 125 → M.2 124 j ≠ a)) ∧ sumW (M.2 123) 0 12 = M.1 125
def emI (x : Int) (s : Int × Int × mR) (w : Int × mR) : Prop := XP s.2.2 w.2 ∧ EMx s.2.2 w.2 ∧ EMk w.2 ∧ s.2.1 = w.2.1 125 ∧ s.1 = w.1 ∧ (w.1 = 0 ∨ w.1 = 1) ∧ x ≤ w.2.1 8
def emE (x : Int) (u : Sum mR (Int × mR)) (w : Sum mR mR) : Prop := (∃ K M, u = Sum.inl K ∧ w = Sum.inr M ∧ XP K M ∧ EMx K M ∧ x ≤ M.1 8) ∨ ((∃ e : Int × mR, u = Sum.inr e ∧ e.1 ≠ 0) ∧ sel (fun m => 0 < m.1 10) (fun m => 0 < m.1 10) w)
theorem EMx_f {F A G C : List Nat} {K' M' : mR} (h : EMx K M) (hK : fr F A K K') (hM : fr G C M M') (c1 : chk [218] F = true) (c2 : chk [17] A = true) (c3 : chk [20, 125] G = true) (c4 : chk [124] C = true) : EMx K' M' := by
  unfold EMx
  rw [fr1 hK 218 (chk_1 c1 (by decide)), fr2 hK 17 (chk_1 c2 (by decide)), fr1 hM 20 (chk_1 c3 (by decide)), fr1 hM 125 (chk_1 c3 (by decide)), fr2 hM 124 (chk_1 c4 (by decide))]
  exact h
theorem EMk_f {G C : List Nat} {M' : mR} (h : EMk M) (hM : fr G C M M') (c3 : chk [125] G = true) (c4 : chk [123, 124] C = true) : EMk M' := by
  unfold EMk
  rw [fr1 hM 125 (chk_1 c3 (by decide)), fr2 hM 123 (chk_1 c4 (by decide)), fr2 hM 124 (chk_1 c4 (by decide))]
  exact h
theorem emits_s {x : Int} {s : Int × Int × mR} {w : Int × mR} (hI : emI x s w) : RR (whl kfb_rd_emit_14 s) (whl rfb_takeEmit_35 w) (emE x) := by
  refine RR_whl2 (I := emI x) (fun s w hI => ?_) hI
  obtain ⟨more, i, K⟩ := s
  obtain ⟨more', M⟩ := w
  obtain ⟨hX, hE, hS, hi, hm, hm2, hx⟩ := hI
  have hX : XP K M := hX
  have hE : EMx K M := hE
  have hS : EMk M := hS
  have hi : i = M.1 125 := hi
  have hm : more = more' := hm
  have hm2 : more' = 0 ∨ more' = 1 := hm2
  have hx : x ≤ M.1 8 := hx
  have hf := hX.1.2.2.2.2
  have r2 := hX.2.1.1.2.2.1
  obtain ⟨⟨c1, c2, c3⟩, c4⟩ := id hE
  have deadw : ∀ (z : Int × mR), 0 < z.2.1 10 → RP (whl rfb_takeEmit_35 z) (sel (fun m => 0 < m.1 10) (fun m => 0 < m.1 10)) := fun z hz => RP_w (uw_rfb_takeEmit_35 z) (fun v hv => by
    cases v with
    | inl m => exact hv.2 hz
    | inr m => exact hv.2 hz)
  have badv : ∀ (e : Int × mR) (v : Sum (Int × mR) (Sum mR mR)), e.1 ≠ 0 → FV4 v → (∃ s' t', (Sum.inr (Sum.inr e) : Sum (Int × Int × mR) (Sum mR (Int × mR))) = .inl s' ∧ v = .inl t' ∧ emI x s' t') ∨ (∃ x' y, (Sum.inr (Sum.inr e) : Sum (Int × Int × mR) (Sum mR (Int × mR))) = .inr x' ∧ v = .inr y ∧ emE x x' y) ∨ (∃ x' t', (Sum.inr (Sum.inr e) : Sum (Int × Int × mR) (Sum mR (Int × mR))) = .inr x' ∧ v = .inl t' ∧ RP (whl rfb_takeEmit_35 t') (emE x x')) ∨ (∃ s' y, (Sum.inr (Sum.inr e) : Sum (Int × Int × mR) (Sum mR (Int × mR))) = .inl s' ∧ v = .inr y ∧ RP (whl kfb_rd_emit_14 s') (fun x' => emE x x' y)) := by
    intro e v he hv
    cases v with
    | inl s' => exact Or.inr (Or.inr (Or.inl ⟨_, _, rfl, rfl, RP_w (deadw s' hv) (fun w hw => Or.inr ⟨⟨_, rfl, he⟩, hw⟩)⟩))
    | inr r => exact Or.inr (Or.inl ⟨_, _, rfl, rfl, Or.inr ⟨⟨_, rfl, he⟩, hv⟩⟩)
  unfold kfb_rd_emit_14 rfb_takeEmit_35
  show RR (if (12 : Int) < i then some (Sum.inr (Sum.inl K)) else if more = 0 then some (Sum.inr (Sum.inl K)) else bnd (kf_tx_known 301 K) fun y18 => if y18.1 = 0 then bnd (whl (kfb_rd_emit_47 i (K.1 207) y18.2.1) (0, y18.2.2)) (sel (fun e21 : mR => kfl_rd_emit_90 i y18.2.1 e21) (fun e24 : Int × mR => some (Sum.inr (Sum.inr (e24.1, e24.2))))) else some (Sum.inr (Sum.inr (y18.1, y18.2.2)))) (if more' = 0 then some (Sum.inr (Sum.inr M)) else if M.1 10 = 0 then bnd (rf_oldName 2 M) fun y23 => rfl_takeEmit_56 (M.1 8) y23.1 y23.2 else some (Sum.inr (Sum.inr M))) _
  rw [if_neg (show ¬ (12 : Int) < i by omega), hm]
  rcases hm2 with m0 | m1
  · rw [if_pos m0, if_pos m0]
    exact RR_some (Or.inr (Or.inl ⟨_, _, rfl, rfl, Or.inl ⟨K, M, rfl, rfl, hX, hE, hx⟩⟩))
  · rw [if_neg (show ¬ more' = 0 by omega), if_neg (show ¬ more' = 0 by omega), if_pos hf, show (301 : Int) = smp 2 from rfl]
    intro u v hu hv
    cases hk : kf_tx_known (smp 2) K with
    | none => rw [hk] at hu; cases hu
    | some p =>
      cases hq : rf_oldName 2 M with
      | none => rw [hq] at hv; cases hv
      | some z =>
        rw [hk, bnd_some] at hu
        rw [hq, bnd_some] at hv
        rcases known_s hX.1 (s := 2) (by omega) (by omega) (by omega) p z hk hq with ⟨a1, ⟨a2, k, k0, k1, k2, k3⟩, a3, a4, a5, a6⟩ | ⟨a1, a2⟩
        · have r0 := (hX.1.2.2.1.2.2.1 k k0 k1).2.2.2.2.2.2.1
          have r1 := (hX.2.1.2.1 k k0 k1).2.1 k2
          have hX1 : XP p.2.2 z.2 := XP_f hX a3 a4 a5 rfl rfl rfl rfl
          have hE1 : EMx p.2.2 z.2 := EMx_f hE a4 a5 rfl rfl rfl rfl
          have hS1 : EMk z.2 := EMk_f hS a5 rfl rfl
          have q20 : z.2.1 20 = M.1 20 := fr1 a5 20 rfl
          have q125 : z.2.1 125 = M.1 125 := fr1 a5 125 rfl
          obtain ⟨⟨e1, e2, e3⟩, e4⟩ := id hE1
          rw [if_pos a1] at hu
          cases hl : whl (kfb_rd_emit_47 i (K.1 207) p.2.1) (0, p.2.2) with
          | none => rw [hl] at hu; cases hu
          | some r =>
            rw [hl, bnd_some] at hu
            have dk := dup_k (K := p.2.2) (by omega) (by omega) r hl
            rw [e1, a2] at dk
            unfold rfl_takeEmit_56 at hv
            rw [if_pos a3.2.2.2.2] at hv
            rcases hS1.1 z.1 (by omega) (by omega) with ⟨s1, j, j0, j1, j2⟩ | ⟨s1, s2⟩
            · rcases dk with ⟨-, d2⟩ | ⟨e, rfl, d1, -⟩
              · exact absurd ((e4 j j0 j1).1.trans j2) (d2 j j0 j1)
              · rw [if_neg (by omega)] at hv
                have hv' : FV4 v := RP_e hv (RP_bnd (wrong_1 (by decide)) (fun w hw => FV4_u (u_rfl_takeEmit_80 z.1 w.2) hw))
                cases hu
                exact badv _ v d1 hv'
            · rcases dk with ⟨rfl, -⟩ | ⟨e, rfl, d1, j, j0, j1, j2⟩
              · rw [if_pos s1] at hv
                have hu : kfl_rd_emit_90 i p.2.1 p.2.2 = some u := hu
                unfold kfl_rd_emit_90 at hu
                unfold rfl_takeEmit_80 rfl_takeEmit_135 rfl_takeEmit_136 rfl_takeEmit_145 at hv
                have lt : z.2.1 125 < 12 := by
                  have q := sumW_u (f := z.2.2 123) (b := 0) (i := z.1) (x := 1) (by omega) (by rw [Int.zero_add]; exact s1) 12 (by omega)
                  have q2 := sumW_le (f := upI (z.2.2 123) (0 + z.1) 1) (b := 0) 12 (fun j hj => by
                    rw [Int.zero_add, Int.zero_add]
                    by_cases e : (j : Int) = z.1
                    · rw [e, upI_s]; decide
                    · rw [upI_n e]
                      rcases hS1.1 j (by omega) (by omega) with ⟨t1, -⟩ | ⟨t1, -⟩ <;> omega)
                  have q3 := hS1.2
                  omega
                rw [e1, a2, cut_i (z := z.2.1 125 + 1) (by omega) (by omega), cut_i (z := i + 1) (by omega) (by omega)] at hu
                rw [if_pos (show z.2.1 10 ≤ 0 by have := a3.2.2.2.2; omega), if_pos a3.2.2.2.2, cut_i (z := z.2.1 125 + 1) (by omega) (by omega), show nar1 1 = 1 from rfl] at hv
                have eL : ∃ L, L = mO p.2.2 [(218, z.2.1 125 + 1)] [(17, upI (p.2.2.2 17) (z.2.1 125) z.1)] := ⟨_, rfl⟩
                obtain ⟨L, eL⟩ := eL
                have eN : ∃ N, N = mO z.2 [(125, z.2.1 125 + 1)] [(123, upI (z.2.2 123) z.1 1), (124, upI (z.2.2 124) (z.2.1 125) z.1)] := ⟨_, rfl⟩
                obtain ⟨N, eN⟩ := eN
                rw [← eL] at hu
                rw [← eN] at hv
                have fL : fr [218] [17] p.2.2 L := by rw [eL]; exact fr_m fr_0 rfl rfl
                have fN : fr [125] [123, 124] z.2 N := by rw [eN]; exact fr_m fr_0 rfl rfl
                have l218 : L.1 218 = z.2.1 125 + 1 := by rw [eL]; rfl
                have l17 : L.2 17 = upI (p.2.2.2 17) (z.2.1 125) z.1 := by rw [eL]; rfl
                have n125 : N.1 125 = z.2.1 125 + 1 := by rw [eN]; rfl
                have n123 : N.2 123 = upI (z.2.2 123) z.1 1 := by rw [eN]; rfl
                have n124 : N.2 124 = upI (z.2.2 124) (z.2.1 125) z.1 := by rw [eN]; rfl
                have N7 : z.2.1 7 = N.1 7 := by rw [eN]; rfl
                have N8 : N.1 8 = z.2.1 8 := by rw [eN]; rfl
                clear eL eN
                rw [N7] at hv
                have hLN : LR L N := LR_g a3 fL fN rfl rfl rfl rfl ((fr1 fL 213 rfl).trans a3.2.2.2.1) ((fr1 fN 10 rfl).trans a3.2.2.2.2)
                have hX2 : XP L N := XP_f hX1 hLN fL fN rfl rfl rfl rfl
                have hE2 : EMx L N := by
                  refine ⟨⟨by omega, by omega, by omega⟩, fun j j0 j1 => ?_⟩
                  rw [l17, n124, fr1 fN 20 rfl]
                  by_cases e : j = z.2.1 125
                  · rw [e, upI_s, upI_s]
                    exact ⟨rfl, by omega, by omega⟩
                  · rw [upI_n e, upI_n e]
                    exact e4 j j0 (by omega)
                have hS2 : EMk N := by
                  refine ⟨fun b b0 b1 => ?_, ?_⟩
                  · rw [n123, n124, n125]
                    by_cases e : b = z.1
                    · subst e
                      rw [upI_s]
                      exact Or.inl ⟨rfl, z.2.1 125, e2, by omega, upI_s⟩
                    · rw [upI_n e]
                      rcases hS1.1 b b0 b1 with ⟨t1, j, j0, j1, j2⟩ | ⟨t1, t2⟩
                      · exact Or.inl ⟨t1, j, j0, by omega, by rw [upI_n (by omega)]; exact j2⟩
                      · refine Or.inr ⟨t1, fun j j0 j1 => ?_⟩
                        by_cases ej : j = z.2.1 125
                        · rw [ej, upI_s]; exact fun q => e q.symm
                        · rw [upI_n ej]
                          exact t2 j j0 (by omega)
                  · have q := sumW_u (f := z.2.2 123) (b := 0) (i := z.1) (x := 1) (by omega) (by rw [Int.zero_add]; exact s1) 12 (by omega)
                    rw [Int.zero_add] at q
                    rw [n123, q, n125, hS1.2]
                have hXw := hLN.2.1
                unfold kf_rd_goesOnList at hu
                rw [hXw.1] at hu
                have i1 : i + 1 = N.1 125 := by omega
                by_cases w44 : N.1 7 = 44
                · rw [if_pos ((wm_big hXw.2.1 (by omega)).mpr w44), bnd_a] at hu
                  rw [if_pos w44, if_neg (by decide)] at hv
                  cases hk2 : kf_tx_advance L with
                  | none => rw [hk2] at hu; cases hu
                  | some y =>
                    cases hq2 : rf_next N with
                    | none => rw [hq2] at hv; cases hv
                    | some c =>
                      rw [hk2, bnd_some] at hu
                      rw [hq2, bnd_some] at hv
                      cases hv
                      rcases adv_s hLN (by omega) y c hk2 hq2 with ⟨b1, b2, b3, b4, b5⟩ | ⟨b1, b2⟩
                      · rw [if_pos b1, bnd_some, if_pos rfl] at hu
                        cases hu
                        refine Or.inl ⟨_, _, rfl, rfl, XP_f hX2 b2 b3 b4 rfl rfl rfl rfl, EMx_f hE2 b3 b4 rfl rfl rfl rfl, EMk_f hS2 b4 rfl rfl, ?_, rfl, Or.inr rfl, by show x ≤ c.2.1 8; omega⟩
                        show i + 1 = c.2.1 125
                        rw [fr1 b4 125 rfl]
                        exact i1
                      · rw [if_neg b1, bnd_some, if_neg b1] at hu
                        cases hu
                        exact badv _ _ b1 b2
                · rw [if_neg (fun q => w44 ((wm_big hXw.2.1 (by omega)).mp q)), bnd_some, if_pos rfl] at hu
                  rw [if_neg w44, if_pos rfl] at hv
                  cases hu
                  cases hv
                  exact Or.inl ⟨_, _, rfl, rfl, hX2, hE2, hS2, i1, rfl, Or.inl rfl, by show x ≤ N.1 8; omega⟩
              · exact absurd ((e4 j j0 j1).1.symm.trans j2) (s2 j j0 j1)
        · rw [if_neg a1] at hu
          cases hu
          exact badv _ _ a1 (FV4_u (u_rfl_takeEmit_56 (M.1 8) z.1 z.2) a2 v hv)
end EM7
