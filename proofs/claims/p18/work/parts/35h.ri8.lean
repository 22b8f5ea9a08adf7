/-! ===== emit, from its word to its end ===== -/
section EM8
variable {K M : mR}
theorem emclear_r : RP (whl rfb_takeEmit_9 (0, M)) (fun e => fr [] [123] M e ∧ ∀ a, 0 ≤ a → a < 12 → e.2 123 a = 0) := by
  refine RP_whl (I := fun s : Int × mR => 0 ≤ s.1 ∧ s.1 ≤ 12 ∧ fr [] [123] M s.2 ∧ ∀ a, 0 ≤ a → a < s.1 → s.2.2 123 a = 0) (fun s hs => ?_) ⟨(show (0 : Int) ≤ 0 by decide), (show (0 : Int) ≤ 12 by decide), fr_0, fun a a0 a1 => absurd (show a < 0 from a1) (by omega)⟩
  obtain ⟨s0, s1, s2, s3⟩ := hs
  unfold rfb_takeEmit_9
  refine RP_ite (fun g => RP_some ⟨s2, fun a a0 a1 => s3 a a0 (by omega)⟩) (fun g => ?_)
  rw [cut_i (by omega) (by omega)]
  refine RP_some ⟨by show 0 ≤ s.1 + 1; omega, by show s.1 + 1 ≤ 12; omega, fr_m s2 rfl rfl, fun a a0 a1 => ?_⟩
  have a1 : a < s.1 + 1 := a1
  show upI (s.2.2 123) s.1 (nar1 0) a = 0
  by_cases e : a = s.1
  · rw [e, upI_s]; rfl
  · rw [upI_n e]
    exact s3 a a0 (by omega)
theorem emit_s (h : XP K M) (h218 : K.1 218 = 0) : RR (kf_rd_emit K) (rf_takeEmit M) (GV (fun _ K2 _ M2 => XP K2 M2 ∧ EMx K2 M2 ∧ M.1 8 + 1 ≤ M2.1 8)) := by
  unfold kf_rd_emit rf_takeEmit
  refine RR_sq (G := fun _ K1 _ M1 => LR K1 M1 ∧ fr kF_tx_expect kA_tx_expect K K1 ∧ fr rF_need rA_need M M1 ∧ M.1 8 + 1 ≤ M1.1 8) (A := fun _ => True) (B := fun _ => True) (exp_s h.1 (c := 323) (by omega)) (RP_T _) (RP_T _) (fun z hz => RP_w (u_rfl_takeEmit_7 z.2) (fun w hw => hw.2 hz)) (fun _ K1 _ M1 hG _ _ => ?_)
  obtain ⟨g1, g2, g3, g4⟩ := hG
  have h1 : XP K1 M1 := XP_f h g1 g2 g3 rfl rfl rfl rfl
  unfold rfl_takeEmit_7
  dsimp only
  intro u w hu hw
  cases hc : whl rfb_takeEmit_9 (0, M1) with
  | none => rw [hc] at hw; cases hw
  | some e =>
    rw [hc, bnd_some] at hw
    obtain ⟨c1, c2⟩ := emclear_r e hc
    have hLe : LR K1 e := LR_g g1 (fr_0 : fr [] [] K1 K1) c1 rfl rfl rfl rfl g1.2.2.2.1 ((fr1 c1 10 rfl).trans g1.2.2.2.2)
    have h2 : XP K1 e := XP_f h1 hLe (fr_0 : fr [] [] K1 K1) c1 rfl rfl rfl rfl
    unfold rfl_takeEmit_28 at hw
    have eN : ∃ N, N = mO e [(125, 0)] [] := ⟨_, rfl⟩
    obtain ⟨N, eN⟩ := eN
    rw [← eN] at hw
    have fN : fr [125] [] e N := by rw [eN]; exact fr_m fr_0 rfl rfl
    have n125 : N.1 125 = 0 := by rw [eN]; rfl
    have hLN : LR K1 N := by rw [eN]; exact hLe
    clear eN
    have h3 : XP K1 N := XP_f h2 hLN (fr_0 : fr [] [] K1 K1) fN rfl rfl rfl rfl
    have n8 : N.1 8 = M1.1 8 := (fr1 fN 8 rfl).trans (fr1 c1 8 rfl)
    have n123 : ∀ a, 0 ≤ a → a < 12 → N.2 123 a = 0 := fun a a0 a1 => by rw [fr2 fN 123 rfl]; exact c2 a a0 a1
    have k218 : K1.1 218 = 0 := (fr1 g2 218 rfl).trans h218
    have hE : EMx K1 N := ⟨⟨by omega, by omega, by omega⟩, fun i i0 i1 => absurd i1 (by omega)⟩
    have hS : EMk N := ⟨fun a a0 a1 => Or.inr ⟨n123 a a0 a1, fun j j0 j1 => absurd j1 (by omega)⟩, by rw [n125]; exact sumW_0 (fun i hi => by rw [Int.zero_add]; exact n123 i (by omega) (by omega))⟩
    cases hk : whl kfb_rd_emit_14 (1, 0, K1) with
    | none => rw [hk] at hu; cases hu
    | some a =>
      cases hq : whl rfb_takeEmit_35 (1, N) with
      | none => rw [hq] at hw; cases hw
      | some b =>
        rw [hk, bnd_some] at hu
        rw [hq, bnd_some] at hw
        rcases emits_s (x := M.1 8 + 1) (s := (1, 0, K1)) (w := (1, N)) ⟨h3, hE, hS, n125.symm, rfl, Or.inr rfl, by show M.1 8 + 1 ≤ N.1 8; omega⟩ a b hk hq with ⟨K5, M5, rfl, rfl, h5, x5, y5⟩ | ⟨⟨d, rfl, hd⟩, hb⟩
        · have hu : kfl_rd_emit_131 K5 = some u := hu
          have hw : rfl_takeEmit_148 M5 = some w := hw
          refine RR_sq (k1 := fun y => some (0, 0, y.2.2)) (l := fun y => some (0, y.2)) (G := fun _ K6 _ M6 => LR K6 M6 ∧ fr kF_tx_expect kA_tx_expect K5 K6 ∧ fr rF_need rA_need M5 M6 ∧ M5.1 8 + 1 ≤ M6.1 8) (A := fun _ => True) (B := fun _ => True) (exp_s h5.1 (c := 59) (by omega)) (RP_T _) (RP_T _) (fun z hz => RP_some hz) (fun _ K6 _ M6 hG _ _ => ?_) u w hu hw
          obtain ⟨j1, j2, j3, j4⟩ := hG
          exact RR_some (Or.inl ⟨rfl, XP_f h5 j1 j2 j3 rfl rfl rfl rfl, EMx_f x5 j2 j3 rfl rfl rfl rfl, by show M.1 8 + 1 ≤ M6.1 8; omega⟩)
        · refine Or.inr ⟨?_, ?_⟩
          · cases hu
            exact hd
          · cases b with
            | inl m =>
              cases hw
              exact hb
            | inr m => exact RP_w (u_rfl_takeEmit_148 m) (fun w hw => hw.2 hb) w hw
end EM8
