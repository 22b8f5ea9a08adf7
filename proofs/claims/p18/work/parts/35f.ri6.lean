/-! ===== the control, from its word to its end ===== -/
section CT6
variable {K M : mR}
theorem openControl_s (h : CX0 K M) (h225 : K.1 225 = 0) (h27 : M.1 27 = 0) (h59 : ∀ t, 0 ≤ t → t < M.1 26 → M.2 59 t = 0) : RR (kf_rd_openControl K) (bnd (rf_need 319 M) fun y66 => rf_openBlock (-1) (-1) (mO y66.2 [(119, 0)] [])) (GV (fun _ K1 _ M1 => CB K1 M1 ∧ M.1 8 + 1 ≤ M1.1 8)) := by
  unfold kf_rd_openControl
  refine RR_sq (G := fun _ K1 _ M1 => LR K1 M1 ∧ fr kF_tx_expect kA_tx_expect K K1 ∧ fr rF_need rA_need M M1 ∧ M.1 8 + 1 ≤ M1.1 8) (A := fun _ => True) (B := fun _ => True) (exp_s h.1.1 (c := 319) (by omega)) (RP_T _) (RP_T _) (fun z hz => RP_w (u_rf_openBlock (-1) (-1) (mO z.2 [(119, 0)] [])) (fun w hw => hw.2 hz)) (fun _ K1 _ M1 hG _ _ => ?_)
  obtain ⟨g1, g2, g3, g4⟩ := hG
  have h1 : CX0 K1 M1 := CX0_f h g1 g2 g3 (by omega) rfl rfl rfl rfl
  dsimp only
  have eN : ∃ N, N = mO M1 [(119, 0)] [] := ⟨_, rfl⟩
  obtain ⟨N, eN⟩ := eN
  rw [← eN]
  have fN : fr [119] [] M1 N := by rw [eN]; exact fr_m fr_0 rfl rfl
  have n119 : N.1 119 = 0 := by rw [eN]; rfl
  have hLN : LR K1 N := by rw [eN]; exact g1
  clear eN
  unfold rf_openBlock
  rw [if_pos hLN.2.2.2.2, if_neg (show ¬ N.1 119 = 8 by omega)]
  have go : RR (bnd (kf_tx_expect 123 K1) fun y4 => if y4.1 = 0 then some ((0 : Int), (0 : Int), (mO y4.2.2 [(227, 1)] [(66, upI (y4.2.2.2 66) 1 (-1)), (67, upI (y4.2.2.2 67) 1 (-1))])) else some (y4.1, 0, y4.2.2)) (rfl_openBlock_34 (-1) (-1) N) (GV (fun _ K1 _ M1 => CB K1 M1 ∧ M.1 8 + 1 ≤ M1.1 8)) := by
    unfold rfl_openBlock_34
    refine RR_sq (G := fun _ K3 _ M3 => LR K3 M3 ∧ fr kF_tx_expect kA_tx_expect K1 K3 ∧ fr rF_need rA_need N M3 ∧ N.1 8 + 1 ≤ M3.1 8) (A := fun _ => True) (B := fun _ => True) (exp_s hLN (c := 123) (by omega)) (RP_T _) (RP_T _) (fun z hz => RP_w (u_rfl_openBlock_40 (-1) (-1) z.2) (fun w hw => hw.2 hz)) (fun _ K3 _ M3 hG _ _ => ?_)
    obtain ⟨c1, c2, c3, c4⟩ := hG
    unfold rfl_openBlock_40
    dsimp only
    have p119 : M3.1 119 = 0 := (fr1 c3 119 rfl).trans n119
    rw [if_pos (show M3.1 10 ≤ 0 by have := c1.2.2.2.2; omega), p119, show cut ((0 : Int) + 1) = 1 from rfl]
    have fL : fr [227] [66, 67] K3 (mO K3 [(227, 1)] [(66, upI (K3.2 66) 1 (-1)), (67, upI (K3.2 67) 1 (-1))]) := fr_m fr_0 rfl rfl
    have fQ : fr [119] [117, 118] M3 (mO M3 [(119, 1)] [(117, upI (M3.2 117) 0 (-1)), (118, upI (M3.2 118) 0 (-1))]) := fr_m fr_0 rfl rfl
    have hLQ : LR (mO K3 [(227, 1)] [(66, upI (K3.2 66) 1 (-1)), (67, upI (K3.2 67) 1 (-1))]) (mO M3 [(119, 1)] [(117, upI (M3.2 117) 0 (-1)), (118, upI (M3.2 118) 0 (-1))]) := LR_g c1 fL fQ rfl rfl rfl rfl ((fr1 fL 213 rfl).trans c1.2.2.2.1) ((fr1 fQ 10 rfl).trans c1.2.2.2.2)
    have gK : fr [205, 206, 207, 208, 209, 210, 211, 212, 227] [66, 67] K (mO K3 [(227, 1)] [(66, upI (K3.2 66) 1 (-1)), (67, upI (K3.2 67) 1 (-1))]) := fr_s fL (fr_s c2 (fr_s g2 fr_0 rfl rfl) rfl rfl) rfl rfl
    have gM : fr [7, 8, 9, 10, 11, 12, 119] [117, 118] M (mO M3 [(119, 1)] [(117, upI (M3.2 117) 0 (-1)), (118, upI (M3.2 118) 0 (-1))]) := fr_s fQ (fr_s c3 (fr_s fN (fr_s g3 fr_0 rfl rfl) rfl rfl) rfl rfl) rfl rfl
    have n8 : N.1 8 = M1.1 8 := fr1 fN 8 rfl
    have m27 : M3.1 27 = 0 := (fr1 gM 27 rfl).trans h27
    refine RR_some (Or.inl ⟨rfl, ⟨CX0_f h hLQ gK gM (by show M.1 8 ≤ M3.1 8; omega) rfl rfl rfl rfl, ⟨?_, ?_, ?_, ?_⟩, ?_, ?_⟩, by show M.1 8 + 1 ≤ M3.1 8; omega⟩)
    · show K3.1 225 = M3.1 27
      rw [m27]
      exact (fr1 gK 225 rfl).trans h225
    · show 0 ≤ M3.1 27
      omega
    · show M3.1 27 ≤ 48
      omega
    · intro s s0 s1
      have s1 : s < M3.1 27 := s1
      omega
    · refine ⟨⟨rfl, (show (0 : Int) ≤ 1 by decide), (show (1 : Int) ≤ 8 by decide)⟩, fun j j0 j1 => ?_⟩
      have j1 : j < 1 := j1
      have e : j = 0 := by omega
      subst e
      exact ⟨rfl, rfl, Or.inl ⟨rfl, rfl, rfl⟩⟩
    · intro t t0 t1
      refine Or.inr ⟨?_, fun s s0 s1 => ?_⟩
      · rw [fr2 gM 59 rfl]
        exact h59 t t0 (by rw [← fr1 gM 26 rfl]; exact t1)
      · have s1 : s < M3.1 27 := s1
        omega
  by_cases w9 : N.1 7 = 123
  · rw [if_pos w9]; exact go
  · rw [if_neg w9]; exact go
theorem ctrl_s {k : mR → Option (Int × Int × mR)} {l : Int × mR → Option (Int × mR)} {G' : Int → mR → Int → mR → Prop} (h : CX0 K M) (h225 : K.1 225 = 0) (h27 : M.1 27 = 0) (h59 : ∀ t, 0 ≤ t → t < M.1 26 → M.2 59 t = 0) (hs : ∀ z : Int × mR, 0 < z.2.1 10 → RP (l z) (fun w => 0 < w.2.1 10)) (g : ∀ K' M' b, CB K' M' → fr F_kfb_pw_read_211 A_kfb_pw_read_211 K K' → fr rF_takeControl rA_takeControl M M' → M.1 8 + 1 ≤ M'.1 8 → RR (k K') (l (b, M')) (GV G')) : RR (bnd (kf_rd_openControl K) fun y15 => if y15.1 = 0 then bnd (whl kfb_pw_read_211 (0, y15.2.2)) (sel k (fun e21 : Int × mR => some (e21.1, 0, e21.2))) else some (y15.1, 0, y15.2.2)) (bnd (rf_takeControl M) l) (GV G') := by
  intro u v hu hv
  cases ht : rf_takeControl M with
  | none => rw [ht] at hv; cases hv
  | some r =>
    have hr := u_rf_takeControl M r ht
    rw [ht, bnd_some] at hv
    unfold rf_takeControl rfl_takeControl_7 at ht
    rw [← bnd_a] at ht
    cases hk : kf_rd_openControl K with
    | none => rw [hk] at hu; cases hu
    | some y =>
      have hy := u_kf_rd_openControl K y hk
      rw [hk, bnd_some] at hu
      cases hq : (bnd (rf_need 319 M) fun y66 => rf_openBlock (-1) (-1) (mO y66.2 [(119, 0)] [])) with
      | none => rw [hq] at ht; cases ht
      | some z =>
        rw [hq, bnd_some] at ht
        rcases openControl_s h h225 h27 h59 y z hk hq with ⟨q1, q2, q3⟩ | ⟨q1, q2⟩
        · rw [if_pos q1] at hu
          have q2 : CB y.2.2 z.2 := q2
          have q3 : M.1 8 + 1 ≤ z.2.1 8 := q3
          cases hw1 : whl kfb_pw_read_211 (0, y.2.2) with
          | none => rw [hw1] at hu; cases hu
          | some a =>
            have fa := uw_kfb_pw_read_211 (0, y.2.2) a hw1
            rw [hw1, bnd_some] at hu
            cases hw2 : whl rfb_takeControl_18 z.2 with
            | none => rw [hw2] at ht; cases ht
            | some b =>
              rw [hw2, bnd_some] at ht
              rcases blocks_s (x := M.1 8 + 1) (s := (0, y.2.2)) (w := z.2) ⟨q2, (show (0 : Int) ≤ 0 by decide), (by show (0 : Int) ≤ z.2.1 8; exact q2.1.1.1.2.1.2.2.2.1), q3⟩ a b hw1 hw2 with ⟨K4, M4, rfl, rfl, e1, e2, e3⟩ | ⟨⟨d, rfl, hd⟩, hb⟩
              · cases ht
                exact g K4 M4 0 e1 (fr_s fa (fr_s hy fr_0 rfl rfl) rfl rfl) hr.1 e3 u v hu hv
              · refine Or.inr ⟨?_, ?_⟩
                · cases hu
                  exact hd
                · cases b with
                  | inl m =>
                    cases ht
                    exact hs (0, m) hb v hv
                  | inr m =>
                    cases ht
                    exact hs (0, m) hb v hv
        · rw [if_neg q1] at hu
          cases hu
          refine Or.inr ⟨q1, hs r ?_ v hv⟩
          have hz : RP (bnd (whl rfb_takeControl_18 z.2) (sel (fun e60 : mR => some ((0 : Int), e60)) (fun e63 : mR => some ((0 : Int), e63)))) (fun w => 0 < w.2.1 10) := by
            refine RP_bnd (uw_rfb_takeControl_18 z.2) (fun v hv => ?_)
            cases v with
            | inl m => exact RP_some (hv.2 q2)
            | inr m => exact RP_some (hv.2 q2)
          exact hz r ht
end CT6
