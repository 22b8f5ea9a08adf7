/-! ===== how far instances, metas, arrays come ===== -/
section PR7
variable {K M : mR}
theorem RR_an {X : Option (Int × Int × mR)} {Y : Option (Int × mR)} {G G2 : Int → mR → Int → mR → Prop} (h : RR X Y (GV G)) (h2 : RR X Y (GV G2)) : RR X Y (GV (fun a K1 b M1 => G a K1 b M1 ∧ G2 a K1 b M1)) := fun y z hy hz => by
  rcases h y z hy hz with ⟨q1, q2⟩ | q
  · rcases h2 y z hy hz with ⟨-, q3⟩ | ⟨q3, -⟩
    · exact Or.inl ⟨q1, q2, q3⟩
    · exact absurd q1 q3
  · exact Or.inr q
/-- a word, then a new name -/
theorem nam8 {s b w : Int} {n : mR → Int} {k1 : mR → Int × Int × mR → Option (Int × Int × mR)} {l : Int × mR → Option (Int × mR)} {kn : mR → Int} (h : LR K M) (h7 : M.1 7 = w) (w0 : w ≠ 0) (hs : 1 ≤ s ∧ s ≤ 7) (hk : ∀ K1 M1, fr kF_tx_advance kA_tx_advance K K1 → fr rF_next rA_next M M1 → kn K1 = n M1 ∧ (0 ≤ n M1 ∧ n M1 ≤ b ∧ b ≤ 16) ∧ (n M1 < b → M1.1 13 < 85)) (hst : ∀ z : Int × mR, 0 < z.2.1 10 → RP (l z) (fun w => 0 < w.2.1 10)) (g : ∀ K1 a K2 b2 M2, b2 = 1 → LR K2 M2 → M.1 8 + 1 ≤ M2.1 8 → RR (k1 K1 (0, a, K2)) (l (b2, M2)) (GV (fun _ _ _ M2 => M.1 8 + 1 ≤ M2.1 8))) : RR (bnd (kf_tx_advance K) fun y1 => if y1.1 = 0 then bnd (kf_tx_makeNew (smp s) (kn y1.2.2) b y1.2.2) fun y4 => if y4.1 = 0 then k1 y1.2.2 y4 else some (y4.1, 0, y4.2.2) else some (y1.1, 0, y1.2.2)) (bnd (rf_next M) fun y14 => bnd (rf_newName s (n y14.2) b y14.2) l) (GV (fun _ _ _ M2 => M.1 8 + 1 ≤ M2.1 8)) := by
  refine RR_sq (G := fun _ K1 _ M1 => LR K1 M1 ∧ fr kF_tx_advance kA_tx_advance K K1 ∧ fr rF_next rA_next M M1 ∧ M.1 8 + 1 ≤ M1.1 8) (A := fun _ => True) (B := fun _ => True) (adv_s h (by omega)) (RP_T _) (RP_T _) (fun z hz => RP_bnd (u_rf_newName s _ b z.2) (fun w hw => hst w (hw.2 hz))) (fun _ K1 _ M1 hG _ _ => ?_)
  obtain ⟨g1, g2, g3, g4⟩ := hG
  obtain ⟨e1, e2, e3⟩ := hk K1 M1 g2 g3
  dsimp only
  rw [e1]
  refine RR_sq (A := fun _ => True) (B := fun q => (0 < q.1 10 ∨ M1.1 8 + 1 ≤ q.1 8)) (rr_newG g1 (s := s) (n := n M1) (b := b) hs e2 e3) (RP_T _) (fun z hz => newN_8 g1 z hz) hst (fun a K2 b2 M2 hG _ fM2 => ?_)
  obtain ⟨hb2, hlt, hL2, -⟩ := hG
  refine g K1 a K2 b2 M2 hb2 hL2 ?_
  rcases fM2 with q | q
  · have := hL2.2.2.2.2
    omega
  · omega
theorem inst8 (h : LR K M) (hC : CNq K M) (h7 : M.1 7 = 301) : RR (kf_rd_instance K) (rf_takeUse M) (GV (fun _ _ _ M2 => M.1 8 + 1 ≤ M2.1 8)) := by
  obtain ⟨⟨c1, c2, c3, c4, c5, c6, c7, c8⟩, r1, r2, r3, r4, r5, r6, r7, r8, hsum⟩ := id hC
  unfold kf_rd_instance rf_takeUse rfl_takeUse_4
  refine nam8 (s := 2) (b := 12) (n := fun m => m.1 20) (kn := fun m => m.1 215) (k1 := fun q y4 => bnd (kf_tx_expect 58 (mO y4.2.2 [(215, cut ((y4.2.2.1 215) + 1))] [])) fun y7 => if y7.1 = 0 then bnd (kf_tx_known 300 y7.2.2) fun y10 => if y10.1 = 0 then bnd (kf_tx_expect 59 (mO y10.2.2 [] [(13, upI (y10.2.2.2 13) (q.1 215) y10.2.1)])) fun y13 => if y13.1 = 0 then some (0, 0, y13.2.2) else some (y13.1, 0, y13.2.2) else some (y10.1, 0, y10.2.2) else some (y7.1, 0, y7.2.2)) h h7 (by omega) (by omega) (fun K1 M1 f1 f2 => ?_) (fun z hz => RP_w (u_rfl_takeUse_15 z.1 z.2) (fun w hw => hw.2 hz)) (fun K1 a K2 b2 M2 hb hL2 h8 => ?_)
  · have q1 : M1.1 20 = M.1 20 := fr1 f2 20 rfl
    have q2 : M1.1 13 = M.1 13 := fr1 f2 13 rfl
    exact ⟨by show K1.1 215 = M1.1 20; rw [fr1 f1 215 rfl, q1]; exact c2, ⟨by show 0 ≤ M1.1 20; omega, by show M1.1 20 ≤ 12; omega, by omega⟩, fun q => by have q : M1.1 20 < 12 := q; omega⟩
  · unfold rfl_takeUse_15
    dsimp only
    rw [if_neg (by omega)]
    have hL3 : LR (mO K2 [(215, cut (K2.1 215 + 1))] []) M2 := hL2
    refine RR_sq (G := fun _ K3 _ M3 => LR K3 M3 ∧ fr kF_tx_expect kA_tx_expect (mO K2 [(215, cut (K2.1 215 + 1))] []) K3 ∧ fr rF_need rA_need M2 M3 ∧ M2.1 8 + 1 ≤ M3.1 8) (A := fun _ => True) (B := fun _ => True) (exp_s hL3 (c := 58) (by omega)) (RP_T _) (RP_T _) (fun z hz => RP_w (u_rfl_takeUse_25 z.2) (fun w hw => hw.2 hz)) (fun _ K3 _ M3 hG _ _ => ?_)
    obtain ⟨g1, g2, g3, g4⟩ := hG
    unfold rfl_takeUse_25
    dsimp only
    rw [show (300 : Int) = smp 1 from rfl]
    refine RR_sq (G := fun a K4 b M4 => (a = b ∧ ∃ k, 0 ≤ k ∧ k < M3.1 13 ∧ M3.2 16 k = 1 ∧ b = M3.2 17 k) ∧ LR K4 M4 ∧ fr kF_tx_known kA_tx_known K3 K4 ∧ fr rF_oldName rA_oldName M3 M4 ∧ M3.1 8 + 1 ≤ M4.1 8) (A := fun _ => True) (B := fun _ => True) (known_s g1 (s := 1) (by omega) (by omega) (by omega)) (RP_T _) (RP_T _) (fun z hz => RP_w (u_rfl_takeUse_30 z.1 z.2) (fun w hw => hw.2 hz)) (fun a4 K4 b4 M4 hG _ _ => ?_)
    obtain ⟨-, f1, f2, f3, f4⟩ := hG
    unfold rfl_takeUse_30
    dsimp only
    refine RR_sq (X := kf_tx_expect 59 _) (G := fun _ K5 _ M5 => LR K5 M5 ∧ True ∧ True ∧ M4.1 8 + 1 ≤ M5.1 8) (A := fun _ => True) (B := fun _ => True) (RR_w (exp_s (K := mO K4 [] [(13, upI (K4.2 13) (K1.1 215) a4)]) (M := M4) f1 (c := 59) (by omega)) (fun y z q => by
      rcases q with ⟨q0, q1, q2, q3, q4⟩ | q
      · exact Or.inl ⟨q0, q1, trivial, trivial, q4⟩
      · exact Or.inr q)) (RP_T _) (RP_T _) (fun z hz => RP_w (u_rfl_takeUse_37 b4 z.2) (fun w hw => hw.2 hz)) (fun _ K5 _ M5 hG _ _ => ?_)
    obtain ⟨-, -, -, i4⟩ := hG
    unfold rfl_takeUse_37
    exact RR_some (Or.inl ⟨rfl, by show M.1 8 + 1 ≤ M5.1 8; omega⟩)
theorem exp8 {c : Int} {K' : mR} (h : LR K' M) (hc : (33 ≤ c ∧ c ≤ 126) ∨ (300 ≤ c ∧ c ≤ 330)) : RR (kf_tx_expect c K') (rf_need c M) (GV (fun _ K5 _ M5 => LR K5 M5 ∧ M.1 8 + 1 ≤ M5.1 8)) := RR_w (exp_s h hc) (fun y z q => by
  rcases q with ⟨q0, q1, q2, q3, q4⟩ | q
  · exact Or.inl ⟨q0, q1, q4⟩
  · exact Or.inr q)
theorem num8 {K' : mR} (h : LR K' M) : RR (kf_tx_within 1 64 K') (rf_number 1 64 M) (GV (fun _ K5 _ M5 => LR K5 M5 ∧ M.1 8 + 1 ≤ M5.1 8)) := RR_w (num_s h ⟨by omega, by omega⟩) (fun y z q => by
  rcases q with ⟨q0, -, q1, q2, q3, q4⟩ | q
  · exact Or.inl ⟨q0, q1, q4⟩
  · exact Or.inr q)
theorem meta8 (h : LR K M) (hC : CNq K M) (h7 : M.1 7 = 302) : RR (kf_rd_meta K) (rf_takeMeta M) (GV (fun _ _ _ M2 => M.1 8 + 1 ≤ M2.1 8)) := by
  obtain ⟨⟨c1, c2, c3, c4, c5, c6, c7, c8⟩, r1, r2, r3, r4, r5, r6, r7, r8, hsum⟩ := id hC
  unfold kf_rd_meta rf_takeMeta rfl_takeMeta_4
  refine nam8 (s := 3) (b := 16) (n := fun m => m.1 21) (kn := fun m => m.1 216) (k1 := fun q y4 => bnd (kf_tx_expect 58 (mO y4.2.2 [(216, cut ((y4.2.2.1 216) + 1))] [])) fun y7 => if y7.1 = 0 then bnd (kf_tx_within 1 64 y7.2.2) fun y10 => if y10.1 = 0 then bnd (kf_tx_expect 59 (mO y10.2.2 [] [(14, upI (y10.2.2.2 14) (q.1 216) y10.2.1)])) fun y13 => if y13.1 = 0 then some (0, 0, y13.2.2) else some (y13.1, 0, y13.2.2) else some (y10.1, 0, y10.2.2) else some (y7.1, 0, y7.2.2)) h h7 (by omega) (by omega) (fun K1 M1 f1 f2 => ?_) (fun z hz => RP_w (u_rfl_takeMeta_15 z.1 z.2) (fun w hw => hw.2 hz)) (fun K1 a K2 b2 M2 hb hL2 h8 => ?_)
  · have q1 : M1.1 21 = M.1 21 := fr1 f2 21 rfl
    have q2 : M1.1 13 = M.1 13 := fr1 f2 13 rfl
    exact ⟨by show K1.1 216 = M1.1 21; rw [fr1 f1 216 rfl, q1]; exact c3, ⟨by show 0 ≤ M1.1 21; omega, by show M1.1 21 ≤ 16; omega, by omega⟩, fun q => by have q : M1.1 21 < 16 := q; omega⟩
  · unfold rfl_takeMeta_15
    dsimp only
    rw [if_neg (by omega)]
    have hL3 : LR (mO K2 [(216, cut (K2.1 216 + 1))] []) M2 := hL2
    refine RR_sq (A := fun _ => True) (B := fun _ => True) (exp8 hL3 (c := 58) (by omega)) (RP_T _) (RP_T _) (fun z hz => RP_w (u_rfl_takeMeta_25 z.2) (fun w hw => hw.2 hz)) (fun _ K3 _ M3 hG _ _ => ?_)
    unfold rfl_takeMeta_25
    dsimp only
    refine RR_sq (A := fun _ => True) (B := fun _ => True) (num8 hG.1) (RP_T _) (RP_T _) (fun z hz => RP_w (u_rfl_takeMeta_40 _ z.1 z.2) (fun w hw => hw.2 hz)) (fun a4 K4 b4 M4 hG2 _ _ => ?_)
    unfold rfl_takeMeta_40
    dsimp only
    refine RR_sq (A := fun _ => True) (B := fun _ => True) (exp8 (K' := mO K4 [] [(14, upI (K4.2 14) (K1.1 216) a4)]) (M := mO M4 [] [(35, upI (M4.2 35) (M3.1 21) b4)]) hG2.1 (c := 59) (by omega)) (RP_T _) (RP_T _) (fun z hz => RP_w (u_rfl_takeMeta_47 z.2) (fun w hw => hw.2 hz)) (fun _ K5 _ M5 hG3 _ _ => ?_)
    obtain ⟨-, i1⟩ := hG
    obtain ⟨-, i2⟩ := hG2
    obtain ⟨-, i3⟩ := hG3
    have i3 : M4.1 8 + 1 ≤ M5.1 8 := i3
    unfold rfl_takeMeta_47
    exact RR_some (Or.inl ⟨rfl, by show M.1 8 + 1 ≤ M5.1 8; omega⟩)
end PR7
