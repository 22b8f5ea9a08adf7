/-! ===== the control: a statement, an apply ===== -/
section CT2
variable {K M K' M' : mR} {n kd : Int}
def FV5 (v : Sum mR (Sum mR mR)) : Prop := sel (fun m => 0 < m.1 10) (sel (fun m => 0 < m.1 10) (fun m => 0 < m.1 10)) v
def IG (x : Int) (y : Int × Int × mR) (v : Sum mR (Sum mR mR)) : Prop := (y.1 = 0 ∧ ∃ M', v = Sum.inl M' ∧ CB y.2.2 M' ∧ x ≤ M'.1 8) ∨ (y.1 ≠ 0 ∧ FV5 v)
theorem FV5_u {m : mR} {F A : List Nat} {X : Option (Sum mR (Sum mR mR))} (h : RP X (sel (fun z : mR => UR F A m z) (sel (fun z : mR => UR F A m z) (fun z : mR => UR F A m z)))) (hf : 0 < m.1 10) : RP X FV5 := RP_w h (fun v hv => by
  cases v with
  | inl s => exact hv.2 hf
  | inr r =>
    cases r with
    | inl q => exact hv.2 hf
    | inr q => exact hv.2 hf)
theorem RR_fr {X : Option (Int × Int × mR)} {Y : Option (Int × mR)} {G : Int → mR → Int → mR → Prop} {A B : mR → Prop} (h : RR X Y (GV G)) (u1 : RP X (fun y => A y.2.2)) (u2 : RP Y (fun z => B z.2)) : RR X Y (GV (fun a K1 b M1 => G a K1 b M1 ∧ A K1 ∧ B M1)) := fun y z hy hz => by
  rcases h y z hy hz with ⟨q1, q2⟩ | q
  · exact Or.inl ⟨q1, q2, u1 y hy, u2 z hz⟩
  · exact Or.inr q
theorem CSn_u (h : CSn n K M) (hk : ∀ s, s < n → K'.2 52 s = K.2 52 s ∧ K'.2 53 s = K.2 53 s ∧ K'.2 54 s = K.2 54 s ∧ K'.2 55 s = K.2 55 s ∧ K'.2 56 s = K.2 56 s ∧ K'.2 57 s = K.2 57 s ∧ K'.2 58 s = K.2 58 s) (hm : ∀ s, s < n → M'.2 60 s = M.2 60 s ∧ M'.2 61 s = M.2 61 s ∧ M'.2 62 s = M.2 62 s ∧ M'.2 63 s = M.2 63 s ∧ M'.2 120 s = M.2 120 s ∧ M'.2 121 s = M.2 121 s ∧ M'.2 122 s = M.2 122 s) (h26 : M'.1 26 = M.1 26) (h99 : M.1 99 ≤ M'.1 99) : CSn n K' M' := by
  intro s s0 s1
  have := h s s0 s1
  obtain ⟨k1, k2, k3, k4, k5, k6, k7⟩ := hk s s1
  obtain ⟨m1, m2, m3, m4, m5, m6, m7⟩ := hm s s1
  rw [k1, k2, k3, k4, k5, k6, k7, m1, m2, m3, m4, m5, m6, m7, h26]
  obtain ⟨a1, a2, a3, a4, a5, a6⟩ := this
  refine ⟨a1, a2, a3, a4, a5, ?_⟩
  rcases a6 with ⟨b1, b2, b3, b4, b5, b6⟩ | a6
  · exact Or.inl ⟨b1, b2, b3, b4, b5, by omega⟩
  · exact Or.inr a6
theorem stat_s (h : SBg 0 n K M) (hw : isSt (M.1 7)) : RR (bnd (kf_rd_statement (-1) K) fun y6 => if y6.1 = 0 then some ((0 : Int), (0 : Int), (mO y6.2.2 [] [(56, upI (y6.2.2.2 56) n y6.2.1)])) else some (y6.1, 0, y6.2.2)) (rfl_takeControl_44 n M) (IG (M.1 8 + 1)) := by
  obtain ⟨⟨hX, h64, hD, h99⟩, ⟨h1, h2, h3, h4, h5⟩, ⟨e1, e2, e3, e4, e5, e6, e7, e8, e9⟩, hB, hd, hA⟩ := h
  have hf := hX.1.2.2.2.2
  unfold rfl_takeControl_44
  rw [if_pos hf]
  have eM : ∃ N, N = mO M [] [(120, upI (M.2 120) n (M.1 99))] := ⟨_, rfl⟩
  obtain ⟨N, eM⟩ := eM
  rw [← eM]
  have fN : fr [] [120] M N := by rw [eM]; exact fr_m fr_0 rfl rfl
  have n120 : N.2 120 = upI (M.2 120) n (M.1 99) := by rw [eM]; rfl
  have hLN : LR K N := by rw [eM]; exact hX.1
  clear eM
  have hXN : XP K N := XP_f hX hLN (fr_0 : fr [] [] K K) fN rfl rfl rfl rfl
  have hDN : DE K N := DE_f (fr_0 : fr [] [] K K) fN rfl rfl rfl rfl hD
  have q99 : N.1 99 = M.1 99 := fr1 fN 99 rfl
  have q8 : N.1 8 = M.1 8 := fr1 fN 8 rfl
  refine RR_gq (FB := FV5) (RR_fr (A := fun q => fr kF_rd_statement kA_rd_statement K q) (B := fun q => UR rF_takeStatement rA_takeStatement N q) (statement_s (v1 := -1) hXN hDN (by omega) (by rw [fr1 fN 64 rfl]; exact h64.symm) (by rw [fr1 fN 7 rfl]; exact hw)) (u_kf_rd_statement _ K) (u_rf_takeStatement N)) (fun y v hy hv => Or.inr ⟨hy, hv⟩) (fun z hz => FV5_u (u_rfl_takeControl_66 z.2) hz) (fun a K2 b M2 hG => ?_)
  obtain ⟨⟨a1, x1, x2, x3, x4⟩, fK, ⟨fM, -⟩⟩ := hG
  unfold rfl_takeControl_66
  dsimp only
  have eK : ∃ L, L = mO K2 [] [(56, upI (K2.2 56) n a)] := ⟨_, rfl⟩
  obtain ⟨L, eK⟩ := eK
  rw [← eK]
  have fL : fr [] [56] K2 L := by rw [eK]; exact fr_m fr_0 rfl rfl
  have l56 : L.2 56 = upI (K2.2 56) n a := by rw [eK]; rfl
  have hLL : LR L M2 := by rw [eK]; exact x1.1
  clear eK
  have fKL : fr kF_rd_statement [18, 19, 20, 21, 22, 23, 24, 45, 46, 47, 48, 49, 50, 51, 56, 68, 69, 70] K L := fr_s fL (fr_s fK fr_0 rfl rfl) rfl rfl
  have fMM : fr rF_takeStatement [65, 66, 67, 68, 76, 77, 78, 79, 80, 81, 82, 83, 84, 85, 86, 87, 88, 89, 90, 91, 92, 101, 102, 103, 104, 105, 106, 107, 108, 120] M M2 := fr_s fM (fr_s fN fr_0 rfl rfl) rfl rfl
  have k56 : L.2 56 = upI (K.2 56) n a := by rw [l56, fr2 fK 56 rfl]
  have m120 : M2.2 120 = upI (M.2 120) n (M.1 99) := by rw [fr2 fM 120 rfl, n120]
  have m27 : M2.1 27 = n + 1 := (fr1 fMM 27 rfl).trans h2
  have hm63 : M2.2 63 n = -1 := by rw [fr2 fMM 63 rfl]; exact e6
  refine RR_some (Or.inl ⟨rfl, M2, rfl, ⟨⟨XP_f x1 hLL fL (fr_0 : fr [] [] M2 M2) rfl rfl rfl rfl, (fr1 fMM 64 rfl).trans h64, DE_f fL (fr_0 : fr [] [] M2 M2) rfl rfl rfl rfl x2, by omega⟩, ⟨?_, by omega, by omega, ?_⟩, ?_, ?_⟩, by omega⟩)
  · show L.1 225 = M2.1 27
    rw [fr1 fKL 225 rfl, m27, h1]
  · show CSn (M2.1 27) L M2
    rw [m27]
    refine CSn_1 (CSn_u h5 (fun s s1 => ?_) (fun s s1 => ?_) (fr1 fMM 26 rfl) (by omega)) ?_
    · rw [fr2 fKL 52 rfl, fr2 fKL 53 rfl, fr2 fKL 54 rfl, fr2 fKL 55 rfl, k56, upI_n (by omega), fr2 fKL 57 rfl, fr2 fKL 58 rfl]
      exact ⟨rfl, rfl, rfl, rfl, rfl, rfl, rfl⟩
    · rw [fr2 fMM 60 rfl, fr2 fMM 61 rfl, fr2 fMM 62 rfl, fr2 fMM 63 rfl, m120, upI_n (by omega), fr2 fMM 121 rfl, fr2 fMM 122 rfl]
      exact ⟨rfl, rfl, rfl, rfl, rfl, rfl, rfl⟩
    · rw [fr2 fKL 52 rfl, fr2 fKL 53 rfl, fr2 fKL 54 rfl, fr2 fKL 55 rfl, k56, upI_s, fr2 fKL 58 rfl, fr2 fMM 60 rfl, fr2 fMM 61 rfl, fr2 fMM 62 rfl, fr2 fMM 63 rfl, m120, upI_s]
      exact ⟨e1.trans e2.symm, e3, e4, e5.trans e6.symm, e9, Or.inl ⟨e2, e6, e8, by omega, by have := hD.1.2; omega, by omega⟩⟩
  · show CBd (M2.1 27) L M2
    rw [m27]
    exact CBd_n (CBd_f hB fKL fMM rfl rfl rfl rfl) (by omega)
  · show CAn (M2.1 27) M2
    rw [m27]
    exact CAn_1 (CAn_f hA fMM rfl rfl) hm63
theorem applying_k {v : Int} (h0 : 0 ≤ K.1 225) (h4 : K.1 225 ≤ 48) : RP (kf_sp_applying v K) (fun r => (0 ≤ r ∧ ∃ s, 0 ≤ s ∧ s < K.1 225 ∧ K.2 55 s = v) ∨ (r = -1 ∧ ∀ s, 0 ≤ s → s < K.1 225 → K.2 55 s ≠ v)) := by
  unfold kf_sp_applying
  refine RP_bnd (P := sel (fun r : Int => 0 ≤ r ∧ ∃ s, 0 ≤ s ∧ s < K.1 225 ∧ K.2 55 s = v) (fun _ : Unit => ∀ s, 0 ≤ s → s < K.1 225 → K.2 55 s ≠ v)) ?_ (RP_sl (fun e he => RP_some (Or.inl he)) (fun e he => RP_some (Or.inr ⟨rfl, he⟩)))
  refine RP_whl (I := fun s : Int => 0 ≤ s ∧ s ≤ 48 ∧ ∀ i, 0 ≤ i → i < s → K.2 55 i ≠ v) (fun s hs => ?_) ⟨by decide, by decide, fun i a b => absurd b (by omega)⟩
  obtain ⟨s0, s1, s2⟩ := hs
  unfold kfb_sp_applying_2
  refine RP_ite (fun g => RP_some (fun i i0 i1 => s2 i i0 (by omega))) (fun g => RP_ite (fun g2 => RP_some ⟨s0, s, s0, by omega, g2⟩) (fun g2 => ?_))
  rw [cut_i (by omega) (by omega)]
  refine RP_some ⟨by omega, by omega, fun i i0 i1 => ?_⟩
  by_cases e : i = s
  · rw [e]; exact g2
  · exact s2 i i0 (by omega)
theorem apply_s (h : SBg 2 n K M) (hw : M.1 7 = 320) : RR (kf_rd_apply n K) (rfl_takeControl_84 n M) (IG (M.1 8 + 1)) := by
  have h0 := h
  have hL := h.1.1.1
  unfold kf_rd_apply rfl_takeControl_84
  refine RR_gq (FB := FV5) (G := fun _ K1 _ M1 => LR K1 M1 ∧ fr kF_tx_advance kA_tx_advance K K1 ∧ fr rF_next rA_next M M1 ∧ M.1 8 + 1 ≤ M1.1 8) (adv_s hL (by omega)) (fun y v hy hv => Or.inr ⟨hy, hv⟩) (fun z hz => FV5_u (u_rfl_takeControl_89 n z.2) hz) (fun _ K1 _ M1 hG => ?_)
  obtain ⟨g1, g2, g3, g4⟩ := hG
  have h1 : SBg 2 n K1 M1 := SBg_f h0 g1 g2 g3 (by omega) rfl rfl rfl rfl
  unfold rfl_takeControl_89
  dsimp only
  rw [show (310 : Int) = smp 7 from rfl]
  refine RR_gq (FB := FV5) (G := fun a K2 b M2 => (a = b ∧ ∃ k, 0 ≤ k ∧ k < M1.1 13 ∧ M1.2 16 k = 7 ∧ b = M1.2 17 k) ∧ LR K2 M2 ∧ fr kF_tx_known kA_tx_known K1 K2 ∧ fr rF_oldName rA_oldName M1 M2 ∧ M1.1 8 + 1 ≤ M2.1 8) (known_s g1 (s := 7) (by omega) (by omega) (by omega)) (fun y v hy hv => Or.inr ⟨hy, hv⟩) (fun z hz => FV5_u (u_rfl_takeControl_100 n (M1.1 8) z.1 z.2) hz) (fun a K2 b M2 hG => ?_)
  obtain ⟨⟨ab, k, k0, k1, k2, k3⟩, f1, f2, f3, f4⟩ := hG
  subst ab
  have i0 := (g1.2.2.1.2.2.1 k k0 k1).2.2.2.2.2.2.1
  have i1 := (h1.1.1.2.1.2.1 k k0 k1).2.2.2.2.2.2 k2
  have a26 : M2.1 26 = M1.1 26 := fr1 f3 26 rfl
  have h2 : SBg 2 n K2 M2 := SBg_f h1 f1 f2 f3 (by omega) rfl rfl rfl rfl
  obtain ⟨⟨hX, h64, hD, h99⟩, ⟨c1, c2, c3, c4, c5⟩, ⟨e1, e2, e3, e4, e5, e6, e7, e8, e9⟩, hB, hd, hA⟩ := h2
  unfold rfl_takeControl_100
  dsimp only
  rw [if_pos f1.2.2.2.2]
  have a0 : 0 ≤ a := by omega
  refine RR_l (applying_k (K := K2) (v := a) (by omega) (by omega)) (fun r hr => ?_)
  -- whether it is applied already
  have same : (r = -1 ∧ M2.2 59 a = 0 ∧ ∀ s, 0 ≤ s → s < n → M2.2 63 s ≠ a) ∨ (0 ≤ r ∧ M2.2 59 a = 1) := by
    rw [c1] at hr
    rcases hA a (by omega) (by omega) with ⟨q1, s, s0, s1, s2⟩ | ⟨q1, q2⟩
    · rcases hr with ⟨r1, -⟩ | ⟨r1, r2⟩
      · exact Or.inr ⟨r1, q1⟩
      · exact absurd ((c5 s s0 s1).2.2.2.1.trans s2) (r2 s s0 (by omega))
    · rcases hr with ⟨r1, s, s0, s1, s2⟩ | ⟨r1, r2⟩
      · by_cases e : s = n
        · rw [e, e5] at s2; omega
        · exact absurd ((c5 s s0 (by omega)).2.2.2.1.symm.trans s2) (q2 s s0 (by omega))
      · exact Or.inl ⟨r1, q1, q2⟩
  rcases same with ⟨r1, q1, q2⟩ | ⟨r1, q1⟩
  · rw [if_pos r1, if_pos q1]
    unfold kfl_rd_apply_48 rfl_takeControl_124
    have hLa : LR (mO K2 [] [(55, upI (K2.2 55) n a)]) M2 := f1
    refine RR_gq (FB := FV5) (G := fun _ K3 _ M3 => LR K3 M3 ∧ fr kF_tx_expect kA_tx_expect (mO K2 [] [(55, upI (K2.2 55) n a)]) K3 ∧ fr rF_need rA_need M2 M3 ∧ M2.1 8 + 1 ≤ M3.1 8) (exp_s hLa (c := 59) (by omega)) (fun y v hy hv => Or.inr ⟨hy, hv⟩) (fun z hz => FV5_u (u_rfl_takeControl_130 n a z.2) hz) (fun _ K3 _ M3 hG => ?_)
    obtain ⟨d1, d2, d3, d4⟩ := hG
    unfold rfl_takeControl_130
    dsimp only
    rw [if_pos (show M3.1 10 ≤ 0 by have := d1.2.2.2.2; omega), show nar1 1 = 1 from rfl]
    have eN : ∃ N, N = mO M3 [] [(59, upI (M3.2 59) a 1), (63, upI (M3.2 63) n a)] := ⟨_, rfl⟩
    obtain ⟨N, eN⟩ := eN
    rw [← eN]
    have fN : fr [] [59, 63] M3 N := by rw [eN]; exact fr_m fr_0 rfl rfl
    have n59 : N.2 59 = upI (M3.2 59) a 1 := by rw [eN]; rfl
    have n63 : N.2 63 = upI (M3.2 63) n a := by rw [eN]; rfl
    have hLN : LR K3 N := by rw [eN]; exact d1
    clear eN
    have fKL : fr kF_tx_expect [55] K2 K3 := fr_s d2 (fr_m fr_0 rfl rfl) rfl rfl
    have fMM : fr rF_need [59, 63] M2 N := fr_s fN (fr_s d3 fr_0 rfl rfl) rfl rfl
    have k55 : K3.2 55 = upI (K2.2 55) n a := fr2 d2 55 rfl
    have m59 : N.2 59 = upI (M2.2 59) a 1 := by rw [n59, fr2 d3 59 rfl]
    have m63 : N.2 63 = upI (M2.2 63) n a := by rw [n63, fr2 d3 63 rfl]
    have n8 : N.1 8 = M3.1 8 := fr1 fN 8 rfl
    have m27 : N.1 27 = n + 1 := (fr1 fMM 27 rfl).trans c2
    refine RR_some (Or.inl ⟨rfl, N, rfl, ⟨CX0_f ⟨hX, h64, hD, h99⟩ hLN fKL fMM (by omega) rfl rfl rfl rfl, ⟨?_, by omega, by omega, ?_⟩, ?_, ?_⟩, by omega⟩)
    · show K3.1 225 = N.1 27
      rw [fr1 fKL 225 rfl, m27, c1]
    · show CSn (N.1 27) K3 N
      rw [m27]
      refine CSn_1 (CSn_u c5 (fun s s1 => ?_) (fun s s1 => ?_) (fr1 fMM 26 rfl) (by rw [fr1 fMM 99 rfl]; omega)) ?_
      · rw [fr2 fKL 52 rfl, fr2 fKL 53 rfl, fr2 fKL 54 rfl, k55, upI_n (by omega), fr2 fKL 56 rfl, fr2 fKL 57 rfl, fr2 fKL 58 rfl]
        exact ⟨rfl, rfl, rfl, rfl, rfl, rfl, rfl⟩
      · rw [fr2 fMM 60 rfl, fr2 fMM 61 rfl, fr2 fMM 62 rfl, m63, upI_n (by omega), fr2 fMM 120 rfl, fr2 fMM 121 rfl, fr2 fMM 122 rfl]
        exact ⟨rfl, rfl, rfl, rfl, rfl, rfl, rfl⟩
      · rw [fr2 fKL 52 rfl, fr2 fKL 53 rfl, fr2 fKL 54 rfl, k55, upI_s, fr2 fKL 56 rfl, fr2 fKL 58 rfl, fr2 fMM 60 rfl, fr2 fMM 61 rfl, fr2 fMM 62 rfl, m63, upI_s, fr1 fMM 26 rfl]
        exact ⟨e1.trans e2.symm, e3, e4, rfl, e9, Or.inr (Or.inr ⟨e2, ⟨a0, by omega⟩, e7, e8⟩)⟩
    · show CBd (N.1 27) K3 N
      rw [m27]
      exact CBd_n (CBd_f hB fKL fMM rfl rfl rfl rfl) (by omega)
    · show CAn (N.1 27) N
      rw [m27]
      intro t t0 t1
      rw [m59, m63]
      by_cases e : t = a
      · subst e
        rw [upI_s]
        exact Or.inl ⟨rfl, n, c3, by omega, upI_s⟩
      · rw [upI_n e]
        rw [fr1 fMM 26 rfl] at t1
        rcases hA t t0 t1 with ⟨a1, s, s0, s1, s2⟩ | ⟨a1, a2⟩
        · exact Or.inl ⟨a1, s, s0, by omega, by rw [upI_n (by omega)]; exact s2⟩
        · refine Or.inr ⟨a1, fun s s0 s1 => ?_⟩
          by_cases es : s = n
          · rw [es, upI_s]; exact fun q => e q.symm
          · rw [upI_n es]
            exact a2 s s0 (by omega)
  · rw [if_neg (show ¬ r = -1 by omega), if_neg (show ¬ M2.2 59 a = 0 by omega)]
    refine RR_w (RR_pr (A := fun y : Int × Int × mR => y.1 ≠ 0) (B := FV5) (thr_l (A := fun y => kfl_rd_apply_48 n a y.2.2) (fail_1 _ _ _)) (RP_bnd (wrong_1 (by decide)) (fun z hz => FV5_u (u_rfl_takeControl_124 n a z.2) hz))) (fun _ _ q => Or.inr q)
end CT2
