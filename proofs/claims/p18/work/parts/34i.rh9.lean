/-! ===== a table, the whole of it ===== -/
section TA9
variable {K M : mR} {t : Int}
theorem key0_x {s : Int × mR} (h : LR s.2 M) (hs : s.1 = 0) (hw : M.1 7 ≠ 311) : RP (whl (kfb_rd_table_66 t) s) (fun u => ∃ e : Int × mR, u = Sum.inr e ∧ e.1 ≠ 0) := by
  refine RP_whl (I := fun q : Int × mR => LR q.2 M ∧ q.1 = 0) (fun q hq => ?_) ⟨h, hs⟩
  obtain ⟨h1, h2⟩ := hq
  unfold kfb_rd_table_66 kfl_rd_table_88 kf_rd_keyLine
  rw [if_neg (show ¬ (4 : Int) < q.1 by omega), if_pos h2, if_neg (fun e => hw ((wm_big h1.2.1.2.1 (c := 311) (by omega)).mp (h1.2.1.1.symm.trans e)))]
  unfold kfl_rd_keyLine_33
  exact thr_x (thr_l (exp_x h1 (c := 311) (by omega) hw)) (fun y hy => ⟨_, rfl, hy⟩)
def TV (K M : mR) : Prop := XP K M ∧ M.1 64 = -1 ∧ TBn (M.1 26) K M
theorem clear_k : RP (kf_tb_clear t K) (fun z => fr [] [84] (mO K [] [(72, upI (K.2 72) t 0), (73, upI (K.2 73) t 0), (75, upI (K.2 75) t 1), (76, upI (K.2 76) t 0), (77, upI (K.2 77) t 0), (78, upI (K.2 78) t 0)]) z.2) := by
  unfold kf_tb_clear
  exact RP_bnd (u_kf_Arrays_fill1_b84 t 0 _) (fun z hz => RP_some hz)
theorem table_s (h : TV K M) (hw : M.1 7 = 310) : RR (kf_rd_table K) (rf_takeTable M) (GV (fun _ K2 _ M2 => TV K2 M2 ∧ M.1 8 + 1 ≤ M2.1 8)) := by
  obtain ⟨hX, h64, hT⟩ := h
  unfold kf_rd_table rf_takeTable
  refine RR_sq (G := fun _ K1 _ M1 => LR K1 M1 ∧ fr kF_tx_advance kA_tx_advance K K1 ∧ fr rF_next rA_next M M1 ∧ M.1 8 + 1 ≤ M1.1 8) (A := fun _ => True) (B := fun _ => True) (adv_s hX.1 (by omega)) (RP_T _) (RP_T _) (fun z hz => RP_w (u_rfl_takeTable_4 z.2) (fun w hw => hw.2 hz)) (fun _ K1 _ M1 hG _ _ => ?_)
  obtain ⟨g1, g2, g3, g4⟩ := hG
  have hX1 : XP K1 M1 := XP_f hX g1 g2 g3 rfl rfl rfl rfl
  obtain ⟨⟨c1, c2, c3, c4, c5, c6, c7, c8⟩, r1, r2, r3, r4, r5, r6, r7, r8, hsum⟩ := id hX1.2.1.1
  have a26 : M1.1 26 = M.1 26 := fr1 g3 26 rfl
  unfold rfl_takeTable_4
  dsimp only
  rw [c5, show (310 : Int) = smp 7 from rfl]
  refine RR_sq (A := fun q => fr kF_tx_makeNew kA_tx_makeNew K1 q) (B := fun q => UR rF_newName rA_newName M1 q ∧ (0 < q.1 10 ∨ M1.1 8 + 1 ≤ q.1 8)) (rr_newG g1 (s := 7) (n := M1.1 26) (b := 8) (by omega) (by omega) (by omega)) (u_kf_tx_makeNew _ _ _ K1) (fun z hz => ⟨u_rf_newName _ _ _ M1 z hz, newN_8 g1 z hz⟩) (fun z hz => RP_w (u_rfl_takeTable_16 z.1 z.2) (fun w hw => hw.2 hz)) (fun _ K2 b2 M2 hG fK2 fM2 => ?_)
  obtain ⟨hb2, hlt, hL2, n1, n2, n3⟩ := hG
  have p8 : M1.1 8 + 1 ≤ M2.1 8 := by
    rcases fM2.2 with q | q
    · have := hL2.2.2.2.2
      omega
    · exact q
  have fM2 := fM2.1.1
  unfold rfl_takeTable_16
  dsimp only
  have k219 : K2.1 219 = M1.1 26 := (fr1 fK2 219 rfl).trans c5
  have m26 : M2.1 26 = M1.1 26 := fr1 fM2 26 rfl
  rw [if_neg (by omega), k219, m26, cut_i (by omega) (by omega), show nar1 1 = 1 from rfl, show nar1 0 = 0 from rfl]
  have ea : ∃ a, a = M1.1 26 := ⟨_, rfl⟩
  obtain ⟨a, ea⟩ := ea
  rw [← ea] at n3 ⊢
  intro u w hu hw'
  cases hc : kf_tb_clear a (mO K2 [(219, a + 1)] []) with
  | none => rw [hc] at hu; cases hu
  | some y =>
    rw [hc, bnd_some] at hu
    have cl := clear_k y hc
    obtain ⟨y1, L⟩ := y
    have cl : fr [] [84] (mO (mO K2 [(219, a + 1)] []) [] [(72, upI (K2.2 72) a 0), (73, upI (K2.2 73) a 0), (75, upI (K2.2 75) a 1), (76, upI (K2.2 76) a 0), (77, upI (K2.2 77) a 0), (78, upI (K2.2 78) a 0)]) L := cl
    have fL : fr [219] [72, 73, 75, 76, 77, 78, 84] K2 L := fr_s cl (fr_m (fr_m fr_0 rfl rfl) rfl rfl) rfl rfl
    have l219 : L.1 219 = a + 1 := fr1 cl 219 rfl
    have l72 : L.2 72 = upI (K2.2 72) a 0 := fr2 cl 72 rfl
    have l73 : L.2 73 = upI (K2.2 73) a 0 := fr2 cl 73 rfl
    have l75 : L.2 75 = upI (K2.2 75) a 1 := fr2 cl 75 rfl
    have l76 : L.2 76 = upI (K2.2 76) a 0 := fr2 cl 76 rfl
    have l77 : L.2 77 = upI (K2.2 77) a 0 := fr2 cl 77 rfl
    clear cl hc
    have eM : ∃ N, N = mO M2 [(26, a + 1)] [(51, upI (M2.2 51) a 0), (52, upI (M2.2 52) a 0), (53, upI (M2.2 53) a 0), (58, upI (M2.2 58) a 1), (59, upI (M2.2 59) a 0)] := ⟨_, rfl⟩
    obtain ⟨N, eM⟩ := eM
    rw [← eM] at hw'
    have fN : fr [26] [51, 52, 53, 58, 59] M2 N := by rw [eM]; exact fr_m fr_0 rfl rfl
    have n26 : N.1 26 = a + 1 := by rw [eM]; rfl
    have n51 : N.2 51 = upI (M2.2 51) a 0 := by rw [eM]; rfl
    have n52 : N.2 52 = upI (M2.2 52) a 0 := by rw [eM]; rfl
    have n53 : N.2 53 = upI (M2.2 53) a 0 := by rw [eM]; rfl
    have n58 : N.2 58 = upI (M2.2 58) a 1 := by rw [eM]; rfl
    clear eM
    have hLL : LR L N := LR_g hL2 fL fN rfl rfl rfl rfl ((fr1 fL 213 rfl).trans hL2.2.2.2.1) ((fr1 fN 10 rfl).trans hL2.2.2.2.2)
    have fL1 : fr [203, 205, 206, 207, 208, 209, 210, 211, 212, 219] [6, 7, 8, 9, 72, 73, 75, 76, 77, 78, 84] K1 L := fr_s fL (fr_s fK2 fr_0 rfl rfl) rfl rfl
    have fN1 : fr [7, 8, 9, 10, 11, 12, 13, 26] [14, 15, 16, 17, 51, 52, 53, 58, 59] M1 N := fr_s fN (fr_s fM2 fr_0 rfl rfl) rfl rfl
    have hP1 := hX1.2.1
    have hPL : BP L N := by
      refine ⟨?_, ?_, HD_f fL1 fN1 rfl rfl rfl rfl hP1.2.2.1, HU_f fL1 fN1 rfl rfl rfl rfl hP1.2.2.2.1, IN_f fL1 fN1 rfl rfl rfl rfl hP1.2.2.2.2.1, ME_f fL1 fN1 rfl rfl rfl rfl hP1.2.2.2.2.2.1, PA_f fL1 fN1 rfl rfl rfl rfl hP1.2.2.2.2.2.2⟩
      · unfold CNq CNx
        rw [fr1 fL1 214 rfl, fr1 fL1 215 rfl, fr1 fL1 216 rfl, fr1 fL1 217 rfl, l219, fr1 fL1 221 rfl, fr1 fL1 222 rfl, fr1 fL1 223 rfl, fr1 fN 13 rfl, n1, fr1 fN1 19 rfl, fr1 fN1 20 rfl, fr1 fN1 21 rfl, fr1 fN1 22 rfl, fr1 fN1 23 rfl, fr1 fN1 24 rfl, fr1 fN1 25 rfl, n26]
        exact ⟨⟨c1, c2, c3, c4, rfl, c6, c7, c8⟩, r1, r2, r3, r4, r5, r6, r7, by omega, by omega⟩
      · unfold NC
        rw [fr1 fN 13 rfl, n1, fr2 fN 16 rfl, n2, fr2 fN 17 rfl, n3, fr1 fN1 19 rfl, fr1 fN1 20 rfl, fr1 fN1 21 rfl, fr1 fN1 22 rfl, fr1 fN1 23 rfl, fr1 fN1 25 rfl, n26]
        exact NCx_up hP1.2.1 (by omega) (by omega) (by omega) (by omega) (by omega) (by omega) (by omega) (by omega)
    have h64N : N.1 64 = -1 := (fr1 fN1 64 rfl).trans ((fr1 g3 64 rfl).trans h64)
    have hXL : XP L N := ⟨hLL, hPL, AR_f fL1 fN1 rfl rfl rfl rfl hX1.2.2.1, NDR_f fL1 fN1 rfl rfl rfl rfl hX1.2.2.2.1, by omega, by rw [fr1 fN1 25 rfl]; omega⟩
    have hTXL : TX a L N := by
      refine ⟨hXL, h64N, ⟨by omega, n26.symm⟩, fun b b0 b1 => ?_, ?_⟩
      · rw [fr1 fN1 25 rfl, fr1 g3 25 rfl]
        have ne : b ≠ a := by omega
        have fK : fr [203, 205, 206, 207, 208, 209, 210, 211, 212] [6, 7, 8, 9] K K2 := fr_s fK2 (fr_s g2 fr_0 rfl rfl) rfl rfl
        have fM : fr [7, 8, 9, 10, 11, 12, 13] [14, 15, 16, 17] M M2 := fr_s fM2 (fr_s g3 fr_0 rfl rfl) rfl rfl
        refine TB1_c (hT b b0 (by omega)) (AT_t (AT_f fK fM rfl rfl) ⟨⟨?_, ?_, ?_, ?_, ?_, ?_⟩, fun j j0 j1 => ⟨?_, ?_, ?_, ?_, ?_⟩, ⟨?_, ?_, ?_, ?_, ?_, ?_, ?_, ?_⟩, fun j j0 j1 => ⟨?_, ?_, ?_, ?_⟩, fun j j0 j1 => ?_⟩)
        · rw [l72, upI_n ne]
        · rw [l73, upI_n ne]
        · rw [fr2 fL 74 rfl]
        · rw [l75, upI_n ne]
        · rw [l76, upI_n ne]
        · rw [l77, upI_n ne]
        · rw [fr2 fL 79 rfl]
        · rw [fr2 fL 80 rfl]
        · rw [fr2 fL 81 rfl]
        · rw [fr2 fL 82 rfl]
        · rw [fr2 fL 83 rfl]
        · rw [n51, upI_n ne]
        · rw [n52, upI_n ne]
        · rw [n53, upI_n ne]
        · rw [fr2 fN 54 rfl]
        · rw [fr2 fN 55 rfl]
        · rw [fr2 fN 56 rfl]
        · rw [fr2 fN 57 rfl]
        · rw [n58, upI_n ne]
        · rw [fr2 fN 110 rfl]
        · rw [fr2 fN 111 rfl]
        · rw [fr2 fN 112 rfl]
        · rw [fr2 fN 113 rfl]
        · rw [fr2 fN 114 rfl]
      · unfold TK
        rw [l72, n51, n52, upI_s, upI_s, upI_s]
        exact ⟨rfl, by decide, by decide, fun i i0 i1 => absurd i1 (by omega), rfl⟩
    have hZ : ZZ a L := ⟨by rw [l76, upI_s], by rw [l77, upI_s]⟩
    have L73 : L.2 73 a = 0 := by rw [l73, upI_s]
    have N53 : N.2 53 a = 0 := by rw [n53, upI_s]
    have N51 : N.2 51 a = 0 := by rw [n51, upI_s]
    have n8 : N.1 8 = M2.1 8 := fr1 fN 8 rfl
    refine RR_w (P := GV (TG a (M.1 8 + 1))) ?_ (fun y z hyz => ?_) u w hu hw'
    · refine RR_sq (G := fun _ K3 _ M3 => LR K3 M3 ∧ fr kF_tx_expect kA_tx_expect L K3 ∧ fr rF_need rA_need N M3 ∧ N.1 8 + 1 ≤ M3.1 8) (A := fun _ => True) (B := fun _ => True) (exp_s hLL (c := 123) (by omega)) (RP_T _) (RP_T _) (fun z hz => RP_w (u_rfl_takeTable_76 a z.2) (fun w hw => hw.2 hz)) (fun _ K3 _ M3 hG _ _ => ?_)
      obtain ⟨d1, d2, d3, d4⟩ := hG
      have hT3 : TX a K3 M3 := TX_f hTXL d1 d2 d3 rfl rfl rfl rfl
      have hZ3 : ZZ a K3 := ZZ_f hZ d2 rfl
      have K73 : K3.2 73 a = 0 := by rw [fr2 d2 73 rfl]; exact L73
      have M53 : M3.2 53 a = 0 := by rw [fr2 d3 53 rfl]; exact N53
      have M51 : M3.2 51 a = 0 := by rw [fr2 d3 51 rfl]; exact N51
      unfold rfl_takeTable_76
      dsimp only
      rw [if_pos d1.2.2.2.2]
      by_cases w311 : M3.1 7 = 311
      · rw [if_pos w311]
        intro u w hu hw
        cases hk : whl (kfb_rd_table_66 a) (0, K3) with
        | none => rw [hk] at hu; cases hu
        | some c =>
          cases hq : whl (rfb_takeTable_101 a) (0, 0, M3) with
          | none => rw [hq] at hw; cases hw
          | some e =>
            rw [hk, bnd_some] at hu
            rw [hq, bnd_some] at hw
            have fc := uw_kfb_rd_table_66 a (0, K3) c hk
            have fe := uw_rfb_takeTable_101 a (0, 0, M3) e hq
            rcases keys_s (x := M.1 8 + 1) (s := (0, K3)) (w := (0, 0, M3)) ⟨hT3, M51.symm, ⟨Or.inr ⟨rfl, fun i i0 i1 => absurd (show i < M3.2 51 a from i1) (by omega)⟩, Or.inr ⟨rfl, fun i i0 i1 => absurd (show i < M3.2 51 a from i1) (by omega)⟩⟩, fun _ => w311, by show M.1 8 + 1 ≤ M3.1 8; omega⟩ c e hk hq with ⟨K4, p, q, M4, rfl, rfl, k1, k2, k3, k4⟩ | ⟨⟨d, rfl, hd⟩, he⟩
            · have fc : fr F_kfb_rd_table_66 A_kfb_rd_table_66 K3 K4 := fc
              have fe : fr F_rfb_takeTable_101 A_rfb_takeTable_101 M3 M4 := fe.1
              exact tab100_s k1 (ZZ_f hZ3 fc rfl) (by rw [fr2 fc 73 rfl]; exact K73) (by rw [fr2 fe 53 rfl]; exact M53) k2 k4 u w hu hw
            · refine Or.inr ⟨?_, ?_⟩
              · cases hu
                exact hd
              · cases e with
                | inl m =>
                  cases hw
                  exact he
                | inr m => exact RP_w (u_rfl_takeTable_384 a m.1 m.2.1 m.2.2) (fun w hw => hw.2 he) w hw
      · rw [if_neg w311]
        refine RR_w (RR_pr (A := fun y : Int × Int × mR => y.1 ≠ 0) (B := fun z : Int × mR => 0 < z.2.1 10) ?_ ?_) (fun _ _ q => Or.inr q)
        · refine RP_bnd (key0_x (s := (0, K3)) d1 rfl w311) (fun v hv => ?_)
          obtain ⟨e, rfl, he⟩ := hv
          exact RP_some he
        · refine RP_bnd (bad_1 M3) (fun z hz => RP_bnd (uw_rfb_takeTable_101 a (0, 0, z.2)) (fun v hv => ?_))
          cases v with
          | inl m => exact RP_some (hv.2 hz)
          | inr m => exact RP_w (u_rfl_takeTable_384 a m.1 m.2.1 m.2.2) (fun w hw => hw.2 (hv.2 hz))
    · rcases hyz with ⟨y0, ⟨t1, t2, ⟨t3, t4⟩, t5⟩, t6⟩ | hyz
      · exact Or.inl ⟨y0, ⟨t1, t2, by rw [← t4]; exact t5⟩, t6⟩
      · exact Or.inr hyz
end TA9
