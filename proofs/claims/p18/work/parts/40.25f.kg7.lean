def fF_rd_statement : List Nat := [205, 206, 207, 208, 209, 210, 211, 212, 213, 220, 224, 228, 229, 230, 231]
def fA_rd_statement : List Nat := [18, 19, 20, 21, 22, 23, 24, 45, 46, 47, 48, 49, 50, 51, 68, 69, 70]
def Q_rd_statement (m : mR) (c : Nat → Option am_C) (N : Nat) (a : Int) : ag_Re af_T → Prop := fun R => (∃ (M : mR) (r : Int), KTy M ∧ fr fF_rd_statement fA_rd_statement m M ∧ (0 ≤ r ∧ r ≤ 239) ∧ (NKp (M.2 18) (M.2 19)) ∧ (r = (m.1 224)) ∧ ((M.1 224) = (m.1 224) + 1) ∧ (DEp (M.1 224) (M.2 45) (M.2 46) (M.2 47) (M.2 49)) ∧ R = (.inl (some (.int (i32 r))), (khp M c, N), 0, 0)) ∨ (∃ (x : Nat) (M : mR), (x = 0) ∧ (KTy M) ∧ (fr fF_rd_statement fA_rd_statement m M) ∧ (NKp (M.2 18) (M.2 19)) ∧ R = (.inr x, (khp M c, N), 1, 6))
set_option maxHeartbeats 3000000 in
theorem c_rd_statement (w : wX) (m : mR) (c : Nat → Option am_C) (N D : Nat) (hD : 11 ≤ D) (hT : KTy m) (a : Int) (qa : R32 a) (pKP : KPp (m.1 203) (m.2 8) (m.2 9) (m.1 214) (m.1 215) (m.1 216) (m.1 217) (m.1 221) (m.1 223) (m.1 219)) (hNK : NKp (m.2 18) (m.2 19)) (hDE : DEp (m.1 224) (m.2 45) (m.2 46) (m.2 47) (m.2 49)) (p3 : (m.1 224) ≤ 239) (p4 : (m.1 206) = 256 ∨ 324 ≤ (m.1 206) ∧ (m.1 206) ≤ 328) (p5 : (-1) ≤ a ∧ a ≤ 15) : TC w D 122 [.ref 178, .int (i32 a)] (khp m c, N) (Q_rd_statement m c N a) := by
  obtain ⟨D, rfl⟩ : ∃ k, D = k + 1 := ⟨D - 1, by omega⟩
  obtain ⟨qaa, qab⟩ := id qa
  have f206 : (-1) ≤ m.1 206 ∧ m.1 206 ≤ 65535 := hT.1 206
  have f213 : 0 ≤ m.1 213 ∧ m.1 213 ≤ 1 := hT.1 213
  have f220 : 0 ≤ m.1 220 ∧ m.1 220 ≤ 1090 := hT.1 220
  have f224 : 0 ≤ m.1 224 ∧ m.1 224 ≤ 240 := hT.1 224
  have f203 : 0 ≤ m.1 203 ∧ m.1 203 ≤ 90 := hT.1 203
  have f214 : 0 ≤ m.1 214 ∧ m.1 214 ≤ 12 := hT.1 214
  have f215 : 0 ≤ m.1 215 ∧ m.1 215 ≤ 12 := hT.1 215
  have f216 : 0 ≤ m.1 216 ∧ m.1 216 ≤ 16 := hT.1 216
  have f217 : 0 ≤ m.1 217 ∧ m.1 217 ≤ 8 := hT.1 217
  have f219 : 0 ≤ m.1 219 ∧ m.1 219 ≤ 8 := hT.1 219
  have f221 : 0 ≤ m.1 221 ∧ m.1 221 ≤ 16 := hT.1 221
  have f223 : 0 ≤ m.1 223 ∧ m.1 223 ≤ 16 := hT.1 223
  refine Tc_of rfl ?_
  rw [show (khp m c, N) = (khp (mO m [] []) c, N) from by rw [mO_nil m]]
  show TT w D pm_122 (0, [(0, .ref 178), (1, .int (i32 a))], [], (khp (mO m [] []) c, N), 0, 0) (Q_rd_statement m c N a)
  have J25_2 : ∀ (s1 : Int), (R32 s1) → (s1 = 61 ∨ 324 ≤ s1 ∧ s1 ≤ 328) → TT w D pm_122 (25, [(0, .ref 178), (1, .int (i32 a))], [.int (i32 s1)], (khp (mO m [] []) c, N), 0, 0) (Q_rd_statement m c N a) := by
    intro s1 q4 ic3
    obtain ⟨q4a, q4b⟩ := id q4
    refine T_sto 26 [(2, .int (i32 s1)), (0, .ref 178), (1, .int (i32 a))] rfl (fun _ => rfl) ?_
    refine T_ld 27 (.ref 178) rfl (fun _ => rfl) ?_
    refine K_gf 30 (.ref 45) rfl rfl kd_178 rfl rfl rfl ?_
    refine T_ld 31 (.int (i32 s1)) rfl (fun _ => rfl) ?_
    refine T_callx 34 123 [.ref 45, .int (i32 s1)] [] rfl (fun _ => rfl) rfl rfl (c_ac_addDeed w (mO m [] []) c N D (by omega) hT s1 (r32 (by omega) (by omega)) (show (m.1 224) ≤ 239 by omega) (show 0 ≤ s1 ∧ s1 ≤ 330 by omega)) (fun rr7 k8 => ?_)
    obtain ⟨m9, de, Tm9, Fm9, g10, h11, h12, h13, h14, h15, h16, rfl⟩ := k8
    refine Or.inl ⟨_, _, _, _, rfl, ?_⟩
    refine K_nb (st' := [.int (i32 de)]) rfl ?_
    obtain ⟨g10a, g10b⟩ := g10
    have g17 : 0 ≤ m9.1 224 ∧ m9.1 224 ≤ 240 := Tm9.1 224
    replace h11 : de = (m.1 224) := h11
    replace h12 : (m9.1 224) = (m.1 224) + 1 := h12
    replace h13 : (m9.2 45) = upI (m.2 45) (m.1 224) s1 := h13
    have hDk := h13
    replace h14 : (m9.2 46) = upI (m.2 46) (m.1 224) (-1) := h14
    have hDs := h14
    replace h15 : (m9.2 47) = upI (m.2 47) (m.1 224) (-1) := h15
    have hDa := h15
    replace h16 : (m9.2 49) = upI (m.2 49) (m.1 224) (-1) := h16
    have hDi := h16
    have hK : (m9.2 45) de = s1 := up_at hDk (by omega)
    have hS0 : (m9.2 46) de = -1 := up_at hDs (by omega)
    have hA0 : (m9.2 47) de = -1 := up_at hDa (by omega)
    have hI0 : (m9.2 49) de = -1 := up_at hDi (by omega)
    have hDE : DEp de (m9.2 45) (m9.2 46) (m9.2 47) (m9.2 49) := DE_n (DE_g hDE (by rw [hDk]; exact agr_u (Int.le_refl _)) (by rw [hDs]; exact agr_u (Int.le_refl _)) (by rw [hDa]; exact agr_u (Int.le_refl _)) (by rw [hDi]; exact agr_u (Int.le_refl _))) (by omega)
    refine T_sto 35 [(3, .int (i32 de)), (2, .int (i32 s1)), (0, .ref 178), (1, .int (i32 a))] rfl (fun _ => rfl) ?_
    have J48_19 : ∀ (m18 : mR), KTy m18 → fr [205, 206, 207, 208, 209, 210, 211, 212] [] (mO m9 [] []) m18 → TT w D pm_122 (48, [(0, .ref 178), (1, .int (i32 a)), (2, .int (i32 s1)), (3, .int (i32 de))], [], (khp (mO m18 [] []) c, N), 0, 0) (Q_rd_statement m c N a) := by
      intro m18 Tm18 Fm18
      have q20_206 : (-1) ≤ m18.1 206 ∧ m18.1 206 ≤ 65535 := Tm18.1 206
      have J74_24 : ∀ (m23 : mR), KTy m23 → fr [205, 206, 207, 208, 209, 210, 211, 212] [46] (mO m18 [] []) m23 → (DEp de (m9.2 45) (m23.2 46) (m9.2 47) (m9.2 49)) → (((m9.2 45) de = 61 ∨ (m9.2 45) de = 327) ∧ 0 ≤ (m23.2 46) de ∧ (m23.2 46) de ≤ 219 ∨ (m9.2 45) de ≠ 61 ∧ (m9.2 45) de ≠ 327 ∧ (m23.2 46) de = -1) → TT w D pm_122 (74, [(0, .ref 178), (1, .int (i32 a)), (2, .int (i32 s1)), (3, .int (i32 de))], [], (khp (mO m23 [] []) c, N), 0, 0) (Q_rd_statement m c N a) := by
        intro m23 Tm23 Fm23 ic25 ic26
        have q27_206 : (-1) ≤ m23.1 206 ∧ m23.1 206 ≤ 65535 := Tm23.1 206
        have hDE := ic25
        have hR1 := ic26
        have J89_31 : ∀ (m30 : mR), KTy m30 → fr [205, 206, 207, 208, 209, 210, 211, 212] [] (mO m23 [] []) m30 → TT w D pm_122 (89, [(0, .ref 178), (1, .int (i32 a)), (2, .int (i32 s1)), (3, .int (i32 de))], [], (khp (mO m30 [] []) c, N), 0, 0) (Q_rd_statement m c N a) := by
          intro m30 Tm30 Fm30
          have q32_206 : (-1) ≤ m30.1 206 ∧ m30.1 206 ≤ 65535 := Tm30.1 206
          have J162_36 : ∀ (m35 : mR), KTy m35 → fr [205, 206, 207, 208, 209, 210, 211, 212, 213, 220, 228, 229, 230, 231] [18, 19, 20, 21, 22, 23, 24, 47, 48, 49, 68, 69, 70] (mO m30 [] []) m35 → (DEp de (m9.2 45) (m23.2 46) (m35.2 47) (m35.2 49)) → (((m9.2 45) de = 327 ∨ (m9.2 45) de = 328) ∧ 0 ≤ (m35.2 47) de ∧ 0 ≤ (m35.2 49) de ∨ (m9.2 45) de ≠ 327 ∧ (m9.2 45) de ≠ 328 ∧ (m35.2 47) de = -1) → (NKp (m35.2 18) (m35.2 19)) → TT w D pm_122 (162, [(0, .ref 178), (1, .int (i32 a)), (2, .int (i32 s1)), (3, .int (i32 de))], [], (khp (mO m35 [] []) c, N), 0, 0) (Q_rd_statement m c N a) := by
            intro m35 Tm35 Fm35 ic37 ic38 ic39
            have q40_206 : (-1) ≤ m35.1 206 ∧ m35.1 206 ≤ 65535 := Tm35.1 206
            have q40_213 : 0 ≤ m35.1 213 ∧ m35.1 213 ≤ 1 := Tm35.1 213
            have q40_220 : 0 ≤ m35.1 220 ∧ m35.1 220 ≤ 1090 := Tm35.1 220
            have hDE := ic37
            have hR2 := ic38
            have hNK := ic39
            have J278_44 : ∀ (m43 : mR), KTy m43 → fr [205, 206, 207, 208, 209, 210, 211, 212, 213, 220, 228, 229, 230, 231] [18, 19, 20, 21, 22, 23, 24, 50, 51, 68, 69, 70] (mO m35 [] []) m43 → (NKp (m43.2 18) (m43.2 19)) → TT w D pm_122 (278, [(0, .ref 178), (2, .int (i32 s1)), (3, .int (i32 de))], [], (khp (mO m43 [] []) c, N), 0, 0) (Q_rd_statement m c N a) := by
              intro m43 Tm43 Fm43 ic45
              have q46_206 : (-1) ≤ m43.1 206 ∧ m43.1 206 ≤ 65535 := Tm43.1 206
              have q46_213 : 0 ≤ m43.1 213 ∧ m43.1 213 ≤ 1 := Tm43.1 213
              have q46_220 : 0 ≤ m43.1 220 ∧ m43.1 220 ≤ 1090 := Tm43.1 220
              have hNK := ic45
              have J314_50 : ∀ (m49 : mR), KTy m49 → fr [205, 206, 207, 208, 209, 210, 211, 212] [46] (mO m43 [] []) m49 → (DEp de (m9.2 45) (m49.2 46) (m35.2 47) (m35.2 49)) → (((m9.2 45) de = 324 ∨ (m9.2 45) de = 325) ∧ 0 ≤ (m49.2 46) de ∧ (m49.2 46) de ≤ 187 ∨ ((m9.2 45) de = 61 ∨ (m9.2 45) de = 327) ∧ 0 ≤ (m49.2 46) de ∨ (m9.2 45) de = 326 ∨ (m9.2 45) de = 328) → TT w D pm_122 (314, [(0, .ref 178), (2, .int (i32 s1)), (3, .int (i32 de))], [], (khp (mO m49 [] []) c, N), 0, 0) (Q_rd_statement m c N a) := by
                intro m49 Tm49 Fm49 ic51 ic52
                have q53_206 : (-1) ≤ m49.1 206 ∧ m49.1 206 ≤ 65535 := Tm49.1 206
                have hDE := ic51
                have hR3 := ic52
                have J333_57 : ∀ (m56 : mR), KTy m56 → fr [] [46] (mO m49 [] []) m56 → (DEp de (m9.2 45) (m56.2 46) (m35.2 47) (m35.2 49)) → (((m9.2 45) de = 324 ∨ (m9.2 45) de = 325) ∧ 0 ≤ (m56.2 46) de ∧ (m56.2 46) de ≤ 187 ∨ ((m9.2 45) de = 61 ∨ (m9.2 45) de = 327 ∨ (m9.2 45) de = 326) ∧ 0 ≤ (m56.2 46) de ∨ (m9.2 45) de = 328) → TT w D pm_122 (333, [(0, .ref 178), (3, .int (i32 de))], [], (khp (mO m56 [] []) c, N), 0, 0) (Q_rd_statement m c N a) := by
                  intro m56 Tm56 Fm56 ic58 ic59
                  have hDE := ic58
                  have hR4 := ic59
                  refine T_ld 334 (.ref 178) rfl (fun _ => rfl) ?_
                  refine K_gf 337 (.ref 6) rfl rfl kd_178 rfl rfl rfl ?_
                  refine T_ld 339 (.int (i32 59)) rfl (fun _ => rfl) ?_
                  refine T_callx 342 78 [.ref 6, .int (i32 59)] [] rfl (fun _ => rfl) rfl rfl (c_tx_expect w (mO m56 [] []) c N D (by omega) Tm56 59 ⟨by decide, by decide⟩) (fun rr63 k64 => ?_)
                  rcases k64 with ⟨m65, Tm65, Fm65, h66, h67, rfl⟩ | ⟨xx70, m68, hx69, Tm68, Fm68, rfl⟩
                  rotate_left
                  · skip
                    refine Or.inr ⟨_, _, _, _, rfl, ?_⟩
                    exact Or.inr ⟨xx70, (mO m68 [] []), (hx69), Tm68, (fr_m (fr_s Fm68 (fr_m (fr_s Fm56 (fr_m (fr_s Fm49 (fr_m (fr_s Fm43 (fr_m (fr_s Fm35 (fr_m (fr_s Fm30 (fr_m (fr_s Fm23 (fr_m (fr_s Fm18 (fr_m (fr_s Fm9 (fr_m fr_0 rfl rfl) rfl rfl) rfl rfl) rfl rfl) rfl rfl) rfl rfl) rfl rfl) rfl rfl) rfl rfl) rfl rfl) rfl rfl) rfl rfl) rfl rfl) rfl rfl) rfl rfl) rfl rfl) rfl rfl) rfl rfl) rfl rfl), (show NKp (m68.2 18) (m68.2 19) by rewrite [(show (m68.2 18) = (m43.2 18) from ((fr2 Fm68 18 rfl).trans ((fr2 Fm56 18 rfl).trans (fr2 Fm49 18 rfl)))), (show (m68.2 19) = (m43.2 19) from ((fr2 Fm68 19 rfl).trans ((fr2 Fm56 19 rfl).trans (fr2 Fm49 19 rfl))))]; exact hNK), rfl⟩
                  refine Or.inl ⟨_, _, _, _, rfl, ?_⟩
                  refine K_nb (st' := []) rfl ?_
                  have g71 : (-1) ≤ m65.1 206 ∧ m65.1 206 ≤ 65535 := Tm65.1 206
                  replace h66 : (m56.1 206) = (59 : Int) := h66
                  rewrite [(show (m56.1 206) = (m49.1 206) from (fr1 Fm56 206 rfl))] at h66
                  replace h67 : (m56.1 213) = 0 := h67
                  rewrite [(show (m56.1 213) = (m43.1 213) from ((fr1 Fm56 213 rfl).trans (fr1 Fm49 213 rfl)))] at h67
                  refine T_ld 343 (.int (i32 de)) rfl (fun _ => rfl) ?_
                  refine T_ret rfl (fun _ => rfl) ?_
                  exact Or.inl ⟨(mO m65 [] []), de, Tm65, (fr_m (fr_s Fm65 (fr_m (fr_s Fm56 (fr_m (fr_s Fm49 (fr_m (fr_s Fm43 (fr_m (fr_s Fm35 (fr_m (fr_s Fm30 (fr_m (fr_s Fm23 (fr_m (fr_s Fm18 (fr_m (fr_s Fm9 (fr_m fr_0 rfl rfl) rfl rfl) rfl rfl) rfl rfl) rfl rfl) rfl rfl) rfl rfl) rfl rfl) rfl rfl) rfl rfl) rfl rfl) rfl rfl) rfl rfl) rfl rfl) rfl rfl) rfl rfl) rfl rfl) rfl rfl) rfl rfl), ⟨by omega, by omega⟩, (show NKp (m65.2 18) (m65.2 19) by rewrite [(show (m65.2 18) = (m43.2 18) from ((fr2 Fm65 18 rfl).trans ((fr2 Fm56 18 rfl).trans (fr2 Fm49 18 rfl)))), (show (m65.2 19) = (m43.2 19) from ((fr2 Fm65 19 rfl).trans ((fr2 Fm56 19 rfl).trans (fr2 Fm49 19 rfl))))]; first | (exact hNK) | (exfalso; omega)), (show de = (m.1 224) by omega), (show (m65.1 224) = (m.1 224) + 1 by rewrite [(show (m65.1 224) = (m9.1 224) from ((fr1 Fm65 224 rfl).trans ((fr1 Fm56 224 rfl).trans ((fr1 Fm49 224 rfl).trans ((fr1 Fm43 224 rfl).trans ((fr1 Fm35 224 rfl).trans ((fr1 Fm30 224 rfl).trans ((fr1 Fm23 224 rfl).trans (fr1 Fm18 224 rfl)))))))))]; omega), (show DEp (m65.1 224) (m65.2 45) (m65.2 46) (m65.2 47) (m65.2 49) by rewrite [(show (m65.1 224) = (m9.1 224) from ((fr1 Fm65 224 rfl).trans ((fr1 Fm56 224 rfl).trans ((fr1 Fm49 224 rfl).trans ((fr1 Fm43 224 rfl).trans ((fr1 Fm35 224 rfl).trans ((fr1 Fm30 224 rfl).trans ((fr1 Fm23 224 rfl).trans (fr1 Fm18 224 rfl))))))))), (show (m65.2 45) = (m9.2 45) from ((fr2 Fm65 45 rfl).trans ((fr2 Fm56 45 rfl).trans ((fr2 Fm49 45 rfl).trans ((fr2 Fm43 45 rfl).trans ((fr2 Fm35 45 rfl).trans ((fr2 Fm30 45 rfl).trans ((fr2 Fm23 45 rfl).trans (fr2 Fm18 45 rfl))))))))), (show (m65.2 46) = (m56.2 46) from (fr2 Fm65 46 rfl)), (show (m65.2 47) = (m35.2 47) from ((fr2 Fm65 47 rfl).trans ((fr2 Fm56 47 rfl).trans ((fr2 Fm49 47 rfl).trans (fr2 Fm43 47 rfl))))), (show (m65.2 49) = (m35.2 49) from ((fr2 Fm65 49 rfl).trans ((fr2 Fm56 49 rfl).trans ((fr2 Fm49 49 rfl).trans (fr2 Fm43 49 rfl)))))]; first | (exact DE_new hDE (by omega) (RW_i rfl hR2 hR4)) | (exfalso; omega)), rfl⟩
                refine T_ld 315 (.int (i32 s1)) rfl (fun _ => rfl) ?_
                refine T_ld 318 (.int (i32 326)) rfl (fun _ => rfl) ?_
                refine T_icmp 333 321 rfl rfl rfl (r32 (by omega) (by omega)) ⟨by decide, by decide⟩ (fun (h72 : s1 ≠ 326) => ?_) (fun (h72 : ¬ (s1 ≠ 326)) => ?_)
                · skip
                  refine Tm_lv (a := [(0, .ref 178), (3, .int (i32 de))]) rfl rfl ⟨rfl, rfl, trivial⟩ ?_
                  exact J333_57 (mO m49 [] []) Tm49 (fr_m fr_0 rfl rfl) (show DEp de (m9.2 45) (m49.2 46) (m35.2 47) (m35.2 49) by first | exact hDE | exact DE_g hDE (agr_r _ _) (agr_u (by omega)) (agr_r _ _) (agr_r _ _) | exact DE_g hDE (agr_r _ _) (agr_r _ _) hAp (agr_u (by omega))) (show ((m9.2 45) de = 324 ∨ (m9.2 45) de = 325) ∧ 0 ≤ (m49.2 46) de ∧ (m49.2 46) de ≤ 187 ∨ ((m9.2 45) de = 61 ∨ (m9.2 45) de = 327 ∨ (m9.2 45) de = 326) ∧ 0 ≤ (m49.2 46) de ∨ (m9.2 45) de = 328 by first | omega | (rw [upI_s]; omega))
                · skip
                  refine T_ld 322 (.ref 178) rfl (fun _ => rfl) ?_
                  refine K_gf 325 (.ref 45) rfl rfl kd_178 rfl rfl rfl ?_
                  refine K_gf 328 (.ref 53) rfl rfl kd_45 rfl rfl rfl ?_
                  refine T_ld 329 (.int (i32 de)) rfl (fun _ => rfl) ?_
                  refine T_ld 332 (.int (i32 220)) rfl (fun _ => rfl) ?_
                  have G73 : ∀ j, (-1) ≤ (upI (m49.2 46) de 220) j ∧ (upI (m49.2 46) de 220) j ≤ 220 := upI_rg (Tm49.2.1 46) ⟨by omega, by omega⟩
                  refine K_iast (a' := [(46, upI (m49.2 46) de 220)]) 333 46 (m49.2 46) rfl rfl rfl (by omega) (show de < (240 : Int) by omega) rfl rfl ?_
                  refine Tm_lv (a := [(0, .ref 178), (3, .int (i32 de))]) rfl rfl ⟨rfl, rfl, trivial⟩ ?_
                  exact J333_57 (mO m49 [] [(46, upI (m49.2 46) de 220)]) (KTy_mO Tm49 rfl rfl trivial ⟨G73, trivial⟩) (fr_m fr_0 rfl rfl) (show DEp de (m9.2 45) (upI (m49.2 46) de 220) (m35.2 47) (m35.2 49) by first | exact hDE | exact DE_g hDE (agr_r _ _) (agr_u (by omega)) (agr_r _ _) (agr_r _ _) | exact DE_g hDE (agr_r _ _) (agr_r _ _) hAp (agr_u (by omega))) (show ((m9.2 45) de = 324 ∨ (m9.2 45) de = 325) ∧ 0 ≤ (upI (m49.2 46) de 220) de ∧ (upI (m49.2 46) de 220) de ≤ 187 ∨ ((m9.2 45) de = 61 ∨ (m9.2 45) de = 327 ∨ (m9.2 45) de = 326) ∧ 0 ≤ (upI (m49.2 46) de 220) de ∨ (m9.2 45) de = 328 by first | omega | (rw [upI_s]; omega))
              refine T_ld 279 (.int (i32 s1)) rfl (fun _ => rfl) ?_
              refine T_ld 282 (.int (i32 324)) rfl (fun _ => rfl) ?_
              refine T_icmp 292 285 rfl rfl rfl (r32 (by omega) (by omega)) ⟨by decide, by decide⟩ (fun (h74 : s1 = 324) => ?_) (fun (h74 : ¬ (s1 = 324)) => ?_)
              · skip
                refine T_ld 293 (.ref 178) rfl (fun _ => rfl) ?_
                refine K_gf 296 (.ref 45) rfl rfl kd_178 rfl rfl rfl ?_
                refine K_gf 299 (.ref 53) rfl rfl kd_45 rfl rfl rfl ?_
                refine T_ld 300 (.int (i32 de)) rfl (fun _ => rfl) ?_
                refine T_ld 301 (.ref 178) rfl (fun _ => rfl) ?_
                refine K_gf 304 (.ref 6) rfl rfl kd_178 rfl rfl rfl ?_
                refine T_ld 307 (.int (i32 301)) rfl (fun _ => rfl) ?_
                refine T_callx 310 83 [.ref 6, .int (i32 301)] [.int (i32 de), .ref 53] rfl (fun _ => rfl) rfl rfl (c_tx_known w (mO m43 [] []) c N D (by omega) Tm43 301 ⟨by decide, by decide⟩) (fun rr75 k76 => ?_)
                rcases k76 with ⟨m77, kn, Tm77, Fm77, g78, h79, h80, h81, rfl⟩ | ⟨xx84, m82, hx83, Tm82, Fm82, rfl⟩
                rotate_left
                · skip
                  refine Or.inr ⟨_, _, _, _, rfl, ?_⟩
                  exact Or.inr ⟨xx84, (mO m82 [] []), (hx83), Tm82, (fr_m (fr_s Fm82 (fr_m (fr_s Fm43 (fr_m (fr_s Fm35 (fr_m (fr_s Fm30 (fr_m (fr_s Fm23 (fr_m (fr_s Fm18 (fr_m (fr_s Fm9 (fr_m fr_0 rfl rfl) rfl rfl) rfl rfl) rfl rfl) rfl rfl) rfl rfl) rfl rfl) rfl rfl) rfl rfl) rfl rfl) rfl rfl) rfl rfl) rfl rfl) rfl rfl) rfl rfl), (show NKp (m82.2 18) (m82.2 19) by rewrite [(show (m82.2 18) = (m43.2 18) from (fr2 Fm82 18 rfl)), (show (m82.2 19) = (m43.2 19) from (fr2 Fm82 19 rfl))]; exact hNK), rfl⟩
                refine Or.inl ⟨_, _, _, _, rfl, ?_⟩
                refine K_nb (st' := [.int (i32 kn), .int (i32 de), .ref 53]) rfl ?_
                obtain ⟨g78a, g78b⟩ := g78
                have g85 : (-1) ≤ m77.1 206 ∧ m77.1 206 ≤ 65535 := Tm77.1 206
                replace h79 : KNo (m43.1 203) (m43.2 8) (m43.2 9) (301 : Int) kn := h79
                rewrite [(show (m43.1 203) = (m.1 203) from ((fr1 Fm43 203 rfl).trans ((fr1 Fm35 203 rfl).trans ((fr1 Fm30 203 rfl).trans ((fr1 Fm23 203 rfl).trans ((fr1 Fm18 203 rfl).trans (fr1 Fm9 203 rfl))))))), (show (m43.2 8) = (m.2 8) from ((fr2 Fm43 8 rfl).trans ((fr2 Fm35 8 rfl).trans ((fr2 Fm30 8 rfl).trans ((fr2 Fm23 8 rfl).trans ((fr2 Fm18 8 rfl).trans (fr2 Fm9 8 rfl))))))), (show (m43.2 9) = (m.2 9) from ((fr2 Fm43 9 rfl).trans ((fr2 Fm35 9 rfl).trans ((fr2 Fm30 9 rfl).trans ((fr2 Fm23 9 rfl).trans ((fr2 Fm18 9 rfl).trans (fr2 Fm9 9 rfl)))))))] at h79
                have hKn := h79
                replace h80 : (m43.1 213) = 0 := h80
                replace h81 : (m43.1 206) = 256 := h81
                have hkn := KNo_w pKP hKn
                refine T_ld 312 (.int (i32 17)) rfl (fun _ => rfl) ?_
                refine T_imul 313 rfl rfl ?_
                have G86 : ∀ j, (-1) ≤ (upI (m23.2 46) de (kn * 17)) j ∧ (upI (m23.2 46) de (kn * 17)) j ≤ 220 := upI_rg (Tm23.2.1 46) ⟨by omega, by omega⟩
                refine K_iast (a' := [(46, upI (m23.2 46) de (kn * 17))]) 314 46 (m23.2 46) rfl rfl rfl (by omega) (show de < (240 : Int) by omega) (show (m77.2 46) = (m23.2 46) from ((fr2 Fm77 46 rfl).trans ((fr2 Fm43 46 rfl).trans ((fr2 Fm35 46 rfl).trans (fr2 Fm30 46 rfl))))) rfl ?_
                exact J314_50 (mO m77 [] [(46, upI (m23.2 46) de (kn * 17))]) (KTy_mO Tm77 rfl rfl trivial ⟨G86, trivial⟩) (fr_m (fr_s Fm77 (fr_m fr_0 rfl rfl) rfl rfl) rfl rfl) (show DEp de (m9.2 45) (upI (m23.2 46) de (kn * 17)) (m35.2 47) (m35.2 49) by first | exact hDE | exact DE_g hDE (agr_r _ _) (agr_u (by omega)) (agr_r _ _) (agr_r _ _) | exact DE_g hDE (agr_r _ _) (agr_r _ _) hAp (agr_u (by omega))) (show ((m9.2 45) de = 324 ∨ (m9.2 45) de = 325) ∧ 0 ≤ (upI (m23.2 46) de (kn * 17)) de ∧ (upI (m23.2 46) de (kn * 17)) de ≤ 187 ∨ ((m9.2 45) de = 61 ∨ (m9.2 45) de = 327) ∧ 0 ≤ (upI (m23.2 46) de (kn * 17)) de ∨ (m9.2 45) de = 326 ∨ (m9.2 45) de = 328 by first | omega | (rw [upI_s]; omega))
              · skip
                refine T_ld 286 (.int (i32 s1)) rfl (fun _ => rfl) ?_
                refine T_ld 289 (.int (i32 325)) rfl (fun _ => rfl) ?_
                refine T_icmp 314 292 rfl rfl rfl (r32 (by omega) (by omega)) ⟨by decide, by decide⟩ (fun (h87 : s1 ≠ 325) => ?_) (fun (h87 : ¬ (s1 ≠ 325)) => ?_)
                · skip
                  exact J314_50 (mO m43 [] []) Tm43 (fr_m fr_0 rfl rfl) (show DEp de (m9.2 45) (m43.2 46) (m35.2 47) (m35.2 49) by rewrite [(show (m43.2 46) = (m23.2 46) from ((fr2 Fm43 46 rfl).trans ((fr2 Fm35 46 rfl).trans (fr2 Fm30 46 rfl))))]; first | exact hDE | exact DE_g hDE (agr_r _ _) (agr_u (by omega)) (agr_r _ _) (agr_r _ _) | exact DE_g hDE (agr_r _ _) (agr_r _ _) hAp (agr_u (by omega))) (show ((m9.2 45) de = 324 ∨ (m9.2 45) de = 325) ∧ 0 ≤ (m43.2 46) de ∧ (m43.2 46) de ≤ 187 ∨ ((m9.2 45) de = 61 ∨ (m9.2 45) de = 327) ∧ 0 ≤ (m43.2 46) de ∨ (m9.2 45) de = 326 ∨ (m9.2 45) de = 328 by rewrite [(show (m43.2 46) = (m23.2 46) from ((fr2 Fm43 46 rfl).trans ((fr2 Fm35 46 rfl).trans (fr2 Fm30 46 rfl))))]; first | omega | (rw [upI_s]; omega))
                · skip
                  refine T_ld 293 (.ref 178) rfl (fun _ => rfl) ?_
                  refine K_gf 296 (.ref 45) rfl rfl kd_178 rfl rfl rfl ?_
                  refine K_gf 299 (.ref 53) rfl rfl kd_45 rfl rfl rfl ?_
                  refine T_ld 300 (.int (i32 de)) rfl (fun _ => rfl) ?_
                  refine T_ld 301 (.ref 178) rfl (fun _ => rfl) ?_
                  refine K_gf 304 (.ref 6) rfl rfl kd_178 rfl rfl rfl ?_
                  refine T_ld 307 (.int (i32 301)) rfl (fun _ => rfl) ?_
                  refine T_callx 310 83 [.ref 6, .int (i32 301)] [.int (i32 de), .ref 53] rfl (fun _ => rfl) rfl rfl (c_tx_known w (mO m43 [] []) c N D (by omega) Tm43 301 ⟨by decide, by decide⟩) (fun rr88 k89 => ?_)
                  rcases k89 with ⟨m90, kn, Tm90, Fm90, g91, h92, h93, h94, rfl⟩ | ⟨xx97, m95, hx96, Tm95, Fm95, rfl⟩
                  rotate_left
                  · skip
                    refine Or.inr ⟨_, _, _, _, rfl, ?_⟩
                    exact Or.inr ⟨xx97, (mO m95 [] []), (hx96), Tm95, (fr_m (fr_s Fm95 (fr_m (fr_s Fm43 (fr_m (fr_s Fm35 (fr_m (fr_s Fm30 (fr_m (fr_s Fm23 (fr_m (fr_s Fm18 (fr_m (fr_s Fm9 (fr_m fr_0 rfl rfl) rfl rfl) rfl rfl) rfl rfl) rfl rfl) rfl rfl) rfl rfl) rfl rfl) rfl rfl) rfl rfl) rfl rfl) rfl rfl) rfl rfl) rfl rfl) rfl rfl), (show NKp (m95.2 18) (m95.2 19) by rewrite [(show (m95.2 18) = (m43.2 18) from (fr2 Fm95 18 rfl)), (show (m95.2 19) = (m43.2 19) from (fr2 Fm95 19 rfl))]; exact hNK), rfl⟩
                  refine Or.inl ⟨_, _, _, _, rfl, ?_⟩
                  refine K_nb (st' := [.int (i32 kn), .int (i32 de), .ref 53]) rfl ?_
                  obtain ⟨g91a, g91b⟩ := g91
                  have g98 : (-1) ≤ m90.1 206 ∧ m90.1 206 ≤ 65535 := Tm90.1 206
                  replace h92 : KNo (m43.1 203) (m43.2 8) (m43.2 9) (301 : Int) kn := h92
                  rewrite [(show (m43.1 203) = (m.1 203) from ((fr1 Fm43 203 rfl).trans ((fr1 Fm35 203 rfl).trans ((fr1 Fm30 203 rfl).trans ((fr1 Fm23 203 rfl).trans ((fr1 Fm18 203 rfl).trans (fr1 Fm9 203 rfl))))))), (show (m43.2 8) = (m.2 8) from ((fr2 Fm43 8 rfl).trans ((fr2 Fm35 8 rfl).trans ((fr2 Fm30 8 rfl).trans ((fr2 Fm23 8 rfl).trans ((fr2 Fm18 8 rfl).trans (fr2 Fm9 8 rfl))))))), (show (m43.2 9) = (m.2 9) from ((fr2 Fm43 9 rfl).trans ((fr2 Fm35 9 rfl).trans ((fr2 Fm30 9 rfl).trans ((fr2 Fm23 9 rfl).trans ((fr2 Fm18 9 rfl).trans (fr2 Fm9 9 rfl)))))))] at h92
                  have hKn := h92
                  replace h93 : (m43.1 213) = 0 := h93
                  replace h94 : (m43.1 206) = 256 := h94
                  have hkn := KNo_w pKP hKn
                  refine T_ld 312 (.int (i32 17)) rfl (fun _ => rfl) ?_
                  refine T_imul 313 rfl rfl ?_
                  have G99 : ∀ j, (-1) ≤ (upI (m23.2 46) de (kn * 17)) j ∧ (upI (m23.2 46) de (kn * 17)) j ≤ 220 := upI_rg (Tm23.2.1 46) ⟨by omega, by omega⟩
                  refine K_iast (a' := [(46, upI (m23.2 46) de (kn * 17))]) 314 46 (m23.2 46) rfl rfl rfl (by omega) (show de < (240 : Int) by omega) (show (m90.2 46) = (m23.2 46) from ((fr2 Fm90 46 rfl).trans ((fr2 Fm43 46 rfl).trans ((fr2 Fm35 46 rfl).trans (fr2 Fm30 46 rfl))))) rfl ?_
                  exact J314_50 (mO m90 [] [(46, upI (m23.2 46) de (kn * 17))]) (KTy_mO Tm90 rfl rfl trivial ⟨G99, trivial⟩) (fr_m (fr_s Fm90 (fr_m fr_0 rfl rfl) rfl rfl) rfl rfl) (show DEp de (m9.2 45) (upI (m23.2 46) de (kn * 17)) (m35.2 47) (m35.2 49) by first | exact hDE | exact DE_g hDE (agr_r _ _) (agr_u (by omega)) (agr_r _ _) (agr_r _ _) | exact DE_g hDE (agr_r _ _) (agr_r _ _) hAp (agr_u (by omega))) (show ((m9.2 45) de = 324 ∨ (m9.2 45) de = 325) ∧ 0 ≤ (upI (m23.2 46) de (kn * 17)) de ∧ (upI (m23.2 46) de (kn * 17)) de ≤ 187 ∨ ((m9.2 45) de = 61 ∨ (m9.2 45) de = 327) ∧ 0 ≤ (upI (m23.2 46) de (kn * 17)) de ∨ (m9.2 45) de = 326 ∨ (m9.2 45) de = 328 by first | omega | (rw [upI_s]; omega))
            refine T_ld 163 (.int (i32 s1)) rfl (fun _ => rfl) ?_
            refine T_ld 165 (.int (i32 61)) rfl (fun _ => rfl) ?_
            refine T_icmp 175 168 rfl rfl rfl (r32 (by omega) (by omega)) ⟨by decide, by decide⟩ (fun (h100 : s1 = 61) => ?_) (fun (h100 : ¬ (s1 = 61)) => ?_)
            · skip
              refine T_ld 176 (.ref 178) rfl (fun _ => rfl) ?_
              refine K_gf 179 (.ref 45) rfl rfl kd_178 rfl rfl rfl ?_
              refine K_gf 182 (.ref 54) rfl rfl kd_45 rfl rfl rfl ?_
              refine T_ld 183 (.int (i32 de)) rfl (fun _ => rfl) ?_
              refine K_iald 184 47 (m35.2 47) rfl rfl rfl (by omega) (show de < (240 : Int) by omega) rfl ?_
              have e101 : (-1) ≤ (m35.2 47) de ∧ (m35.2 47) de ≤ 7 := (Tm35.2.1 47) de
              refine T_sto 186 [(4, .int (i32 ((m35.2 47) de))), (0, .ref 178), (1, .int (i32 a)), (2, .int (i32 s1)), (3, .int (i32 de))] rfl (fun _ => rfl) ?_
              refine T_ld 187 (.int (i32 s1)) rfl (fun _ => rfl) ?_
              refine T_ld 190 (.int (i32 328)) rfl (fun _ => rfl) ?_
              refine T_icmp 206 193 rfl rfl rfl (r32 (by omega) (by omega)) ⟨by decide, by decide⟩ (fun (h102 : s1 ≠ 328) => ?_) (fun (h102 : ¬ (s1 ≠ 328)) => by exfalso; omega)
              refine T_ld 207 (.ref 178) rfl (fun _ => rfl) ?_
              refine K_gf 210 (.ref 12) rfl rfl kd_178 rfl rfl rfl ?_
              refine T_ld 211 (.ref 178) rfl (fun _ => rfl) ?_
              refine K_gf 214 (.ref 45) rfl rfl kd_178 rfl rfl rfl ?_
              refine K_gf 217 (.ref 53) rfl rfl kd_45 rfl rfl rfl ?_
              refine T_ld 218 (.int (i32 de)) rfl (fun _ => rfl) ?_
              refine K_iald 219 46 (m23.2 46) rfl rfl rfl (by omega) (show de < (240 : Int) by omega) (show (m35.2 46) = (m23.2 46) from ((fr2 Fm35 46 rfl).trans (fr2 Fm30 46 rfl))) ?_
              have e103 : (-1) ≤ (m23.2 46) de ∧ (m23.2 46) de ≤ 220 := (Tm23.2.1 46) de
              refine T_callx 222 100 [.ref 12, .int (i32 ((m23.2 46) de))] [] rfl (fun _ => rfl) rfl rfl (c_pr_slotWidth w (mO m35 [] []) c N D (by omega) Tm35 ((m23.2 46) de) (r32 (by omega) (by omega)) (show 0 ≤ ((m23.2 46) de) ∧ ((m23.2 46) de) ≤ 219 by omega)) (fun rr104 k105 => ?_)
              obtain ⟨x106, g107, rfl⟩ := k105
              refine Or.inl ⟨_, _, _, _, rfl, ?_⟩
              refine T_ns (st' := [.int (i32 x106)]) rfl ?_
              obtain ⟨g107a, g107b⟩ := g107
              refine T_sto 224 [(5, .int (i32 x106)), (4, .int (i32 ((m35.2 47) de))), (0, .ref 178), (1, .int (i32 a)), (2, .int (i32 s1)), (3, .int (i32 de))] rfl (fun _ => rfl) ?_
              refine T_ld 225 (.ref 178) rfl (fun _ => rfl) ?_
              refine K_gf 228 (.ref 45) rfl rfl kd_178 rfl rfl rfl ?_
              refine K_gf 231 (.ref 57) rfl rfl kd_45 rfl rfl rfl ?_
              refine T_ld 232 (.int (i32 de)) rfl (fun _ => rfl) ?_
              refine T_ld 233 (.ref 178) rfl (fun _ => rfl) ?_
              refine K_gf 236 (.ref 12) rfl rfl kd_178 rfl rfl rfl ?_
              refine K_gf 239 (.ref 22) rfl rfl kd_12 rfl rfl rfl ?_
              refine K_gf 242 (.int (i32 (m35.1 220))) rfl rfl kd_22 rfl rfl rfl ?_
              have G108 : ∀ j, 0 ≤ (upI (m.2 50) de (m35.1 220)) j ∧ (upI (m.2 50) de (m35.1 220)) j ≤ 1090 := upI_rg (hT.2.1 50) ⟨by omega, by omega⟩
              refine K_iast (a' := [(50, upI (m.2 50) de (m35.1 220))]) 243 50 (m.2 50) rfl rfl rfl (by omega) (show de < (240 : Int) by omega) (show (m35.2 50) = (m.2 50) from ((fr2 Fm35 50 rfl).trans ((fr2 Fm30 50 rfl).trans ((fr2 Fm23 50 rfl).trans ((fr2 Fm18 50 rfl).trans (fr2 Fm9 50 rfl)))))) rfl ?_
              refine T_ld 244 (.ref 178) rfl (fun _ => rfl) ?_
              refine K_gf 247 (.ref 45) rfl rfl kd_178 rfl rfl rfl ?_
              refine K_gf 250 (.ref 58) rfl rfl kd_45 rfl rfl rfl ?_
              refine T_ld 251 (.int (i32 de)) rfl (fun _ => rfl) ?_
              refine T_ld 252 (.ref 178) rfl (fun _ => rfl) ?_
              refine K_gf 255 (.ref 181) rfl rfl kd_178 rfl rfl rfl ?_
              refine T_ld 256 (.int (i32 a)) rfl (fun _ => rfl) ?_
              refine T_callx 259 92 [.ref 181, .int (i32 a)] [.int (i32 de), .ref 58] rfl (fun _ => rfl) rfl rfl (c_fm_whole w (mO m35 [] [(50, upI (m.2 50) de (m35.1 220))]) c N D (by omega) (KTy_mO Tm35 rfl rfl trivial ⟨G108, trivial⟩) a (r32 (by omega) (by omega)) (show NKp (m35.2 18) (m35.2 19) by exact hNK) (show KPp (m35.1 203) (m35.2 8) (m35.2 9) (m35.1 214) (m35.1 215) (m35.1 216) (m35.1 217) (m35.1 221) (m35.1 223) (m35.1 219) by rewrite [(show (m35.1 203) = (m.1 203) from ((fr1 Fm35 203 rfl).trans ((fr1 Fm30 203 rfl).trans ((fr1 Fm23 203 rfl).trans ((fr1 Fm18 203 rfl).trans (fr1 Fm9 203 rfl)))))), (show (m35.2 8) = (m.2 8) from ((fr2 Fm35 8 rfl).trans ((fr2 Fm30 8 rfl).trans ((fr2 Fm23 8 rfl).trans ((fr2 Fm18 8 rfl).trans (fr2 Fm9 8 rfl)))))), (show (m35.2 9) = (m.2 9) from ((fr2 Fm35 9 rfl).trans ((fr2 Fm30 9 rfl).trans ((fr2 Fm23 9 rfl).trans ((fr2 Fm18 9 rfl).trans (fr2 Fm9 9 rfl)))))), (show (m35.1 214) = (m.1 214) from ((fr1 Fm35 214 rfl).trans ((fr1 Fm30 214 rfl).trans ((fr1 Fm23 214 rfl).trans ((fr1 Fm18 214 rfl).trans (fr1 Fm9 214 rfl)))))), (show (m35.1 215) = (m.1 215) from ((fr1 Fm35 215 rfl).trans ((fr1 Fm30 215 rfl).trans ((fr1 Fm23 215 rfl).trans ((fr1 Fm18 215 rfl).trans (fr1 Fm9 215 rfl)))))), (show (m35.1 216) = (m.1 216) from ((fr1 Fm35 216 rfl).trans ((fr1 Fm30 216 rfl).trans ((fr1 Fm23 216 rfl).trans ((fr1 Fm18 216 rfl).trans (fr1 Fm9 216 rfl)))))), (show (m35.1 217) = (m.1 217) from ((fr1 Fm35 217 rfl).trans ((fr1 Fm30 217 rfl).trans ((fr1 Fm23 217 rfl).trans ((fr1 Fm18 217 rfl).trans (fr1 Fm9 217 rfl)))))), (show (m35.1 221) = (m.1 221) from ((fr1 Fm35 221 rfl).trans ((fr1 Fm30 221 rfl).trans ((fr1 Fm23 221 rfl).trans ((fr1 Fm18 221 rfl).trans (fr1 Fm9 221 rfl)))))), (show (m35.1 223) = (m.1 223) from ((fr1 Fm35 223 rfl).trans ((fr1 Fm30 223 rfl).trans ((fr1 Fm23 223 rfl).trans ((fr1 Fm18 223 rfl).trans (fr1 Fm9 223 rfl)))))), (show (m35.1 219) = (m.1 219) from ((fr1 Fm35 219 rfl).trans ((fr1 Fm30 219 rfl).trans ((fr1 Fm23 219 rfl).trans ((fr1 Fm18 219 rfl).trans (fr1 Fm9 219 rfl))))))]; exact pKP) (show (-1) ≤ a ∧ a ≤ 15 by omega)) (fun rr109 k110 => ?_)
              rcases k110 with ⟨m111, ro, Tm111, Fm111, g112, h113, rfl⟩ | ⟨xx117, m114, hx115, Tm114, Fm114, h116, rfl⟩
              rotate_left
              · skip
                refine Or.inr ⟨_, _, _, _, rfl, ?_⟩
                have hNK := h116
                exact Or.inr ⟨xx117, (mO m114 [] []), (hx115), Tm114, (fr_m (fr_s Fm114 (fr_m (fr_s Fm35 (fr_m (fr_s Fm30 (fr_m (fr_s Fm23 (fr_m (fr_s Fm18 (fr_m (fr_s Fm9 (fr_m fr_0 rfl rfl) rfl rfl) rfl rfl) rfl rfl) rfl rfl) rfl rfl) rfl rfl) rfl rfl) rfl rfl) rfl rfl) rfl rfl) rfl rfl) rfl rfl), (show NKp (m114.2 18) (m114.2 19) by exact hNK), rfl⟩
              refine Or.inl ⟨_, _, _, _, rfl, ?_⟩
              refine K_nb (st' := [.int (i32 ro), .int (i32 de), .ref 58]) rfl ?_
              obtain ⟨g112a, g112b⟩ := g112
              have g118 : (-1) ≤ m111.1 206 ∧ m111.1 206 ≤ 65535 := Tm111.1 206
              have g119 : 0 ≤ m111.1 213 ∧ m111.1 213 ≤ 1 := Tm111.1 213
              have g120 : 0 ≤ m111.1 220 ∧ m111.1 220 ≤ 1090 := Tm111.1 220
              replace h113 : NKp (m111.2 18) (m111.2 19) := h113
              have hNK := h113
              have G121 : ∀ j, (-1) ≤ (upI (m9.2 51) de ro) j ∧ (upI (m9.2 51) de ro) j ≤ 1089 := upI_rg (Tm9.2.1 51) ⟨by omega, by omega⟩
              refine K_iast (a' := [(51, upI (m9.2 51) de ro)]) 260 51 (m9.2 51) rfl rfl rfl (by omega) (show de < (240 : Int) by omega) (show (m111.2 51) = (m9.2 51) from ((fr2 Fm111 51 rfl).trans ((fr2 Fm35 51 rfl).trans ((fr2 Fm30 51 rfl).trans ((fr2 Fm23 51 rfl).trans (fr2 Fm18 51 rfl)))))) rfl ?_
              refine T_ld 261 (.ref 178) rfl (fun _ => rfl) ?_
              refine K_gf 264 (.ref 181) rfl rfl kd_178 rfl rfl rfl ?_
              refine T_ld 265 (.ref 178) rfl (fun _ => rfl) ?_
              refine K_gf 268 (.ref 45) rfl rfl kd_178 rfl rfl rfl ?_
              refine K_gf 271 (.ref 58) rfl rfl kd_45 rfl rfl rfl ?_
              refine T_ld 272 (.int (i32 de)) rfl (fun _ => rfl) ?_
              refine K_iald 273 51 (upI (m9.2 51) de ro) rfl rfl rfl (by omega) (show de < (240 : Int) by omega) rfl ?_
              refine T_cast ro upI_s ?_
              refine T_ld 275 (.int (i32 x106)) rfl (fun _ => rfl) ?_
              refine T_callx 278 126 [.ref 181, .int (i32 ro), .int (i32 x106)] [] rfl (fun _ => rfl) rfl rfl (c_fm_mustFit w (mO m111 [] [(51, upI (m9.2 51) de ro)]) c N D (by omega) (KTy_mO Tm111 rfl rfl trivial ⟨G121, trivial⟩) ro x106 (r32 (by omega) (by omega)) (r32 (by omega) (by omega)) (show 0 ≤ ro ∧ ro ≤ 1089 by omega) (show 0 ≤ x106 ∧ x106 ≤ 64 by omega)) (fun rr122 k123 => ?_)
              rcases k123 with ⟨m124, Tm124, Fm124, rfl⟩ | ⟨xx127, m125, hx126, Tm125, Fm125, rfl⟩
              rotate_left
              · skip
                refine Or.inr ⟨_, _, _, _, rfl, ?_⟩
                exact Or.inr ⟨xx127, (mO m125 [] []), (hx126), Tm125, (fr_m (fr_s Fm125 (fr_m (fr_s Fm111 (fr_m (fr_s Fm35 (fr_m (fr_s Fm30 (fr_m (fr_s Fm23 (fr_m (fr_s Fm18 (fr_m (fr_s Fm9 (fr_m fr_0 rfl rfl) rfl rfl) rfl rfl) rfl rfl) rfl rfl) rfl rfl) rfl rfl) rfl rfl) rfl rfl) rfl rfl) rfl rfl) rfl rfl) rfl rfl) rfl rfl) rfl rfl), (show NKp (m125.2 18) (m125.2 19) by rewrite [(show (m125.2 18) = (m111.2 18) from (fr2 Fm125 18 rfl)), (show (m125.2 19) = (m111.2 19) from (fr2 Fm125 19 rfl))]; exact hNK), rfl⟩
              refine Or.inl ⟨_, _, _, _, rfl, ?_⟩
              refine K_nb (st' := []) rfl ?_
              refine Tm_lv (a := [(0, .ref 178), (2, .int (i32 s1)), (3, .int (i32 de))]) rfl rfl ⟨rfl, rfl, rfl, trivial⟩ ?_
              exact J278_44 (mO m124 [] []) Tm124 (fr_m (fr_s Fm124 (fr_m (fr_s Fm111 (fr_m fr_0 rfl rfl) rfl rfl) rfl rfl) rfl rfl) rfl rfl) (show NKp (m124.2 18) (m124.2 19) by rewrite [(show (m124.2 18) = (m111.2 18) from (fr2 Fm124 18 rfl)), (show (m124.2 19) = (m111.2 19) from (fr2 Fm124 19 rfl))]; exact hNK)
            · skip
              refine T_ld 169 (.int (i32 s1)) rfl (fun _ => rfl) ?_
              refine T_ld 172 (.int (i32 328)) rfl (fun _ => rfl) ?_
              refine T_icmp 278 175 rfl rfl rfl (r32 (by omega) (by omega)) ⟨by decide, by decide⟩ (fun (h128 : s1 ≠ 328) => ?_) (fun (h128 : ¬ (s1 ≠ 328)) => ?_)
              · skip
                refine Tm_lv (a := [(0, .ref 178), (2, .int (i32 s1)), (3, .int (i32 de))]) rfl rfl ⟨rfl, rfl, rfl, trivial⟩ ?_
                exact J278_44 (mO m35 [] []) Tm35 (fr_m fr_0 rfl rfl) (show NKp (m35.2 18) (m35.2 19) by exact hNK)
              · skip
                refine T_ld 176 (.ref 178) rfl (fun _ => rfl) ?_
                refine K_gf 179 (.ref 45) rfl rfl kd_178 rfl rfl rfl ?_
                refine K_gf 182 (.ref 54) rfl rfl kd_45 rfl rfl rfl ?_
                refine T_ld 183 (.int (i32 de)) rfl (fun _ => rfl) ?_
                refine K_iald 184 47 (m35.2 47) rfl rfl rfl (by omega) (show de < (240 : Int) by omega) rfl ?_
                have e129 : (-1) ≤ (m35.2 47) de ∧ (m35.2 47) de ≤ 7 := (Tm35.2.1 47) de
                refine T_sto 186 [(4, .int (i32 ((m35.2 47) de))), (0, .ref 178), (1, .int (i32 a)), (2, .int (i32 s1)), (3, .int (i32 de))] rfl (fun _ => rfl) ?_
                refine T_ld 187 (.int (i32 s1)) rfl (fun _ => rfl) ?_
                refine T_ld 190 (.int (i32 328)) rfl (fun _ => rfl) ?_
                refine T_icmp 206 193 rfl rfl rfl (r32 (by omega) (by omega)) ⟨by decide, by decide⟩ (fun (h130 : s1 ≠ 328) => by exfalso; omega) (fun (h130 : ¬ (s1 ≠ 328)) => ?_)
                refine T_ld 194 (.ref 178) rfl (fun _ => rfl) ?_
                refine K_gf 197 (.ref 12) rfl rfl kd_178 rfl rfl rfl ?_
                refine K_gf 200 (.ref 18) rfl rfl kd_12 rfl rfl rfl ?_
                refine T_ld 202 (.int (i32 ((m35.2 47) de))) rfl (fun _ => rfl) ?_
                refine K_iald 203 15 (m.2 15) rfl rfl rfl (by omega) (show ((m35.2 47) de) < (8 : Int) by omega) (show (m35.2 15) = (m.2 15) from ((fr2 Fm35 15 rfl).trans ((fr2 Fm30 15 rfl).trans ((fr2 Fm23 15 rfl).trans ((fr2 Fm18 15 rfl).trans (fr2 Fm9 15 rfl)))))) ?_
                have e131 : 0 ≤ m.2 15 ((m35.2 47) de) ∧ m.2 15 ((m35.2 47) de) ≤ 64 := hT.2.1 15 ((m35.2 47) de)
                refine T_goto 222 rfl (fun _ => rfl) ?_
                refine T_sto 224 [(5, .int (i32 ((m.2 15) ((m35.2 47) de)))), (4, .int (i32 ((m35.2 47) de))), (0, .ref 178), (1, .int (i32 a)), (2, .int (i32 s1)), (3, .int (i32 de))] rfl (fun _ => rfl) ?_
                refine T_ld 225 (.ref 178) rfl (fun _ => rfl) ?_
                refine K_gf 228 (.ref 45) rfl rfl kd_178 rfl rfl rfl ?_
                refine K_gf 231 (.ref 57) rfl rfl kd_45 rfl rfl rfl ?_
                refine T_ld 232 (.int (i32 de)) rfl (fun _ => rfl) ?_
                refine T_ld 233 (.ref 178) rfl (fun _ => rfl) ?_
                refine K_gf 236 (.ref 12) rfl rfl kd_178 rfl rfl rfl ?_
                refine K_gf 239 (.ref 22) rfl rfl kd_12 rfl rfl rfl ?_
                refine K_gf 242 (.int (i32 (m35.1 220))) rfl rfl kd_22 rfl rfl rfl ?_
                have G132 : ∀ j, 0 ≤ (upI (m.2 50) de (m35.1 220)) j ∧ (upI (m.2 50) de (m35.1 220)) j ≤ 1090 := upI_rg (hT.2.1 50) ⟨by omega, by omega⟩
                refine K_iast (a' := [(50, upI (m.2 50) de (m35.1 220))]) 243 50 (m.2 50) rfl rfl rfl (by omega) (show de < (240 : Int) by omega) (show (m35.2 50) = (m.2 50) from ((fr2 Fm35 50 rfl).trans ((fr2 Fm30 50 rfl).trans ((fr2 Fm23 50 rfl).trans ((fr2 Fm18 50 rfl).trans (fr2 Fm9 50 rfl)))))) rfl ?_
                refine T_ld 244 (.ref 178) rfl (fun _ => rfl) ?_
                refine K_gf 247 (.ref 45) rfl rfl kd_178 rfl rfl rfl ?_
                refine K_gf 250 (.ref 58) rfl rfl kd_45 rfl rfl rfl ?_
                refine T_ld 251 (.int (i32 de)) rfl (fun _ => rfl) ?_
                refine T_ld 252 (.ref 178) rfl (fun _ => rfl) ?_
                refine K_gf 255 (.ref 181) rfl rfl kd_178 rfl rfl rfl ?_
                refine T_ld 256 (.int (i32 a)) rfl (fun _ => rfl) ?_
                refine T_callx 259 92 [.ref 181, .int (i32 a)] [.int (i32 de), .ref 58] rfl (fun _ => rfl) rfl rfl (c_fm_whole w (mO m35 [] [(50, upI (m.2 50) de (m35.1 220))]) c N D (by omega) (KTy_mO Tm35 rfl rfl trivial ⟨G132, trivial⟩) a (r32 (by omega) (by omega)) (show NKp (m35.2 18) (m35.2 19) by exact hNK) (show KPp (m35.1 203) (m35.2 8) (m35.2 9) (m35.1 214) (m35.1 215) (m35.1 216) (m35.1 217) (m35.1 221) (m35.1 223) (m35.1 219) by rewrite [(show (m35.1 203) = (m.1 203) from ((fr1 Fm35 203 rfl).trans ((fr1 Fm30 203 rfl).trans ((fr1 Fm23 203 rfl).trans ((fr1 Fm18 203 rfl).trans (fr1 Fm9 203 rfl)))))), (show (m35.2 8) = (m.2 8) from ((fr2 Fm35 8 rfl).trans ((fr2 Fm30 8 rfl).trans ((fr2 Fm23 8 rfl).trans ((fr2 Fm18 8 rfl).trans (fr2 Fm9 8 rfl)))))), (show (m35.2 9) = (m.2 9) from ((fr2 Fm35 9 rfl).trans ((fr2 Fm30 9 rfl).trans ((fr2 Fm23 9 rfl).trans ((fr2 Fm18 9 rfl).trans (fr2 Fm9 9 rfl)))))), (show (m35.1 214) = (m.1 214) from ((fr1 Fm35 214 rfl).trans ((fr1 Fm30 214 rfl).trans ((fr1 Fm23 214 rfl).trans ((fr1 Fm18 214 rfl).trans (fr1 Fm9 214 rfl)))))), (show (m35.1 215) = (m.1 215) from ((fr1 Fm35 215 rfl).trans ((fr1 Fm30 215 rfl).trans ((fr1 Fm23 215 rfl).trans ((fr1 Fm18 215 rfl).trans (fr1 Fm9 215 rfl)))))), (show (m35.1 216) = (m.1 216) from ((fr1 Fm35 216 rfl).trans ((fr1 Fm30 216 rfl).trans ((fr1 Fm23 216 rfl).trans ((fr1 Fm18 216 rfl).trans (fr1 Fm9 216 rfl)))))), (show (m35.1 217) = (m.1 217) from ((fr1 Fm35 217 rfl).trans ((fr1 Fm30 217 rfl).trans ((fr1 Fm23 217 rfl).trans ((fr1 Fm18 217 rfl).trans (fr1 Fm9 217 rfl)))))), (show (m35.1 221) = (m.1 221) from ((fr1 Fm35 221 rfl).trans ((fr1 Fm30 221 rfl).trans ((fr1 Fm23 221 rfl).trans ((fr1 Fm18 221 rfl).trans (fr1 Fm9 221 rfl)))))), (show (m35.1 223) = (m.1 223) from ((fr1 Fm35 223 rfl).trans ((fr1 Fm30 223 rfl).trans ((fr1 Fm23 223 rfl).trans ((fr1 Fm18 223 rfl).trans (fr1 Fm9 223 rfl)))))), (show (m35.1 219) = (m.1 219) from ((fr1 Fm35 219 rfl).trans ((fr1 Fm30 219 rfl).trans ((fr1 Fm23 219 rfl).trans ((fr1 Fm18 219 rfl).trans (fr1 Fm9 219 rfl))))))]; exact pKP) (show (-1) ≤ a ∧ a ≤ 15 by omega)) (fun rr133 k134 => ?_)
                rcases k134 with ⟨m135, ro, Tm135, Fm135, g136, h137, rfl⟩ | ⟨xx141, m138, hx139, Tm138, Fm138, h140, rfl⟩
                rotate_left
                · skip
                  refine Or.inr ⟨_, _, _, _, rfl, ?_⟩
                  have hNK := h140
                  exact Or.inr ⟨xx141, (mO m138 [] []), (hx139), Tm138, (fr_m (fr_s Fm138 (fr_m (fr_s Fm35 (fr_m (fr_s Fm30 (fr_m (fr_s Fm23 (fr_m (fr_s Fm18 (fr_m (fr_s Fm9 (fr_m fr_0 rfl rfl) rfl rfl) rfl rfl) rfl rfl) rfl rfl) rfl rfl) rfl rfl) rfl rfl) rfl rfl) rfl rfl) rfl rfl) rfl rfl) rfl rfl), (show NKp (m138.2 18) (m138.2 19) by exact hNK), rfl⟩
                refine Or.inl ⟨_, _, _, _, rfl, ?_⟩
                refine K_nb (st' := [.int (i32 ro), .int (i32 de), .ref 58]) rfl ?_
                obtain ⟨g136a, g136b⟩ := g136
                have g142 : (-1) ≤ m135.1 206 ∧ m135.1 206 ≤ 65535 := Tm135.1 206
                have g143 : 0 ≤ m135.1 213 ∧ m135.1 213 ≤ 1 := Tm135.1 213
                have g144 : 0 ≤ m135.1 220 ∧ m135.1 220 ≤ 1090 := Tm135.1 220
                replace h137 : NKp (m135.2 18) (m135.2 19) := h137
                have hNK := h137
                have G145 : ∀ j, (-1) ≤ (upI (m9.2 51) de ro) j ∧ (upI (m9.2 51) de ro) j ≤ 1089 := upI_rg (Tm9.2.1 51) ⟨by omega, by omega⟩
                refine K_iast (a' := [(51, upI (m9.2 51) de ro)]) 260 51 (m9.2 51) rfl rfl rfl (by omega) (show de < (240 : Int) by omega) (show (m135.2 51) = (m9.2 51) from ((fr2 Fm135 51 rfl).trans ((fr2 Fm35 51 rfl).trans ((fr2 Fm30 51 rfl).trans ((fr2 Fm23 51 rfl).trans (fr2 Fm18 51 rfl)))))) rfl ?_
                refine T_ld 261 (.ref 178) rfl (fun _ => rfl) ?_
                refine K_gf 264 (.ref 181) rfl rfl kd_178 rfl rfl rfl ?_
                refine T_ld 265 (.ref 178) rfl (fun _ => rfl) ?_
                refine K_gf 268 (.ref 45) rfl rfl kd_178 rfl rfl rfl ?_
                refine K_gf 271 (.ref 58) rfl rfl kd_45 rfl rfl rfl ?_
                refine T_ld 272 (.int (i32 de)) rfl (fun _ => rfl) ?_
                refine K_iald 273 51 (upI (m9.2 51) de ro) rfl rfl rfl (by omega) (show de < (240 : Int) by omega) rfl ?_
                refine T_cast ro upI_s ?_
                refine T_ld 275 (.int (i32 ((m.2 15) ((m35.2 47) de)))) rfl (fun _ => rfl) ?_
                refine T_callx 278 126 [.ref 181, .int (i32 ro), .int (i32 ((m.2 15) ((m35.2 47) de)))] [] rfl (fun _ => rfl) rfl rfl (c_fm_mustFit w (mO m135 [] [(51, upI (m9.2 51) de ro)]) c N D (by omega) (KTy_mO Tm135 rfl rfl trivial ⟨G145, trivial⟩) ro ((m.2 15) ((m35.2 47) de)) (r32 (by omega) (by omega)) (r32 (by omega) (by omega)) (show 0 ≤ ro ∧ ro ≤ 1089 by omega) (show 0 ≤ ((m.2 15) ((m35.2 47) de)) ∧ ((m.2 15) ((m35.2 47) de)) ≤ 64 by omega)) (fun rr146 k147 => ?_)
                rcases k147 with ⟨m148, Tm148, Fm148, rfl⟩ | ⟨xx151, m149, hx150, Tm149, Fm149, rfl⟩
                rotate_left
                · skip
                  refine Or.inr ⟨_, _, _, _, rfl, ?_⟩
                  exact Or.inr ⟨xx151, (mO m149 [] []), (hx150), Tm149, (fr_m (fr_s Fm149 (fr_m (fr_s Fm135 (fr_m (fr_s Fm35 (fr_m (fr_s Fm30 (fr_m (fr_s Fm23 (fr_m (fr_s Fm18 (fr_m (fr_s Fm9 (fr_m fr_0 rfl rfl) rfl rfl) rfl rfl) rfl rfl) rfl rfl) rfl rfl) rfl rfl) rfl rfl) rfl rfl) rfl rfl) rfl rfl) rfl rfl) rfl rfl) rfl rfl) rfl rfl), (show NKp (m149.2 18) (m149.2 19) by rewrite [(show (m149.2 18) = (m135.2 18) from (fr2 Fm149 18 rfl)), (show (m149.2 19) = (m135.2 19) from (fr2 Fm149 19 rfl))]; exact hNK), rfl⟩
                refine Or.inl ⟨_, _, _, _, rfl, ?_⟩
                refine K_nb (st' := []) rfl ?_
                refine Tm_lv (a := [(0, .ref 178), (2, .int (i32 s1)), (3, .int (i32 de))]) rfl rfl ⟨rfl, rfl, rfl, trivial⟩ ?_
                exact J278_44 (mO m148 [] []) Tm148 (fr_m (fr_s Fm148 (fr_m (fr_s Fm135 (fr_m fr_0 rfl rfl) rfl rfl) rfl rfl) rfl rfl) rfl rfl) (show NKp (m148.2 18) (m148.2 19) by rewrite [(show (m148.2 18) = (m135.2 18) from (fr2 Fm148 18 rfl)), (show (m148.2 19) = (m135.2 19) from (fr2 Fm148 19 rfl))]; exact hNK)
          refine T_ld 90 (.int (i32 s1)) rfl (fun _ => rfl) ?_
          refine T_ld 93 (.int (i32 327)) rfl (fun _ => rfl) ?_
          refine T_icmp 103 96 rfl rfl rfl (r32 (by omega) (by omega)) ⟨by decide, by decide⟩ (fun (h152 : s1 = 327) => ?_) (fun (h152 : ¬ (s1 = 327)) => ?_)
          · skip
            refine T_ld 104 (.ref 178) rfl (fun _ => rfl) ?_
            refine T_ld 105 (.int (i32 de)) rfl (fun _ => rfl) ?_
            refine T_callx 108 125 [.ref 178, .int (i32 de)] [] rfl (fun _ => rfl) rfl rfl (c_rd_arrayOf w (mO m30 [] []) c N D (by omega) Tm30 de (r32 (by omega) (by omega)) (show KPp (m30.1 203) (m30.2 8) (m30.2 9) (m30.1 214) (m30.1 215) (m30.1 216) (m30.1 217) (m30.1 221) (m30.1 223) (m30.1 219) by rewrite [(show (m30.1 203) = (m.1 203) from ((fr1 Fm30 203 rfl).trans ((fr1 Fm23 203 rfl).trans ((fr1 Fm18 203 rfl).trans (fr1 Fm9 203 rfl))))), (show (m30.2 8) = (m.2 8) from ((fr2 Fm30 8 rfl).trans ((fr2 Fm23 8 rfl).trans ((fr2 Fm18 8 rfl).trans (fr2 Fm9 8 rfl))))), (show (m30.2 9) = (m.2 9) from ((fr2 Fm30 9 rfl).trans ((fr2 Fm23 9 rfl).trans ((fr2 Fm18 9 rfl).trans (fr2 Fm9 9 rfl))))), (show (m30.1 214) = (m.1 214) from ((fr1 Fm30 214 rfl).trans ((fr1 Fm23 214 rfl).trans ((fr1 Fm18 214 rfl).trans (fr1 Fm9 214 rfl))))), (show (m30.1 215) = (m.1 215) from ((fr1 Fm30 215 rfl).trans ((fr1 Fm23 215 rfl).trans ((fr1 Fm18 215 rfl).trans (fr1 Fm9 215 rfl))))), (show (m30.1 216) = (m.1 216) from ((fr1 Fm30 216 rfl).trans ((fr1 Fm23 216 rfl).trans ((fr1 Fm18 216 rfl).trans (fr1 Fm9 216 rfl))))), (show (m30.1 217) = (m.1 217) from ((fr1 Fm30 217 rfl).trans ((fr1 Fm23 217 rfl).trans ((fr1 Fm18 217 rfl).trans (fr1 Fm9 217 rfl))))), (show (m30.1 221) = (m.1 221) from ((fr1 Fm30 221 rfl).trans ((fr1 Fm23 221 rfl).trans ((fr1 Fm18 221 rfl).trans (fr1 Fm9 221 rfl))))), (show (m30.1 223) = (m.1 223) from ((fr1 Fm30 223 rfl).trans ((fr1 Fm23 223 rfl).trans ((fr1 Fm18 223 rfl).trans (fr1 Fm9 223 rfl))))), (show (m30.1 219) = (m.1 219) from ((fr1 Fm30 219 rfl).trans ((fr1 Fm23 219 rfl).trans ((fr1 Fm18 219 rfl).trans (fr1 Fm9 219 rfl)))))]; exact pKP) (show 0 ≤ de ∧ de ≤ 239 by omega) (show (m30.2 46) de ≤ 219 by rewrite [(show (m30.2 46) = (m23.2 46) from (fr2 Fm30 46 rfl))]; omega)) (fun rr153 k154 => ?_)
            rcases k154 with ⟨m155, Tm155, Fm155, h156, h157, rfl⟩ | ⟨xx160, m158, hx159, Tm158, Fm158, rfl⟩
            rotate_left
            · skip
              refine Or.inr ⟨_, _, _, _, rfl, ?_⟩
              exact Or.inr ⟨xx160, (mO m158 [] []), (hx159), Tm158, (fr_m (fr_s Fm158 (fr_m (fr_s Fm30 (fr_m (fr_s Fm23 (fr_m (fr_s Fm18 (fr_m (fr_s Fm9 (fr_m fr_0 rfl rfl) rfl rfl) rfl rfl) rfl rfl) rfl rfl) rfl rfl) rfl rfl) rfl rfl) rfl rfl) rfl rfl) rfl rfl), (show NKp (m158.2 18) (m158.2 19) by rewrite [(show (m158.2 18) = (m.2 18) from ((fr2 Fm158 18 rfl).trans ((fr2 Fm30 18 rfl).trans ((fr2 Fm23 18 rfl).trans ((fr2 Fm18 18 rfl).trans (fr2 Fm9 18 rfl)))))), (show (m158.2 19) = (m.2 19) from ((fr2 Fm158 19 rfl).trans ((fr2 Fm30 19 rfl).trans ((fr2 Fm23 19 rfl).trans ((fr2 Fm18 19 rfl).trans (fr2 Fm9 19 rfl))))))]; exact hNK), rfl⟩
            refine Or.inl ⟨_, _, _, _, rfl, ?_⟩
            refine K_nb (st' := []) rfl ?_
            have g161 : (-1) ≤ m155.1 206 ∧ m155.1 206 ≤ 65535 := Tm155.1 206
            replace h156 : 0 ≤ (m155.2 47) de := h156
            have hAo := h156
            replace h157 : agr (m30.2 47) (m155.2 47) de := h157
            rewrite [(show (m30.2 47) = (m9.2 47) from ((fr2 Fm30 47 rfl).trans ((fr2 Fm23 47 rfl).trans (fr2 Fm18 47 rfl))))] at h157
            have hAp := h157
            refine T_ld 109 (.ref 178) rfl (fun _ => rfl) ?_
            refine K_gf 112 (.ref 6) rfl rfl kd_178 rfl rfl rfl ?_
            refine T_ld 114 (.int (i32 91)) rfl (fun _ => rfl) ?_
            refine T_callx 117 78 [.ref 6, .int (i32 91)] [] rfl (fun _ => rfl) rfl rfl (c_tx_expect w (mO m155 [] []) c N D (by omega) Tm155 91 ⟨by decide, by decide⟩) (fun rr162 k163 => ?_)
            rcases k163 with ⟨m164, Tm164, Fm164, h165, h166, rfl⟩ | ⟨xx169, m167, hx168, Tm167, Fm167, rfl⟩
            rotate_left
            · skip
              refine Or.inr ⟨_, _, _, _, rfl, ?_⟩
              exact Or.inr ⟨xx169, (mO m167 [] []), (hx168), Tm167, (fr_m (fr_s Fm167 (fr_m (fr_s Fm155 (fr_m (fr_s Fm30 (fr_m (fr_s Fm23 (fr_m (fr_s Fm18 (fr_m (fr_s Fm9 (fr_m fr_0 rfl rfl) rfl rfl) rfl rfl) rfl rfl) rfl rfl) rfl rfl) rfl rfl) rfl rfl) rfl rfl) rfl rfl) rfl rfl) rfl rfl) rfl rfl), (show NKp (m167.2 18) (m167.2 19) by rewrite [(show (m167.2 18) = (m.2 18) from ((fr2 Fm167 18 rfl).trans ((fr2 Fm155 18 rfl).trans ((fr2 Fm30 18 rfl).trans ((fr2 Fm23 18 rfl).trans ((fr2 Fm18 18 rfl).trans (fr2 Fm9 18 rfl))))))), (show (m167.2 19) = (m.2 19) from ((fr2 Fm167 19 rfl).trans ((fr2 Fm155 19 rfl).trans ((fr2 Fm30 19 rfl).trans ((fr2 Fm23 19 rfl).trans ((fr2 Fm18 19 rfl).trans (fr2 Fm9 19 rfl)))))))]; exact hNK), rfl⟩
            refine Or.inl ⟨_, _, _, _, rfl, ?_⟩
            refine K_nb (st' := []) rfl ?_
            have g170 : (-1) ≤ m164.1 206 ∧ m164.1 206 ≤ 65535 := Tm164.1 206
            replace h165 : (m155.1 206) = (91 : Int) := h165
            replace h166 : (m155.1 213) = 0 := h166
            rewrite [(show (m155.1 213) = (m.1 213) from ((fr1 Fm155 213 rfl).trans ((fr1 Fm30 213 rfl).trans ((fr1 Fm23 213 rfl).trans ((fr1 Fm18 213 rfl).trans (fr1 Fm9 213 rfl))))))] at h166
            refine T_ld 118 (.ref 178) rfl (fun _ => rfl) ?_
            refine K_gf 121 (.ref 45) rfl rfl kd_178 rfl rfl rfl ?_
            refine K_gf 124 (.ref 55) rfl rfl kd_45 rfl rfl rfl ?_
            refine T_ld 125 (.int (i32 de)) rfl (fun _ => rfl) ?_
            refine T_ld 126 (.ref 178) rfl (fun _ => rfl) ?_
            refine K_gf 129 (.ref 12) rfl rfl kd_178 rfl rfl rfl ?_
            refine K_gf 132 (.ref 22) rfl rfl kd_12 rfl rfl rfl ?_
            refine K_gf 135 (.int (i32 (m.1 220))) rfl rfl kd_22 rfl (kval_c2 (k := 220) (F := fun x => .int (i32 x)) rfl (show (m164.1 220) = (m.1 220) from ((fr1 Fm164 220 rfl).trans ((fr1 Fm155 220 rfl).trans ((fr1 Fm30 220 rfl).trans ((fr1 Fm23 220 rfl).trans ((fr1 Fm18 220 rfl).trans (fr1 Fm9 220 rfl)))))))) rfl ?_
            have G171 : ∀ j, 0 ≤ (upI (m.2 48) de (m.1 220)) j ∧ (upI (m.2 48) de (m.1 220)) j ≤ 1090 := upI_rg (hT.2.1 48) ⟨by omega, by omega⟩
            refine K_iast (a' := [(48, upI (m.2 48) de (m.1 220))]) 136 48 (m.2 48) rfl rfl rfl (by omega) (show de < (240 : Int) by omega) (show (m164.2 48) = (m.2 48) from ((fr2 Fm164 48 rfl).trans ((fr2 Fm155 48 rfl).trans ((fr2 Fm30 48 rfl).trans ((fr2 Fm23 48 rfl).trans ((fr2 Fm18 48 rfl).trans (fr2 Fm9 48 rfl))))))) rfl ?_
            refine T_ld 137 (.ref 178) rfl (fun _ => rfl) ?_
            refine K_gf 140 (.ref 45) rfl rfl kd_178 rfl rfl rfl ?_
            refine K_gf 143 (.ref 56) rfl rfl kd_45 rfl rfl rfl ?_
            refine T_ld 144 (.int (i32 de)) rfl (fun _ => rfl) ?_
            refine T_ld 145 (.ref 178) rfl (fun _ => rfl) ?_
            refine K_gf 148 (.ref 181) rfl rfl kd_178 rfl rfl rfl ?_
            refine T_ld 149 (.int (i32 a)) rfl (fun _ => rfl) ?_
            refine T_callx 152 92 [.ref 181, .int (i32 a)] [.int (i32 de), .ref 56] rfl (fun _ => rfl) rfl rfl (c_fm_whole w (mO m164 [] [(48, upI (m.2 48) de (m.1 220))]) c N D (by omega) (KTy_mO Tm164 rfl rfl trivial ⟨G171, trivial⟩) a (r32 (by omega) (by omega)) (show NKp (m164.2 18) (m164.2 19) by rewrite [(show (m164.2 18) = (m.2 18) from ((fr2 Fm164 18 rfl).trans ((fr2 Fm155 18 rfl).trans ((fr2 Fm30 18 rfl).trans ((fr2 Fm23 18 rfl).trans ((fr2 Fm18 18 rfl).trans (fr2 Fm9 18 rfl))))))), (show (m164.2 19) = (m.2 19) from ((fr2 Fm164 19 rfl).trans ((fr2 Fm155 19 rfl).trans ((fr2 Fm30 19 rfl).trans ((fr2 Fm23 19 rfl).trans ((fr2 Fm18 19 rfl).trans (fr2 Fm9 19 rfl)))))))]; exact hNK) (show KPp (m164.1 203) (m164.2 8) (m164.2 9) (m164.1 214) (m164.1 215) (m164.1 216) (m164.1 217) (m164.1 221) (m164.1 223) (m164.1 219) by rewrite [(show (m164.1 203) = (m.1 203) from ((fr1 Fm164 203 rfl).trans ((fr1 Fm155 203 rfl).trans ((fr1 Fm30 203 rfl).trans ((fr1 Fm23 203 rfl).trans ((fr1 Fm18 203 rfl).trans (fr1 Fm9 203 rfl))))))), (show (m164.2 8) = (m.2 8) from ((fr2 Fm164 8 rfl).trans ((fr2 Fm155 8 rfl).trans ((fr2 Fm30 8 rfl).trans ((fr2 Fm23 8 rfl).trans ((fr2 Fm18 8 rfl).trans (fr2 Fm9 8 rfl))))))), (show (m164.2 9) = (m.2 9) from ((fr2 Fm164 9 rfl).trans ((fr2 Fm155 9 rfl).trans ((fr2 Fm30 9 rfl).trans ((fr2 Fm23 9 rfl).trans ((fr2 Fm18 9 rfl).trans (fr2 Fm9 9 rfl))))))), (show (m164.1 214) = (m.1 214) from ((fr1 Fm164 214 rfl).trans ((fr1 Fm155 214 rfl).trans ((fr1 Fm30 214 rfl).trans ((fr1 Fm23 214 rfl).trans ((fr1 Fm18 214 rfl).trans (fr1 Fm9 214 rfl))))))), (show (m164.1 215) = (m.1 215) from ((fr1 Fm164 215 rfl).trans ((fr1 Fm155 215 rfl).trans ((fr1 Fm30 215 rfl).trans ((fr1 Fm23 215 rfl).trans ((fr1 Fm18 215 rfl).trans (fr1 Fm9 215 rfl))))))), (show (m164.1 216) = (m.1 216) from ((fr1 Fm164 216 rfl).trans ((fr1 Fm155 216 rfl).trans ((fr1 Fm30 216 rfl).trans ((fr1 Fm23 216 rfl).trans ((fr1 Fm18 216 rfl).trans (fr1 Fm9 216 rfl))))))), (show (m164.1 217) = (m.1 217) from ((fr1 Fm164 217 rfl).trans ((fr1 Fm155 217 rfl).trans ((fr1 Fm30 217 rfl).trans ((fr1 Fm23 217 rfl).trans ((fr1 Fm18 217 rfl).trans (fr1 Fm9 217 rfl))))))), (show (m164.1 221) = (m.1 221) from ((fr1 Fm164 221 rfl).trans ((fr1 Fm155 221 rfl).trans ((fr1 Fm30 221 rfl).trans ((fr1 Fm23 221 rfl).trans ((fr1 Fm18 221 rfl).trans (fr1 Fm9 221 rfl))))))), (show (m164.1 223) = (m.1 223) from ((fr1 Fm164 223 rfl).trans ((fr1 Fm155 223 rfl).trans ((fr1 Fm30 223 rfl).trans ((fr1 Fm23 223 rfl).trans ((fr1 Fm18 223 rfl).trans (fr1 Fm9 223 rfl))))))), (show (m164.1 219) = (m.1 219) from ((fr1 Fm164 219 rfl).trans ((fr1 Fm155 219 rfl).trans ((fr1 Fm30 219 rfl).trans ((fr1 Fm23 219 rfl).trans ((fr1 Fm18 219 rfl).trans (fr1 Fm9 219 rfl)))))))]; exact pKP) (show (-1) ≤ a ∧ a ≤ 15 by omega)) (fun rr172 k173 => ?_)
            rcases k173 with ⟨m174, ro, Tm174, Fm174, g175, h176, rfl⟩ | ⟨xx180, m177, hx178, Tm177, Fm177, h179, rfl⟩
            rotate_left
            · skip
              refine Or.inr ⟨_, _, _, _, rfl, ?_⟩
              have hNK := h179
              exact Or.inr ⟨xx180, (mO m177 [] []), (hx178), Tm177, (fr_m (fr_s Fm177 (fr_m (fr_s Fm164 (fr_m (fr_s Fm155 (fr_m (fr_s Fm30 (fr_m (fr_s Fm23 (fr_m (fr_s Fm18 (fr_m (fr_s Fm9 (fr_m fr_0 rfl rfl) rfl rfl) rfl rfl) rfl rfl) rfl rfl) rfl rfl) rfl rfl) rfl rfl) rfl rfl) rfl rfl) rfl rfl) rfl rfl) rfl rfl) rfl rfl) rfl rfl), (show NKp (m177.2 18) (m177.2 19) by exact hNK), rfl⟩
            refine Or.inl ⟨_, _, _, _, rfl, ?_⟩
            refine K_nb (st' := [.int (i32 ro), .int (i32 de), .ref 56]) rfl ?_
            obtain ⟨g175a, g175b⟩ := g175
            have g181 : (-1) ≤ m174.1 206 ∧ m174.1 206 ≤ 65535 := Tm174.1 206
            have g182 : 0 ≤ m174.1 213 ∧ m174.1 213 ≤ 1 := Tm174.1 213
            have g183 : 0 ≤ m174.1 220 ∧ m174.1 220 ≤ 1090 := Tm174.1 220
            replace h176 : NKp (m174.2 18) (m174.2 19) := h176
            have hNK := h176
            have G184 : ∀ j, (-1) ≤ (upI (m9.2 49) de ro) j ∧ (upI (m9.2 49) de ro) j ≤ 1089 := upI_rg (Tm9.2.1 49) ⟨by omega, by omega⟩
            refine K_iast (a' := [(49, upI (m9.2 49) de ro)]) 153 49 (m9.2 49) rfl rfl rfl (by omega) (show de < (240 : Int) by omega) (show (m174.2 49) = (m9.2 49) from ((fr2 Fm174 49 rfl).trans ((fr2 Fm164 49 rfl).trans ((fr2 Fm155 49 rfl).trans ((fr2 Fm30 49 rfl).trans ((fr2 Fm23 49 rfl).trans (fr2 Fm18 49 rfl))))))) rfl ?_
            refine T_ld 154 (.ref 178) rfl (fun _ => rfl) ?_
            refine K_gf 157 (.ref 6) rfl rfl kd_178 rfl rfl rfl ?_
            refine T_ld 159 (.int (i32 93)) rfl (fun _ => rfl) ?_
            refine T_callx 162 78 [.ref 6, .int (i32 93)] [] rfl (fun _ => rfl) rfl rfl (c_tx_expect w (mO m174 [] [(49, upI (m9.2 49) de ro)]) c N D (by omega) (KTy_mO Tm174 rfl rfl trivial ⟨G184, trivial⟩) 93 ⟨by decide, by decide⟩) (fun rr185 k186 => ?_)
            rcases k186 with ⟨m187, Tm187, Fm187, h188, h189, rfl⟩ | ⟨xx192, m190, hx191, Tm190, Fm190, rfl⟩
            rotate_left
            · skip
              refine Or.inr ⟨_, _, _, _, rfl, ?_⟩
              exact Or.inr ⟨xx192, (mO m190 [] []), (hx191), Tm190, (fr_m (fr_s Fm190 (fr_m (fr_s Fm174 (fr_m (fr_s Fm164 (fr_m (fr_s Fm155 (fr_m (fr_s Fm30 (fr_m (fr_s Fm23 (fr_m (fr_s Fm18 (fr_m (fr_s Fm9 (fr_m fr_0 rfl rfl) rfl rfl) rfl rfl) rfl rfl) rfl rfl) rfl rfl) rfl rfl) rfl rfl) rfl rfl) rfl rfl) rfl rfl) rfl rfl) rfl rfl) rfl rfl) rfl rfl) rfl rfl) rfl rfl), (show NKp (m190.2 18) (m190.2 19) by rewrite [(show (m190.2 18) = (m174.2 18) from (fr2 Fm190 18 rfl)), (show (m190.2 19) = (m174.2 19) from (fr2 Fm190 19 rfl))]; exact hNK), rfl⟩
            refine Or.inl ⟨_, _, _, _, rfl, ?_⟩
            refine K_nb (st' := []) rfl ?_
            have g193 : (-1) ≤ m187.1 206 ∧ m187.1 206 ≤ 65535 := Tm187.1 206
            replace h188 : (m174.1 206) = (93 : Int) := h188
            replace h189 : (m174.1 213) = 0 := h189
            exact J162_36 (mO m187 [] []) Tm187 (fr_m (fr_s Fm187 (fr_m (fr_s Fm174 (fr_m (fr_s Fm164 (fr_m (fr_s Fm155 (fr_m fr_0 rfl rfl) rfl rfl) rfl rfl) rfl rfl) rfl rfl) rfl rfl) rfl rfl) rfl rfl) rfl rfl) (show DEp de (m9.2 45) (m23.2 46) (m187.2 47) (m187.2 49) by rewrite [(show (m187.2 47) = (m155.2 47) from ((fr2 Fm187 47 rfl).trans ((fr2 Fm174 47 rfl).trans (fr2 Fm164 47 rfl)))), (show (m187.2 49) = (upI (m9.2 49) de ro) from (fr2 Fm187 49 rfl))]; first | exact hDE | exact DE_g hDE (agr_r _ _) (agr_u (by omega)) (agr_r _ _) (agr_r _ _) | exact DE_g hDE (agr_r _ _) (agr_r _ _) hAp (agr_u (by omega))) (show ((m9.2 45) de = 327 ∨ (m9.2 45) de = 328) ∧ 0 ≤ (m187.2 47) de ∧ 0 ≤ (m187.2 49) de ∨ (m9.2 45) de ≠ 327 ∧ (m9.2 45) de ≠ 328 ∧ (m187.2 47) de = -1 by rewrite [(show (m187.2 47) = (m155.2 47) from ((fr2 Fm187 47 rfl).trans ((fr2 Fm174 47 rfl).trans (fr2 Fm164 47 rfl)))), (show (m187.2 49) = (upI (m9.2 49) de ro) from (fr2 Fm187 49 rfl))]; first | omega | (rw [upI_s]; omega)) (show NKp (m187.2 18) (m187.2 19) by rewrite [(show (m187.2 18) = (m174.2 18) from (fr2 Fm187 18 rfl)), (show (m187.2 19) = (m174.2 19) from (fr2 Fm187 19 rfl))]; exact hNK)
          · skip
            refine T_ld 97 (.int (i32 s1)) rfl (fun _ => rfl) ?_
            refine T_ld 100 (.int (i32 328)) rfl (fun _ => rfl) ?_
            refine T_icmp 162 103 rfl rfl rfl (r32 (by omega) (by omega)) ⟨by decide, by decide⟩ (fun (h194 : s1 ≠ 328) => ?_) (fun (h194 : ¬ (s1 ≠ 328)) => ?_)
            · skip
              exact J162_36 (mO m30 [] []) Tm30 (fr_m fr_0 rfl rfl) (show DEp de (m9.2 45) (m23.2 46) (m30.2 47) (m30.2 49) by rewrite [(show (m30.2 47) = (m9.2 47) from ((fr2 Fm30 47 rfl).trans ((fr2 Fm23 47 rfl).trans (fr2 Fm18 47 rfl)))), (show (m30.2 49) = (m9.2 49) from ((fr2 Fm30 49 rfl).trans ((fr2 Fm23 49 rfl).trans (fr2 Fm18 49 rfl))))]; first | exact hDE | exact DE_g hDE (agr_r _ _) (agr_u (by omega)) (agr_r _ _) (agr_r _ _) | exact DE_g hDE (agr_r _ _) (agr_r _ _) hAp (agr_u (by omega))) (show ((m9.2 45) de = 327 ∨ (m9.2 45) de = 328) ∧ 0 ≤ (m30.2 47) de ∧ 0 ≤ (m30.2 49) de ∨ (m9.2 45) de ≠ 327 ∧ (m9.2 45) de ≠ 328 ∧ (m30.2 47) de = -1 by rewrite [(show (m30.2 47) = (m9.2 47) from ((fr2 Fm30 47 rfl).trans ((fr2 Fm23 47 rfl).trans (fr2 Fm18 47 rfl)))), (show (m30.2 49) = (m9.2 49) from ((fr2 Fm30 49 rfl).trans ((fr2 Fm23 49 rfl).trans (fr2 Fm18 49 rfl))))]; first | omega | (rw [upI_s]; omega)) (show NKp (m30.2 18) (m30.2 19) by rewrite [(show (m30.2 18) = (m.2 18) from ((fr2 Fm30 18 rfl).trans ((fr2 Fm23 18 rfl).trans ((fr2 Fm18 18 rfl).trans (fr2 Fm9 18 rfl))))), (show (m30.2 19) = (m.2 19) from ((fr2 Fm30 19 rfl).trans ((fr2 Fm23 19 rfl).trans ((fr2 Fm18 19 rfl).trans (fr2 Fm9 19 rfl)))))]; exact hNK)
            · skip
              refine T_ld 104 (.ref 178) rfl (fun _ => rfl) ?_
              refine T_ld 105 (.int (i32 de)) rfl (fun _ => rfl) ?_
              refine T_callx 108 125 [.ref 178, .int (i32 de)] [] rfl (fun _ => rfl) rfl rfl (c_rd_arrayOf w (mO m30 [] []) c N D (by omega) Tm30 de (r32 (by omega) (by omega)) (show KPp (m30.1 203) (m30.2 8) (m30.2 9) (m30.1 214) (m30.1 215) (m30.1 216) (m30.1 217) (m30.1 221) (m30.1 223) (m30.1 219) by rewrite [(show (m30.1 203) = (m.1 203) from ((fr1 Fm30 203 rfl).trans ((fr1 Fm23 203 rfl).trans ((fr1 Fm18 203 rfl).trans (fr1 Fm9 203 rfl))))), (show (m30.2 8) = (m.2 8) from ((fr2 Fm30 8 rfl).trans ((fr2 Fm23 8 rfl).trans ((fr2 Fm18 8 rfl).trans (fr2 Fm9 8 rfl))))), (show (m30.2 9) = (m.2 9) from ((fr2 Fm30 9 rfl).trans ((fr2 Fm23 9 rfl).trans ((fr2 Fm18 9 rfl).trans (fr2 Fm9 9 rfl))))), (show (m30.1 214) = (m.1 214) from ((fr1 Fm30 214 rfl).trans ((fr1 Fm23 214 rfl).trans ((fr1 Fm18 214 rfl).trans (fr1 Fm9 214 rfl))))), (show (m30.1 215) = (m.1 215) from ((fr1 Fm30 215 rfl).trans ((fr1 Fm23 215 rfl).trans ((fr1 Fm18 215 rfl).trans (fr1 Fm9 215 rfl))))), (show (m30.1 216) = (m.1 216) from ((fr1 Fm30 216 rfl).trans ((fr1 Fm23 216 rfl).trans ((fr1 Fm18 216 rfl).trans (fr1 Fm9 216 rfl))))), (show (m30.1 217) = (m.1 217) from ((fr1 Fm30 217 rfl).trans ((fr1 Fm23 217 rfl).trans ((fr1 Fm18 217 rfl).trans (fr1 Fm9 217 rfl))))), (show (m30.1 221) = (m.1 221) from ((fr1 Fm30 221 rfl).trans ((fr1 Fm23 221 rfl).trans ((fr1 Fm18 221 rfl).trans (fr1 Fm9 221 rfl))))), (show (m30.1 223) = (m.1 223) from ((fr1 Fm30 223 rfl).trans ((fr1 Fm23 223 rfl).trans ((fr1 Fm18 223 rfl).trans (fr1 Fm9 223 rfl))))), (show (m30.1 219) = (m.1 219) from ((fr1 Fm30 219 rfl).trans ((fr1 Fm23 219 rfl).trans ((fr1 Fm18 219 rfl).trans (fr1 Fm9 219 rfl)))))]; exact pKP) (show 0 ≤ de ∧ de ≤ 239 by omega) (show (m30.2 46) de ≤ 219 by rewrite [(show (m30.2 46) = (m23.2 46) from (fr2 Fm30 46 rfl))]; omega)) (fun rr195 k196 => ?_)
              rcases k196 with ⟨m197, Tm197, Fm197, h198, h199, rfl⟩ | ⟨xx202, m200, hx201, Tm200, Fm200, rfl⟩
              rotate_left
              · skip
                refine Or.inr ⟨_, _, _, _, rfl, ?_⟩
                exact Or.inr ⟨xx202, (mO m200 [] []), (hx201), Tm200, (fr_m (fr_s Fm200 (fr_m (fr_s Fm30 (fr_m (fr_s Fm23 (fr_m (fr_s Fm18 (fr_m (fr_s Fm9 (fr_m fr_0 rfl rfl) rfl rfl) rfl rfl) rfl rfl) rfl rfl) rfl rfl) rfl rfl) rfl rfl) rfl rfl) rfl rfl) rfl rfl), (show NKp (m200.2 18) (m200.2 19) by rewrite [(show (m200.2 18) = (m.2 18) from ((fr2 Fm200 18 rfl).trans ((fr2 Fm30 18 rfl).trans ((fr2 Fm23 18 rfl).trans ((fr2 Fm18 18 rfl).trans (fr2 Fm9 18 rfl)))))), (show (m200.2 19) = (m.2 19) from ((fr2 Fm200 19 rfl).trans ((fr2 Fm30 19 rfl).trans ((fr2 Fm23 19 rfl).trans ((fr2 Fm18 19 rfl).trans (fr2 Fm9 19 rfl))))))]; exact hNK), rfl⟩
              refine Or.inl ⟨_, _, _, _, rfl, ?_⟩
              refine K_nb (st' := []) rfl ?_
              have g203 : (-1) ≤ m197.1 206 ∧ m197.1 206 ≤ 65535 := Tm197.1 206
              replace h198 : 0 ≤ (m197.2 47) de := h198
              have hAo := h198
              replace h199 : agr (m30.2 47) (m197.2 47) de := h199
              rewrite [(show (m30.2 47) = (m9.2 47) from ((fr2 Fm30 47 rfl).trans ((fr2 Fm23 47 rfl).trans (fr2 Fm18 47 rfl))))] at h199
              have hAp := h199
              refine T_ld 109 (.ref 178) rfl (fun _ => rfl) ?_
              refine K_gf 112 (.ref 6) rfl rfl kd_178 rfl rfl rfl ?_
              refine T_ld 114 (.int (i32 91)) rfl (fun _ => rfl) ?_
              refine T_callx 117 78 [.ref 6, .int (i32 91)] [] rfl (fun _ => rfl) rfl rfl (c_tx_expect w (mO m197 [] []) c N D (by omega) Tm197 91 ⟨by decide, by decide⟩) (fun rr204 k205 => ?_)
              rcases k205 with ⟨m206, Tm206, Fm206, h207, h208, rfl⟩ | ⟨xx211, m209, hx210, Tm209, Fm209, rfl⟩
              rotate_left
              · skip
                refine Or.inr ⟨_, _, _, _, rfl, ?_⟩
                exact Or.inr ⟨xx211, (mO m209 [] []), (hx210), Tm209, (fr_m (fr_s Fm209 (fr_m (fr_s Fm197 (fr_m (fr_s Fm30 (fr_m (fr_s Fm23 (fr_m (fr_s Fm18 (fr_m (fr_s Fm9 (fr_m fr_0 rfl rfl) rfl rfl) rfl rfl) rfl rfl) rfl rfl) rfl rfl) rfl rfl) rfl rfl) rfl rfl) rfl rfl) rfl rfl) rfl rfl) rfl rfl), (show NKp (m209.2 18) (m209.2 19) by rewrite [(show (m209.2 18) = (m.2 18) from ((fr2 Fm209 18 rfl).trans ((fr2 Fm197 18 rfl).trans ((fr2 Fm30 18 rfl).trans ((fr2 Fm23 18 rfl).trans ((fr2 Fm18 18 rfl).trans (fr2 Fm9 18 rfl))))))), (show (m209.2 19) = (m.2 19) from ((fr2 Fm209 19 rfl).trans ((fr2 Fm197 19 rfl).trans ((fr2 Fm30 19 rfl).trans ((fr2 Fm23 19 rfl).trans ((fr2 Fm18 19 rfl).trans (fr2 Fm9 19 rfl)))))))]; exact hNK), rfl⟩
              refine Or.inl ⟨_, _, _, _, rfl, ?_⟩
              refine K_nb (st' := []) rfl ?_
              have g212 : (-1) ≤ m206.1 206 ∧ m206.1 206 ≤ 65535 := Tm206.1 206
              replace h207 : (m197.1 206) = (91 : Int) := h207
              replace h208 : (m197.1 213) = 0 := h208
              rewrite [(show (m197.1 213) = (m.1 213) from ((fr1 Fm197 213 rfl).trans ((fr1 Fm30 213 rfl).trans ((fr1 Fm23 213 rfl).trans ((fr1 Fm18 213 rfl).trans (fr1 Fm9 213 rfl))))))] at h208
              refine T_ld 118 (.ref 178) rfl (fun _ => rfl) ?_
              refine K_gf 121 (.ref 45) rfl rfl kd_178 rfl rfl rfl ?_
              refine K_gf 124 (.ref 55) rfl rfl kd_45 rfl rfl rfl ?_
              refine T_ld 125 (.int (i32 de)) rfl (fun _ => rfl) ?_
              refine T_ld 126 (.ref 178) rfl (fun _ => rfl) ?_
              refine K_gf 129 (.ref 12) rfl rfl kd_178 rfl rfl rfl ?_
              refine K_gf 132 (.ref 22) rfl rfl kd_12 rfl rfl rfl ?_
              refine K_gf 135 (.int (i32 (m.1 220))) rfl rfl kd_22 rfl (kval_c2 (k := 220) (F := fun x => .int (i32 x)) rfl (show (m206.1 220) = (m.1 220) from ((fr1 Fm206 220 rfl).trans ((fr1 Fm197 220 rfl).trans ((fr1 Fm30 220 rfl).trans ((fr1 Fm23 220 rfl).trans ((fr1 Fm18 220 rfl).trans (fr1 Fm9 220 rfl)))))))) rfl ?_
              have G213 : ∀ j, 0 ≤ (upI (m.2 48) de (m.1 220)) j ∧ (upI (m.2 48) de (m.1 220)) j ≤ 1090 := upI_rg (hT.2.1 48) ⟨by omega, by omega⟩
              refine K_iast (a' := [(48, upI (m.2 48) de (m.1 220))]) 136 48 (m.2 48) rfl rfl rfl (by omega) (show de < (240 : Int) by omega) (show (m206.2 48) = (m.2 48) from ((fr2 Fm206 48 rfl).trans ((fr2 Fm197 48 rfl).trans ((fr2 Fm30 48 rfl).trans ((fr2 Fm23 48 rfl).trans ((fr2 Fm18 48 rfl).trans (fr2 Fm9 48 rfl))))))) rfl ?_
              refine T_ld 137 (.ref 178) rfl (fun _ => rfl) ?_
              refine K_gf 140 (.ref 45) rfl rfl kd_178 rfl rfl rfl ?_
              refine K_gf 143 (.ref 56) rfl rfl kd_45 rfl rfl rfl ?_
              refine T_ld 144 (.int (i32 de)) rfl (fun _ => rfl) ?_
              refine T_ld 145 (.ref 178) rfl (fun _ => rfl) ?_
              refine K_gf 148 (.ref 181) rfl rfl kd_178 rfl rfl rfl ?_
              refine T_ld 149 (.int (i32 a)) rfl (fun _ => rfl) ?_
              refine T_callx 152 92 [.ref 181, .int (i32 a)] [.int (i32 de), .ref 56] rfl (fun _ => rfl) rfl rfl (c_fm_whole w (mO m206 [] [(48, upI (m.2 48) de (m.1 220))]) c N D (by omega) (KTy_mO Tm206 rfl rfl trivial ⟨G213, trivial⟩) a (r32 (by omega) (by omega)) (show NKp (m206.2 18) (m206.2 19) by rewrite [(show (m206.2 18) = (m.2 18) from ((fr2 Fm206 18 rfl).trans ((fr2 Fm197 18 rfl).trans ((fr2 Fm30 18 rfl).trans ((fr2 Fm23 18 rfl).trans ((fr2 Fm18 18 rfl).trans (fr2 Fm9 18 rfl))))))), (show (m206.2 19) = (m.2 19) from ((fr2 Fm206 19 rfl).trans ((fr2 Fm197 19 rfl).trans ((fr2 Fm30 19 rfl).trans ((fr2 Fm23 19 rfl).trans ((fr2 Fm18 19 rfl).trans (fr2 Fm9 19 rfl)))))))]; exact hNK) (show KPp (m206.1 203) (m206.2 8) (m206.2 9) (m206.1 214) (m206.1 215) (m206.1 216) (m206.1 217) (m206.1 221) (m206.1 223) (m206.1 219) by rewrite [(show (m206.1 203) = (m.1 203) from ((fr1 Fm206 203 rfl).trans ((fr1 Fm197 203 rfl).trans ((fr1 Fm30 203 rfl).trans ((fr1 Fm23 203 rfl).trans ((fr1 Fm18 203 rfl).trans (fr1 Fm9 203 rfl))))))), (show (m206.2 8) = (m.2 8) from ((fr2 Fm206 8 rfl).trans ((fr2 Fm197 8 rfl).trans ((fr2 Fm30 8 rfl).trans ((fr2 Fm23 8 rfl).trans ((fr2 Fm18 8 rfl).trans (fr2 Fm9 8 rfl))))))), (show (m206.2 9) = (m.2 9) from ((fr2 Fm206 9 rfl).trans ((fr2 Fm197 9 rfl).trans ((fr2 Fm30 9 rfl).trans ((fr2 Fm23 9 rfl).trans ((fr2 Fm18 9 rfl).trans (fr2 Fm9 9 rfl))))))), (show (m206.1 214) = (m.1 214) from ((fr1 Fm206 214 rfl).trans ((fr1 Fm197 214 rfl).trans ((fr1 Fm30 214 rfl).trans ((fr1 Fm23 214 rfl).trans ((fr1 Fm18 214 rfl).trans (fr1 Fm9 214 rfl))))))), (show (m206.1 215) = (m.1 215) from ((fr1 Fm206 215 rfl).trans ((fr1 Fm197 215 rfl).trans ((fr1 Fm30 215 rfl).trans ((fr1 Fm23 215 rfl).trans ((fr1 Fm18 215 rfl).trans (fr1 Fm9 215 rfl))))))), (show (m206.1 216) = (m.1 216) from ((fr1 Fm206 216 rfl).trans ((fr1 Fm197 216 rfl).trans ((fr1 Fm30 216 rfl).trans ((fr1 Fm23 216 rfl).trans ((fr1 Fm18 216 rfl).trans (fr1 Fm9 216 rfl))))))), (show (m206.1 217) = (m.1 217) from ((fr1 Fm206 217 rfl).trans ((fr1 Fm197 217 rfl).trans ((fr1 Fm30 217 rfl).trans ((fr1 Fm23 217 rfl).trans ((fr1 Fm18 217 rfl).trans (fr1 Fm9 217 rfl))))))), (show (m206.1 221) = (m.1 221) from ((fr1 Fm206 221 rfl).trans ((fr1 Fm197 221 rfl).trans ((fr1 Fm30 221 rfl).trans ((fr1 Fm23 221 rfl).trans ((fr1 Fm18 221 rfl).trans (fr1 Fm9 221 rfl))))))), (show (m206.1 223) = (m.1 223) from ((fr1 Fm206 223 rfl).trans ((fr1 Fm197 223 rfl).trans ((fr1 Fm30 223 rfl).trans ((fr1 Fm23 223 rfl).trans ((fr1 Fm18 223 rfl).trans (fr1 Fm9 223 rfl))))))), (show (m206.1 219) = (m.1 219) from ((fr1 Fm206 219 rfl).trans ((fr1 Fm197 219 rfl).trans ((fr1 Fm30 219 rfl).trans ((fr1 Fm23 219 rfl).trans ((fr1 Fm18 219 rfl).trans (fr1 Fm9 219 rfl)))))))]; exact pKP) (show (-1) ≤ a ∧ a ≤ 15 by omega)) (fun rr214 k215 => ?_)
              rcases k215 with ⟨m216, ro, Tm216, Fm216, g217, h218, rfl⟩ | ⟨xx222, m219, hx220, Tm219, Fm219, h221, rfl⟩
              rotate_left
              · skip
                refine Or.inr ⟨_, _, _, _, rfl, ?_⟩
                have hNK := h221
                exact Or.inr ⟨xx222, (mO m219 [] []), (hx220), Tm219, (fr_m (fr_s Fm219 (fr_m (fr_s Fm206 (fr_m (fr_s Fm197 (fr_m (fr_s Fm30 (fr_m (fr_s Fm23 (fr_m (fr_s Fm18 (fr_m (fr_s Fm9 (fr_m fr_0 rfl rfl) rfl rfl) rfl rfl) rfl rfl) rfl rfl) rfl rfl) rfl rfl) rfl rfl) rfl rfl) rfl rfl) rfl rfl) rfl rfl) rfl rfl) rfl rfl) rfl rfl), (show NKp (m219.2 18) (m219.2 19) by exact hNK), rfl⟩
              refine Or.inl ⟨_, _, _, _, rfl, ?_⟩
              refine K_nb (st' := [.int (i32 ro), .int (i32 de), .ref 56]) rfl ?_
              obtain ⟨g217a, g217b⟩ := g217
              have g223 : (-1) ≤ m216.1 206 ∧ m216.1 206 ≤ 65535 := Tm216.1 206
              have g224 : 0 ≤ m216.1 213 ∧ m216.1 213 ≤ 1 := Tm216.1 213
              have g225 : 0 ≤ m216.1 220 ∧ m216.1 220 ≤ 1090 := Tm216.1 220
              replace h218 : NKp (m216.2 18) (m216.2 19) := h218
              have hNK := h218
              have G226 : ∀ j, (-1) ≤ (upI (m9.2 49) de ro) j ∧ (upI (m9.2 49) de ro) j ≤ 1089 := upI_rg (Tm9.2.1 49) ⟨by omega, by omega⟩
              refine K_iast (a' := [(49, upI (m9.2 49) de ro)]) 153 49 (m9.2 49) rfl rfl rfl (by omega) (show de < (240 : Int) by omega) (show (m216.2 49) = (m9.2 49) from ((fr2 Fm216 49 rfl).trans ((fr2 Fm206 49 rfl).trans ((fr2 Fm197 49 rfl).trans ((fr2 Fm30 49 rfl).trans ((fr2 Fm23 49 rfl).trans (fr2 Fm18 49 rfl))))))) rfl ?_
              refine T_ld 154 (.ref 178) rfl (fun _ => rfl) ?_
              refine K_gf 157 (.ref 6) rfl rfl kd_178 rfl rfl rfl ?_
              refine T_ld 159 (.int (i32 93)) rfl (fun _ => rfl) ?_
              refine T_callx 162 78 [.ref 6, .int (i32 93)] [] rfl (fun _ => rfl) rfl rfl (c_tx_expect w (mO m216 [] [(49, upI (m9.2 49) de ro)]) c N D (by omega) (KTy_mO Tm216 rfl rfl trivial ⟨G226, trivial⟩) 93 ⟨by decide, by decide⟩) (fun rr227 k228 => ?_)
              rcases k228 with ⟨m229, Tm229, Fm229, h230, h231, rfl⟩ | ⟨xx234, m232, hx233, Tm232, Fm232, rfl⟩
              rotate_left
              · skip
                refine Or.inr ⟨_, _, _, _, rfl, ?_⟩
                exact Or.inr ⟨xx234, (mO m232 [] []), (hx233), Tm232, (fr_m (fr_s Fm232 (fr_m (fr_s Fm216 (fr_m (fr_s Fm206 (fr_m (fr_s Fm197 (fr_m (fr_s Fm30 (fr_m (fr_s Fm23 (fr_m (fr_s Fm18 (fr_m (fr_s Fm9 (fr_m fr_0 rfl rfl) rfl rfl) rfl rfl) rfl rfl) rfl rfl) rfl rfl) rfl rfl) rfl rfl) rfl rfl) rfl rfl) rfl rfl) rfl rfl) rfl rfl) rfl rfl) rfl rfl) rfl rfl) rfl rfl), (show NKp (m232.2 18) (m232.2 19) by rewrite [(show (m232.2 18) = (m216.2 18) from (fr2 Fm232 18 rfl)), (show (m232.2 19) = (m216.2 19) from (fr2 Fm232 19 rfl))]; exact hNK), rfl⟩
              refine Or.inl ⟨_, _, _, _, rfl, ?_⟩
              refine K_nb (st' := []) rfl ?_
              have g235 : (-1) ≤ m229.1 206 ∧ m229.1 206 ≤ 65535 := Tm229.1 206
              replace h230 : (m216.1 206) = (93 : Int) := h230
              replace h231 : (m216.1 213) = 0 := h231
              exact J162_36 (mO m229 [] []) Tm229 (fr_m (fr_s Fm229 (fr_m (fr_s Fm216 (fr_m (fr_s Fm206 (fr_m (fr_s Fm197 (fr_m fr_0 rfl rfl) rfl rfl) rfl rfl) rfl rfl) rfl rfl) rfl rfl) rfl rfl) rfl rfl) rfl rfl) (show DEp de (m9.2 45) (m23.2 46) (m229.2 47) (m229.2 49) by rewrite [(show (m229.2 47) = (m197.2 47) from ((fr2 Fm229 47 rfl).trans ((fr2 Fm216 47 rfl).trans (fr2 Fm206 47 rfl)))), (show (m229.2 49) = (upI (m9.2 49) de ro) from (fr2 Fm229 49 rfl))]; first | exact hDE | exact DE_g hDE (agr_r _ _) (agr_u (by omega)) (agr_r _ _) (agr_r _ _) | exact DE_g hDE (agr_r _ _) (agr_r _ _) hAp (agr_u (by omega))) (show ((m9.2 45) de = 327 ∨ (m9.2 45) de = 328) ∧ 0 ≤ (m229.2 47) de ∧ 0 ≤ (m229.2 49) de ∨ (m9.2 45) de ≠ 327 ∧ (m9.2 45) de ≠ 328 ∧ (m229.2 47) de = -1 by rewrite [(show (m229.2 47) = (m197.2 47) from ((fr2 Fm229 47 rfl).trans ((fr2 Fm216 47 rfl).trans (fr2 Fm206 47 rfl)))), (show (m229.2 49) = (upI (m9.2 49) de ro) from (fr2 Fm229 49 rfl))]; first | omega | (rw [upI_s]; omega)) (show NKp (m229.2 18) (m229.2 19) by rewrite [(show (m229.2 18) = (m216.2 18) from (fr2 Fm229 18 rfl)), (show (m229.2 19) = (m216.2 19) from (fr2 Fm229 19 rfl))]; exact hNK)
        refine T_ld 75 (.int (i32 s1)) rfl (fun _ => rfl) ?_
        refine T_ld 77 (.int (i32 61)) rfl (fun _ => rfl) ?_
        refine T_icmp 89 80 rfl rfl rfl (r32 (by omega) (by omega)) ⟨by decide, by decide⟩ (fun (h236 : s1 ≠ 61) => ?_) (fun (h236 : ¬ (s1 ≠ 61)) => ?_)
        · skip
          exact J89_31 (mO m23 [] []) Tm23 (fr_m fr_0 rfl rfl)
        · skip
          refine T_ld 81 (.ref 178) rfl (fun _ => rfl) ?_
          refine K_gf 84 (.ref 6) rfl rfl kd_178 rfl rfl rfl ?_
          refine T_ld 86 (.int (i32 61)) rfl (fun _ => rfl) ?_
          refine T_callx 89 78 [.ref 6, .int (i32 61)] [] rfl (fun _ => rfl) rfl rfl (c_tx_expect w (mO m23 [] []) c N D (by omega) Tm23 61 ⟨by decide, by decide⟩) (fun rr237 k238 => ?_)
          rcases k238 with ⟨m239, Tm239, Fm239, h240, h241, rfl⟩ | ⟨xx244, m242, hx243, Tm242, Fm242, rfl⟩
          rotate_left
          · skip
            refine Or.inr ⟨_, _, _, _, rfl, ?_⟩
            exact Or.inr ⟨xx244, (mO m242 [] []), (hx243), Tm242, (fr_m (fr_s Fm242 (fr_m (fr_s Fm23 (fr_m (fr_s Fm18 (fr_m (fr_s Fm9 (fr_m fr_0 rfl rfl) rfl rfl) rfl rfl) rfl rfl) rfl rfl) rfl rfl) rfl rfl) rfl rfl) rfl rfl), (show NKp (m242.2 18) (m242.2 19) by rewrite [(show (m242.2 18) = (m.2 18) from ((fr2 Fm242 18 rfl).trans ((fr2 Fm23 18 rfl).trans ((fr2 Fm18 18 rfl).trans (fr2 Fm9 18 rfl))))), (show (m242.2 19) = (m.2 19) from ((fr2 Fm242 19 rfl).trans ((fr2 Fm23 19 rfl).trans ((fr2 Fm18 19 rfl).trans (fr2 Fm9 19 rfl)))))]; exact hNK), rfl⟩
          refine Or.inl ⟨_, _, _, _, rfl, ?_⟩
          refine K_nb (st' := []) rfl ?_
          have g245 : (-1) ≤ m239.1 206 ∧ m239.1 206 ≤ 65535 := Tm239.1 206
          replace h240 : (m23.1 206) = (61 : Int) := h240
          replace h241 : (m23.1 213) = 0 := h241
          rewrite [(show (m23.1 213) = (m.1 213) from ((fr1 Fm23 213 rfl).trans ((fr1 Fm18 213 rfl).trans (fr1 Fm9 213 rfl))))] at h241
          exact J89_31 (mO m239 [] []) Tm239 (fr_m (fr_s Fm239 (fr_m fr_0 rfl rfl) rfl rfl) rfl rfl)
      refine T_ld 49 (.int (i32 s1)) rfl (fun _ => rfl) ?_
      refine T_ld 51 (.int (i32 61)) rfl (fun _ => rfl) ?_
      refine T_icmp 61 54 rfl rfl rfl (r32 (by omega) (by omega)) ⟨by decide, by decide⟩ (fun (h246 : s1 = 61) => ?_) (fun (h246 : ¬ (s1 = 61)) => ?_)
      · skip
        refine T_ld 62 (.ref 178) rfl (fun _ => rfl) ?_
        refine K_gf 65 (.ref 45) rfl rfl kd_178 rfl rfl rfl ?_
        refine K_gf 68 (.ref 53) rfl rfl kd_45 rfl rfl rfl ?_
        refine T_ld 69 (.int (i32 de)) rfl (fun _ => rfl) ?_
        refine T_ld 70 (.ref 178) rfl (fun _ => rfl) ?_
        refine T_callx 73 124 [.ref 178] [.int (i32 de), .ref 53] rfl (fun _ => rfl) rfl rfl (c_rd_writtenSlot w (mO m18 [] []) c N D (by omega) Tm18 (show KPp (m18.1 203) (m18.2 8) (m18.2 9) (m18.1 214) (m18.1 215) (m18.1 216) (m18.1 217) (m18.1 221) (m18.1 223) (m18.1 219) by rewrite [(show (m18.1 203) = (m.1 203) from ((fr1 Fm18 203 rfl).trans (fr1 Fm9 203 rfl))), (show (m18.2 8) = (m.2 8) from ((fr2 Fm18 8 rfl).trans (fr2 Fm9 8 rfl))), (show (m18.2 9) = (m.2 9) from ((fr2 Fm18 9 rfl).trans (fr2 Fm9 9 rfl))), (show (m18.1 214) = (m.1 214) from ((fr1 Fm18 214 rfl).trans (fr1 Fm9 214 rfl))), (show (m18.1 215) = (m.1 215) from ((fr1 Fm18 215 rfl).trans (fr1 Fm9 215 rfl))), (show (m18.1 216) = (m.1 216) from ((fr1 Fm18 216 rfl).trans (fr1 Fm9 216 rfl))), (show (m18.1 217) = (m.1 217) from ((fr1 Fm18 217 rfl).trans (fr1 Fm9 217 rfl))), (show (m18.1 221) = (m.1 221) from ((fr1 Fm18 221 rfl).trans (fr1 Fm9 221 rfl))), (show (m18.1 223) = (m.1 223) from ((fr1 Fm18 223 rfl).trans (fr1 Fm9 223 rfl))), (show (m18.1 219) = (m.1 219) from ((fr1 Fm18 219 rfl).trans (fr1 Fm9 219 rfl)))]; exact pKP)) (fun rr247 k248 => ?_)
        rcases k248 with ⟨m249, ws, Tm249, Fm249, g250, rfl⟩ | ⟨xx253, m251, hx252, Tm251, Fm251, rfl⟩
        rotate_left
        · skip
          refine Or.inr ⟨_, _, _, _, rfl, ?_⟩
          exact Or.inr ⟨xx253, (mO m251 [] []), (hx252), Tm251, (fr_m (fr_s Fm251 (fr_m (fr_s Fm18 (fr_m (fr_s Fm9 (fr_m fr_0 rfl rfl) rfl rfl) rfl rfl) rfl rfl) rfl rfl) rfl rfl) rfl rfl), (show NKp (m251.2 18) (m251.2 19) by rewrite [(show (m251.2 18) = (m.2 18) from ((fr2 Fm251 18 rfl).trans ((fr2 Fm18 18 rfl).trans (fr2 Fm9 18 rfl)))), (show (m251.2 19) = (m.2 19) from ((fr2 Fm251 19 rfl).trans ((fr2 Fm18 19 rfl).trans (fr2 Fm9 19 rfl))))]; exact hNK), rfl⟩
        refine Or.inl ⟨_, _, _, _, rfl, ?_⟩
        refine K_nb (st' := [.int (i32 ws), .int (i32 de), .ref 53]) rfl ?_
        obtain ⟨g250a, g250b⟩ := g250
        have g254 : (-1) ≤ m249.1 206 ∧ m249.1 206 ≤ 65535 := Tm249.1 206
        have G255 : ∀ j, (-1) ≤ (upI (m9.2 46) de ws) j ∧ (upI (m9.2 46) de ws) j ≤ 220 := upI_rg (Tm9.2.1 46) ⟨by omega, by omega⟩
        refine K_iast (a' := [(46, upI (m9.2 46) de ws)]) 74 46 (m9.2 46) rfl rfl rfl (by omega) (show de < (240 : Int) by omega) (show (m249.2 46) = (m9.2 46) from ((fr2 Fm249 46 rfl).trans (fr2 Fm18 46 rfl))) rfl ?_
        exact J74_24 (mO m249 [] [(46, upI (m9.2 46) de ws)]) (KTy_mO Tm249 rfl rfl trivial ⟨G255, trivial⟩) (fr_m (fr_s Fm249 (fr_m fr_0 rfl rfl) rfl rfl) rfl rfl) (show DEp de (m9.2 45) (upI (m9.2 46) de ws) (m9.2 47) (m9.2 49) by first | exact hDE | exact DE_g hDE (agr_r _ _) (agr_u (by omega)) (agr_r _ _) (agr_r _ _) | exact DE_g hDE (agr_r _ _) (agr_r _ _) hAp (agr_u (by omega))) (show ((m9.2 45) de = 61 ∨ (m9.2 45) de = 327) ∧ 0 ≤ (upI (m9.2 46) de ws) de ∧ (upI (m9.2 46) de ws) de ≤ 219 ∨ (m9.2 45) de ≠ 61 ∧ (m9.2 45) de ≠ 327 ∧ (upI (m9.2 46) de ws) de = -1 by first | omega | (rw [upI_s]; omega))
      · skip
        refine T_ld 55 (.int (i32 s1)) rfl (fun _ => rfl) ?_
        refine T_ld 58 (.int (i32 327)) rfl (fun _ => rfl) ?_
        refine T_icmp 74 61 rfl rfl rfl (r32 (by omega) (by omega)) ⟨by decide, by decide⟩ (fun (h256 : s1 ≠ 327) => ?_) (fun (h256 : ¬ (s1 ≠ 327)) => ?_)
        · skip
          exact J74_24 (mO m18 [] []) Tm18 (fr_m fr_0 rfl rfl) (show DEp de (m9.2 45) (m18.2 46) (m9.2 47) (m9.2 49) by rewrite [(show (m18.2 46) = (m9.2 46) from (fr2 Fm18 46 rfl))]; first | exact hDE | exact DE_g hDE (agr_r _ _) (agr_u (by omega)) (agr_r _ _) (agr_r _ _) | exact DE_g hDE (agr_r _ _) (agr_r _ _) hAp (agr_u (by omega))) (show ((m9.2 45) de = 61 ∨ (m9.2 45) de = 327) ∧ 0 ≤ (m18.2 46) de ∧ (m18.2 46) de ≤ 219 ∨ (m9.2 45) de ≠ 61 ∧ (m9.2 45) de ≠ 327 ∧ (m18.2 46) de = -1 by rewrite [(show (m18.2 46) = (m9.2 46) from (fr2 Fm18 46 rfl))]; first | omega | (rw [upI_s]; omega))
        · skip
          refine T_ld 62 (.ref 178) rfl (fun _ => rfl) ?_
          refine K_gf 65 (.ref 45) rfl rfl kd_178 rfl rfl rfl ?_
          refine K_gf 68 (.ref 53) rfl rfl kd_45 rfl rfl rfl ?_
          refine T_ld 69 (.int (i32 de)) rfl (fun _ => rfl) ?_
          refine T_ld 70 (.ref 178) rfl (fun _ => rfl) ?_
          refine T_callx 73 124 [.ref 178] [.int (i32 de), .ref 53] rfl (fun _ => rfl) rfl rfl (c_rd_writtenSlot w (mO m18 [] []) c N D (by omega) Tm18 (show KPp (m18.1 203) (m18.2 8) (m18.2 9) (m18.1 214) (m18.1 215) (m18.1 216) (m18.1 217) (m18.1 221) (m18.1 223) (m18.1 219) by rewrite [(show (m18.1 203) = (m.1 203) from ((fr1 Fm18 203 rfl).trans (fr1 Fm9 203 rfl))), (show (m18.2 8) = (m.2 8) from ((fr2 Fm18 8 rfl).trans (fr2 Fm9 8 rfl))), (show (m18.2 9) = (m.2 9) from ((fr2 Fm18 9 rfl).trans (fr2 Fm9 9 rfl))), (show (m18.1 214) = (m.1 214) from ((fr1 Fm18 214 rfl).trans (fr1 Fm9 214 rfl))), (show (m18.1 215) = (m.1 215) from ((fr1 Fm18 215 rfl).trans (fr1 Fm9 215 rfl))), (show (m18.1 216) = (m.1 216) from ((fr1 Fm18 216 rfl).trans (fr1 Fm9 216 rfl))), (show (m18.1 217) = (m.1 217) from ((fr1 Fm18 217 rfl).trans (fr1 Fm9 217 rfl))), (show (m18.1 221) = (m.1 221) from ((fr1 Fm18 221 rfl).trans (fr1 Fm9 221 rfl))), (show (m18.1 223) = (m.1 223) from ((fr1 Fm18 223 rfl).trans (fr1 Fm9 223 rfl))), (show (m18.1 219) = (m.1 219) from ((fr1 Fm18 219 rfl).trans (fr1 Fm9 219 rfl)))]; exact pKP)) (fun rr257 k258 => ?_)
          rcases k258 with ⟨m259, ws, Tm259, Fm259, g260, rfl⟩ | ⟨xx263, m261, hx262, Tm261, Fm261, rfl⟩
          rotate_left
          · skip
            refine Or.inr ⟨_, _, _, _, rfl, ?_⟩
            exact Or.inr ⟨xx263, (mO m261 [] []), (hx262), Tm261, (fr_m (fr_s Fm261 (fr_m (fr_s Fm18 (fr_m (fr_s Fm9 (fr_m fr_0 rfl rfl) rfl rfl) rfl rfl) rfl rfl) rfl rfl) rfl rfl) rfl rfl), (show NKp (m261.2 18) (m261.2 19) by rewrite [(show (m261.2 18) = (m.2 18) from ((fr2 Fm261 18 rfl).trans ((fr2 Fm18 18 rfl).trans (fr2 Fm9 18 rfl)))), (show (m261.2 19) = (m.2 19) from ((fr2 Fm261 19 rfl).trans ((fr2 Fm18 19 rfl).trans (fr2 Fm9 19 rfl))))]; exact hNK), rfl⟩
          refine Or.inl ⟨_, _, _, _, rfl, ?_⟩
          refine K_nb (st' := [.int (i32 ws), .int (i32 de), .ref 53]) rfl ?_
          obtain ⟨g260a, g260b⟩ := g260
          have g264 : (-1) ≤ m259.1 206 ∧ m259.1 206 ≤ 65535 := Tm259.1 206
          have G265 : ∀ j, (-1) ≤ (upI (m9.2 46) de ws) j ∧ (upI (m9.2 46) de ws) j ≤ 220 := upI_rg (Tm9.2.1 46) ⟨by omega, by omega⟩
          refine K_iast (a' := [(46, upI (m9.2 46) de ws)]) 74 46 (m9.2 46) rfl rfl rfl (by omega) (show de < (240 : Int) by omega) (show (m259.2 46) = (m9.2 46) from ((fr2 Fm259 46 rfl).trans (fr2 Fm18 46 rfl))) rfl ?_
          exact J74_24 (mO m259 [] [(46, upI (m9.2 46) de ws)]) (KTy_mO Tm259 rfl rfl trivial ⟨G265, trivial⟩) (fr_m (fr_s Fm259 (fr_m fr_0 rfl rfl) rfl rfl) rfl rfl) (show DEp de (m9.2 45) (upI (m9.2 46) de ws) (m9.2 47) (m9.2 49) by first | exact hDE | exact DE_g hDE (agr_r _ _) (agr_u (by omega)) (agr_r _ _) (agr_r _ _) | exact DE_g hDE (agr_r _ _) (agr_r _ _) hAp (agr_u (by omega))) (show ((m9.2 45) de = 61 ∨ (m9.2 45) de = 327) ∧ 0 ≤ (upI (m9.2 46) de ws) de ∧ (upI (m9.2 46) de ws) de ≤ 219 ∨ (m9.2 45) de ≠ 61 ∧ (m9.2 45) de ≠ 327 ∧ (upI (m9.2 46) de ws) de = -1 by first | omega | (rw [upI_s]; omega))
    refine T_ld 36 (.int (i32 s1)) rfl (fun _ => rfl) ?_
    refine T_ld 38 (.int (i32 61)) rfl (fun _ => rfl) ?_
    refine T_icmp 48 41 rfl rfl rfl (r32 (by omega) (by omega)) ⟨by decide, by decide⟩ (fun (h266 : s1 = 61) => ?_) (fun (h266 : ¬ (s1 = 61)) => ?_)
    · skip
      refine Tm_lv (a := [(0, .ref 178), (1, .int (i32 a)), (2, .int (i32 s1)), (3, .int (i32 de))]) rfl rfl ⟨rfl, rfl, rfl, rfl, trivial⟩ ?_
      exact J48_19 (mO m9 [] []) Tm9 (fr_m fr_0 rfl rfl)
    · skip
      refine T_ld 42 (.ref 178) rfl (fun _ => rfl) ?_
      refine K_gf 45 (.ref 6) rfl rfl kd_178 rfl rfl rfl ?_
      refine T_callx 48 50 [.ref 6] [] rfl (fun _ => rfl) rfl rfl (c_tx_advance w (mO m9 [] []) c N D (by omega) Tm9 ) (fun rr267 k268 => ?_)
      rcases k268 with ⟨m269, Tm269, Fm269, h270, rfl⟩ | ⟨xx273, m271, hx272, Tm271, Fm271, rfl⟩
      rotate_left
      · skip
        refine Or.inr ⟨_, _, _, _, rfl, ?_⟩
        exact Or.inr ⟨xx273, (mO m271 [] []), (hx272), Tm271, (fr_m (fr_s Fm271 (fr_m (fr_s Fm9 (fr_m fr_0 rfl rfl) rfl rfl) rfl rfl) rfl rfl) rfl rfl), (show NKp (m271.2 18) (m271.2 19) by rewrite [(show (m271.2 18) = (m.2 18) from ((fr2 Fm271 18 rfl).trans (fr2 Fm9 18 rfl))), (show (m271.2 19) = (m.2 19) from ((fr2 Fm271 19 rfl).trans (fr2 Fm9 19 rfl)))]; exact hNK), rfl⟩
      refine Or.inl ⟨_, _, _, _, rfl, ?_⟩
      refine K_nb (st' := []) rfl ?_
      have g274 : (-1) ≤ m269.1 206 ∧ m269.1 206 ≤ 65535 := Tm269.1 206
      replace h270 : (m9.1 213) = 0 := h270
      rewrite [(show (m9.1 213) = (m.1 213) from (fr1 Fm9 213 rfl))] at h270
      refine Tm_lv (a := [(0, .ref 178), (1, .int (i32 a)), (2, .int (i32 s1)), (3, .int (i32 de))]) rfl rfl ⟨rfl, rfl, rfl, rfl, trivial⟩ ?_
      exact J48_19 (mO m269 [] []) Tm269 (fr_m (fr_s Fm269 (fr_m fr_0 rfl rfl) rfl rfl) rfl rfl)
  refine T_ld 1 (.ref 178) rfl (fun _ => rfl) ?_
  refine K_gf 4 (.ref 6) rfl rfl kd_178 rfl rfl rfl ?_
  refine K_gf 7 (.int (i32 (m.1 206))) rfl rfl kd_6 rfl rfl rfl ?_
  refine T_ld 10 (.int (i32 256)) rfl (fun _ => rfl) ?_
  refine T_icmp 18 13 rfl rfl rfl (r32 (by omega) (by omega)) ⟨by decide, by decide⟩ (fun (h275 : (m.1 206) ≠ 256) => ?_) (fun (h275 : ¬ ((m.1 206) ≠ 256)) => ?_)
  · skip
    refine T_ld 19 (.ref 178) rfl (fun _ => rfl) ?_
    refine K_gf 22 (.ref 6) rfl rfl kd_178 rfl rfl rfl ?_
    refine K_gf 25 (.int (i32 (m.1 206))) rfl rfl kd_6 rfl rfl rfl ?_
    exact J25_2 (m.1 206) (r32 (by omega) (by omega)) (show (m.1 206) = 61 ∨ 324 ≤ (m.1 206) ∧ (m.1 206) ≤ 328 by omega)
  · skip
    refine T_ld 15 (.int (i32 61)) rfl (fun _ => rfl) ?_
    refine T_goto 25 rfl (fun _ => rfl) ?_
    exact J25_2 61 ⟨by decide, by decide⟩ (show 61 = 61 ∨ 324 ≤ 61 ∧ 61 ≤ 328 by omega)
def fF_rd_action : List Nat := [203, 205, 206, 207, 208, 209, 210, 211, 212, 213, 220, 223, 224, 228, 229, 230, 231]
def fA_rd_action : List Nat := [6, 7, 8, 9, 18, 19, 20, 21, 22, 23, 24, 39, 40, 41, 42, 43, 44, 45, 46, 47, 48, 49, 50, 51, 68, 69, 70]
def Q_rd_action (m : mR) (c : Nat → Option am_C) (N : Nat) : ag_Re af_T → Prop := fun R => (∃ (M : mR), KTy M ∧ fr fF_rd_action fA_rd_action m M ∧ (KPp (M.1 203) (M.2 8) (M.2 9) (m.1 214) (m.1 215) (m.1 216) (m.1 217) (m.1 221) (M.1 223) (m.1 219)) ∧ (NKp (M.2 18) (M.2 19)) ∧ (DEp (M.1 224) (M.2 45) (M.2 46) (M.2 47) (M.2 49)) ∧ (AcP (M.1 223) (M.1 224) (M.2 43) (M.2 44)) ∧ ((M.1 224) ≤ 12 * (M.1 223)) ∧ ((m.1 223) ≤ (M.1 223)) ∧ R = (.inl (none), (khp M c, N), 0, 0)) ∨ (∃ (x : Nat) (M : mR), (x = 0) ∧ (KTy M) ∧ (fr fF_rd_action fA_rd_action m M) ∧ (NKp (M.2 18) (M.2 19)) ∧ R = (.inr x, (khp M c, N), 1, 6))
set_option maxHeartbeats 3000000 in
theorem c_rd_action (w : wX) (m : mR) (c : Nat → Option am_C) (N D : Nat) (hD : 12 ≤ D) (hT : KTy m) (pKP : KPp (m.1 203) (m.2 8) (m.2 9) (m.1 214) (m.1 215) (m.1 216) (m.1 217) (m.1 221) (m.1 223) (m.1 219)) (hNK : NKp (m.2 18) (m.2 19)) (hDE : DEp (m.1 224) (m.2 45) (m.2 46) (m.2 47) (m.2 49)) (hAC : AcP (m.1 223) (m.1 224) (m.2 43) (m.2 44)) (p4 : (m.1 224) ≤ 12 * (m.1 223)) : TC w D 118 [.ref 178] (khp m c, N) (Q_rd_action m c N) := by
  obtain ⟨D, rfl⟩ : ∃ k, D = k + 1 := ⟨D - 1, by omega⟩
  have f203 : 0 ≤ m.1 203 ∧ m.1 203 ≤ 90 := hT.1 203
  have f206 : (-1) ≤ m.1 206 ∧ m.1 206 ≤ 65535 := hT.1 206
  have f207 : 0 ≤ m.1 207 ∧ m.1 207 ≤ 4001 := hT.1 207
  have f213 : 0 ≤ m.1 213 ∧ m.1 213 ≤ 1 := hT.1 213
  have f223 : 0 ≤ m.1 223 ∧ m.1 223 ≤ 16 := hT.1 223
  have f224 : 0 ≤ m.1 224 ∧ m.1 224 ≤ 240 := hT.1 224
  have f214 : 0 ≤ m.1 214 ∧ m.1 214 ≤ 12 := hT.1 214
  have f215 : 0 ≤ m.1 215 ∧ m.1 215 ≤ 12 := hT.1 215
  have f216 : 0 ≤ m.1 216 ∧ m.1 216 ≤ 16 := hT.1 216
  have f217 : 0 ≤ m.1 217 ∧ m.1 217 ≤ 8 := hT.1 217
  have f219 : 0 ≤ m.1 219 ∧ m.1 219 ≤ 8 := hT.1 219
  have f221 : 0 ≤ m.1 221 ∧ m.1 221 ≤ 16 := hT.1 221
  refine Tc_of rfl ?_
  rw [show (khp m c, N) = (khp (mO m [] []) c, N) from by rw [mO_nil m]]
  show TT w D pm_118 (0, [(0, .ref 178)], [], (khp (mO m [] []) c, N), 0, 0) (Q_rd_action m c N)
  refine T_ld 1 (.ref 178) rfl (fun _ => rfl) ?_
  refine K_gf 4 (.ref 6) rfl rfl kd_178 rfl rfl rfl ?_
  refine T_callx 7 50 [.ref 6] [] rfl (fun _ => rfl) rfl rfl (c_tx_advance w (mO m [] []) c N D (by omega) hT ) (fun rr1 k2 => ?_)
  rcases k2 with ⟨m3, Tm3, Fm3, h4, rfl⟩ | ⟨xx7, m5, hx6, Tm5, Fm5, rfl⟩
  rotate_left
  · skip
    refine Or.inr ⟨_, _, _, _, rfl, ?_⟩
    exact Or.inr ⟨xx7, (mO m5 [] []), (hx6), Tm5, (fr_m (fr_s Fm5 (fr_m fr_0 rfl rfl) rfl rfl) rfl rfl), (show NKp (m5.2 18) (m5.2 19) by rewrite [(show (m5.2 18) = (m.2 18) from (fr2 Fm5 18 rfl)), (show (m5.2 19) = (m.2 19) from (fr2 Fm5 19 rfl))]; exact hNK), rfl⟩
  refine Or.inl ⟨_, _, _, _, rfl, ?_⟩
  refine K_nb (st' := []) rfl ?_
  have g8 : (-1) ≤ m3.1 206 ∧ m3.1 206 ≤ 65535 := Tm3.1 206
  have g9 : 0 ≤ m3.1 207 ∧ m3.1 207 ≤ 4001 := Tm3.1 207
  replace h4 : (m.1 213) = 0 := h4
  refine T_ld 8 (.ref 178) rfl (fun _ => rfl) ?_
  refine K_gf 11 (.ref 45) rfl rfl kd_178 rfl rfl rfl ?_
  refine K_gf 14 (.int (i32 (m.1 223))) rfl rfl kd_45 rfl (kval_c2 (k := 223) (F := fun x => .int (i32 x)) rfl (show (m3.1 223) = (m.1 223) from (fr1 Fm3 223 rfl))) rfl ?_
  refine T_sto 15 [(1, .int (i32 (m.1 223))), (0, .ref 178)] rfl (fun _ => rfl) ?_
  refine T_ld 16 (.ref 178) rfl (fun _ => rfl) ?_
  refine K_gf 19 (.ref 6) rfl rfl kd_178 rfl rfl rfl ?_
  refine T_ld 22 (.int (i32 309)) rfl (fun _ => rfl) ?_
  refine T_ld 23 (.int (i32 (m.1 223))) rfl (fun _ => rfl) ?_
  refine T_ld 25 (.int (i32 16)) rfl (fun _ => rfl) ?_
  refine T_callx 28 75 [.ref 6, .int (i32 309), .int (i32 (m.1 223)), .int (i32 16)] [] rfl (fun _ => rfl) rfl rfl (c_tx_makeNew w (mO m3 [] []) c N D (by omega) Tm3 309 (m.1 223) 16 ⟨by decide, by decide⟩ (r32 (by omega) (by omega)) ⟨by decide, by decide⟩ (show 0 ≤ (309 : Int) ∧ (309 : Int) ≤ 310 by omega) (show 0 ≤ (m.1 223) ∧ (16 : Int) ≤ 16 by omega)) (fun rr10 k11 => ?_)
  rcases k11 with ⟨m12, Tm12, Fm12, h13, h14, h15, rfl⟩ | ⟨xx18, m16, hx17, Tm16, Fm16, rfl⟩
  rotate_left
  · skip
    refine Or.inr ⟨_, _, _, _, rfl, ?_⟩
    exact Or.inr ⟨xx18, (mO m16 [] []), (hx17), Tm16, (fr_m (fr_s Fm16 (fr_m (fr_s Fm3 (fr_m fr_0 rfl rfl) rfl rfl) rfl rfl) rfl rfl) rfl rfl), (show NKp (m16.2 18) (m16.2 19) by rewrite [(show (m16.2 18) = (m.2 18) from ((fr2 Fm16 18 rfl).trans (fr2 Fm3 18 rfl))), (show (m16.2 19) = (m.2 19) from ((fr2 Fm16 19 rfl).trans (fr2 Fm3 19 rfl)))]; exact hNK), rfl⟩
  refine Or.inl ⟨_, _, _, _, rfl, ?_⟩
  refine K_nb (st' := []) rfl ?_
  have g19 : 0 ≤ m12.1 203 ∧ m12.1 203 ≤ 90 := Tm12.1 203
  have g20 : (-1) ≤ m12.1 206 ∧ m12.1 206 ≤ 65535 := Tm12.1 206
  have g21 : 0 ≤ m12.1 207 ∧ m12.1 207 ≤ 4001 := Tm12.1 207
  replace h13 : (m.1 223) < (16 : Int) := h13
  replace h14 : KMk (m3.1 203) (m12.1 203) (m3.2 8) (m12.2 8) (m3.2 9) (m12.2 9) (309 : Int) (m.1 223) := h14
  rewrite [(show (m3.1 203) = (m.1 203) from (fr1 Fm3 203 rfl)), (show (m3.2 8) = (m.2 8) from (fr2 Fm3 8 rfl)), (show (m3.2 9) = (m.2 9) from (fr2 Fm3 9 rfl))] at h14
  have hMk := h14
  replace h15 : (m3.1 213) = 0 := h15
  rewrite [(show (m3.1 213) = (m.1 213) from (fr1 Fm3 213 rfl))] at h15
  refine T_ld 29 (.ref 178) rfl (fun _ => rfl) ?_
  refine K_gf 32 (.ref 45) rfl rfl kd_178 rfl rfl rfl ?_
  refine T_ld 33 (.ref 45) rfl (fun _ => rfl) ?_
  refine K_gf 36 (.int (i32 (m.1 223))) rfl rfl kd_45 rfl (kval_c2 (k := 223) (F := fun x => .int (i32 x)) rfl (show (m12.1 223) = (m.1 223) from ((fr1 Fm12 223 rfl).trans (fr1 Fm3 223 rfl)))) rfl ?_
  refine T_ld 37 (.int (i32 1)) rfl (fun _ => rfl) ?_
  refine T_iadd 38 rfl rfl ?_
  refine K_pf (l' := [(223, (m.1 223) + 1)]) 41 ((m.1 223) + 1) rfl rfl kd_45 rfl rfl rfl rfl rfl rfl rfl ?_
  have g22 : 0 ≤ (m.1 223) + 1 ∧ (m.1 223) + 1 ≤ 16 := ⟨by omega, by omega⟩
  have pKP : KPp (m12.1 203) (m12.2 8) (m12.2 9) (m.1 214) (m.1 215) (m.1 216) (m.1 217) (m.1 221) ((m.1 223) + 1) (m.1 219) := KPp_mk pKP hMk (by omega) (by omega) (by omega) (by omega) (by omega) (by omega) (by omega) (by omega)
  refine T_ld 42 (.ref 178) rfl (fun _ => rfl) ?_
  refine K_gf 45 (.ref 45) rfl rfl kd_178 rfl rfl rfl ?_
  refine K_gf 48 (.ref 46) rfl rfl kd_45 rfl rfl rfl ?_
  refine T_ld 49 (.int (i32 (m.1 223))) rfl (fun _ => rfl) ?_
  refine T_ld 50 (.int (i32 0)) rfl (fun _ => rfl) ?_
  have G23 : ∀ j, 0 ≤ (upI (m.2 39) (m.1 223) 0) j ∧ (upI (m.2 39) (m.1 223) 0) j ≤ 4 := upI_rg (hT.2.1 39) ⟨by omega, by omega⟩
  refine K_iast (a' := [(39, upI (m.2 39) (m.1 223) 0)]) 51 39 (m.2 39) rfl rfl rfl (by omega) (show (m.1 223) < (16 : Int) by omega) (show (m12.2 39) = (m.2 39) from ((fr2 Fm12 39 rfl).trans (fr2 Fm3 39 rfl))) rfl ?_
  refine T_ld 52 (.ref 178) rfl (fun _ => rfl) ?_
  refine K_gf 55 (.ref 6) rfl rfl kd_178 rfl rfl rfl ?_
  refine T_ld 57 (.int (i32 40)) rfl (fun _ => rfl) ?_
  refine T_callx 60 78 [.ref 6, .int (i32 40)] [] rfl (fun _ => rfl) rfl rfl (c_tx_expect w (mO m12 [(223, (m.1 223) + 1)] [(39, upI (m.2 39) (m.1 223) 0)]) c N D (by omega) (KTy_mO Tm12 rfl rfl ⟨g22, trivial⟩ ⟨G23, trivial⟩) 40 ⟨by decide, by decide⟩) (fun rr24 k25 => ?_)
  rcases k25 with ⟨m26, Tm26, Fm26, h27, h28, rfl⟩ | ⟨xx31, m29, hx30, Tm29, Fm29, rfl⟩
  rotate_left
  · skip
    refine Or.inr ⟨_, _, _, _, rfl, ?_⟩
    exact Or.inr ⟨xx31, (mO m29 [] []), (hx30), Tm29, (fr_m (fr_s Fm29 (fr_m (fr_s Fm12 (fr_m (fr_s Fm3 (fr_m fr_0 rfl rfl) rfl rfl) rfl rfl) rfl rfl) rfl rfl) rfl rfl) rfl rfl), (show NKp (m29.2 18) (m29.2 19) by rewrite [(show (m29.2 18) = (m.2 18) from ((fr2 Fm29 18 rfl).trans ((fr2 Fm12 18 rfl).trans (fr2 Fm3 18 rfl)))), (show (m29.2 19) = (m.2 19) from ((fr2 Fm29 19 rfl).trans ((fr2 Fm12 19 rfl).trans (fr2 Fm3 19 rfl))))]; exact hNK), rfl⟩
  refine Or.inl ⟨_, _, _, _, rfl, ?_⟩
  refine K_nb (st' := []) rfl ?_
  have g32 : (-1) ≤ m26.1 206 ∧ m26.1 206 ≤ 65535 := Tm26.1 206
  have g33 : 0 ≤ m26.1 207 ∧ m26.1 207 ≤ 4001 := Tm26.1 207
  replace h27 : (m12.1 206) = (40 : Int) := h27
  replace h28 : (m12.1 213) = 0 := h28
  rewrite [(show (m12.1 213) = (m.1 213) from ((fr1 Fm12 213 rfl).trans (fr1 Fm3 213 rfl)))] at h28
  have J106_35 : ∀ (m34 : mR), KTy m34 → fr [205, 206, 207, 208, 209, 210, 211, 212] [39, 40, 41, 42] (mO m26 [] []) m34 → TT w D pm_118 (106, [(0, .ref 178), (1, .int (i32 (m.1 223)))], [], (khp (mO m34 [] []) c, N), 0, 0) (Q_rd_action m c N) := by
    intro m34 Tm34 Fm34
    have q36_206 : (-1) ≤ m34.1 206 ∧ m34.1 206 ≤ 65535 := Tm34.1 206
    have q36_207 : 0 ≤ m34.1 207 ∧ m34.1 207 ≤ 4001 := Tm34.1 207
    refine T_ld 107 (.ref 178) rfl (fun _ => rfl) ?_
    refine K_gf 110 (.ref 6) rfl rfl kd_178 rfl rfl rfl ?_
    refine T_ld 112 (.int (i32 41)) rfl (fun _ => rfl) ?_
    refine T_callx 115 78 [.ref 6, .int (i32 41)] [] rfl (fun _ => rfl) rfl rfl (c_tx_expect w (mO m34 [] []) c N D (by omega) Tm34 41 ⟨by decide, by decide⟩) (fun rr39 k40 => ?_)
    rcases k40 with ⟨m41, Tm41, Fm41, h42, h43, rfl⟩ | ⟨xx46, m44, hx45, Tm44, Fm44, rfl⟩
    rotate_left
    · skip
      refine Or.inr ⟨_, _, _, _, rfl, ?_⟩
      exact Or.inr ⟨xx46, (mO m44 [] []), (hx45), Tm44, (fr_m (fr_s Fm44 (fr_m (fr_s Fm34 (fr_m (fr_s Fm26 (fr_m (fr_s Fm12 (fr_m (fr_s Fm3 (fr_m fr_0 rfl rfl) rfl rfl) rfl rfl) rfl rfl) rfl rfl) rfl rfl) rfl rfl) rfl rfl) rfl rfl) rfl rfl) rfl rfl), (show NKp (m44.2 18) (m44.2 19) by rewrite [(show (m44.2 18) = (m.2 18) from ((fr2 Fm44 18 rfl).trans ((fr2 Fm34 18 rfl).trans ((fr2 Fm26 18 rfl).trans ((fr2 Fm12 18 rfl).trans (fr2 Fm3 18 rfl)))))), (show (m44.2 19) = (m.2 19) from ((fr2 Fm44 19 rfl).trans ((fr2 Fm34 19 rfl).trans ((fr2 Fm26 19 rfl).trans ((fr2 Fm12 19 rfl).trans (fr2 Fm3 19 rfl))))))]; exact hNK), rfl⟩
    refine Or.inl ⟨_, _, _, _, rfl, ?_⟩
    refine K_nb (st' := []) rfl ?_
    have g47 : (-1) ≤ m41.1 206 ∧ m41.1 206 ≤ 65535 := Tm41.1 206
    have g48 : 0 ≤ m41.1 207 ∧ m41.1 207 ≤ 4001 := Tm41.1 207
    replace h42 : (m34.1 206) = (41 : Int) := h42
    replace h43 : (m34.1 213) = 0 := h43
    rewrite [(show (m34.1 213) = (m.1 213) from ((fr1 Fm34 213 rfl).trans ((fr1 Fm26 213 rfl).trans ((fr1 Fm12 213 rfl).trans (fr1 Fm3 213 rfl)))))] at h43
    refine T_ld 116 (.ref 178) rfl (fun _ => rfl) ?_
    refine K_gf 119 (.ref 6) rfl rfl kd_178 rfl rfl rfl ?_
    refine T_ld 121 (.int (i32 123)) rfl (fun _ => rfl) ?_
    refine T_callx 124 78 [.ref 6, .int (i32 123)] [] rfl (fun _ => rfl) rfl rfl (c_tx_expect w (mO m41 [] []) c N D (by omega) Tm41 123 ⟨by decide, by decide⟩) (fun rr49 k50 => ?_)
    rcases k50 with ⟨m51, Tm51, Fm51, h52, h53, rfl⟩ | ⟨xx56, m54, hx55, Tm54, Fm54, rfl⟩
    rotate_left
    · skip
      refine Or.inr ⟨_, _, _, _, rfl, ?_⟩
      exact Or.inr ⟨xx56, (mO m54 [] []), (hx55), Tm54, (fr_m (fr_s Fm54 (fr_m (fr_s Fm41 (fr_m (fr_s Fm34 (fr_m (fr_s Fm26 (fr_m (fr_s Fm12 (fr_m (fr_s Fm3 (fr_m fr_0 rfl rfl) rfl rfl) rfl rfl) rfl rfl) rfl rfl) rfl rfl) rfl rfl) rfl rfl) rfl rfl) rfl rfl) rfl rfl) rfl rfl) rfl rfl), (show NKp (m54.2 18) (m54.2 19) by rewrite [(show (m54.2 18) = (m.2 18) from ((fr2 Fm54 18 rfl).trans ((fr2 Fm41 18 rfl).trans ((fr2 Fm34 18 rfl).trans ((fr2 Fm26 18 rfl).trans ((fr2 Fm12 18 rfl).trans (fr2 Fm3 18 rfl))))))), (show (m54.2 19) = (m.2 19) from ((fr2 Fm54 19 rfl).trans ((fr2 Fm41 19 rfl).trans ((fr2 Fm34 19 rfl).trans ((fr2 Fm26 19 rfl).trans ((fr2 Fm12 19 rfl).trans (fr2 Fm3 19 rfl)))))))]; exact hNK), rfl⟩
    refine Or.inl ⟨_, _, _, _, rfl, ?_⟩
    refine K_nb (st' := []) rfl ?_
    have g57 : (-1) ≤ m51.1 206 ∧ m51.1 206 ≤ 65535 := Tm51.1 206
    have g58 : 0 ≤ m51.1 207 ∧ m51.1 207 ≤ 4001 := Tm51.1 207
    replace h52 : (m41.1 206) = (123 : Int) := h52
    replace h53 : (m41.1 213) = 0 := h53
    rewrite [(show (m41.1 213) = (m.1 213) from ((fr1 Fm41 213 rfl).trans ((fr1 Fm34 213 rfl).trans ((fr1 Fm26 213 rfl).trans ((fr1 Fm12 213 rfl).trans (fr1 Fm3 213 rfl))))))] at h53
    refine T_ld 125 (.ref 178) rfl (fun _ => rfl) ?_
    refine K_gf 128 (.ref 45) rfl rfl kd_178 rfl rfl rfl ?_
    refine K_gf 131 (.ref 50) rfl rfl kd_45 rfl rfl rfl ?_
    refine T_ld 132 (.int (i32 (m.1 223))) rfl (fun _ => rfl) ?_
    refine T_ld 133 (.ref 178) rfl (fun _ => rfl) ?_
    refine K_gf 136 (.ref 45) rfl rfl kd_178 rfl rfl rfl ?_
    refine K_gf 139 (.int (i32 (m.1 224))) rfl rfl kd_45 rfl (kval_c2 (k := 224) (F := fun x => .int (i32 x)) rfl (show (m51.1 224) = (m.1 224) from ((fr1 Fm51 224 rfl).trans ((fr1 Fm41 224 rfl).trans ((fr1 Fm34 224 rfl).trans ((fr1 Fm26 224 rfl).trans ((fr1 Fm12 224 rfl).trans (fr1 Fm3 224 rfl)))))))) rfl ?_
    have G59 : ∀ j, 0 ≤ (upI (m.2 43) (m.1 223) (m.1 224)) j ∧ (upI (m.2 43) (m.1 223) (m.1 224)) j ≤ 240 := upI_rg (hT.2.1 43) ⟨by omega, by omega⟩
    refine K_iast (a' := [(43, upI (m.2 43) (m.1 223) (m.1 224))]) 140 43 (m.2 43) rfl rfl rfl (by omega) (show (m.1 223) < (16 : Int) by omega) (show (m51.2 43) = (m.2 43) from ((fr2 Fm51 43 rfl).trans ((fr2 Fm41 43 rfl).trans ((fr2 Fm34 43 rfl).trans ((fr2 Fm26 43 rfl).trans ((fr2 Fm12 43 rfl).trans (fr2 Fm3 43 rfl))))))) rfl ?_
    refine T_ld 141 (.int (i32 0)) rfl (fun _ => rfl) ?_
    refine T_sto 142 [(3, .int (i32 0)), (0, .ref 178), (1, .int (i32 (m.1 223)))] rfl (fun _ => rfl) ?_
    refine K_fl (KTy_mO Tm51 rfl rfl trivial ⟨G59, trivial⟩) (fun m60 Tm60 Fm60 => ?_)
    have L142_63 : ∀ (n73 : Nat) (v61 : Int) (m62 : mR), (R32 v61) → KTy m62 → fr [205, 206, 207, 208, 209, 210, 211, 212, 213, 220, 224, 228, 229, 230, 231] [18, 19, 20, 21, 22, 23, 24, 45, 46, 47, 48, 49, 50, 51, 68, 69, 70] (mO m60 [] []) m62 → (0 ≤ v61) → (NKp (m62.2 18) (m62.2 19)) → (DEp (m62.1 224) (m62.2 45) (m62.2 46) (m62.2 47) (m62.2 49)) → (0 ≤ v61 ∧ v61 ≤ 12) → ((m62.1 224) ≤ 12 * (m.1 223) + v61) → ((m.1 224) ≤ (m62.1 224)) → 20 - v61 < (n73 : Int) → TT w D pm_118 (142, [(0, .ref 178), (1, .int (i32 (m.1 223))), (3, .int (i32 v61))], [], (khp (mO m62 [] []) c, N), 0, 0) (Q_rd_action m c N) := by
      intro n73
      induction n73 with
      | zero =>
        intro v61 m62 q70 Tm62 Fm62 ic64 ic65 ic66 ic67 ic68 ic69 hmu
        obtain ⟨q70a, q70b⟩ := id q70
        have q71_206 : (-1) ≤ m62.1 206 ∧ m62.1 206 ≤ 65535 := Tm62.1 206
        have q71_207 : 0 ≤ m62.1 207 ∧ m62.1 207 ≤ 4001 := Tm62.1 207
        have q71_213 : 0 ≤ m62.1 213 ∧ m62.1 213 ≤ 1 := Tm62.1 213
        have q71_224 : 0 ≤ m62.1 224 ∧ m62.1 224 ≤ 240 := Tm62.1 224
        have hNK := ic65
        have hDE := ic66
        exfalso
        omega
      | succ n73 ih =>
        intro v61 m62 q70 Tm62 Fm62 ic64 ic65 ic66 ic67 ic68 ic69 hmu
        obtain ⟨q70a, q70b⟩ := id q70
        have q71_206 : (-1) ≤ m62.1 206 ∧ m62.1 206 ≤ 65535 := Tm62.1 206
        have q71_207 : 0 ≤ m62.1 207 ∧ m62.1 207 ≤ 4001 := Tm62.1 207
        have q71_213 : 0 ≤ m62.1 213 ∧ m62.1 213 ≤ 1 := Tm62.1 213
        have q71_224 : 0 ≤ m62.1 224 ∧ m62.1 224 ≤ 240 := Tm62.1 224
        have hNK := ic65
        have hDE := ic66
        have ih74 := ih
        refine T_ld 143 (.int (i32 v61)) rfl (fun _ => rfl) ?_
        refine T_ld 145 (.int (i32 12)) rfl (fun _ => rfl) ?_
        refine T_icmp 188 148 rfl rfl rfl (r32 (by omega) (by omega)) ⟨by decide, by decide⟩ (fun (h75 : (12 : Int) < v61) => ?_) (fun (h75 : ¬ ((12 : Int) < v61)) => ?_)
        · skip
          refine T_ld 189 (.ref 178) rfl (fun _ => rfl) ?_
          refine K_gf 192 (.ref 45) rfl rfl kd_178 rfl rfl rfl ?_
          refine K_gf 195 (.ref 51) rfl rfl kd_45 rfl rfl rfl ?_
          refine T_ld 196 (.int (i32 (m.1 223))) rfl (fun _ => rfl) ?_
          refine T_ld 197 (.ref 178) rfl (fun _ => rfl) ?_
          refine K_gf 200 (.ref 45) rfl rfl kd_178 rfl rfl rfl ?_
          refine K_gf 203 (.int (i32 (m62.1 224))) rfl rfl kd_45 rfl rfl rfl ?_
          refine T_ld 204 (.ref 178) rfl (fun _ => rfl) ?_
          refine K_gf 207 (.ref 45) rfl rfl kd_178 rfl rfl rfl ?_
          refine K_gf 210 (.ref 50) rfl rfl kd_45 rfl rfl rfl ?_
          refine T_ld 211 (.int (i32 (m.1 223))) rfl (fun _ => rfl) ?_
          refine K_iald 212 43 (upI (m.2 43) (m.1 223) (m.1 224)) rfl rfl rfl (by omega) (show (m.1 223) < (16 : Int) by omega) (show (m62.2 43) = (upI (m.2 43) (m.1 223) (m.1 224)) from ((fr2 Fm62 43 rfl).trans (fr2 Fm60 43 rfl))) ?_
          refine T_cast (m.1 224) upI_s ?_
          refine T_isub 213 rfl rfl ?_
          have G76 : ∀ j, 0 ≤ (upI (m.2 44) (m.1 223) ((m62.1 224) - (m.1 224))) j ∧ (upI (m.2 44) (m.1 223) ((m62.1 224) - (m.1 224))) j ≤ 240 := upI_rg (hT.2.1 44) ⟨by omega, by omega⟩
          refine K_iast (a' := [(44, upI (m.2 44) (m.1 223) ((m62.1 224) - (m.1 224)))]) 214 44 (m.2 44) rfl rfl rfl (by omega) (show (m.1 223) < (16 : Int) by omega) (show (m62.2 44) = (m.2 44) from ((fr2 Fm62 44 rfl).trans ((fr2 Fm60 44 rfl).trans ((fr2 Fm51 44 rfl).trans ((fr2 Fm41 44 rfl).trans ((fr2 Fm34 44 rfl).trans ((fr2 Fm26 44 rfl).trans ((fr2 Fm12 44 rfl).trans (fr2 Fm3 44 rfl))))))))) rfl ?_
          have hAC : AcP ((m.1 223) + 1) (m62.1 224) (upI (m.2 43) (m.1 223) (m.1 224)) (upI (m.2 44) (m.1 223) ((m62.1 224) - (m.1 224))) := AcP_add (AcP_m hAC (by omega)) (agr_u (Int.le_refl _)) (agr_u (Int.le_refl _)) (by rw [upI_s, upI_s]; omega)
          refine T_ld 215 (.ref 178) rfl (fun _ => rfl) ?_
          refine K_gf 218 (.ref 6) rfl rfl kd_178 rfl rfl rfl ?_
          refine T_ld 220 (.int (i32 125)) rfl (fun _ => rfl) ?_
          refine T_callx 223 78 [.ref 6, .int (i32 125)] [] rfl (fun _ => rfl) rfl rfl (c_tx_expect w (mO m62 [] [(44, upI (m.2 44) (m.1 223) ((m62.1 224) - (m.1 224)))]) c N D (by omega) (KTy_mO Tm62 rfl rfl trivial ⟨G76, trivial⟩) 125 ⟨by decide, by decide⟩) (fun rr77 k78 => ?_)
          rcases k78 with ⟨m79, Tm79, Fm79, h80, h81, rfl⟩ | ⟨xx84, m82, hx83, Tm82, Fm82, rfl⟩
          rotate_left
          · skip
            refine Or.inr ⟨_, _, _, _, rfl, ?_⟩
            exact Or.inr ⟨xx84, (mO m82 [] []), (hx83), Tm82, (fr_m (fr_s Fm82 (fr_m (fr_s Fm62 (fr_m (fr_s Fm60 (fr_m (fr_s Fm51 (fr_m (fr_s Fm41 (fr_m (fr_s Fm34 (fr_m (fr_s Fm26 (fr_m (fr_s Fm12 (fr_m (fr_s Fm3 (fr_m fr_0 rfl rfl) rfl rfl) rfl rfl) rfl rfl) rfl rfl) rfl rfl) rfl rfl) rfl rfl) rfl rfl) rfl rfl) rfl rfl) rfl rfl) rfl rfl) rfl rfl) rfl rfl) rfl rfl) rfl rfl) rfl rfl) rfl rfl), (show NKp (m82.2 18) (m82.2 19) by rewrite [(show (m82.2 18) = (m62.2 18) from (fr2 Fm82 18 rfl)), (show (m82.2 19) = (m62.2 19) from (fr2 Fm82 19 rfl))]; exact hNK), rfl⟩
          refine Or.inl ⟨_, _, _, _, rfl, ?_⟩
          refine K_nb (st' := []) rfl ?_
          have g85 : (-1) ≤ m79.1 206 ∧ m79.1 206 ≤ 65535 := Tm79.1 206
          have g86 : 0 ≤ m79.1 207 ∧ m79.1 207 ≤ 4001 := Tm79.1 207
          replace h80 : (m62.1 206) = (125 : Int) := h80
          replace h81 : (m62.1 213) = 0 := h81
          refine T_ret rfl (fun _ => rfl) ?_
          exact Or.inl ⟨(mO m79 [] []), Tm79, (fr_m (fr_s Fm79 (fr_m (fr_s Fm62 (fr_m (fr_s Fm60 (fr_m (fr_s Fm51 (fr_m (fr_s Fm41 (fr_m (fr_s Fm34 (fr_m (fr_s Fm26 (fr_m (fr_s Fm12 (fr_m (fr_s Fm3 (fr_m fr_0 rfl rfl) rfl rfl) rfl rfl) rfl rfl) rfl rfl) rfl rfl) rfl rfl) rfl rfl) rfl rfl) rfl rfl) rfl rfl) rfl rfl) rfl rfl) rfl rfl) rfl rfl) rfl rfl) rfl rfl) rfl rfl) rfl rfl), (show KPp (m79.1 203) (m79.2 8) (m79.2 9) (m.1 214) (m.1 215) (m.1 216) (m.1 217) (m.1 221) (m79.1 223) (m.1 219) by rewrite [(show (m79.1 203) = (m12.1 203) from ((fr1 Fm79 203 rfl).trans ((fr1 Fm62 203 rfl).trans ((fr1 Fm60 203 rfl).trans ((fr1 Fm51 203 rfl).trans ((fr1 Fm41 203 rfl).trans ((fr1 Fm34 203 rfl).trans (fr1 Fm26 203 rfl)))))))), (show (m79.2 8) = (m12.2 8) from ((fr2 Fm79 8 rfl).trans ((fr2 Fm62 8 rfl).trans ((fr2 Fm60 8 rfl).trans ((fr2 Fm51 8 rfl).trans ((fr2 Fm41 8 rfl).trans ((fr2 Fm34 8 rfl).trans (fr2 Fm26 8 rfl)))))))), (show (m79.2 9) = (m12.2 9) from ((fr2 Fm79 9 rfl).trans ((fr2 Fm62 9 rfl).trans ((fr2 Fm60 9 rfl).trans ((fr2 Fm51 9 rfl).trans ((fr2 Fm41 9 rfl).trans ((fr2 Fm34 9 rfl).trans (fr2 Fm26 9 rfl)))))))), (show (m79.1 223) = ((m.1 223) + 1) from ((fr1 Fm79 223 rfl).trans ((fr1 Fm62 223 rfl).trans ((fr1 Fm60 223 rfl).trans ((fr1 Fm51 223 rfl).trans ((fr1 Fm41 223 rfl).trans ((fr1 Fm34 223 rfl).trans (fr1 Fm26 223 rfl))))))))]; first | (exact pKP) | (exfalso; omega)), (show NKp (m79.2 18) (m79.2 19) by rewrite [(show (m79.2 18) = (m62.2 18) from (fr2 Fm79 18 rfl)), (show (m79.2 19) = (m62.2 19) from (fr2 Fm79 19 rfl))]; first | (exact hNK) | (exfalso; omega)), (show DEp (m79.1 224) (m79.2 45) (m79.2 46) (m79.2 47) (m79.2 49) by rewrite [(show (m79.1 224) = (m62.1 224) from (fr1 Fm79 224 rfl)), (show (m79.2 45) = (m62.2 45) from (fr2 Fm79 45 rfl)), (show (m79.2 46) = (m62.2 46) from (fr2 Fm79 46 rfl)), (show (m79.2 47) = (m62.2 47) from (fr2 Fm79 47 rfl)), (show (m79.2 49) = (m62.2 49) from (fr2 Fm79 49 rfl))]; first | (exact hDE) | (exfalso; omega)), (show AcP (m79.1 223) (m79.1 224) (m79.2 43) (m79.2 44) by rewrite [(show (m79.1 223) = ((m.1 223) + 1) from ((fr1 Fm79 223 rfl).trans ((fr1 Fm62 223 rfl).trans ((fr1 Fm60 223 rfl).trans ((fr1 Fm51 223 rfl).trans ((fr1 Fm41 223 rfl).trans ((fr1 Fm34 223 rfl).trans (fr1 Fm26 223 rfl)))))))), (show (m79.1 224) = (m62.1 224) from (fr1 Fm79 224 rfl)), (show (m79.2 43) = (upI (m.2 43) (m.1 223) (m.1 224)) from ((fr2 Fm79 43 rfl).trans ((fr2 Fm62 43 rfl).trans (fr2 Fm60 43 rfl)))), (show (m79.2 44) = (upI (m.2 44) (m.1 223) ((m62.1 224) - (m.1 224))) from (fr2 Fm79 44 rfl))]; first | (exact hAC) | (exfalso; omega)), (show (m79.1 224) ≤ 12 * (m79.1 223) by rewrite [(show (m79.1 224) = (m62.1 224) from (fr1 Fm79 224 rfl)), (show (m79.1 223) = ((m.1 223) + 1) from ((fr1 Fm79 223 rfl).trans ((fr1 Fm62 223 rfl).trans ((fr1 Fm60 223 rfl).trans ((fr1 Fm51 223 rfl).trans ((fr1 Fm41 223 rfl).trans ((fr1 Fm34 223 rfl).trans (fr1 Fm26 223 rfl))))))))]; omega), (show (m.1 223) ≤ (m79.1 223) by rewrite [(show (m79.1 223) = ((m.1 223) + 1) from ((fr1 Fm79 223 rfl).trans ((fr1 Fm62 223 rfl).trans ((fr1 Fm60 223 rfl).trans ((fr1 Fm51 223 rfl).trans ((fr1 Fm41 223 rfl).trans ((fr1 Fm34 223 rfl).trans (fr1 Fm26 223 rfl))))))))]; omega), rfl⟩
        · skip
          refine T_ld 149 (.ref 178) rfl (fun _ => rfl) ?_
          refine T_callx 152 121 [.ref 178] [] rfl (fun _ => rfl) rfl rfl (c_rd_isStatement w (mO m62 [] []) c N D (by omega) Tm62 ) (fun rr87 k88 => ?_)
          obtain ⟨iss, g89, h90, rfl⟩ := k88
          refine Or.inl ⟨_, _, _, _, rfl, ?_⟩
          refine T_ns (st' := [.int (i32 iss)]) rfl ?_
          obtain ⟨g89a, g89b⟩ := g89
          replace h90 : iss = 1 → (m62.1 206) = 256 ∨ 324 ≤ (m62.1 206) ∧ (m62.1 206) ≤ 328 := h90
          have hIs := h90
          refine T_if 188 155 rfl rfl rfl (r32 (by omega) (by omega)) (fun (h91 : iss = 0) => ?_) (fun (h91 : ¬ (iss = 0)) => ?_)
          · skip
            refine T_ld 189 (.ref 178) rfl (fun _ => rfl) ?_
            refine K_gf 192 (.ref 45) rfl rfl kd_178 rfl rfl rfl ?_
            refine K_gf 195 (.ref 51) rfl rfl kd_45 rfl rfl rfl ?_
            refine T_ld 196 (.int (i32 (m.1 223))) rfl (fun _ => rfl) ?_
            refine T_ld 197 (.ref 178) rfl (fun _ => rfl) ?_
            refine K_gf 200 (.ref 45) rfl rfl kd_178 rfl rfl rfl ?_
            refine K_gf 203 (.int (i32 (m62.1 224))) rfl rfl kd_45 rfl rfl rfl ?_
            refine T_ld 204 (.ref 178) rfl (fun _ => rfl) ?_
            refine K_gf 207 (.ref 45) rfl rfl kd_178 rfl rfl rfl ?_
            refine K_gf 210 (.ref 50) rfl rfl kd_45 rfl rfl rfl ?_
            refine T_ld 211 (.int (i32 (m.1 223))) rfl (fun _ => rfl) ?_
            refine K_iald 212 43 (upI (m.2 43) (m.1 223) (m.1 224)) rfl rfl rfl (by omega) (show (m.1 223) < (16 : Int) by omega) (show (m62.2 43) = (upI (m.2 43) (m.1 223) (m.1 224)) from ((fr2 Fm62 43 rfl).trans (fr2 Fm60 43 rfl))) ?_
            refine T_cast (m.1 224) upI_s ?_
            refine T_isub 213 rfl rfl ?_
            have G92 : ∀ j, 0 ≤ (upI (m.2 44) (m.1 223) ((m62.1 224) - (m.1 224))) j ∧ (upI (m.2 44) (m.1 223) ((m62.1 224) - (m.1 224))) j ≤ 240 := upI_rg (hT.2.1 44) ⟨by omega, by omega⟩
            refine K_iast (a' := [(44, upI (m.2 44) (m.1 223) ((m62.1 224) - (m.1 224)))]) 214 44 (m.2 44) rfl rfl rfl (by omega) (show (m.1 223) < (16 : Int) by omega) (show (m62.2 44) = (m.2 44) from ((fr2 Fm62 44 rfl).trans ((fr2 Fm60 44 rfl).trans ((fr2 Fm51 44 rfl).trans ((fr2 Fm41 44 rfl).trans ((fr2 Fm34 44 rfl).trans ((fr2 Fm26 44 rfl).trans ((fr2 Fm12 44 rfl).trans (fr2 Fm3 44 rfl))))))))) rfl ?_
            have hAC : AcP ((m.1 223) + 1) (m62.1 224) (upI (m.2 43) (m.1 223) (m.1 224)) (upI (m.2 44) (m.1 223) ((m62.1 224) - (m.1 224))) := AcP_add (AcP_m hAC (by omega)) (agr_u (Int.le_refl _)) (agr_u (Int.le_refl _)) (by rw [upI_s, upI_s]; omega)
            refine T_ld 215 (.ref 178) rfl (fun _ => rfl) ?_
            refine K_gf 218 (.ref 6) rfl rfl kd_178 rfl rfl rfl ?_
            refine T_ld 220 (.int (i32 125)) rfl (fun _ => rfl) ?_
            refine T_callx 223 78 [.ref 6, .int (i32 125)] [] rfl (fun _ => rfl) rfl rfl (c_tx_expect w (mO m62 [] [(44, upI (m.2 44) (m.1 223) ((m62.1 224) - (m.1 224)))]) c N D (by omega) (KTy_mO Tm62 rfl rfl trivial ⟨G92, trivial⟩) 125 ⟨by decide, by decide⟩) (fun rr93 k94 => ?_)
            rcases k94 with ⟨m95, Tm95, Fm95, h96, h97, rfl⟩ | ⟨xx100, m98, hx99, Tm98, Fm98, rfl⟩
            rotate_left
            · skip
              refine Or.inr ⟨_, _, _, _, rfl, ?_⟩
              exact Or.inr ⟨xx100, (mO m98 [] []), (hx99), Tm98, (fr_m (fr_s Fm98 (fr_m (fr_s Fm62 (fr_m (fr_s Fm60 (fr_m (fr_s Fm51 (fr_m (fr_s Fm41 (fr_m (fr_s Fm34 (fr_m (fr_s Fm26 (fr_m (fr_s Fm12 (fr_m (fr_s Fm3 (fr_m fr_0 rfl rfl) rfl rfl) rfl rfl) rfl rfl) rfl rfl) rfl rfl) rfl rfl) rfl rfl) rfl rfl) rfl rfl) rfl rfl) rfl rfl) rfl rfl) rfl rfl) rfl rfl) rfl rfl) rfl rfl) rfl rfl) rfl rfl), (show NKp (m98.2 18) (m98.2 19) by rewrite [(show (m98.2 18) = (m62.2 18) from (fr2 Fm98 18 rfl)), (show (m98.2 19) = (m62.2 19) from (fr2 Fm98 19 rfl))]; exact hNK), rfl⟩
            refine Or.inl ⟨_, _, _, _, rfl, ?_⟩
            refine K_nb (st' := []) rfl ?_
            have g101 : (-1) ≤ m95.1 206 ∧ m95.1 206 ≤ 65535 := Tm95.1 206
            have g102 : 0 ≤ m95.1 207 ∧ m95.1 207 ≤ 4001 := Tm95.1 207
            replace h96 : (m62.1 206) = (125 : Int) := h96
            replace h97 : (m62.1 213) = 0 := h97
            refine T_ret rfl (fun _ => rfl) ?_
            exact Or.inl ⟨(mO m95 [] []), Tm95, (fr_m (fr_s Fm95 (fr_m (fr_s Fm62 (fr_m (fr_s Fm60 (fr_m (fr_s Fm51 (fr_m (fr_s Fm41 (fr_m (fr_s Fm34 (fr_m (fr_s Fm26 (fr_m (fr_s Fm12 (fr_m (fr_s Fm3 (fr_m fr_0 rfl rfl) rfl rfl) rfl rfl) rfl rfl) rfl rfl) rfl rfl) rfl rfl) rfl rfl) rfl rfl) rfl rfl) rfl rfl) rfl rfl) rfl rfl) rfl rfl) rfl rfl) rfl rfl) rfl rfl) rfl rfl) rfl rfl), (show KPp (m95.1 203) (m95.2 8) (m95.2 9) (m.1 214) (m.1 215) (m.1 216) (m.1 217) (m.1 221) (m95.1 223) (m.1 219) by rewrite [(show (m95.1 203) = (m12.1 203) from ((fr1 Fm95 203 rfl).trans ((fr1 Fm62 203 rfl).trans ((fr1 Fm60 203 rfl).trans ((fr1 Fm51 203 rfl).trans ((fr1 Fm41 203 rfl).trans ((fr1 Fm34 203 rfl).trans (fr1 Fm26 203 rfl)))))))), (show (m95.2 8) = (m12.2 8) from ((fr2 Fm95 8 rfl).trans ((fr2 Fm62 8 rfl).trans ((fr2 Fm60 8 rfl).trans ((fr2 Fm51 8 rfl).trans ((fr2 Fm41 8 rfl).trans ((fr2 Fm34 8 rfl).trans (fr2 Fm26 8 rfl)))))))), (show (m95.2 9) = (m12.2 9) from ((fr2 Fm95 9 rfl).trans ((fr2 Fm62 9 rfl).trans ((fr2 Fm60 9 rfl).trans ((fr2 Fm51 9 rfl).trans ((fr2 Fm41 9 rfl).trans ((fr2 Fm34 9 rfl).trans (fr2 Fm26 9 rfl)))))))), (show (m95.1 223) = ((m.1 223) + 1) from ((fr1 Fm95 223 rfl).trans ((fr1 Fm62 223 rfl).trans ((fr1 Fm60 223 rfl).trans ((fr1 Fm51 223 rfl).trans ((fr1 Fm41 223 rfl).trans ((fr1 Fm34 223 rfl).trans (fr1 Fm26 223 rfl))))))))]; first | (exact pKP) | (exfalso; omega)), (show NKp (m95.2 18) (m95.2 19) by rewrite [(show (m95.2 18) = (m62.2 18) from (fr2 Fm95 18 rfl)), (show (m95.2 19) = (m62.2 19) from (fr2 Fm95 19 rfl))]; first | (exact hNK) | (exfalso; omega)), (show DEp (m95.1 224) (m95.2 45) (m95.2 46) (m95.2 47) (m95.2 49) by rewrite [(show (m95.1 224) = (m62.1 224) from (fr1 Fm95 224 rfl)), (show (m95.2 45) = (m62.2 45) from (fr2 Fm95 45 rfl)), (show (m95.2 46) = (m62.2 46) from (fr2 Fm95 46 rfl)), (show (m95.2 47) = (m62.2 47) from (fr2 Fm95 47 rfl)), (show (m95.2 49) = (m62.2 49) from (fr2 Fm95 49 rfl))]; first | (exact hDE) | (exfalso; omega)), (show AcP (m95.1 223) (m95.1 224) (m95.2 43) (m95.2 44) by rewrite [(show (m95.1 223) = ((m.1 223) + 1) from ((fr1 Fm95 223 rfl).trans ((fr1 Fm62 223 rfl).trans ((fr1 Fm60 223 rfl).trans ((fr1 Fm51 223 rfl).trans ((fr1 Fm41 223 rfl).trans ((fr1 Fm34 223 rfl).trans (fr1 Fm26 223 rfl)))))))), (show (m95.1 224) = (m62.1 224) from (fr1 Fm95 224 rfl)), (show (m95.2 43) = (upI (m.2 43) (m.1 223) (m.1 224)) from ((fr2 Fm95 43 rfl).trans ((fr2 Fm62 43 rfl).trans (fr2 Fm60 43 rfl)))), (show (m95.2 44) = (upI (m.2 44) (m.1 223) ((m62.1 224) - (m.1 224))) from (fr2 Fm95 44 rfl))]; first | (exact hAC) | (exfalso; omega)), (show (m95.1 224) ≤ 12 * (m95.1 223) by rewrite [(show (m95.1 224) = (m62.1 224) from (fr1 Fm95 224 rfl)), (show (m95.1 223) = ((m.1 223) + 1) from ((fr1 Fm95 223 rfl).trans ((fr1 Fm62 223 rfl).trans ((fr1 Fm60 223 rfl).trans ((fr1 Fm51 223 rfl).trans ((fr1 Fm41 223 rfl).trans ((fr1 Fm34 223 rfl).trans (fr1 Fm26 223 rfl))))))))]; omega), (show (m.1 223) ≤ (m95.1 223) by rewrite [(show (m95.1 223) = ((m.1 223) + 1) from ((fr1 Fm95 223 rfl).trans ((fr1 Fm62 223 rfl).trans ((fr1 Fm60 223 rfl).trans ((fr1 Fm51 223 rfl).trans ((fr1 Fm41 223 rfl).trans ((fr1 Fm34 223 rfl).trans (fr1 Fm26 223 rfl))))))))]; omega), rfl⟩
          · skip
            refine T_ld 156 (.int (i32 v61)) rfl (fun _ => rfl) ?_
            refine T_ld 158 (.int (i32 12)) rfl (fun _ => rfl) ?_
            refine T_icmp 176 161 rfl rfl rfl (r32 (by omega) (by omega)) ⟨by decide, by decide⟩ (fun (h103 : v61 < 12) => ?_) (fun (h103 : ¬ (v61 < 12)) => ?_)
            · skip
              have hIw := hIs (by omega)
              refine T_ld 177 (.ref 178) rfl (fun _ => rfl) ?_
              refine T_ld 178 (.int (i32 (m.1 223))) rfl (fun _ => rfl) ?_
              refine T_callx 181 122 [.ref 178, .int (i32 (m.1 223))] [] rfl (fun _ => rfl) rfl rfl (c_rd_statement w (mO m62 [] []) c N D (by omega) Tm62 (m.1 223) (r32 (by omega) (by omega)) (show KPp (m62.1 203) (m62.2 8) (m62.2 9) (m62.1 214) (m62.1 215) (m62.1 216) (m62.1 217) (m62.1 221) (m62.1 223) (m62.1 219) by rewrite [(show (m62.1 203) = (m12.1 203) from ((fr1 Fm62 203 rfl).trans ((fr1 Fm60 203 rfl).trans ((fr1 Fm51 203 rfl).trans ((fr1 Fm41 203 rfl).trans ((fr1 Fm34 203 rfl).trans (fr1 Fm26 203 rfl))))))), (show (m62.2 8) = (m12.2 8) from ((fr2 Fm62 8 rfl).trans ((fr2 Fm60 8 rfl).trans ((fr2 Fm51 8 rfl).trans ((fr2 Fm41 8 rfl).trans ((fr2 Fm34 8 rfl).trans (fr2 Fm26 8 rfl))))))), (show (m62.2 9) = (m12.2 9) from ((fr2 Fm62 9 rfl).trans ((fr2 Fm60 9 rfl).trans ((fr2 Fm51 9 rfl).trans ((fr2 Fm41 9 rfl).trans ((fr2 Fm34 9 rfl).trans (fr2 Fm26 9 rfl))))))), (show (m62.1 214) = (m.1 214) from ((fr1 Fm62 214 rfl).trans ((fr1 Fm60 214 rfl).trans ((fr1 Fm51 214 rfl).trans ((fr1 Fm41 214 rfl).trans ((fr1 Fm34 214 rfl).trans ((fr1 Fm26 214 rfl).trans ((fr1 Fm12 214 rfl).trans (fr1 Fm3 214 rfl))))))))), (show (m62.1 215) = (m.1 215) from ((fr1 Fm62 215 rfl).trans ((fr1 Fm60 215 rfl).trans ((fr1 Fm51 215 rfl).trans ((fr1 Fm41 215 rfl).trans ((fr1 Fm34 215 rfl).trans ((fr1 Fm26 215 rfl).trans ((fr1 Fm12 215 rfl).trans (fr1 Fm3 215 rfl))))))))), (show (m62.1 216) = (m.1 216) from ((fr1 Fm62 216 rfl).trans ((fr1 Fm60 216 rfl).trans ((fr1 Fm51 216 rfl).trans ((fr1 Fm41 216 rfl).trans ((fr1 Fm34 216 rfl).trans ((fr1 Fm26 216 rfl).trans ((fr1 Fm12 216 rfl).trans (fr1 Fm3 216 rfl))))))))), (show (m62.1 217) = (m.1 217) from ((fr1 Fm62 217 rfl).trans ((fr1 Fm60 217 rfl).trans ((fr1 Fm51 217 rfl).trans ((fr1 Fm41 217 rfl).trans ((fr1 Fm34 217 rfl).trans ((fr1 Fm26 217 rfl).trans ((fr1 Fm12 217 rfl).trans (fr1 Fm3 217 rfl))))))))), (show (m62.1 221) = (m.1 221) from ((fr1 Fm62 221 rfl).trans ((fr1 Fm60 221 rfl).trans ((fr1 Fm51 221 rfl).trans ((fr1 Fm41 221 rfl).trans ((fr1 Fm34 221 rfl).trans ((fr1 Fm26 221 rfl).trans ((fr1 Fm12 221 rfl).trans (fr1 Fm3 221 rfl))))))))), (show (m62.1 223) = ((m.1 223) + 1) from ((fr1 Fm62 223 rfl).trans ((fr1 Fm60 223 rfl).trans ((fr1 Fm51 223 rfl).trans ((fr1 Fm41 223 rfl).trans ((fr1 Fm34 223 rfl).trans (fr1 Fm26 223 rfl))))))), (show (m62.1 219) = (m.1 219) from ((fr1 Fm62 219 rfl).trans ((fr1 Fm60 219 rfl).trans ((fr1 Fm51 219 rfl).trans ((fr1 Fm41 219 rfl).trans ((fr1 Fm34 219 rfl).trans ((fr1 Fm26 219 rfl).trans ((fr1 Fm12 219 rfl).trans (fr1 Fm3 219 rfl)))))))))]; exact pKP) (show NKp (m62.2 18) (m62.2 19) by exact hNK) (show DEp (m62.1 224) (m62.2 45) (m62.2 46) (m62.2 47) (m62.2 49) by exact hDE) (show (m62.1 224) ≤ 239 by omega) (show (m62.1 206) = 256 ∨ 324 ≤ (m62.1 206) ∧ (m62.1 206) ≤ 328 by omega) (show (-1) ≤ (m.1 223) ∧ (m.1 223) ≤ 15 by omega)) (fun rr104 k105 => ?_)
              rcases k105 with ⟨m106, st, Tm106, Fm106, g107, h108, h109, h110, h111, rfl⟩ | ⟨xx115, m112, hx113, Tm112, Fm112, h114, rfl⟩
              rotate_left
              · skip
                refine Or.inr ⟨_, _, _, _, rfl, ?_⟩
                have hNK := h114
                exact Or.inr ⟨xx115, (mO m112 [] []), (hx113), Tm112, (fr_m (fr_s Fm112 (fr_m (fr_s Fm62 (fr_m (fr_s Fm60 (fr_m (fr_s Fm51 (fr_m (fr_s Fm41 (fr_m (fr_s Fm34 (fr_m (fr_s Fm26 (fr_m (fr_s Fm12 (fr_m (fr_s Fm3 (fr_m fr_0 rfl rfl) rfl rfl) rfl rfl) rfl rfl) rfl rfl) rfl rfl) rfl rfl) rfl rfl) rfl rfl) rfl rfl) rfl rfl) rfl rfl) rfl rfl) rfl rfl) rfl rfl) rfl rfl) rfl rfl) rfl rfl) rfl rfl), (show NKp (m112.2 18) (m112.2 19) by exact hNK), rfl⟩
              refine Or.inl ⟨_, _, _, _, rfl, ?_⟩
              refine K_nb (st' := [.int (i32 st)]) rfl ?_
              obtain ⟨g107a, g107b⟩ := g107
              have g116 : (-1) ≤ m106.1 206 ∧ m106.1 206 ≤ 65535 := Tm106.1 206
              have g117 : 0 ≤ m106.1 207 ∧ m106.1 207 ≤ 4001 := Tm106.1 207
              have g118 : 0 ≤ m106.1 213 ∧ m106.1 213 ≤ 1 := Tm106.1 213
              have g119 : 0 ≤ m106.1 224 ∧ m106.1 224 ≤ 240 := Tm106.1 224
              replace h108 : NKp (m106.2 18) (m106.2 19) := h108
              have hNK := h108
              replace h109 : st = (m62.1 224) := h109
              replace h110 : (m106.1 224) = (m62.1 224) + 1 := h110
              replace h111 : DEp (m106.1 224) (m106.2 45) (m106.2 46) (m106.2 47) (m106.2 49) := h111
              have hDE := h111
              refine T_pop 182 rfl (fun _ => rfl) ?_
              refine T_iinc 185 [(3, .int (i32 (v61 + 1))), (0, .ref 178), (1, .int (i32 (m.1 223)))] rfl rfl (by decide) rfl rfl ?_
              refine T_goto 142 rfl (fun _ => rfl) ?_
              refine Tm_lv (a := [(0, .ref 178), (1, .int (i32 (m.1 223))), (3, .int (i32 (v61 + 1)))]) rfl rfl ⟨rfl, rfl, rfl, trivial⟩ ?_
              exact ih74 (v61 + 1) (mO m106 [] []) (r32 (by omega) (by omega)) Tm106 (fr_m (fr_s Fm106 (fr_m (fr_s Fm62 (fr_m fr_0 rfl rfl) rfl rfl) rfl rfl) rfl rfl) rfl rfl) (show 0 ≤ (v61 + 1) by omega) (show NKp (m106.2 18) (m106.2 19) by exact hNK) (show DEp (m106.1 224) (m106.2 45) (m106.2 46) (m106.2 47) (m106.2 49) by exact hDE) (show 0 ≤ (v61 + 1) ∧ (v61 + 1) ≤ 12 by omega) (show (m106.1 224) ≤ 12 * (m.1 223) + (v61 + 1) by omega) (show (m.1 224) ≤ (m106.1 224) by omega) (show 20 - (v61 + 1) < (n73 : Int) by omega)
            · skip
              refine T_ld 162 (.ref 178) rfl (fun _ => rfl) ?_
              refine K_gf 165 (.ref 6) rfl rfl kd_178 rfl rfl rfl ?_
              refine T_ld 166 (.int (i32 4)) rfl (fun _ => rfl) ?_
              refine T_ld 167 (.ref 178) rfl (fun _ => rfl) ?_
              refine K_gf 170 (.ref 6) rfl rfl kd_178 rfl rfl rfl ?_
              refine K_gf 173 (.int (i32 (m62.1 207))) rfl rfl kd_6 rfl rfl rfl ?_
              refine T_callx 176 51 [.ref 6, .int (i32 4), .int (i32 (m62.1 207))] [] rfl (fun _ => rfl) rfl rfl (c_tx_fail w (mO m62 [] []) c N D (by omega) Tm62 4 (m62.1 207) ⟨by decide, by decide⟩ (r32 (by omega) (by omega)) (show 1 ≤ (4 : Int) ∧ (4 : Int) ≤ 8 by omega) (show 0 ≤ (m62.1 207) ∧ (m62.1 207) ≤ 4001 by omega)) (fun rr120 k121 => ?_)
              rcases k121 with ⟨m122, Tm122, Fm122, h123, rfl⟩ | ⟨xx126, m124, hx125, Tm124, Fm124, rfl⟩
              rotate_left
              · skip
                refine Or.inr ⟨_, _, _, _, rfl, ?_⟩
                exact Or.inr ⟨xx126, (mO m124 [] []), (hx125), Tm124, (fr_m (fr_s Fm124 (fr_m (fr_s Fm62 (fr_m (fr_s Fm60 (fr_m (fr_s Fm51 (fr_m (fr_s Fm41 (fr_m (fr_s Fm34 (fr_m (fr_s Fm26 (fr_m (fr_s Fm12 (fr_m (fr_s Fm3 (fr_m fr_0 rfl rfl) rfl rfl) rfl rfl) rfl rfl) rfl rfl) rfl rfl) rfl rfl) rfl rfl) rfl rfl) rfl rfl) rfl rfl) rfl rfl) rfl rfl) rfl rfl) rfl rfl) rfl rfl) rfl rfl) rfl rfl) rfl rfl), (show NKp (m124.2 18) (m124.2 19) by rewrite [(show (m124.2 18) = (m62.2 18) from (fr2 Fm124 18 rfl)), (show (m124.2 19) = (m62.2 19) from (fr2 Fm124 19 rfl))]; exact hNK), rfl⟩
              exact h123.elim
    refine Tm_lv (a := [(0, .ref 178), (1, .int (i32 (m.1 223))), (3, .int (i32 0))]) rfl rfl ⟨rfl, rfl, rfl, trivial⟩ ?_
    exact L142_63 ((20 - (0 : Int) : Int) + 1).toNat 0 (mO m60 [] []) ⟨by decide, by decide⟩ Tm60 (fr_m fr_0 rfl rfl) (show 0 ≤ (0 : Int) by omega) (show NKp (m60.2 18) (m60.2 19) by rewrite [(show (m60.2 18) = (m.2 18) from ((fr2 Fm60 18 rfl).trans ((fr2 Fm51 18 rfl).trans ((fr2 Fm41 18 rfl).trans ((fr2 Fm34 18 rfl).trans ((fr2 Fm26 18 rfl).trans ((fr2 Fm12 18 rfl).trans (fr2 Fm3 18 rfl)))))))), (show (m60.2 19) = (m.2 19) from ((fr2 Fm60 19 rfl).trans ((fr2 Fm51 19 rfl).trans ((fr2 Fm41 19 rfl).trans ((fr2 Fm34 19 rfl).trans ((fr2 Fm26 19 rfl).trans ((fr2 Fm12 19 rfl).trans (fr2 Fm3 19 rfl))))))))]; exact hNK) (show DEp (m60.1 224) (m60.2 45) (m60.2 46) (m60.2 47) (m60.2 49) by rewrite [(show (m60.1 224) = (m.1 224) from ((fr1 Fm60 224 rfl).trans ((fr1 Fm51 224 rfl).trans ((fr1 Fm41 224 rfl).trans ((fr1 Fm34 224 rfl).trans ((fr1 Fm26 224 rfl).trans ((fr1 Fm12 224 rfl).trans (fr1 Fm3 224 rfl)))))))), (show (m60.2 45) = (m.2 45) from ((fr2 Fm60 45 rfl).trans ((fr2 Fm51 45 rfl).trans ((fr2 Fm41 45 rfl).trans ((fr2 Fm34 45 rfl).trans ((fr2 Fm26 45 rfl).trans ((fr2 Fm12 45 rfl).trans (fr2 Fm3 45 rfl)))))))), (show (m60.2 46) = (m.2 46) from ((fr2 Fm60 46 rfl).trans ((fr2 Fm51 46 rfl).trans ((fr2 Fm41 46 rfl).trans ((fr2 Fm34 46 rfl).trans ((fr2 Fm26 46 rfl).trans ((fr2 Fm12 46 rfl).trans (fr2 Fm3 46 rfl)))))))), (show (m60.2 47) = (m.2 47) from ((fr2 Fm60 47 rfl).trans ((fr2 Fm51 47 rfl).trans ((fr2 Fm41 47 rfl).trans ((fr2 Fm34 47 rfl).trans ((fr2 Fm26 47 rfl).trans ((fr2 Fm12 47 rfl).trans (fr2 Fm3 47 rfl)))))))), (show (m60.2 49) = (m.2 49) from ((fr2 Fm60 49 rfl).trans ((fr2 Fm51 49 rfl).trans ((fr2 Fm41 49 rfl).trans ((fr2 Fm34 49 rfl).trans ((fr2 Fm26 49 rfl).trans ((fr2 Fm12 49 rfl).trans (fr2 Fm3 49 rfl))))))))]; exact hDE) (show 0 ≤ (0 : Int) ∧ (0 : Int) ≤ 12 by omega) (show (m60.1 224) ≤ 12 * (m.1 223) + (0 : Int) by rewrite [(show (m60.1 224) = (m.1 224) from ((fr1 Fm60 224 rfl).trans ((fr1 Fm51 224 rfl).trans ((fr1 Fm41 224 rfl).trans ((fr1 Fm34 224 rfl).trans ((fr1 Fm26 224 rfl).trans ((fr1 Fm12 224 rfl).trans (fr1 Fm3 224 rfl))))))))]; omega) (show (m.1 224) ≤ (m60.1 224) by rewrite [(show (m60.1 224) = (m.1 224) from ((fr1 Fm60 224 rfl).trans ((fr1 Fm51 224 rfl).trans ((fr1 Fm41 224 rfl).trans ((fr1 Fm34 224 rfl).trans ((fr1 Fm26 224 rfl).trans ((fr1 Fm12 224 rfl).trans (fr1 Fm3 224 rfl))))))))]; omega) (show 20 - (0 : Int) < ((((20 - (0 : Int) : Int) + 1).toNat : Nat) : Int) by omega)
  refine T_ld 61 (.ref 178) rfl (fun _ => rfl) ?_
  refine K_gf 64 (.ref 6) rfl rfl kd_178 rfl rfl rfl ?_
  refine K_gf 67 (.int (i32 (m26.1 206))) rfl rfl kd_6 rfl rfl rfl ?_
  refine T_ld 69 (.int (i32 41)) rfl (fun _ => rfl) ?_
  refine T_icmp 76 72 rfl rfl rfl (r32 (by omega) (by omega)) ⟨by decide, by decide⟩ (fun (h127 : (m26.1 206) = 41) => ?_) (fun (h127 : ¬ ((m26.1 206) = 41)) => ?_)
  · skip
    refine T_ld 77 (.int (i32 0)) rfl (fun _ => rfl) ?_
    refine T_sto 78 [(2, .int (i32 0)), (1, .int (i32 (m.1 223))), (0, .ref 178)] rfl (fun _ => rfl) ?_
    refine T_ld 79 (.int (i32 0)) rfl (fun _ => rfl) ?_
    refine T_sto 80 [(3, .int (i32 0)), (2, .int (i32 0)), (1, .int (i32 (m.1 223))), (0, .ref 178)] rfl (fun _ => rfl) ?_
    have L80_131 : ∀ (n142 : Nat) (v128 : Int) (v129 : Int) (m130 : mR), (R32 v128) → (R32 v129) → KTy m130 → fr [205, 206, 207, 208, 209, 210, 211, 212] [39, 40, 41, 42] (mO m26 [] []) m130 → (0 ≤ v128) → (v128 ≤ 0) → (0 ≤ v129) → (v129 ≤ 0) → (v128 = 0 ∨ v128 = 1) → (0 ≤ v129 ∧ v129 ≤ 5) → 12 - v129 < (n142 : Int) → TT w D pm_118 (80, [(0, .ref 178), (1, .int (i32 (m.1 223))), (2, .int (i32 v128)), (3, .int (i32 v129))], [], (khp (mO m130 [] []) c, N), 0, 0) (Q_rd_action m c N) := by
      intro n142
      induction n142 with
      | zero =>
        intro v128 v129 m130 q138 q139 Tm130 Fm130 ic132 ic133 ic134 ic135 ic136 ic137 hmu
        obtain ⟨q138a, q138b⟩ := id q138
        obtain ⟨q139a, q139b⟩ := id q139
        have q140_206 : (-1) ≤ m130.1 206 ∧ m130.1 206 ≤ 65535 := Tm130.1 206
        have q140_207 : 0 ≤ m130.1 207 ∧ m130.1 207 ≤ 4001 := Tm130.1 207
        exfalso
        omega
      | succ n142 ih =>
        intro v128 v129 m130 q138 q139 Tm130 Fm130 ic132 ic133 ic134 ic135 ic136 ic137 hmu
        obtain ⟨q138a, q138b⟩ := id q138
        obtain ⟨q139a, q139b⟩ := id q139
        have q140_206 : (-1) ≤ m130.1 206 ∧ m130.1 206 ≤ 65535 := Tm130.1 206
        have q140_207 : 0 ≤ m130.1 207 ∧ m130.1 207 ≤ 4001 := Tm130.1 207
        have ih143 := ih
        refine T_ld 81 (.int (i32 v129)) rfl (fun _ => rfl) ?_
        refine T_ld 82 (.int (i32 4)) rfl (fun _ => rfl) ?_
        refine T_icmp 106 85 rfl rfl rfl (r32 (by omega) (by omega)) ⟨by decide, by decide⟩ (fun (h144 : (4 : Int) < v129) => by exfalso; omega) (fun (h144 : ¬ ((4 : Int) < v129)) => ?_)
        refine T_ld 86 (.int (i32 v128)) rfl (fun _ => rfl) ?_
        refine T_if 106 89 rfl rfl rfl (r32 (by omega) (by omega)) (fun (h145 : v128 = 0) => ?_) (fun (h145 : ¬ (v128 = 0)) => by exfalso; omega)
        refine Tm_lv (a := [(0, .ref 178), (1, .int (i32 (m.1 223)))]) rfl rfl ⟨rfl, rfl, trivial⟩ ?_
        exact J106_35 (mO m130 [] []) Tm130 (fr_m (fr_s Fm130 (fr_m fr_0 rfl rfl) rfl rfl) rfl rfl)
    refine Tm_lv (a := [(0, .ref 178), (1, .int (i32 (m.1 223))), (2, .int (i32 0)), (3, .int (i32 0))]) rfl rfl ⟨rfl, rfl, rfl, rfl, trivial⟩ ?_
    exact L80_131 ((12 - (0 : Int) : Int) + 1).toNat 0 0 (mO m26 [] []) ⟨by decide, by decide⟩ ⟨by decide, by decide⟩ Tm26 (fr_m fr_0 rfl rfl) (show 0 ≤ (0 : Int) by omega) (show (0 : Int) ≤ 0 by omega) (show 0 ≤ (0 : Int) by omega) (show (0 : Int) ≤ 0 by omega) (show (0 : Int) = 0 ∨ (0 : Int) = 1 by omega) (show 0 ≤ (0 : Int) ∧ (0 : Int) ≤ 5 by omega) (show 12 - (0 : Int) < ((((12 - (0 : Int) : Int) + 1).toNat : Nat) : Int) by omega)
  · skip
    refine T_ld 73 (.int (i32 1)) rfl (fun _ => rfl) ?_
    refine T_goto 77 rfl (fun _ => rfl) ?_
    refine T_sto 78 [(2, .int (i32 1)), (1, .int (i32 (m.1 223))), (0, .ref 178)] rfl (fun _ => rfl) ?_
    refine T_ld 79 (.int (i32 0)) rfl (fun _ => rfl) ?_
    refine T_sto 80 [(3, .int (i32 0)), (2, .int (i32 1)), (1, .int (i32 (m.1 223))), (0, .ref 178)] rfl (fun _ => rfl) ?_
    have L80_149 : ∀ (n159 : Nat) (v146 : Int) (v147 : Int) (m148 : mR), (R32 v146) → (R32 v147) → KTy m148 → fr [205, 206, 207, 208, 209, 210, 211, 212] [39, 40, 41, 42] (mO m26 [] []) m148 → (0 ≤ v146) → (v146 ≤ 1) → (0 ≤ v147) → (v146 = 0 ∨ v146 = 1) → (0 ≤ v147 ∧ v147 ≤ 5) → 12 - v147 < (n159 : Int) → TT w D pm_118 (80, [(0, .ref 178), (1, .int (i32 (m.1 223))), (2, .int (i32 v146)), (3, .int (i32 v147))], [], (khp (mO m148 [] []) c, N), 0, 0) (Q_rd_action m c N) := by
      intro n159
      induction n159 with
      | zero =>
        intro v146 v147 m148 q155 q156 Tm148 Fm148 ic150 ic151 ic152 ic153 ic154 hmu
        obtain ⟨q155a, q155b⟩ := id q155
        obtain ⟨q156a, q156b⟩ := id q156
        have q157_206 : (-1) ≤ m148.1 206 ∧ m148.1 206 ≤ 65535 := Tm148.1 206
        have q157_207 : 0 ≤ m148.1 207 ∧ m148.1 207 ≤ 4001 := Tm148.1 207
        exfalso
        omega
      | succ n159 ih =>
        intro v146 v147 m148 q155 q156 Tm148 Fm148 ic150 ic151 ic152 ic153 ic154 hmu
        obtain ⟨q155a, q155b⟩ := id q155
        obtain ⟨q156a, q156b⟩ := id q156
        have q157_206 : (-1) ≤ m148.1 206 ∧ m148.1 206 ≤ 65535 := Tm148.1 206
        have q157_207 : 0 ≤ m148.1 207 ∧ m148.1 207 ≤ 4001 := Tm148.1 207
        have ih160 := ih
        refine T_ld 81 (.int (i32 v147)) rfl (fun _ => rfl) ?_
        refine T_ld 82 (.int (i32 4)) rfl (fun _ => rfl) ?_
        refine T_icmp 106 85 rfl rfl rfl (r32 (by omega) (by omega)) ⟨by decide, by decide⟩ (fun (h161 : (4 : Int) < v147) => ?_) (fun (h161 : ¬ ((4 : Int) < v147)) => ?_)
        · skip
          refine Tm_lv (a := [(0, .ref 178), (1, .int (i32 (m.1 223)))]) rfl rfl ⟨rfl, rfl, trivial⟩ ?_
          exact J106_35 (mO m148 [] []) Tm148 (fr_m (fr_s Fm148 (fr_m fr_0 rfl rfl) rfl rfl) rfl rfl)
        · skip
          refine T_ld 86 (.int (i32 v146)) rfl (fun _ => rfl) ?_
          refine T_if 106 89 rfl rfl rfl (r32 (by omega) (by omega)) (fun (h162 : v146 = 0) => ?_) (fun (h162 : ¬ (v146 = 0)) => ?_)
          · skip
            refine Tm_lv (a := [(0, .ref 178), (1, .int (i32 (m.1 223)))]) rfl rfl ⟨rfl, rfl, trivial⟩ ?_
            exact J106_35 (mO m148 [] []) Tm148 (fr_m (fr_s Fm148 (fr_m fr_0 rfl rfl) rfl rfl) rfl rfl)
          · skip
            refine T_ld 90 (.ref 178) rfl (fun _ => rfl) ?_
            refine T_ld 91 (.int (i32 (m.1 223))) rfl (fun _ => rfl) ?_
            refine T_ld 92 (.int (i32 v147)) rfl (fun _ => rfl) ?_
            refine T_callx 95 119 [.ref 178, .int (i32 (m.1 223)), .int (i32 v147)] [] rfl (fun _ => rfl) rfl rfl (c_rd_parameter w (mO m148 [] []) c N D (by omega) Tm148 (m.1 223) v147 (r32 (by omega) (by omega)) (r32 (by omega) (by omega)) (show 0 ≤ (m.1 223) ∧ (m.1 223) ≤ 15 by omega) (show 0 ≤ v147 ∧ v147 ≤ 4 by omega)) (fun rr163 k164 => ?_)
            rcases k164 with ⟨m165, Tm165, Fm165, rfl⟩ | ⟨xx168, m166, hx167, Tm166, Fm166, rfl⟩
            rotate_left
            · skip
              refine Or.inr ⟨_, _, _, _, rfl, ?_⟩
              exact Or.inr ⟨xx168, (mO m166 [] []), (hx167), Tm166, (fr_m (fr_s Fm166 (fr_m (fr_s Fm148 (fr_m (fr_s Fm26 (fr_m (fr_s Fm12 (fr_m (fr_s Fm3 (fr_m fr_0 rfl rfl) rfl rfl) rfl rfl) rfl rfl) rfl rfl) rfl rfl) rfl rfl) rfl rfl) rfl rfl) rfl rfl) rfl rfl), (show NKp (m166.2 18) (m166.2 19) by rewrite [(show (m166.2 18) = (m.2 18) from ((fr2 Fm166 18 rfl).trans ((fr2 Fm148 18 rfl).trans ((fr2 Fm26 18 rfl).trans ((fr2 Fm12 18 rfl).trans (fr2 Fm3 18 rfl)))))), (show (m166.2 19) = (m.2 19) from ((fr2 Fm166 19 rfl).trans ((fr2 Fm148 19 rfl).trans ((fr2 Fm26 19 rfl).trans ((fr2 Fm12 19 rfl).trans (fr2 Fm3 19 rfl))))))]; exact hNK), rfl⟩
            refine Or.inl ⟨_, _, _, _, rfl, ?_⟩
            refine K_nb (st' := []) rfl ?_
            have g169 : (-1) ≤ m165.1 206 ∧ m165.1 206 ≤ 65535 := Tm165.1 206
            have g170 : 0 ≤ m165.1 207 ∧ m165.1 207 ≤ 4001 := Tm165.1 207
            refine T_ld 96 (.ref 178) rfl (fun _ => rfl) ?_
            refine T_callx 99 120 [.ref 178] [] rfl (fun _ => rfl) rfl rfl (c_rd_goesOnList w (mO m165 [] []) c N D (by omega) Tm165 ) (fun rr171 k172 => ?_)
            rcases k172 with ⟨m173, gl, Tm173, Fm173, g174, rfl⟩ | ⟨xx177, m175, hx176, Tm175, Fm175, rfl⟩
            rotate_left
            · skip
              refine Or.inr ⟨_, _, _, _, rfl, ?_⟩
              exact Or.inr ⟨xx177, (mO m175 [] []), (hx176), Tm175, (fr_m (fr_s Fm175 (fr_m (fr_s Fm165 (fr_m (fr_s Fm148 (fr_m (fr_s Fm26 (fr_m (fr_s Fm12 (fr_m (fr_s Fm3 (fr_m fr_0 rfl rfl) rfl rfl) rfl rfl) rfl rfl) rfl rfl) rfl rfl) rfl rfl) rfl rfl) rfl rfl) rfl rfl) rfl rfl) rfl rfl) rfl rfl), (show NKp (m175.2 18) (m175.2 19) by rewrite [(show (m175.2 18) = (m.2 18) from ((fr2 Fm175 18 rfl).trans ((fr2 Fm165 18 rfl).trans ((fr2 Fm148 18 rfl).trans ((fr2 Fm26 18 rfl).trans ((fr2 Fm12 18 rfl).trans (fr2 Fm3 18 rfl))))))), (show (m175.2 19) = (m.2 19) from ((fr2 Fm175 19 rfl).trans ((fr2 Fm165 19 rfl).trans ((fr2 Fm148 19 rfl).trans ((fr2 Fm26 19 rfl).trans ((fr2 Fm12 19 rfl).trans (fr2 Fm3 19 rfl)))))))]; exact hNK), rfl⟩
            refine Or.inl ⟨_, _, _, _, rfl, ?_⟩
            refine K_nb (st' := [.int (i32 gl)]) rfl ?_
            obtain ⟨g174a, g174b⟩ := g174
            have g178 : (-1) ≤ m173.1 206 ∧ m173.1 206 ≤ 65535 := Tm173.1 206
            have g179 : 0 ≤ m173.1 207 ∧ m173.1 207 ≤ 4001 := Tm173.1 207
            refine T_sto 100 [(2, .int (i32 gl)), (0, .ref 178), (1, .int (i32 (m.1 223))), (3, .int (i32 v147))] rfl (fun _ => rfl) ?_
            refine T_iinc 103 [(3, .int (i32 (v147 + 1))), (2, .int (i32 gl)), (0, .ref 178), (1, .int (i32 (m.1 223)))] rfl rfl (by decide) rfl rfl ?_
            refine T_goto 80 rfl (fun _ => rfl) ?_
            refine Tm_lv (a := [(0, .ref 178), (1, .int (i32 (m.1 223))), (2, .int (i32 gl)), (3, .int (i32 (v147 + 1)))]) rfl rfl ⟨rfl, rfl, rfl, rfl, trivial⟩ ?_
            exact ih160 gl (v147 + 1) (mO m173 [] []) (r32 (by omega) (by omega)) (r32 (by omega) (by omega)) Tm173 (fr_m (fr_s Fm173 (fr_m (fr_s Fm165 (fr_m (fr_s Fm148 (fr_m fr_0 rfl rfl) rfl rfl) rfl rfl) rfl rfl) rfl rfl) rfl rfl) rfl rfl) (show 0 ≤ gl by omega) (show gl ≤ 1 by omega) (show 0 ≤ (v147 + 1) by omega) (show gl = 0 ∨ gl = 1 by omega) (show 0 ≤ (v147 + 1) ∧ (v147 + 1) ≤ 5 by omega) (show 12 - (v147 + 1) < (n159 : Int) by omega)
    refine Tm_lv (a := [(0, .ref 178), (1, .int (i32 (m.1 223))), (2, .int (i32 1)), (3, .int (i32 0))]) rfl rfl ⟨rfl, rfl, rfl, rfl, trivial⟩ ?_
    exact L80_149 ((12 - (0 : Int) : Int) + 1).toNat 1 0 (mO m26 [] []) ⟨by decide, by decide⟩ ⟨by decide, by decide⟩ Tm26 (fr_m fr_0 rfl rfl) (show 0 ≤ (1 : Int) by omega) (show (1 : Int) ≤ 1 by omega) (show 0 ≤ (0 : Int) by omega) (show (1 : Int) = 0 ∨ (1 : Int) = 1 by omega) (show 0 ≤ (0 : Int) ∧ (0 : Int) ≤ 5 by omega) (show 12 - (0 : Int) < ((((12 - (0 : Int) : Int) + 1).toNat : Nat) : Int) by omega)
def fF_pr_clear : List Nat := [214, 215, 216, 217, 218, 219, 220, 221, 222, 223, 224, 225, 226]
def fA_pr_clear : List Nat := [10, 14]
def Q_pr_clear (m : mR) (c : Nat → Option am_C) (N : Nat) : ag_Re af_T → Prop := fun R => (∃ (M : mR), KTy M ∧ fr fF_pr_clear fA_pr_clear m M ∧ ((M.1 214) = 0 ∧ (M.1 215) = 0 ∧ (M.1 216) = 3 ∧ (M.1 217) = 0) ∧ ((M.1 218) = 0 ∧ (M.1 219) = 0 ∧ (M.1 221) = 0 ∧ (M.1 222) = 0) ∧ ((M.1 223) = 0 ∧ (M.1 224) = 0 ∧ (M.1 225) = 0 ∧ (M.1 226) = 0) ∧ R = (.inl (none), (khp M c, N), 0, 0))
set_option maxHeartbeats 3000000 in
theorem c_pr_clear (w : wX) (m : mR) (c : Nat → Option am_C) (N D : Nat) (hD : 2 ≤ D) (hT : KTy m) : TC w D 44 [.ref 12] (khp m c, N) (Q_pr_clear m c N) := by
  obtain ⟨D, rfl⟩ : ∃ k, D = k + 1 := ⟨D - 1, by omega⟩
  have f214 : 0 ≤ m.1 214 ∧ m.1 214 ≤ 12 := hT.1 214
  have f215 : 0 ≤ m.1 215 ∧ m.1 215 ≤ 12 := hT.1 215
  have f216 : 0 ≤ m.1 216 ∧ m.1 216 ≤ 16 := hT.1 216
  have f217 : 0 ≤ m.1 217 ∧ m.1 217 ≤ 8 := hT.1 217
  have f218 : 0 ≤ m.1 218 ∧ m.1 218 ≤ 12 := hT.1 218
  have f219 : 0 ≤ m.1 219 ∧ m.1 219 ≤ 8 := hT.1 219
  have f221 : 0 ≤ m.1 221 ∧ m.1 221 ≤ 16 := hT.1 221
  have f222 : 0 ≤ m.1 222 ∧ m.1 222 ≤ 16 := hT.1 222
  have f223 : 0 ≤ m.1 223 ∧ m.1 223 ≤ 16 := hT.1 223
  have f224 : 0 ≤ m.1 224 ∧ m.1 224 ≤ 240 := hT.1 224
  have f225 : 0 ≤ m.1 225 ∧ m.1 225 ≤ 48 := hT.1 225
  have f226 : 0 ≤ m.1 226 ∧ m.1 226 ≤ 12 := hT.1 226
  refine Tc_of rfl ?_
  rw [show (khp m c, N) = (khp (mO m [] []) c, N) from by rw [mO_nil m]]
  show TT w D pm_44 (0, [(0, .ref 12)], [], (khp (mO m [] []) c, N), 0, 0) (Q_pr_clear m c N)
  refine T_ld 1 (.ref 12) rfl (fun _ => rfl) ?_
  refine K_gf 4 (.ref 13) rfl rfl kd_12 rfl rfl rfl ?_
  refine T_ld 5 (.int (i32 0)) rfl (fun _ => rfl) ?_
  refine T_callx 8 25 [.ref 13, .int (i32 0)] [] rfl (fun _ => rfl) rfl rfl (c_fill_pr_fieldWidth w (mO m [] []) c N D (by omega) hT 0 ⟨by decide, by decide⟩ (show 0 ≤ (0 : Int) ∧ (0 : Int) ≤ 64 by omega)) (fun rr1 k2 => ?_)
  obtain ⟨m3, Tm3, Fm3, rfl⟩ := k2
  refine Or.inl ⟨_, _, _, _, rfl, ?_⟩
  refine K_nb (st' := []) rfl ?_
  refine T_ld 9 (.ref 12) rfl (fun _ => rfl) ?_
  refine T_ld 10 (.int (i32 0)) rfl (fun _ => rfl) ?_
  refine K_pf (l' := [(214, 0)]) 13 0 rfl rfl kd_12 rfl rfl rfl rfl rfl rfl rfl ?_
  refine T_ld 14 (.ref 12) rfl (fun _ => rfl) ?_
  refine T_ld 15 (.int (i32 0)) rfl (fun _ => rfl) ?_
  refine K_pf (l' := [(214, 0), (215, 0)]) 18 0 rfl rfl kd_12 rfl rfl rfl rfl rfl rfl rfl ?_
  refine T_ld 19 (.ref 12) rfl (fun _ => rfl) ?_
  refine T_ld 20 (.int (i32 3)) rfl (fun _ => rfl) ?_
  refine K_pf (l' := [(214, 0), (215, 0), (216, 3)]) 23 3 rfl rfl kd_12 rfl rfl rfl rfl rfl rfl rfl ?_
  refine T_ld 24 (.ref 12) rfl (fun _ => rfl) ?_
  refine K_gf 27 (.ref 17) rfl rfl kd_12 rfl rfl rfl ?_
  refine T_ld 29 (.int (i32 16)) rfl (fun _ => rfl) ?_
  refine T_callx 32 25 [.ref 17, .int (i32 16)] [] rfl (fun _ => rfl) rfl rfl (c_fill_pr_metaWidth w (mO m3 [(214, 0), (215, 0), (216, 3)] []) c N D (by omega) (KTy_mO Tm3 rfl rfl ⟨⟨(by omega : (0 : Int) ≤ 0), (by omega : (0 : Int) ≤ 12)⟩, ⟨(by omega : (0 : Int) ≤ 0), (by omega : (0 : Int) ≤ 12)⟩, ⟨(by omega : (0 : Int) ≤ 3), (by omega : (3 : Int) ≤ 16)⟩, trivial⟩ trivial) 16 ⟨by decide, by decide⟩ (show 0 ≤ (16 : Int) ∧ (16 : Int) ≤ 64 by omega)) (fun rr4 k5 => ?_)
  obtain ⟨m6, Tm6, Fm6, rfl⟩ := k5
  refine Or.inl ⟨_, _, _, _, rfl, ?_⟩
  refine K_nb (st' := []) rfl ?_
  refine T_ld 33 (.ref 12) rfl (fun _ => rfl) ?_
  refine T_ld 34 (.int (i32 0)) rfl (fun _ => rfl) ?_
  refine K_pf (l' := [(217, 0)]) 37 0 rfl rfl kd_12 rfl rfl rfl rfl rfl rfl rfl ?_
  refine T_ld 38 (.ref 12) rfl (fun _ => rfl) ?_
  refine T_ld 39 (.int (i32 0)) rfl (fun _ => rfl) ?_
  refine K_pf (l' := [(217, 0), (218, 0)]) 42 0 rfl rfl kd_12 rfl rfl rfl rfl rfl rfl rfl ?_
  refine T_ld 43 (.ref 12) rfl (fun _ => rfl) ?_
  refine T_ld 44 (.int (i32 0)) rfl (fun _ => rfl) ?_
  refine K_pf (l' := [(217, 0), (218, 0), (219, 0)]) 47 0 rfl rfl kd_12 rfl rfl rfl rfl rfl rfl rfl ?_
  refine T_ld 48 (.ref 12) rfl (fun _ => rfl) ?_
  refine K_gf 51 (.ref 22) rfl rfl kd_12 rfl rfl rfl ?_
  refine T_ld 52 (.int (i32 0)) rfl (fun _ => rfl) ?_
  refine K_pf (l' := [(217, 0), (218, 0), (219, 0), (220, 0)]) 55 0 rfl rfl kd_22 rfl rfl rfl rfl rfl rfl rfl ?_
  refine T_ld 56 (.ref 12) rfl (fun _ => rfl) ?_
  refine K_gf 59 (.ref 31) rfl rfl kd_12 rfl rfl rfl ?_
  refine T_ld 60 (.int (i32 0)) rfl (fun _ => rfl) ?_
  refine K_pf (l' := [(217, 0), (218, 0), (219, 0), (220, 0), (221, 0)]) 63 0 rfl rfl kd_31 rfl rfl rfl rfl rfl rfl rfl ?_
  refine T_ld 64 (.ref 12) rfl (fun _ => rfl) ?_
  refine K_gf 67 (.ref 31) rfl rfl kd_12 rfl rfl rfl ?_
  refine T_ld 68 (.int (i32 0)) rfl (fun _ => rfl) ?_
  refine K_pf (l' := [(217, 0), (218, 0), (219, 0), (220, 0), (221, 0), (222, 0)]) 71 0 rfl rfl kd_31 rfl rfl rfl rfl rfl rfl rfl ?_
  refine T_ld 72 (.ref 12) rfl (fun _ => rfl) ?_
  refine K_gf 75 (.ref 45) rfl rfl kd_12 rfl rfl rfl ?_
  refine T_ld 76 (.int (i32 0)) rfl (fun _ => rfl) ?_
  refine K_pf (l' := [(217, 0), (218, 0), (219, 0), (220, 0), (221, 0), (222, 0), (223, 0)]) 79 0 rfl rfl kd_45 rfl rfl rfl rfl rfl rfl rfl ?_
  refine T_ld 80 (.ref 12) rfl (fun _ => rfl) ?_
  refine K_gf 83 (.ref 45) rfl rfl kd_12 rfl rfl rfl ?_
  refine T_ld 84 (.int (i32 0)) rfl (fun _ => rfl) ?_
  refine K_pf (l' := [(217, 0), (218, 0), (219, 0), (220, 0), (221, 0), (222, 0), (223, 0), (224, 0)]) 87 0 rfl rfl kd_45 rfl rfl rfl rfl rfl rfl rfl ?_
  refine T_ld 88 (.ref 12) rfl (fun _ => rfl) ?_
  refine K_gf 91 (.ref 59) rfl rfl kd_12 rfl rfl rfl ?_
  refine T_ld 92 (.int (i32 0)) rfl (fun _ => rfl) ?_
  refine K_pf (l' := [(217, 0), (218, 0), (219, 0), (220, 0), (221, 0), (222, 0), (223, 0), (224, 0), (225, 0)]) 95 0 rfl rfl kd_59 rfl rfl rfl rfl rfl rfl rfl ?_
  refine T_ld 96 (.ref 12) rfl (fun _ => rfl) ?_
  refine K_gf 99 (.ref 59) rfl rfl kd_12 rfl rfl rfl ?_
  refine T_ld 100 (.int (i32 0)) rfl (fun _ => rfl) ?_
  refine K_pf (l' := [(217, 0), (218, 0), (219, 0), (220, 0), (221, 0), (222, 0), (223, 0), (224, 0), (225, 0), (226, 0)]) 103 0 rfl rfl kd_59 rfl rfl rfl rfl rfl rfl rfl ?_
  refine T_ret rfl (fun _ => rfl) ?_
  exact ⟨(mO m6 [(217, 0), (218, 0), (219, 0), (220, 0), (221, 0), (222, 0), (223, 0), (224, 0), (225, 0), (226, 0)] []), (KTy_mO Tm6 rfl rfl ⟨⟨(by omega : (0 : Int) ≤ 0), (by omega : (0 : Int) ≤ 8)⟩, ⟨(by omega : (0 : Int) ≤ 0), (by omega : (0 : Int) ≤ 12)⟩, ⟨(by omega : (0 : Int) ≤ 0), (by omega : (0 : Int) ≤ 8)⟩, ⟨(by omega : (0 : Int) ≤ 0), (by omega : (0 : Int) ≤ 1090)⟩, ⟨(by omega : (0 : Int) ≤ 0), (by omega : (0 : Int) ≤ 16)⟩, ⟨(by omega : (0 : Int) ≤ 0), (by omega : (0 : Int) ≤ 16)⟩, ⟨(by omega : (0 : Int) ≤ 0), (by omega : (0 : Int) ≤ 16)⟩, ⟨(by omega : (0 : Int) ≤ 0), (by omega : (0 : Int) ≤ 240)⟩, ⟨(by omega : (0 : Int) ≤ 0), (by omega : (0 : Int) ≤ 48)⟩, ⟨(by omega : (0 : Int) ≤ 0), (by omega : (0 : Int) ≤ 12)⟩, trivial⟩ trivial), (fr_m (fr_s Fm6 (fr_m (fr_s Fm3 (fr_m fr_0 rfl rfl) rfl rfl) rfl rfl) rfl rfl) rfl rfl), (show (m6.1 214) = 0 ∧ (m6.1 215) = 0 ∧ (m6.1 216) = 3 ∧ (0 : Int) = 0 by rewrite [(show (m6.1 214) = 0 from (fr1 Fm6 214 rfl)), (show (m6.1 215) = 0 from (fr1 Fm6 215 rfl)), (show (m6.1 216) = 3 from (fr1 Fm6 216 rfl))]; omega), (show (0 : Int) = 0 ∧ (0 : Int) = 0 ∧ (0 : Int) = 0 ∧ (0 : Int) = 0 by omega), (show (0 : Int) = 0 ∧ (0 : Int) = 0 ∧ (0 : Int) = 0 ∧ (0 : Int) = 0 by omega), rfl⟩
def fF_sp_gatherExpr : List Nat := []
def fA_sp_gatherExpr : List Nat := [60]
def Q_sp_gatherExpr (m : mR) (c : Nat → Option am_C) (N : Nat) (s : Int) (f : Int) (l : Int) : ag_Re af_T → Prop := fun R => (∃ (M : mR), KTy M ∧ fr fF_sp_gatherExpr fA_sp_gatherExpr m M ∧ R = (.inl (none), (khp M c, N), 0, 0))
set_option maxHeartbeats 3000000 in
theorem c_sp_gatherExpr (w : wX) (m : mR) (c : Nat → Option am_C) (N D : Nat) (hD : 2 ≤ D) (hT : KTy m) (s : Int) (f : Int) (l : Int) (qs : R32 s) (qf : R32 f) (ql : R32 l) (hNK : NKp (m.2 18) (m.2 19)) (p1 : 0 ≤ s ∧ s ≤ 47) (p2 : 0 ≤ f ∧ f ≤ 1090) (p3 : (-1) ≤ l ∧ l ≤ 1089) : TC w D 152 [.ref 59, .ref 22, .int (i32 s), .int (i32 f), .int (i32 l)] (khp m c, N) (Q_sp_gatherExpr m c N s f l) := by
  obtain ⟨D, rfl⟩ : ∃ k, D = k + 1 := ⟨D - 1, by omega⟩
  obtain ⟨qsa, qsb⟩ := id qs
  obtain ⟨qfa, qfb⟩ := id qf
  obtain ⟨qla, qlb⟩ := id ql
  refine Tc_of rfl ?_
  rw [show (khp m c, N) = (khp (mO m [] []) c, N) from by rw [mO_nil m]]
  show TT w D pm_152 (0, [(0, .ref 59), (1, .ref 22), (2, .int (i32 s)), (3, .int (i32 f)), (4, .int (i32 l))], [], (khp (mO m [] []) c, N), 0, 0) (Q_sp_gatherExpr m c N s f l)
  refine T_ld 1 (.int (i32 f)) rfl (fun _ => rfl) ?_
  refine T_sto 3 [(5, .int (i32 f)), (0, .ref 59), (1, .ref 22), (2, .int (i32 s)), (3, .int (i32 f)), (4, .int (i32 l))] rfl (fun _ => rfl) ?_
  have L3_3 : ∀ (n10 : Nat) (v1 : Int) (m2 : mR), (R32 v1) → KTy m2 → fr [] [60] (mO m [] []) m2 → (0 ≤ v1) → (v1 ≤ 1090) → (0 ≤ v1 ∧ v1 ≤ 1090) → 1100 - v1 < (n10 : Int) → TT w D pm_152 (3, [(0, .ref 59), (1, .ref 22), (2, .int (i32 s)), (4, .int (i32 l)), (5, .int (i32 v1))], [], (khp (mO m2 [] []) c, N), 0, 0) (Q_sp_gatherExpr m c N s f l) := by
    intro n10
    induction n10 with
    | zero =>
      intro v1 m2 q7 Tm2 Fm2 ic4 ic5 ic6 hmu
      obtain ⟨q7a, q7b⟩ := id q7
      exfalso
      omega
    | succ n10 ih =>
      intro v1 m2 q7 Tm2 Fm2 ic4 ic5 ic6 hmu
      obtain ⟨q7a, q7b⟩ := id q7
      have ih11 := ih
      refine T_ld 5 (.int (i32 l)) rfl (fun _ => rfl) ?_
      refine T_ld 6 (.int (i32 (-1))) rfl (fun _ => rfl) ?_
      refine T_icmp 85 9 rfl rfl rfl (r32 (by omega) (by omega)) ⟨by decide, by decide⟩ (fun (h12 : l = (-1)) => ?_) (fun (h12 : ¬ (l = (-1))) => ?_)
      · skip
        refine T_ret rfl (fun _ => rfl) ?_
        exact ⟨(mO m2 [] []), Tm2, (fr_m (fr_s Fm2 (fr_m fr_0 rfl rfl) rfl rfl) rfl rfl), rfl⟩
      · skip
        refine T_ld 11 (.int (i32 v1)) rfl (fun _ => rfl) ?_
        refine T_ld 13 (.int (i32 l)) rfl (fun _ => rfl) ?_
        refine T_icmp 85 16 rfl rfl rfl (r32 (by omega) (by omega)) (r32 (by omega) (by omega)) (fun (h13 : l < v1) => ?_) (fun (h13 : ¬ (l < v1)) => ?_)
        · skip
          refine T_ret rfl (fun _ => rfl) ?_
          exact ⟨(mO m2 [] []), Tm2, (fr_m (fr_s Fm2 (fr_m fr_0 rfl rfl) rfl rfl) rfl rfl), rfl⟩
        · skip
          refine T_ld 17 (.ref 22) rfl (fun _ => rfl) ?_
          refine K_gf 20 (.ref 23) rfl rfl kd_22 rfl rfl rfl ?_
          refine T_ld 22 (.int (i32 v1)) rfl (fun _ => rfl) ?_
          refine K_iald 23 18 (m.2 18) rfl rfl rfl (by omega) (show v1 < (1090 : Int) by omega) (show (m2.2 18) = (m.2 18) from (fr2 Fm2 18 rfl)) ?_
          have e14 : 0 ≤ m.2 18 v1 ∧ m.2 18 v1 ≤ 65535 := hT.2.1 18 v1
          refine T_ld 26 (.int (i32 400)) rfl (fun _ => rfl) ?_
          refine T_icmp 79 29 rfl rfl rfl (r32 (by omega) (by omega)) ⟨by decide, by decide⟩ (fun (h15 : (m.2 18) v1 ≠ 400) => ?_) (fun (h15 : ¬ ((m.2 18) v1 ≠ 400)) => ?_)
          · skip
            refine T_iinc 82 [(5, .int (i32 (v1 + 1))), (0, .ref 59), (1, .ref 22), (2, .int (i32 s)), (4, .int (i32 l))] rfl rfl (by decide) rfl rfl ?_
            refine T_goto 3 rfl (fun _ => rfl) ?_
            refine Tm_lv (a := [(0, .ref 59), (1, .ref 22), (2, .int (i32 s)), (4, .int (i32 l)), (5, .int (i32 (v1 + 1)))]) rfl rfl ⟨rfl, rfl, rfl, rfl, rfl, trivial⟩ ?_
            exact ih11 (v1 + 1) (mO m2 [] []) (r32 (by omega) (by omega)) Tm2 (fr_m (fr_s Fm2 (fr_m fr_0 rfl rfl) rfl rfl) rfl rfl) (show 0 ≤ (v1 + 1) by omega) (show (v1 + 1) ≤ 1090 by omega) (show 0 ≤ (v1 + 1) ∧ (v1 + 1) ≤ 1090 by omega) (show 1100 - (v1 + 1) < (n10 : Int) by omega)
          · skip
            have hkk := (hNK v1).1 (by omega)
            refine T_ld 30 (.ref 22) rfl (fun _ => rfl) ?_
            refine K_gf 33 (.ref 24) rfl rfl kd_22 rfl rfl rfl ?_
            refine T_ld 35 (.int (i32 v1)) rfl (fun _ => rfl) ?_
            refine K_iald 36 19 (m.2 19) rfl rfl rfl (by omega) (show v1 < (1090 : Int) by omega) (show (m2.2 19) = (m.2 19) from (fr2 Fm2 19 rfl)) ?_
            have e16 : 0 ≤ m.2 19 v1 ∧ m.2 19 v1 ≤ 1089 := hT.2.1 19 v1
            refine T_sto 38 [(6, .int (i32 ((m.2 19) v1))), (0, .ref 59), (1, .ref 22), (2, .int (i32 s)), (4, .int (i32 l)), (5, .int (i32 v1))] rfl (fun _ => rfl) ?_
            refine T_ld 39 (.ref 59) rfl (fun _ => rfl) ?_
            refine T_ld 40 (.ref 59) rfl (fun _ => rfl) ?_
            refine K_gf 43 (.ref 68) rfl rfl kd_59 rfl rfl rfl ?_
            refine T_ld 44 (.int (i32 s)) rfl (fun _ => rfl) ?_
            refine T_ld 46 (.int (i32 ((m.2 19) v1))) rfl (fun _ => rfl) ?_
            refine T_callx 49 153 [.ref 59, .ref 68, .int (i32 s), .int (i32 ((m.2 19) v1))] [] rfl (fun _ => rfl) rfl rfl (c_mark_sp_reads w (mO m2 [] []) c N D (by omega) Tm2 s ((m.2 19) v1) (r32 (by omega) (by omega)) (r32 (by omega) (by omega)) (show 0 ≤ s ∧ s ≤ 47 by omega) (show 0 ≤ ((m.2 19) v1) ∧ ((m.2 19) v1) ≤ 220 by omega)) (fun rr17 k18 => ?_)
            obtain ⟨m19, Tm19, Fm19, rfl⟩ := k18
            refine Or.inl ⟨_, _, _, _, rfl, ?_⟩
            refine K_nb (st' := []) rfl ?_
            refine T_ld 50 (.ref 59) rfl (fun _ => rfl) ?_
            refine T_ld 51 (.ref 59) rfl (fun _ => rfl) ?_
            refine K_gf 54 (.ref 68) rfl rfl kd_59 rfl rfl rfl ?_
            refine T_ld 55 (.int (i32 s)) rfl (fun _ => rfl) ?_
            refine T_ld 57 (.int (i32 ((m.2 19) v1))) rfl (fun _ => rfl) ?_
            refine T_ld 60 (.int (i32 204)) rfl (fun _ => rfl) ?_
            refine T_icmp 74 63 rfl rfl rfl (r32 (by omega) (by omega)) ⟨by decide, by decide⟩ (fun (h20 : (204 : Int) ≤ (m.2 19) v1) => ?_) (fun (h20 : ¬ ((204 : Int) ≤ (m.2 19) v1)) => ?_)
            · skip
              refine T_ld 76 (.int (i32 ((m.2 19) v1))) rfl (fun _ => rfl) ?_
              refine T_callx 79 153 [.ref 59, .ref 68, .int (i32 s), .int (i32 ((m.2 19) v1))] [] rfl (fun _ => rfl) rfl rfl (c_mark_sp_reads w (mO m19 [] []) c N D (by omega) Tm19 s ((m.2 19) v1) (r32 (by omega) (by omega)) (r32 (by omega) (by omega)) (show 0 ≤ s ∧ s ≤ 47 by omega) (show 0 ≤ ((m.2 19) v1) ∧ ((m.2 19) v1) ≤ 220 by omega)) (fun rr21 k22 => ?_)
              obtain ⟨m23, Tm23, Fm23, rfl⟩ := k22
              refine Or.inl ⟨_, _, _, _, rfl, ?_⟩
              refine K_nb (st' := []) rfl ?_
              refine T_iinc 82 [(5, .int (i32 (v1 + 1))), (6, .int (i32 ((m.2 19) v1))), (0, .ref 59), (1, .ref 22), (2, .int (i32 s)), (4, .int (i32 l))] rfl rfl (by decide) rfl rfl ?_
              refine T_goto 3 rfl (fun _ => rfl) ?_
              refine Tm_lv (a := [(0, .ref 59), (1, .ref 22), (2, .int (i32 s)), (4, .int (i32 l)), (5, .int (i32 (v1 + 1)))]) rfl rfl ⟨rfl, rfl, rfl, rfl, rfl, trivial⟩ ?_
              exact ih11 (v1 + 1) (mO m23 [] []) (r32 (by omega) (by omega)) Tm23 (fr_m (fr_s Fm23 (fr_m (fr_s Fm19 (fr_m (fr_s Fm2 (fr_m fr_0 rfl rfl) rfl rfl) rfl rfl) rfl rfl) rfl rfl) rfl rfl) rfl rfl) (show 0 ≤ (v1 + 1) by omega) (show (v1 + 1) ≤ 1090 by omega) (show 0 ≤ (v1 + 1) ∧ (v1 + 1) ≤ 1090 by omega) (show 1100 - (v1 + 1) < (n10 : Int) by omega)
            · skip
              refine T_ld 65 (.int (i32 ((m.2 19) v1))) rfl (fun _ => rfl) ?_
              refine T_ld 67 (.int (i32 ((m.2 19) v1))) rfl (fun _ => rfl) ?_
              refine T_ld 69 (.int (i32 17)) rfl (fun _ => rfl) ?_
              refine T_irem 70 rfl rfl (by omega) (by omega) (by omega) (by omega) ?_
              refine T_isub 71 rfl rfl ?_
              refine T_goto 76 rfl (fun _ => rfl) ?_
              refine T_callx 79 153 [.ref 59, .ref 68, .int (i32 s), .int (i32 (((m.2 19) v1) - (((m.2 19) v1) % 17)))] [] rfl (fun _ => rfl) rfl rfl (c_mark_sp_reads w (mO m19 [] []) c N D (by omega) Tm19 s (((m.2 19) v1) - (((m.2 19) v1) % 17)) (r32 (by omega) (by omega)) (r32 (by omega) (by omega)) (show 0 ≤ s ∧ s ≤ 47 by omega) (show 0 ≤ (((m.2 19) v1) - (((m.2 19) v1) % 17)) ∧ (((m.2 19) v1) - (((m.2 19) v1) % 17)) ≤ 220 by omega)) (fun rr24 k25 => ?_)
              obtain ⟨m26, Tm26, Fm26, rfl⟩ := k25
              refine Or.inl ⟨_, _, _, _, rfl, ?_⟩
              refine K_nb (st' := []) rfl ?_
              refine T_iinc 82 [(5, .int (i32 (v1 + 1))), (6, .int (i32 ((m.2 19) v1))), (0, .ref 59), (1, .ref 22), (2, .int (i32 s)), (4, .int (i32 l))] rfl rfl (by decide) rfl rfl ?_
              refine T_goto 3 rfl (fun _ => rfl) ?_
              refine Tm_lv (a := [(0, .ref 59), (1, .ref 22), (2, .int (i32 s)), (4, .int (i32 l)), (5, .int (i32 (v1 + 1)))]) rfl rfl ⟨rfl, rfl, rfl, rfl, rfl, trivial⟩ ?_
              exact ih11 (v1 + 1) (mO m26 [] []) (r32 (by omega) (by omega)) Tm26 (fr_m (fr_s Fm26 (fr_m (fr_s Fm19 (fr_m (fr_s Fm2 (fr_m fr_0 rfl rfl) rfl rfl) rfl rfl) rfl rfl) rfl rfl) rfl rfl) rfl rfl) (show 0 ≤ (v1 + 1) by omega) (show (v1 + 1) ≤ 1090 by omega) (show 0 ≤ (v1 + 1) ∧ (v1 + 1) ≤ 1090 by omega) (show 1100 - (v1 + 1) < (n10 : Int) by omega)
  refine Tm_lv (a := [(0, .ref 59), (1, .ref 22), (2, .int (i32 s)), (4, .int (i32 l)), (5, .int (i32 f))]) rfl rfl ⟨rfl, rfl, rfl, rfl, rfl, trivial⟩ ?_
  exact L3_3 ((1100 - f : Int) + 1).toNat f (mO m [] []) (r32 (by omega) (by omega)) hT (fr_m fr_0 rfl rfl) (show 0 ≤ f by omega) (show f ≤ 1090 by omega) (show 0 ≤ f ∧ f ≤ 1090 by omega) (show 1100 - f < ((((1100 - f : Int) + 1).toNat : Nat) : Int) by omega)
def fF_sp_gatherDeed : List Nat := []
def fA_sp_gatherDeed : List Nat := [60, 61, 62]
def Q_sp_gatherDeed (m : mR) (c : Nat → Option am_C) (N : Nat) (s : Int) (d : Int) : ag_Re af_T → Prop := fun R => (∃ (M : mR), KTy M ∧ fr fF_sp_gatherDeed fA_sp_gatherDeed m M ∧ R = (.inl (none), (khp M c, N), 0, 0))
set_option maxHeartbeats 3000000 in
theorem c_sp_gatherDeed (w : wX) (m : mR) (c : Nat → Option am_C) (N D : Nat) (hD : 3 ≤ D) (hT : KTy m) (s : Int) (d : Int) (qs : R32 s) (qd : R32 d) (hNK : NKp (m.2 18) (m.2 19)) (p1 : 0 ≤ s ∧ s ≤ 47) (p2 : 0 ≤ d ∧ d ≤ 239) (hRW : RWp ((m.2 45) d) ((m.2 46) d) ((m.2 47) d) ((m.2 49) d)) : TC w D 154 [.ref 59, .ref 12, .int (i32 s), .int (i32 d)] (khp m c, N) (Q_sp_gatherDeed m c N s d) := by
  obtain ⟨D, rfl⟩ : ∃ k, D = k + 1 := ⟨D - 1, by omega⟩
  obtain ⟨qsa, qsb⟩ := id qs
  obtain ⟨qda, qdb⟩ := id qd
  refine Tc_of rfl ?_
  rw [show (khp m c, N) = (khp (mO m [] []) c, N) from by rw [mO_nil m]]
  show TT w D pm_154 (0, [(0, .ref 59), (1, .ref 12), (2, .int (i32 s)), (3, .int (i32 d))], [], (khp (mO m [] []) c, N), 0, 0) (Q_sp_gatherDeed m c N s d)
  refine T_ld 1 (.ref 12) rfl (fun _ => rfl) ?_
  refine K_gf 4 (.ref 45) rfl rfl kd_12 rfl rfl rfl ?_
  refine T_sto 6 [(4, .ref 45), (0, .ref 59), (1, .ref 12), (2, .int (i32 s)), (3, .int (i32 d))] rfl (fun _ => rfl) ?_
  refine T_ld 7 (.ref 59) rfl (fun _ => rfl) ?_
  refine T_ld 8 (.ref 12) rfl (fun _ => rfl) ?_
  refine K_gf 11 (.ref 22) rfl rfl kd_12 rfl rfl rfl ?_
  refine T_ld 12 (.int (i32 s)) rfl (fun _ => rfl) ?_
  refine T_ld 14 (.ref 45) rfl (fun _ => rfl) ?_
  refine K_gf 17 (.ref 55) rfl rfl kd_45 rfl rfl rfl ?_
  refine T_ld 18 (.int (i32 d)) rfl (fun _ => rfl) ?_
  refine K_iald 19 48 (m.2 48) rfl rfl rfl (by omega) (show d < (240 : Int) by omega) rfl ?_
  have e1 : 0 ≤ m.2 48 d ∧ m.2 48 d ≤ 1090 := hT.2.1 48 d
  refine T_ld 21 (.ref 45) rfl (fun _ => rfl) ?_
  refine K_gf 24 (.ref 56) rfl rfl kd_45 rfl rfl rfl ?_
  refine T_ld 25 (.int (i32 d)) rfl (fun _ => rfl) ?_
  refine K_iald 26 49 (m.2 49) rfl rfl rfl (by omega) (show d < (240 : Int) by omega) rfl ?_
  have e2 : (-1) ≤ m.2 49 d ∧ m.2 49 d ≤ 1089 := hT.2.1 49 d
  refine T_callx 29 152 [.ref 59, .ref 22, .int (i32 s), .int (i32 ((m.2 48) d)), .int (i32 ((m.2 49) d))] [] rfl (fun _ => rfl) rfl rfl (c_sp_gatherExpr w (mO m [] []) c N D (by omega) hT s ((m.2 48) d) ((m.2 49) d) (r32 (by omega) (by omega)) (r32 (by omega) (by omega)) (r32 (by omega) (by omega)) (show NKp (m.2 18) (m.2 19) by exact hNK) (show 0 ≤ s ∧ s ≤ 47 by omega) (show 0 ≤ ((m.2 48) d) ∧ ((m.2 48) d) ≤ 1090 by omega) (show (-1) ≤ ((m.2 49) d) ∧ ((m.2 49) d) ≤ 1089 by omega)) (fun rr3 k4 => ?_)
  obtain ⟨m5, Tm5, Fm5, rfl⟩ := k4
  refine Or.inl ⟨_, _, _, _, rfl, ?_⟩
  refine K_nb (st' := []) rfl ?_
  refine T_ld 30 (.ref 59) rfl (fun _ => rfl) ?_
  refine T_ld 31 (.ref 12) rfl (fun _ => rfl) ?_
  refine K_gf 34 (.ref 22) rfl rfl kd_12 rfl rfl rfl ?_
  refine T_ld 35 (.int (i32 s)) rfl (fun _ => rfl) ?_
  refine T_ld 37 (.ref 45) rfl (fun _ => rfl) ?_
  refine K_gf 40 (.ref 57) rfl rfl kd_45 rfl rfl rfl ?_
  refine T_ld 41 (.int (i32 d)) rfl (fun _ => rfl) ?_
  refine K_iald 42 50 (m.2 50) rfl rfl rfl (by omega) (show d < (240 : Int) by omega) (show (m5.2 50) = (m.2 50) from (fr2 Fm5 50 rfl)) ?_
  have e6 : 0 ≤ m.2 50 d ∧ m.2 50 d ≤ 1090 := hT.2.1 50 d
  refine T_ld 44 (.ref 45) rfl (fun _ => rfl) ?_
  refine K_gf 47 (.ref 58) rfl rfl kd_45 rfl rfl rfl ?_
  refine T_ld 48 (.int (i32 d)) rfl (fun _ => rfl) ?_
  refine K_iald 49 51 (m.2 51) rfl rfl rfl (by omega) (show d < (240 : Int) by omega) (show (m5.2 51) = (m.2 51) from (fr2 Fm5 51 rfl)) ?_
  have e7 : (-1) ≤ m.2 51 d ∧ m.2 51 d ≤ 1089 := hT.2.1 51 d
  refine T_callx 52 152 [.ref 59, .ref 22, .int (i32 s), .int (i32 ((m.2 50) d)), .int (i32 ((m.2 51) d))] [] rfl (fun _ => rfl) rfl rfl (c_sp_gatherExpr w (mO m5 [] []) c N D (by omega) Tm5 s ((m.2 50) d) ((m.2 51) d) (r32 (by omega) (by omega)) (r32 (by omega) (by omega)) (r32 (by omega) (by omega)) (show NKp (m5.2 18) (m5.2 19) by rewrite [(show (m5.2 18) = (m.2 18) from (fr2 Fm5 18 rfl)), (show (m5.2 19) = (m.2 19) from (fr2 Fm5 19 rfl))]; exact hNK) (show 0 ≤ s ∧ s ≤ 47 by omega) (show 0 ≤ ((m.2 50) d) ∧ ((m.2 50) d) ≤ 1090 by omega) (show (-1) ≤ ((m.2 51) d) ∧ ((m.2 51) d) ≤ 1089 by omega)) (fun rr8 k9 => ?_)
  obtain ⟨m10, Tm10, Fm10, rfl⟩ := k9
  refine Or.inl ⟨_, _, _, _, rfl, ?_⟩
  refine K_nb (st' := []) rfl ?_
  refine T_ld 54 (.ref 45) rfl (fun _ => rfl) ?_
  refine K_gf 57 (.ref 54) rfl rfl kd_45 rfl rfl rfl ?_
  refine T_ld 58 (.int (i32 d)) rfl (fun _ => rfl) ?_
  refine K_iald 59 47 (m.2 47) rfl rfl rfl (by omega) (show d < (240 : Int) by omega) (show (m10.2 47) = (m.2 47) from ((fr2 Fm10 47 rfl).trans (fr2 Fm5 47 rfl))) ?_
  have e11 : (-1) ≤ m.2 47 d ∧ m.2 47 d ≤ 7 := hT.2.1 47 d
  refine T_ld 60 (.int (i32 (-1))) rfl (fun _ => rfl) ?_
  refine T_icmp 81 63 rfl rfl rfl (r32 (by omega) (by omega)) ⟨by decide, by decide⟩ (fun (h12 : (m.2 47) d = (-1)) => ?_) (fun (h12 : ¬ ((m.2 47) d = (-1))) => ?_)
  · skip
    refine T_ld 83 (.ref 45) rfl (fun _ => rfl) ?_
    refine K_gf 86 (.ref 53) rfl rfl kd_45 rfl rfl rfl ?_
    refine T_ld 87 (.int (i32 d)) rfl (fun _ => rfl) ?_
    refine K_iald 88 46 (m.2 46) rfl rfl rfl (by omega) (show d < (240 : Int) by omega) (show (m10.2 46) = (m.2 46) from ((fr2 Fm10 46 rfl).trans (fr2 Fm5 46 rfl))) ?_
    have e13 : (-1) ≤ m.2 46 d ∧ m.2 46 d ≤ 220 := hT.2.1 46 d
    refine T_sto 90 [(5, .int (i32 ((m.2 46) d))), (4, .ref 45), (0, .ref 59), (1, .ref 12), (2, .int (i32 s)), (3, .int (i32 d))] rfl (fun _ => rfl) ?_
    refine T_ld 92 (.int (i32 ((m.2 46) d))) rfl (fun _ => rfl) ?_
    refine T_ld 93 (.int (i32 (-1))) rfl (fun _ => rfl) ?_
    refine T_icmp 97 96 rfl rfl rfl (r32 (by omega) (by omega)) ⟨by decide, by decide⟩ (fun (h14 : (m.2 46) d ≠ (-1)) => ?_) (fun (h14 : ¬ ((m.2 46) d ≠ (-1))) => ?_)
    · skip
      refine T_ld 98 (.ref 59) rfl (fun _ => rfl) ?_
      refine T_ld 99 (.ref 59) rfl (fun _ => rfl) ?_
      refine K_gf 102 (.ref 69) rfl rfl kd_59 rfl rfl rfl ?_
      refine T_ld 103 (.int (i32 s)) rfl (fun _ => rfl) ?_
      refine T_ld 105 (.int (i32 ((m.2 46) d))) rfl (fun _ => rfl) ?_
      refine T_callx 108 153 [.ref 59, .ref 69, .int (i32 s), .int (i32 ((m.2 46) d))] [] rfl (fun _ => rfl) rfl rfl (c_mark_sp_writes w (mO m10 [] []) c N D (by omega) Tm10 s ((m.2 46) d) (r32 (by omega) (by omega)) (r32 (by omega) (by omega)) (show 0 ≤ s ∧ s ≤ 47 by omega) (show 0 ≤ ((m.2 46) d) ∧ ((m.2 46) d) ≤ 220 by omega)) (fun rr15 k16 => ?_)
      obtain ⟨m17, Tm17, Fm17, rfl⟩ := k16
      refine Or.inl ⟨_, _, _, _, rfl, ?_⟩
      refine K_nb (st' := []) rfl ?_
      refine T_ld 110 (.ref 45) rfl (fun _ => rfl) ?_
      refine K_gf 113 (.ref 52) rfl rfl kd_45 rfl rfl rfl ?_
      refine T_ld 114 (.int (i32 d)) rfl (fun _ => rfl) ?_
      refine K_iald 115 45 (m.2 45) rfl rfl rfl (by omega) (show d < (240 : Int) by omega) (show (m17.2 45) = (m.2 45) from ((fr2 Fm17 45 rfl).trans ((fr2 Fm10 45 rfl).trans (fr2 Fm5 45 rfl)))) ?_
      have e18 : 0 ≤ m.2 45 d ∧ m.2 45 d ≤ 330 := hT.2.1 45 d
      refine T_ld 118 (.int (i32 324)) rfl (fun _ => rfl) ?_
      refine T_icmp 134 121 rfl rfl rfl (r32 (by omega) (by omega)) ⟨by decide, by decide⟩ (fun (h19 : (m.2 45) d = 324) => ?_) (fun (h19 : ¬ ((m.2 45) d = 324)) => ?_)
      · skip
        have hsl := hRW.2.2.2 (by omega)
        refine T_ld 136 (.int (i32 16)) rfl (fun _ => rfl) ?_
        refine T_goto 140 rfl (fun _ => rfl) ?_
        refine T_sto 142 [(6, .int (i32 16)), (5, .int (i32 ((m.2 46) d))), (4, .ref 45), (0, .ref 59), (1, .ref 12), (2, .int (i32 s)), (3, .int (i32 d))] rfl (fun _ => rfl) ?_
        refine T_ld 143 (.int (i32 1)) rfl (fun _ => rfl) ?_
        refine T_sto 145 [(7, .int (i32 1)), (6, .int (i32 16)), (5, .int (i32 ((m.2 46) d))), (4, .ref 45), (0, .ref 59), (1, .ref 12), (2, .int (i32 s)), (3, .int (i32 d))] rfl (fun _ => rfl) ?_
        have L145_22 : ∀ (n28 : Nat) (v20 : Int) (m21 : mR), (R32 v20) → KTy m21 → fr [] [61] (mO m17 [] []) m21 → (1 ≤ v20) → (1 ≤ v20 ∧ v20 ≤ 17) → 20 - v20 < (n28 : Int) → TT w D pm_154 (145, [(0, .ref 59), (2, .int (i32 s)), (5, .int (i32 ((m.2 46) d))), (6, .int (i32 16)), (7, .int (i32 v20))], [], (khp (mO m21 [] []) c, N), 0, 0) (Q_sp_gatherDeed m c N s d) := by
          intro n28
          induction n28 with
          | zero =>
            intro v20 m21 q25 Tm21 Fm21 ic23 ic24 hmu
            obtain ⟨q25a, q25b⟩ := id q25
            exfalso
            omega
          | succ n28 ih =>
            intro v20 m21 q25 Tm21 Fm21 ic23 ic24 hmu
            obtain ⟨q25a, q25b⟩ := id q25
            have ih29 := ih
            refine T_ld 147 (.int (i32 v20)) rfl (fun _ => rfl) ?_
            refine T_ld 149 (.int (i32 16)) rfl (fun _ => rfl) ?_
            refine T_icmp 172 152 rfl rfl rfl (r32 (by omega) (by omega)) ⟨by decide, by decide⟩ (fun (h30 : (16 : Int) < v20) => ?_) (fun (h30 : ¬ ((16 : Int) < v20)) => ?_)
            · skip
              refine T_ld 174 (.int (i32 16)) rfl (fun _ => rfl) ?_
              refine T_if 202 177 rfl rfl rfl ⟨by decide, by decide⟩ (fun _ => ?_) (fun h31 => absurd (show (16 : Int) ≠ 0 by decide) h31)
              refine T_ret rfl (fun _ => rfl) ?_
              exact ⟨(mO m21 [] []), Tm21, (fr_m (fr_s Fm21 (fr_m (fr_s Fm17 (fr_m (fr_s Fm10 (fr_m (fr_s Fm5 (fr_m fr_0 rfl rfl) rfl rfl) rfl rfl) rfl rfl) rfl rfl) rfl rfl) rfl rfl) rfl rfl) rfl rfl), rfl⟩
            · skip
              refine T_ld 153 (.ref 59) rfl (fun _ => rfl) ?_
              refine T_ld 154 (.ref 59) rfl (fun _ => rfl) ?_
              refine K_gf 157 (.ref 69) rfl rfl kd_59 rfl rfl rfl ?_
              refine T_ld 158 (.int (i32 s)) rfl (fun _ => rfl) ?_
              refine T_ld 160 (.int (i32 ((m.2 46) d))) rfl (fun _ => rfl) ?_
              refine T_ld 162 (.int (i32 v20)) rfl (fun _ => rfl) ?_
              refine T_iadd 163 rfl rfl ?_
              refine T_callx 166 153 [.ref 59, .ref 69, .int (i32 s), .int (i32 (((m.2 46) d) + v20))] [] rfl (fun _ => rfl) rfl rfl (c_mark_sp_writes w (mO m21 [] []) c N D (by omega) Tm21 s (((m.2 46) d) + v20) (r32 (by omega) (by omega)) (r32 (by omega) (by omega)) (show 0 ≤ s ∧ s ≤ 47 by omega) (show 0 ≤ (((m.2 46) d) + v20) ∧ (((m.2 46) d) + v20) ≤ 220 by omega)) (fun rr32 k33 => ?_)
              obtain ⟨m34, Tm34, Fm34, rfl⟩ := k33
              refine Or.inl ⟨_, _, _, _, rfl, ?_⟩
              refine K_nb (st' := []) rfl ?_
              refine T_iinc 169 [(7, .int (i32 (v20 + 1))), (0, .ref 59), (2, .int (i32 s)), (5, .int (i32 ((m.2 46) d))), (6, .int (i32 16))] rfl rfl (by decide) rfl rfl ?_
              refine T_goto 145 rfl (fun _ => rfl) ?_
              refine Tm_lv (a := [(0, .ref 59), (2, .int (i32 s)), (5, .int (i32 ((m.2 46) d))), (6, .int (i32 16)), (7, .int (i32 (v20 + 1)))]) rfl rfl ⟨rfl, rfl, rfl, rfl, rfl, trivial⟩ ?_
              exact ih29 (v20 + 1) (mO m34 [] []) (r32 (by omega) (by omega)) Tm34 (fr_m (fr_s Fm34 (fr_m (fr_s Fm21 (fr_m fr_0 rfl rfl) rfl rfl) rfl rfl) rfl rfl) rfl rfl) (show 1 ≤ (v20 + 1) by omega) (show 1 ≤ (v20 + 1) ∧ (v20 + 1) ≤ 17 by omega) (show 20 - (v20 + 1) < (n28 : Int) by omega)
        refine Tm_lv (a := [(0, .ref 59), (2, .int (i32 s)), (5, .int (i32 ((m.2 46) d))), (6, .int (i32 16)), (7, .int (i32 1))]) rfl rfl ⟨rfl, rfl, rfl, rfl, rfl, trivial⟩ ?_
        exact L145_22 ((20 - (1 : Int) : Int) + 1).toNat 1 (mO m17 [] []) ⟨by decide, by decide⟩ Tm17 (fr_m fr_0 rfl rfl) (show 1 ≤ (1 : Int) by omega) (show 1 ≤ (1 : Int) ∧ (1 : Int) ≤ 17 by omega) (show 20 - (1 : Int) < ((((20 - (1 : Int) : Int) + 1).toNat : Nat) : Int) by omega)
      · skip
        refine T_ld 123 (.ref 45) rfl (fun _ => rfl) ?_
        refine K_gf 126 (.ref 52) rfl rfl kd_45 rfl rfl rfl ?_
        refine T_ld 127 (.int (i32 d)) rfl (fun _ => rfl) ?_
        refine K_iald 128 45 (m.2 45) rfl rfl rfl (by omega) (show d < (240 : Int) by omega) (show (m17.2 45) = (m.2 45) from ((fr2 Fm17 45 rfl).trans ((fr2 Fm10 45 rfl).trans (fr2 Fm5 45 rfl)))) ?_
        have e35 : 0 ≤ m.2 45 d ∧ m.2 45 d ≤ 330 := hT.2.1 45 d
        refine T_ld 131 (.int (i32 325)) rfl (fun _ => rfl) ?_
        refine T_icmp 139 134 rfl rfl rfl (r32 (by omega) (by omega)) ⟨by decide, by decide⟩ (fun (h36 : (m.2 45) d ≠ 325) => ?_) (fun (h36 : ¬ ((m.2 45) d ≠ 325)) => ?_)
        · skip
          refine T_ld 140 (.int (i32 0)) rfl (fun _ => rfl) ?_
          refine T_sto 142 [(6, .int (i32 0)), (5, .int (i32 ((m.2 46) d))), (4, .ref 45), (0, .ref 59), (1, .ref 12), (2, .int (i32 s)), (3, .int (i32 d))] rfl (fun _ => rfl) ?_
          refine T_ld 143 (.int (i32 1)) rfl (fun _ => rfl) ?_
          refine T_sto 145 [(7, .int (i32 1)), (6, .int (i32 0)), (5, .int (i32 ((m.2 46) d))), (4, .ref 45), (0, .ref 59), (1, .ref 12), (2, .int (i32 s)), (3, .int (i32 d))] rfl (fun _ => rfl) ?_
          have L145_39 : ∀ (n46 : Nat) (v37 : Int) (m38 : mR), (R32 v37) → KTy m38 → fr [] [61] (mO m17 [] []) m38 → (1 ≤ v37) → (v37 ≤ 1) → (1 ≤ v37 ∧ v37 ≤ 17) → 20 - v37 < (n46 : Int) → TT w D pm_154 (145, [(0, .ref 59), (2, .int (i32 s)), (5, .int (i32 ((m.2 46) d))), (6, .int (i32 0)), (7, .int (i32 v37))], [], (khp (mO m38 [] []) c, N), 0, 0) (Q_sp_gatherDeed m c N s d) := by
            intro n46
            induction n46 with
            | zero =>
              intro v37 m38 q43 Tm38 Fm38 ic40 ic41 ic42 hmu
              obtain ⟨q43a, q43b⟩ := id q43
              exfalso
              omega
            | succ n46 ih =>
              intro v37 m38 q43 Tm38 Fm38 ic40 ic41 ic42 hmu
              obtain ⟨q43a, q43b⟩ := id q43
              have ih47 := ih
              refine T_ld 147 (.int (i32 v37)) rfl (fun _ => rfl) ?_
              refine T_ld 149 (.int (i32 0)) rfl (fun _ => rfl) ?_
              refine T_icmp 172 152 rfl rfl rfl (r32 (by omega) (by omega)) ⟨by decide, by decide⟩ (fun (h48 : (0 : Int) < v37) => ?_) (fun (h48 : ¬ ((0 : Int) < v37)) => by exfalso; omega)
              refine T_ld 174 (.int (i32 0)) rfl (fun _ => rfl) ?_
              refine T_if 202 177 rfl rfl rfl ⟨by decide, by decide⟩ (fun h49 => absurd (show (0 : Int) ≠ 0 from h49) (by decide)) (fun _ => ?_)
              refine T_ld 179 (.int (i32 ((m.2 46) d))) rfl (fun _ => rfl) ?_
              refine T_ld 182 (.int (i32 204)) rfl (fun _ => rfl) ?_
              refine T_icmp 202 185 rfl rfl rfl (r32 (by omega) (by omega)) ⟨by decide, by decide⟩ (fun (h50 : (204 : Int) ≤ (m.2 46) d) => ?_) (fun (h50 : ¬ ((204 : Int) ≤ (m.2 46) d)) => ?_)
              · skip
                refine T_ret rfl (fun _ => rfl) ?_
                exact ⟨(mO m38 [] []), Tm38, (fr_m (fr_s Fm38 (fr_m (fr_s Fm17 (fr_m (fr_s Fm10 (fr_m (fr_s Fm5 (fr_m fr_0 rfl rfl) rfl rfl) rfl rfl) rfl rfl) rfl rfl) rfl rfl) rfl rfl) rfl rfl) rfl rfl), rfl⟩
              · skip
                refine T_ld 186 (.ref 59) rfl (fun _ => rfl) ?_
                refine T_ld 187 (.ref 59) rfl (fun _ => rfl) ?_
                refine K_gf 190 (.ref 68) rfl rfl kd_59 rfl rfl rfl ?_
                refine T_ld 191 (.int (i32 s)) rfl (fun _ => rfl) ?_
                refine T_ld 193 (.int (i32 ((m.2 46) d))) rfl (fun _ => rfl) ?_
                refine T_ld 195 (.int (i32 ((m.2 46) d))) rfl (fun _ => rfl) ?_
                refine T_ld 197 (.int (i32 17)) rfl (fun _ => rfl) ?_
                refine T_irem 198 rfl rfl (by omega) (by omega) (by omega) (by omega) ?_
                refine T_isub 199 rfl rfl ?_
                refine T_callx 202 153 [.ref 59, .ref 68, .int (i32 s), .int (i32 (((m.2 46) d) - (((m.2 46) d) % 17)))] [] rfl (fun _ => rfl) rfl rfl (c_mark_sp_reads w (mO m38 [] []) c N D (by omega) Tm38 s (((m.2 46) d) - (((m.2 46) d) % 17)) (r32 (by omega) (by omega)) (r32 (by omega) (by omega)) (show 0 ≤ s ∧ s ≤ 47 by omega) (show 0 ≤ (((m.2 46) d) - (((m.2 46) d) % 17)) ∧ (((m.2 46) d) - (((m.2 46) d) % 17)) ≤ 220 by omega)) (fun rr51 k52 => ?_)
                obtain ⟨m53, Tm53, Fm53, rfl⟩ := k52
                refine Or.inl ⟨_, _, _, _, rfl, ?_⟩
                refine K_nb (st' := []) rfl ?_
                refine T_ret rfl (fun _ => rfl) ?_
                exact ⟨(mO m53 [] []), Tm53, (fr_m (fr_s Fm53 (fr_m (fr_s Fm38 (fr_m (fr_s Fm17 (fr_m (fr_s Fm10 (fr_m (fr_s Fm5 (fr_m fr_0 rfl rfl) rfl rfl) rfl rfl) rfl rfl) rfl rfl) rfl rfl) rfl rfl) rfl rfl) rfl rfl) rfl rfl) rfl rfl), rfl⟩
          refine Tm_lv (a := [(0, .ref 59), (2, .int (i32 s)), (5, .int (i32 ((m.2 46) d))), (6, .int (i32 0)), (7, .int (i32 1))]) rfl rfl ⟨rfl, rfl, rfl, rfl, rfl, trivial⟩ ?_
          exact L145_39 ((20 - (1 : Int) : Int) + 1).toNat 1 (mO m17 [] []) ⟨by decide, by decide⟩ Tm17 (fr_m fr_0 rfl rfl) (show 1 ≤ (1 : Int) by omega) (show (1 : Int) ≤ 1 by omega) (show 1 ≤ (1 : Int) ∧ (1 : Int) ≤ 17 by omega) (show 20 - (1 : Int) < ((((20 - (1 : Int) : Int) + 1).toNat : Nat) : Int) by omega)
        · skip
          have hsl := hRW.2.2.2 (by omega)
          refine T_ld 136 (.int (i32 16)) rfl (fun _ => rfl) ?_
          refine T_goto 140 rfl (fun _ => rfl) ?_
          refine T_sto 142 [(6, .int (i32 16)), (5, .int (i32 ((m.2 46) d))), (4, .ref 45), (0, .ref 59), (1, .ref 12), (2, .int (i32 s)), (3, .int (i32 d))] rfl (fun _ => rfl) ?_
          refine T_ld 143 (.int (i32 1)) rfl (fun _ => rfl) ?_
          refine T_sto 145 [(7, .int (i32 1)), (6, .int (i32 16)), (5, .int (i32 ((m.2 46) d))), (4, .ref 45), (0, .ref 59), (1, .ref 12), (2, .int (i32 s)), (3, .int (i32 d))] rfl (fun _ => rfl) ?_
          have L145_56 : ∀ (n62 : Nat) (v54 : Int) (m55 : mR), (R32 v54) → KTy m55 → fr [] [61] (mO m17 [] []) m55 → (1 ≤ v54) → (1 ≤ v54 ∧ v54 ≤ 17) → 20 - v54 < (n62 : Int) → TT w D pm_154 (145, [(0, .ref 59), (2, .int (i32 s)), (5, .int (i32 ((m.2 46) d))), (6, .int (i32 16)), (7, .int (i32 v54))], [], (khp (mO m55 [] []) c, N), 0, 0) (Q_sp_gatherDeed m c N s d) := by
            intro n62
            induction n62 with
            | zero =>
              intro v54 m55 q59 Tm55 Fm55 ic57 ic58 hmu
              obtain ⟨q59a, q59b⟩ := id q59
              exfalso
              omega
            | succ n62 ih =>
              intro v54 m55 q59 Tm55 Fm55 ic57 ic58 hmu
              obtain ⟨q59a, q59b⟩ := id q59
              have ih63 := ih
              refine T_ld 147 (.int (i32 v54)) rfl (fun _ => rfl) ?_
              refine T_ld 149 (.int (i32 16)) rfl (fun _ => rfl) ?_
              refine T_icmp 172 152 rfl rfl rfl (r32 (by omega) (by omega)) ⟨by decide, by decide⟩ (fun (h64 : (16 : Int) < v54) => ?_) (fun (h64 : ¬ ((16 : Int) < v54)) => ?_)
              · skip
                refine T_ld 174 (.int (i32 16)) rfl (fun _ => rfl) ?_
                refine T_if 202 177 rfl rfl rfl ⟨by decide, by decide⟩ (fun _ => ?_) (fun h65 => absurd (show (16 : Int) ≠ 0 by decide) h65)
                refine T_ret rfl (fun _ => rfl) ?_
                exact ⟨(mO m55 [] []), Tm55, (fr_m (fr_s Fm55 (fr_m (fr_s Fm17 (fr_m (fr_s Fm10 (fr_m (fr_s Fm5 (fr_m fr_0 rfl rfl) rfl rfl) rfl rfl) rfl rfl) rfl rfl) rfl rfl) rfl rfl) rfl rfl) rfl rfl), rfl⟩
              · skip
                refine T_ld 153 (.ref 59) rfl (fun _ => rfl) ?_
                refine T_ld 154 (.ref 59) rfl (fun _ => rfl) ?_
                refine K_gf 157 (.ref 69) rfl rfl kd_59 rfl rfl rfl ?_
                refine T_ld 158 (.int (i32 s)) rfl (fun _ => rfl) ?_
                refine T_ld 160 (.int (i32 ((m.2 46) d))) rfl (fun _ => rfl) ?_
                refine T_ld 162 (.int (i32 v54)) rfl (fun _ => rfl) ?_
                refine T_iadd 163 rfl rfl ?_
                refine T_callx 166 153 [.ref 59, .ref 69, .int (i32 s), .int (i32 (((m.2 46) d) + v54))] [] rfl (fun _ => rfl) rfl rfl (c_mark_sp_writes w (mO m55 [] []) c N D (by omega) Tm55 s (((m.2 46) d) + v54) (r32 (by omega) (by omega)) (r32 (by omega) (by omega)) (show 0 ≤ s ∧ s ≤ 47 by omega) (show 0 ≤ (((m.2 46) d) + v54) ∧ (((m.2 46) d) + v54) ≤ 220 by omega)) (fun rr66 k67 => ?_)
                obtain ⟨m68, Tm68, Fm68, rfl⟩ := k67
                refine Or.inl ⟨_, _, _, _, rfl, ?_⟩
                refine K_nb (st' := []) rfl ?_
                refine T_iinc 169 [(7, .int (i32 (v54 + 1))), (0, .ref 59), (2, .int (i32 s)), (5, .int (i32 ((m.2 46) d))), (6, .int (i32 16))] rfl rfl (by decide) rfl rfl ?_
                refine T_goto 145 rfl (fun _ => rfl) ?_
                refine Tm_lv (a := [(0, .ref 59), (2, .int (i32 s)), (5, .int (i32 ((m.2 46) d))), (6, .int (i32 16)), (7, .int (i32 (v54 + 1)))]) rfl rfl ⟨rfl, rfl, rfl, rfl, rfl, trivial⟩ ?_
                exact ih63 (v54 + 1) (mO m68 [] []) (r32 (by omega) (by omega)) Tm68 (fr_m (fr_s Fm68 (fr_m (fr_s Fm55 (fr_m fr_0 rfl rfl) rfl rfl) rfl rfl) rfl rfl) rfl rfl) (show 1 ≤ (v54 + 1) by omega) (show 1 ≤ (v54 + 1) ∧ (v54 + 1) ≤ 17 by omega) (show 20 - (v54 + 1) < (n62 : Int) by omega)
          refine Tm_lv (a := [(0, .ref 59), (2, .int (i32 s)), (5, .int (i32 ((m.2 46) d))), (6, .int (i32 16)), (7, .int (i32 1))]) rfl rfl ⟨rfl, rfl, rfl, rfl, rfl, trivial⟩ ?_
          exact L145_56 ((20 - (1 : Int) : Int) + 1).toNat 1 (mO m17 [] []) ⟨by decide, by decide⟩ Tm17 (fr_m fr_0 rfl rfl) (show 1 ≤ (1 : Int) by omega) (show 1 ≤ (1 : Int) ∧ (1 : Int) ≤ 17 by omega) (show 20 - (1 : Int) < ((((20 - (1 : Int) : Int) + 1).toNat : Nat) : Int) by omega)
    · skip
      refine T_ret rfl (fun _ => rfl) ?_
      exact ⟨(mO m10 [] []), Tm10, (fr_m (fr_s Fm10 (fr_m (fr_s Fm5 (fr_m fr_0 rfl rfl) rfl rfl) rfl rfl) rfl rfl) rfl rfl), rfl⟩
  · skip
    refine T_ld 64 (.ref 59) rfl (fun _ => rfl) ?_
    refine K_gf 67 (.ref 70) rfl rfl kd_59 rfl rfl rfl ?_
    refine T_ld 68 (.int (i32 s)) rfl (fun _ => rfl) ?_
    refine T_dup2 69 rfl (fun _ => rfl) ?_
    refine K_iald 70 62 (m.2 62) rfl rfl rfl (by omega) (show s < (48 : Int) by omega) (show (m10.2 62) = (m.2 62) from ((fr2 Fm10 62 rfl).trans (fr2 Fm5 62 rfl))) ?_
    have e69 : (-2147483648) ≤ (m.2 62) s ∧ (m.2 62) s ≤ 2147483647 := (hT.2.1 62) s
    refine T_ld 71 (.int (i32 1)) rfl (fun _ => rfl) ?_
    refine T_ld 73 (.ref 45) rfl (fun _ => rfl) ?_
    refine K_gf 76 (.ref 54) rfl rfl kd_45 rfl rfl rfl ?_
    refine T_ld 77 (.int (i32 d)) rfl (fun _ => rfl) ?_
    refine K_iald 78 47 (m.2 47) rfl rfl rfl (by omega) (show d < (240 : Int) by omega) (show (m10.2 47) = (m.2 47) from ((fr2 Fm10 47 rfl).trans (fr2 Fm5 47 rfl))) ?_
    have e70 : (-1) ≤ m.2 47 d ∧ m.2 47 d ≤ 7 := hT.2.1 47 d
    refine T_hv 79 _ rfl (fun _ => rfl) (fun z71 h72 => ?_)
    obtain ⟨h72a, h72b⟩ := h72
    refine T_hv 80 _ rfl (fun _ => rfl) (fun z73 h74 => ?_)
    obtain ⟨h74a, h74b⟩ := h74
    have G75 : ∀ j, (-2147483648) ≤ (upI (m.2 62) s z73) j ∧ (upI (m.2 62) s z73) j ≤ 2147483647 := upI_rg (hT.2.1 62) ⟨by omega, by omega⟩
    refine K_iast (a' := [(62, upI (m.2 62) s z73)]) 81 62 (m.2 62) rfl rfl rfl (by omega) (show s < (48 : Int) by omega) (show (m10.2 62) = (m.2 62) from ((fr2 Fm10 62 rfl).trans (fr2 Fm5 62 rfl))) rfl ?_
    refine T_ld 83 (.ref 45) rfl (fun _ => rfl) ?_
    refine K_gf 86 (.ref 53) rfl rfl kd_45 rfl rfl rfl ?_
    refine T_ld 87 (.int (i32 d)) rfl (fun _ => rfl) ?_
    refine K_iald 88 46 (m.2 46) rfl rfl rfl (by omega) (show d < (240 : Int) by omega) (show (m10.2 46) = (m.2 46) from ((fr2 Fm10 46 rfl).trans (fr2 Fm5 46 rfl))) ?_
    have e76 : (-1) ≤ m.2 46 d ∧ m.2 46 d ≤ 220 := hT.2.1 46 d
    refine T_sto 90 [(5, .int (i32 ((m.2 46) d))), (4, .ref 45), (0, .ref 59), (1, .ref 12), (2, .int (i32 s)), (3, .int (i32 d))] rfl (fun _ => rfl) ?_
    refine T_ld 92 (.int (i32 ((m.2 46) d))) rfl (fun _ => rfl) ?_
    refine T_ld 93 (.int (i32 (-1))) rfl (fun _ => rfl) ?_
    refine T_icmp 97 96 rfl rfl rfl (r32 (by omega) (by omega)) ⟨by decide, by decide⟩ (fun (h77 : (m.2 46) d ≠ (-1)) => ?_) (fun (h77 : ¬ ((m.2 46) d ≠ (-1))) => ?_)
    · skip
      refine T_ld 98 (.ref 59) rfl (fun _ => rfl) ?_
      refine T_ld 99 (.ref 59) rfl (fun _ => rfl) ?_
      refine K_gf 102 (.ref 69) rfl rfl kd_59 rfl rfl rfl ?_
      refine T_ld 103 (.int (i32 s)) rfl (fun _ => rfl) ?_
      refine T_ld 105 (.int (i32 ((m.2 46) d))) rfl (fun _ => rfl) ?_
      refine T_callx 108 153 [.ref 59, .ref 69, .int (i32 s), .int (i32 ((m.2 46) d))] [] rfl (fun _ => rfl) rfl rfl (c_mark_sp_writes w (mO m10 [] [(62, upI (m.2 62) s z73)]) c N D (by omega) (KTy_mO Tm10 rfl rfl trivial ⟨G75, trivial⟩) s ((m.2 46) d) (r32 (by omega) (by omega)) (r32 (by omega) (by omega)) (show 0 ≤ s ∧ s ≤ 47 by omega) (show 0 ≤ ((m.2 46) d) ∧ ((m.2 46) d) ≤ 220 by omega)) (fun rr78 k79 => ?_)
      obtain ⟨m80, Tm80, Fm80, rfl⟩ := k79
      refine Or.inl ⟨_, _, _, _, rfl, ?_⟩
      refine K_nb (st' := []) rfl ?_
      refine T_ld 110 (.ref 45) rfl (fun _ => rfl) ?_
      refine K_gf 113 (.ref 52) rfl rfl kd_45 rfl rfl rfl ?_
      refine T_ld 114 (.int (i32 d)) rfl (fun _ => rfl) ?_
      refine K_iald 115 45 (m.2 45) rfl rfl rfl (by omega) (show d < (240 : Int) by omega) (show (m80.2 45) = (m.2 45) from ((fr2 Fm80 45 rfl).trans ((fr2 Fm10 45 rfl).trans (fr2 Fm5 45 rfl)))) ?_
      have e81 : 0 ≤ m.2 45 d ∧ m.2 45 d ≤ 330 := hT.2.1 45 d
      refine T_ld 118 (.int (i32 324)) rfl (fun _ => rfl) ?_
      refine T_icmp 134 121 rfl rfl rfl (r32 (by omega) (by omega)) ⟨by decide, by decide⟩ (fun (h82 : (m.2 45) d = 324) => ?_) (fun (h82 : ¬ ((m.2 45) d = 324)) => ?_)
      · skip
        have hsl := hRW.2.2.2 (by omega)
        refine T_ld 136 (.int (i32 16)) rfl (fun _ => rfl) ?_
        refine T_goto 140 rfl (fun _ => rfl) ?_
        refine T_sto 142 [(6, .int (i32 16)), (5, .int (i32 ((m.2 46) d))), (4, .ref 45), (0, .ref 59), (1, .ref 12), (2, .int (i32 s)), (3, .int (i32 d))] rfl (fun _ => rfl) ?_
        refine T_ld 143 (.int (i32 1)) rfl (fun _ => rfl) ?_
        refine T_sto 145 [(7, .int (i32 1)), (6, .int (i32 16)), (5, .int (i32 ((m.2 46) d))), (4, .ref 45), (0, .ref 59), (1, .ref 12), (2, .int (i32 s)), (3, .int (i32 d))] rfl (fun _ => rfl) ?_
        have L145_85 : ∀ (n91 : Nat) (v83 : Int) (m84 : mR), (R32 v83) → KTy m84 → fr [] [61] (mO m80 [] []) m84 → (1 ≤ v83) → (1 ≤ v83 ∧ v83 ≤ 17) → 20 - v83 < (n91 : Int) → TT w D pm_154 (145, [(0, .ref 59), (2, .int (i32 s)), (5, .int (i32 ((m.2 46) d))), (6, .int (i32 16)), (7, .int (i32 v83))], [], (khp (mO m84 [] []) c, N), 0, 0) (Q_sp_gatherDeed m c N s d) := by
          intro n91
          induction n91 with
          | zero =>
            intro v83 m84 q88 Tm84 Fm84 ic86 ic87 hmu
            obtain ⟨q88a, q88b⟩ := id q88
            exfalso
            omega
          | succ n91 ih =>
            intro v83 m84 q88 Tm84 Fm84 ic86 ic87 hmu
            obtain ⟨q88a, q88b⟩ := id q88
            have ih92 := ih
            refine T_ld 147 (.int (i32 v83)) rfl (fun _ => rfl) ?_
            refine T_ld 149 (.int (i32 16)) rfl (fun _ => rfl) ?_
            refine T_icmp 172 152 rfl rfl rfl (r32 (by omega) (by omega)) ⟨by decide, by decide⟩ (fun (h93 : (16 : Int) < v83) => ?_) (fun (h93 : ¬ ((16 : Int) < v83)) => ?_)
            · skip
              refine T_ld 174 (.int (i32 16)) rfl (fun _ => rfl) ?_
              refine T_if 202 177 rfl rfl rfl ⟨by decide, by decide⟩ (fun _ => ?_) (fun h94 => absurd (show (16 : Int) ≠ 0 by decide) h94)
              refine T_ret rfl (fun _ => rfl) ?_
              exact ⟨(mO m84 [] []), Tm84, (fr_m (fr_s Fm84 (fr_m (fr_s Fm80 (fr_m (fr_s Fm10 (fr_m (fr_s Fm5 (fr_m fr_0 rfl rfl) rfl rfl) rfl rfl) rfl rfl) rfl rfl) rfl rfl) rfl rfl) rfl rfl) rfl rfl), rfl⟩
            · skip
              refine T_ld 153 (.ref 59) rfl (fun _ => rfl) ?_
              refine T_ld 154 (.ref 59) rfl (fun _ => rfl) ?_
              refine K_gf 157 (.ref 69) rfl rfl kd_59 rfl rfl rfl ?_
              refine T_ld 158 (.int (i32 s)) rfl (fun _ => rfl) ?_
              refine T_ld 160 (.int (i32 ((m.2 46) d))) rfl (fun _ => rfl) ?_
              refine T_ld 162 (.int (i32 v83)) rfl (fun _ => rfl) ?_
              refine T_iadd 163 rfl rfl ?_
              refine T_callx 166 153 [.ref 59, .ref 69, .int (i32 s), .int (i32 (((m.2 46) d) + v83))] [] rfl (fun _ => rfl) rfl rfl (c_mark_sp_writes w (mO m84 [] []) c N D (by omega) Tm84 s (((m.2 46) d) + v83) (r32 (by omega) (by omega)) (r32 (by omega) (by omega)) (show 0 ≤ s ∧ s ≤ 47 by omega) (show 0 ≤ (((m.2 46) d) + v83) ∧ (((m.2 46) d) + v83) ≤ 220 by omega)) (fun rr95 k96 => ?_)
              obtain ⟨m97, Tm97, Fm97, rfl⟩ := k96
              refine Or.inl ⟨_, _, _, _, rfl, ?_⟩
              refine K_nb (st' := []) rfl ?_
              refine T_iinc 169 [(7, .int (i32 (v83 + 1))), (0, .ref 59), (2, .int (i32 s)), (5, .int (i32 ((m.2 46) d))), (6, .int (i32 16))] rfl rfl (by decide) rfl rfl ?_
              refine T_goto 145 rfl (fun _ => rfl) ?_
              refine Tm_lv (a := [(0, .ref 59), (2, .int (i32 s)), (5, .int (i32 ((m.2 46) d))), (6, .int (i32 16)), (7, .int (i32 (v83 + 1)))]) rfl rfl ⟨rfl, rfl, rfl, rfl, rfl, trivial⟩ ?_
              exact ih92 (v83 + 1) (mO m97 [] []) (r32 (by omega) (by omega)) Tm97 (fr_m (fr_s Fm97 (fr_m (fr_s Fm84 (fr_m fr_0 rfl rfl) rfl rfl) rfl rfl) rfl rfl) rfl rfl) (show 1 ≤ (v83 + 1) by omega) (show 1 ≤ (v83 + 1) ∧ (v83 + 1) ≤ 17 by omega) (show 20 - (v83 + 1) < (n91 : Int) by omega)
        refine Tm_lv (a := [(0, .ref 59), (2, .int (i32 s)), (5, .int (i32 ((m.2 46) d))), (6, .int (i32 16)), (7, .int (i32 1))]) rfl rfl ⟨rfl, rfl, rfl, rfl, rfl, trivial⟩ ?_
        exact L145_85 ((20 - (1 : Int) : Int) + 1).toNat 1 (mO m80 [] []) ⟨by decide, by decide⟩ Tm80 (fr_m fr_0 rfl rfl) (show 1 ≤ (1 : Int) by omega) (show 1 ≤ (1 : Int) ∧ (1 : Int) ≤ 17 by omega) (show 20 - (1 : Int) < ((((20 - (1 : Int) : Int) + 1).toNat : Nat) : Int) by omega)
      · skip
        refine T_ld 123 (.ref 45) rfl (fun _ => rfl) ?_
        refine K_gf 126 (.ref 52) rfl rfl kd_45 rfl rfl rfl ?_
        refine T_ld 127 (.int (i32 d)) rfl (fun _ => rfl) ?_
        refine K_iald 128 45 (m.2 45) rfl rfl rfl (by omega) (show d < (240 : Int) by omega) (show (m80.2 45) = (m.2 45) from ((fr2 Fm80 45 rfl).trans ((fr2 Fm10 45 rfl).trans (fr2 Fm5 45 rfl)))) ?_
        have e98 : 0 ≤ m.2 45 d ∧ m.2 45 d ≤ 330 := hT.2.1 45 d
        refine T_ld 131 (.int (i32 325)) rfl (fun _ => rfl) ?_
        refine T_icmp 139 134 rfl rfl rfl (r32 (by omega) (by omega)) ⟨by decide, by decide⟩ (fun (h99 : (m.2 45) d ≠ 325) => ?_) (fun (h99 : ¬ ((m.2 45) d ≠ 325)) => ?_)
        · skip
          refine T_ld 140 (.int (i32 0)) rfl (fun _ => rfl) ?_
          refine T_sto 142 [(6, .int (i32 0)), (5, .int (i32 ((m.2 46) d))), (4, .ref 45), (0, .ref 59), (1, .ref 12), (2, .int (i32 s)), (3, .int (i32 d))] rfl (fun _ => rfl) ?_
          refine T_ld 143 (.int (i32 1)) rfl (fun _ => rfl) ?_
          refine T_sto 145 [(7, .int (i32 1)), (6, .int (i32 0)), (5, .int (i32 ((m.2 46) d))), (4, .ref 45), (0, .ref 59), (1, .ref 12), (2, .int (i32 s)), (3, .int (i32 d))] rfl (fun _ => rfl) ?_
          have L145_102 : ∀ (n109 : Nat) (v100 : Int) (m101 : mR), (R32 v100) → KTy m101 → fr [] [61] (mO m80 [] []) m101 → (1 ≤ v100) → (v100 ≤ 1) → (1 ≤ v100 ∧ v100 ≤ 17) → 20 - v100 < (n109 : Int) → TT w D pm_154 (145, [(0, .ref 59), (2, .int (i32 s)), (5, .int (i32 ((m.2 46) d))), (6, .int (i32 0)), (7, .int (i32 v100))], [], (khp (mO m101 [] []) c, N), 0, 0) (Q_sp_gatherDeed m c N s d) := by
            intro n109
            induction n109 with
            | zero =>
              intro v100 m101 q106 Tm101 Fm101 ic103 ic104 ic105 hmu
              obtain ⟨q106a, q106b⟩ := id q106
              exfalso
              omega
            | succ n109 ih =>
              intro v100 m101 q106 Tm101 Fm101 ic103 ic104 ic105 hmu
              obtain ⟨q106a, q106b⟩ := id q106
              have ih110 := ih
              refine T_ld 147 (.int (i32 v100)) rfl (fun _ => rfl) ?_
              refine T_ld 149 (.int (i32 0)) rfl (fun _ => rfl) ?_
              refine T_icmp 172 152 rfl rfl rfl (r32 (by omega) (by omega)) ⟨by decide, by decide⟩ (fun (h111 : (0 : Int) < v100) => ?_) (fun (h111 : ¬ ((0 : Int) < v100)) => by exfalso; omega)
              refine T_ld 174 (.int (i32 0)) rfl (fun _ => rfl) ?_
              refine T_if 202 177 rfl rfl rfl ⟨by decide, by decide⟩ (fun h112 => absurd (show (0 : Int) ≠ 0 from h112) (by decide)) (fun _ => ?_)
              refine T_ld 179 (.int (i32 ((m.2 46) d))) rfl (fun _ => rfl) ?_
              refine T_ld 182 (.int (i32 204)) rfl (fun _ => rfl) ?_
              refine T_icmp 202 185 rfl rfl rfl (r32 (by omega) (by omega)) ⟨by decide, by decide⟩ (fun (h113 : (204 : Int) ≤ (m.2 46) d) => ?_) (fun (h113 : ¬ ((204 : Int) ≤ (m.2 46) d)) => ?_)
              · skip
                refine T_ret rfl (fun _ => rfl) ?_
                exact ⟨(mO m101 [] []), Tm101, (fr_m (fr_s Fm101 (fr_m (fr_s Fm80 (fr_m (fr_s Fm10 (fr_m (fr_s Fm5 (fr_m fr_0 rfl rfl) rfl rfl) rfl rfl) rfl rfl) rfl rfl) rfl rfl) rfl rfl) rfl rfl) rfl rfl), rfl⟩
              · skip
                refine T_ld 186 (.ref 59) rfl (fun _ => rfl) ?_
                refine T_ld 187 (.ref 59) rfl (fun _ => rfl) ?_
                refine K_gf 190 (.ref 68) rfl rfl kd_59 rfl rfl rfl ?_
                refine T_ld 191 (.int (i32 s)) rfl (fun _ => rfl) ?_
                refine T_ld 193 (.int (i32 ((m.2 46) d))) rfl (fun _ => rfl) ?_
                refine T_ld 195 (.int (i32 ((m.2 46) d))) rfl (fun _ => rfl) ?_
                refine T_ld 197 (.int (i32 17)) rfl (fun _ => rfl) ?_
                refine T_irem 198 rfl rfl (by omega) (by omega) (by omega) (by omega) ?_
                refine T_isub 199 rfl rfl ?_
                refine T_callx 202 153 [.ref 59, .ref 68, .int (i32 s), .int (i32 (((m.2 46) d) - (((m.2 46) d) % 17)))] [] rfl (fun _ => rfl) rfl rfl (c_mark_sp_reads w (mO m101 [] []) c N D (by omega) Tm101 s (((m.2 46) d) - (((m.2 46) d) % 17)) (r32 (by omega) (by omega)) (r32 (by omega) (by omega)) (show 0 ≤ s ∧ s ≤ 47 by omega) (show 0 ≤ (((m.2 46) d) - (((m.2 46) d) % 17)) ∧ (((m.2 46) d) - (((m.2 46) d) % 17)) ≤ 220 by omega)) (fun rr114 k115 => ?_)
                obtain ⟨m116, Tm116, Fm116, rfl⟩ := k115
                refine Or.inl ⟨_, _, _, _, rfl, ?_⟩
                refine K_nb (st' := []) rfl ?_
                refine T_ret rfl (fun _ => rfl) ?_
                exact ⟨(mO m116 [] []), Tm116, (fr_m (fr_s Fm116 (fr_m (fr_s Fm101 (fr_m (fr_s Fm80 (fr_m (fr_s Fm10 (fr_m (fr_s Fm5 (fr_m fr_0 rfl rfl) rfl rfl) rfl rfl) rfl rfl) rfl rfl) rfl rfl) rfl rfl) rfl rfl) rfl rfl) rfl rfl) rfl rfl), rfl⟩
          refine Tm_lv (a := [(0, .ref 59), (2, .int (i32 s)), (5, .int (i32 ((m.2 46) d))), (6, .int (i32 0)), (7, .int (i32 1))]) rfl rfl ⟨rfl, rfl, rfl, rfl, rfl, trivial⟩ ?_
          exact L145_102 ((20 - (1 : Int) : Int) + 1).toNat 1 (mO m80 [] []) ⟨by decide, by decide⟩ Tm80 (fr_m fr_0 rfl rfl) (show 1 ≤ (1 : Int) by omega) (show (1 : Int) ≤ 1 by omega) (show 1 ≤ (1 : Int) ∧ (1 : Int) ≤ 17 by omega) (show 20 - (1 : Int) < ((((20 - (1 : Int) : Int) + 1).toNat : Nat) : Int) by omega)
        · skip
          have hsl := hRW.2.2.2 (by omega)
          refine T_ld 136 (.int (i32 16)) rfl (fun _ => rfl) ?_
          refine T_goto 140 rfl (fun _ => rfl) ?_
          refine T_sto 142 [(6, .int (i32 16)), (5, .int (i32 ((m.2 46) d))), (4, .ref 45), (0, .ref 59), (1, .ref 12), (2, .int (i32 s)), (3, .int (i32 d))] rfl (fun _ => rfl) ?_
          refine T_ld 143 (.int (i32 1)) rfl (fun _ => rfl) ?_
          refine T_sto 145 [(7, .int (i32 1)), (6, .int (i32 16)), (5, .int (i32 ((m.2 46) d))), (4, .ref 45), (0, .ref 59), (1, .ref 12), (2, .int (i32 s)), (3, .int (i32 d))] rfl (fun _ => rfl) ?_
          have L145_119 : ∀ (n125 : Nat) (v117 : Int) (m118 : mR), (R32 v117) → KTy m118 → fr [] [61] (mO m80 [] []) m118 → (1 ≤ v117) → (1 ≤ v117 ∧ v117 ≤ 17) → 20 - v117 < (n125 : Int) → TT w D pm_154 (145, [(0, .ref 59), (2, .int (i32 s)), (5, .int (i32 ((m.2 46) d))), (6, .int (i32 16)), (7, .int (i32 v117))], [], (khp (mO m118 [] []) c, N), 0, 0) (Q_sp_gatherDeed m c N s d) := by
            intro n125
            induction n125 with
            | zero =>
              intro v117 m118 q122 Tm118 Fm118 ic120 ic121 hmu
              obtain ⟨q122a, q122b⟩ := id q122
              exfalso
              omega
            | succ n125 ih =>
              intro v117 m118 q122 Tm118 Fm118 ic120 ic121 hmu
              obtain ⟨q122a, q122b⟩ := id q122
              have ih126 := ih
              refine T_ld 147 (.int (i32 v117)) rfl (fun _ => rfl) ?_
              refine T_ld 149 (.int (i32 16)) rfl (fun _ => rfl) ?_
              refine T_icmp 172 152 rfl rfl rfl (r32 (by omega) (by omega)) ⟨by decide, by decide⟩ (fun (h127 : (16 : Int) < v117) => ?_) (fun (h127 : ¬ ((16 : Int) < v117)) => ?_)
              · skip
                refine T_ld 174 (.int (i32 16)) rfl (fun _ => rfl) ?_
                refine T_if 202 177 rfl rfl rfl ⟨by decide, by decide⟩ (fun _ => ?_) (fun h128 => absurd (show (16 : Int) ≠ 0 by decide) h128)
                refine T_ret rfl (fun _ => rfl) ?_
                exact ⟨(mO m118 [] []), Tm118, (fr_m (fr_s Fm118 (fr_m (fr_s Fm80 (fr_m (fr_s Fm10 (fr_m (fr_s Fm5 (fr_m fr_0 rfl rfl) rfl rfl) rfl rfl) rfl rfl) rfl rfl) rfl rfl) rfl rfl) rfl rfl) rfl rfl), rfl⟩
              · skip
                refine T_ld 153 (.ref 59) rfl (fun _ => rfl) ?_
                refine T_ld 154 (.ref 59) rfl (fun _ => rfl) ?_
                refine K_gf 157 (.ref 69) rfl rfl kd_59 rfl rfl rfl ?_
                refine T_ld 158 (.int (i32 s)) rfl (fun _ => rfl) ?_
                refine T_ld 160 (.int (i32 ((m.2 46) d))) rfl (fun _ => rfl) ?_
                refine T_ld 162 (.int (i32 v117)) rfl (fun _ => rfl) ?_
                refine T_iadd 163 rfl rfl ?_
                refine T_callx 166 153 [.ref 59, .ref 69, .int (i32 s), .int (i32 (((m.2 46) d) + v117))] [] rfl (fun _ => rfl) rfl rfl (c_mark_sp_writes w (mO m118 [] []) c N D (by omega) Tm118 s (((m.2 46) d) + v117) (r32 (by omega) (by omega)) (r32 (by omega) (by omega)) (show 0 ≤ s ∧ s ≤ 47 by omega) (show 0 ≤ (((m.2 46) d) + v117) ∧ (((m.2 46) d) + v117) ≤ 220 by omega)) (fun rr129 k130 => ?_)
                obtain ⟨m131, Tm131, Fm131, rfl⟩ := k130
                refine Or.inl ⟨_, _, _, _, rfl, ?_⟩
                refine K_nb (st' := []) rfl ?_
                refine T_iinc 169 [(7, .int (i32 (v117 + 1))), (0, .ref 59), (2, .int (i32 s)), (5, .int (i32 ((m.2 46) d))), (6, .int (i32 16))] rfl rfl (by decide) rfl rfl ?_
                refine T_goto 145 rfl (fun _ => rfl) ?_
                refine Tm_lv (a := [(0, .ref 59), (2, .int (i32 s)), (5, .int (i32 ((m.2 46) d))), (6, .int (i32 16)), (7, .int (i32 (v117 + 1)))]) rfl rfl ⟨rfl, rfl, rfl, rfl, rfl, trivial⟩ ?_
                exact ih126 (v117 + 1) (mO m131 [] []) (r32 (by omega) (by omega)) Tm131 (fr_m (fr_s Fm131 (fr_m (fr_s Fm118 (fr_m fr_0 rfl rfl) rfl rfl) rfl rfl) rfl rfl) rfl rfl) (show 1 ≤ (v117 + 1) by omega) (show 1 ≤ (v117 + 1) ∧ (v117 + 1) ≤ 17 by omega) (show 20 - (v117 + 1) < (n125 : Int) by omega)
          refine Tm_lv (a := [(0, .ref 59), (2, .int (i32 s)), (5, .int (i32 ((m.2 46) d))), (6, .int (i32 16)), (7, .int (i32 1))]) rfl rfl ⟨rfl, rfl, rfl, rfl, rfl, trivial⟩ ?_
          exact L145_119 ((20 - (1 : Int) : Int) + 1).toNat 1 (mO m80 [] []) ⟨by decide, by decide⟩ Tm80 (fr_m fr_0 rfl rfl) (show 1 ≤ (1 : Int) by omega) (show 1 ≤ (1 : Int) ∧ (1 : Int) ≤ 17 by omega) (show 20 - (1 : Int) < ((((20 - (1 : Int) : Int) + 1).toNat : Nat) : Int) by omega)
    · skip
      refine T_ret rfl (fun _ => rfl) ?_
      exact ⟨(mO m10 [] [(62, upI (m.2 62) s z73)]), (KTy_mO Tm10 rfl rfl trivial ⟨G75, trivial⟩), (fr_m (fr_s Fm10 (fr_m (fr_s Fm5 (fr_m fr_0 rfl rfl) rfl rfl) rfl rfl) rfl rfl) rfl rfl), rfl⟩
def fF_sp_gatherAction : List Nat := []
def fA_sp_gatherAction : List Nat := [60, 61, 62]
def Q_sp_gatherAction (m : mR) (c : Nat → Option am_C) (N : Nat) (s : Int) (a : Int) : ag_Re af_T → Prop := fun R => (∃ (M : mR), KTy M ∧ fr fF_sp_gatherAction fA_sp_gatherAction m M ∧ R = (.inl (none), (khp M c, N), 0, 0))
set_option maxHeartbeats 3000000 in
theorem c_sp_gatherAction (w : wX) (m : mR) (c : Nat → Option am_C) (N D : Nat) (hD : 4 ≤ D) (hT : KTy m) (s : Int) (a : Int) (qs : R32 s) (qa : R32 a) (hNK : NKp (m.2 18) (m.2 19)) (hDE : DEp (m.1 224) (m.2 45) (m.2 46) (m.2 47) (m.2 49)) (hAC : AcP (m.1 223) (m.1 224) (m.2 43) (m.2 44)) (p3 : 0 ≤ s ∧ s ≤ 47) (p4 : 0 ≤ a ∧ a < (m.1 223)) : TC w D 155 [.ref 59, .ref 12, .int (i32 s), .int (i32 a)] (khp m c, N) (Q_sp_gatherAction m c N s a) := by
  obtain ⟨D, rfl⟩ : ∃ k, D = k + 1 := ⟨D - 1, by omega⟩
  obtain ⟨qsa, qsb⟩ := id qs
  obtain ⟨qaa, qab⟩ := id qa
  have f223 : 0 ≤ m.1 223 ∧ m.1 223 ≤ 16 := hT.1 223
  have f224 : 0 ≤ m.1 224 ∧ m.1 224 ≤ 240 := hT.1 224
  refine Tc_of rfl ?_
  rw [show (khp m c, N) = (khp (mO m [] []) c, N) from by rw [mO_nil m]]
  show TT w D pm_155 (0, [(0, .ref 59), (1, .ref 12), (2, .int (i32 s)), (3, .int (i32 a))], [], (khp (mO m [] []) c, N), 0, 0) (Q_sp_gatherAction m c N s a)
  refine T_ld 1 (.ref 12) rfl (fun _ => rfl) ?_
  refine K_gf 4 (.ref 45) rfl rfl kd_12 rfl rfl rfl ?_
  refine T_sto 6 [(4, .ref 45), (0, .ref 59), (1, .ref 12), (2, .int (i32 s)), (3, .int (i32 a))] rfl (fun _ => rfl) ?_
  refine T_ld 7 (.int (i32 0)) rfl (fun _ => rfl) ?_
  refine T_sto 9 [(5, .int (i32 0)), (4, .ref 45), (0, .ref 59), (1, .ref 12), (2, .int (i32 s)), (3, .int (i32 a))] rfl (fun _ => rfl) ?_
  have L9_3 : ∀ (n9 : Nat) (v1 : Int) (m2 : mR), (R32 v1) → KTy m2 → fr [] [60, 61, 62] (mO m [] []) m2 → (0 ≤ v1) → (0 ≤ v1 ∧ v1 ≤ 240) → 250 - v1 < (n9 : Int) → TT w D pm_155 (9, [(0, .ref 59), (1, .ref 12), (2, .int (i32 s)), (3, .int (i32 a)), (4, .ref 45), (5, .int (i32 v1))], [], (khp (mO m2 [] []) c, N), 0, 0) (Q_sp_gatherAction m c N s a) := by
    intro n9
    induction n9 with
    | zero =>
      intro v1 m2 q6 Tm2 Fm2 ic4 ic5 hmu
      obtain ⟨q6a, q6b⟩ := id q6
      exfalso
      omega
    | succ n9 ih =>
      intro v1 m2 q6 Tm2 Fm2 ic4 ic5 hmu
      obtain ⟨q6a, q6b⟩ := id q6
      have ih10 := ih
      refine T_ld 11 (.int (i32 v1)) rfl (fun _ => rfl) ?_
      refine T_ld 13 (.ref 45) rfl (fun _ => rfl) ?_
      refine K_gf 16 (.ref 51) rfl rfl kd_45 rfl rfl rfl ?_
      refine T_ld 17 (.int (i32 a)) rfl (fun _ => rfl) ?_
      refine K_iald 18 44 (m.2 44) rfl rfl rfl (by omega) (show a < (16 : Int) by omega) (show (m2.2 44) = (m.2 44) from (fr2 Fm2 44 rfl)) ?_
      have e11 : 0 ≤ m.2 44 a ∧ m.2 44 a ≤ 240 := hT.2.1 44 a
      refine T_icmp 43 21 rfl rfl rfl (r32 (by omega) (by omega)) (r32 (by omega) (by omega)) (fun (h12 : (m.2 44) a ≤ v1) => ?_) (fun (h12 : ¬ ((m.2 44) a ≤ v1)) => ?_)
      · skip
        refine T_ret rfl (fun _ => rfl) ?_
        exact ⟨(mO m2 [] []), Tm2, (fr_m (fr_s Fm2 (fr_m fr_0 rfl rfl) rfl rfl) rfl rfl), rfl⟩
      · skip
        refine T_ld 22 (.ref 59) rfl (fun _ => rfl) ?_
        refine T_ld 23 (.ref 12) rfl (fun _ => rfl) ?_
        refine T_ld 24 (.int (i32 s)) rfl (fun _ => rfl) ?_
        refine T_ld 26 (.ref 45) rfl (fun _ => rfl) ?_
        refine K_gf 29 (.ref 50) rfl rfl kd_45 rfl rfl rfl ?_
        refine T_ld 30 (.int (i32 a)) rfl (fun _ => rfl) ?_
        refine K_iald 31 43 (m.2 43) rfl rfl rfl (by omega) (show a < (16 : Int) by omega) (show (m2.2 43) = (m.2 43) from (fr2 Fm2 43 rfl)) ?_
        have e13 : 0 ≤ m.2 43 a ∧ m.2 43 a ≤ 240 := hT.2.1 43 a
        refine T_ld 33 (.int (i32 v1)) rfl (fun _ => rfl) ?_
        refine T_iadd 34 rfl rfl ?_
        have hAc := hAC a (by omega) (by omega)
        have hRW := hDE ((m.2 43) a + v1) (by omega) (by omega)
        refine T_callx 37 154 [.ref 59, .ref 12, .int (i32 s), .int (i32 (((m.2 43) a) + v1))] [] rfl (fun _ => rfl) rfl rfl (c_sp_gatherDeed w (mO m2 [] []) c N D (by omega) Tm2 s (((m.2 43) a) + v1) (r32 (by omega) (by omega)) (r32 (by omega) (by omega)) (show NKp (m2.2 18) (m2.2 19) by rewrite [(show (m2.2 18) = (m.2 18) from (fr2 Fm2 18 rfl)), (show (m2.2 19) = (m.2 19) from (fr2 Fm2 19 rfl))]; exact hNK) (show 0 ≤ s ∧ s ≤ 47 by omega) (show 0 ≤ (((m.2 43) a) + v1) ∧ (((m.2 43) a) + v1) ≤ 239 by omega) (show RWp ((m2.2 45) (((m.2 43) a) + v1)) ((m2.2 46) (((m.2 43) a) + v1)) ((m2.2 47) (((m.2 43) a) + v1)) ((m2.2 49) (((m.2 43) a) + v1)) by rewrite [(show (m2.2 45) = (m.2 45) from (fr2 Fm2 45 rfl)), (show (m2.2 46) = (m.2 46) from (fr2 Fm2 46 rfl)), (show (m2.2 47) = (m.2 47) from (fr2 Fm2 47 rfl)), (show (m2.2 49) = (m.2 49) from (fr2 Fm2 49 rfl))]; exact hRW)) (fun rr14 k15 => ?_)
        obtain ⟨m16, Tm16, Fm16, rfl⟩ := k15
        refine Or.inl ⟨_, _, _, _, rfl, ?_⟩
        refine K_nb (st' := []) rfl ?_
        refine T_iinc 40 [(5, .int (i32 (v1 + 1))), (0, .ref 59), (1, .ref 12), (2, .int (i32 s)), (3, .int (i32 a)), (4, .ref 45)] rfl rfl (by decide) rfl rfl ?_
        refine T_goto 9 rfl (fun _ => rfl) ?_
        refine Tm_lv (a := [(0, .ref 59), (1, .ref 12), (2, .int (i32 s)), (3, .int (i32 a)), (4, .ref 45), (5, .int (i32 (v1 + 1)))]) rfl rfl ⟨rfl, rfl, rfl, rfl, rfl, rfl, trivial⟩ ?_
        exact ih10 (v1 + 1) (mO m16 [] []) (r32 (by omega) (by omega)) Tm16 (fr_m (fr_s Fm16 (fr_m (fr_s Fm2 (fr_m fr_0 rfl rfl) rfl rfl) rfl rfl) rfl rfl) rfl rfl) (show 0 ≤ (v1 + 1) by omega) (show 0 ≤ (v1 + 1) ∧ (v1 + 1) ≤ 240 by omega) (show 250 - (v1 + 1) < (n9 : Int) by omega)
  refine Tm_lv (a := [(0, .ref 59), (1, .ref 12), (2, .int (i32 s)), (3, .int (i32 a)), (4, .ref 45), (5, .int (i32 0))]) rfl rfl ⟨rfl, rfl, rfl, rfl, rfl, rfl, trivial⟩ ?_
  exact L9_3 ((250 - (0 : Int) : Int) + 1).toNat 0 (mO m [] []) ⟨by decide, by decide⟩ hT (fr_m fr_0 rfl rfl) (show 0 ≤ (0 : Int) by omega) (show 0 ≤ (0 : Int) ∧ (0 : Int) ≤ 240 by omega) (show 250 - (0 : Int) < ((((250 - (0 : Int) : Int) + 1).toNat : Nat) : Int) by omega)
