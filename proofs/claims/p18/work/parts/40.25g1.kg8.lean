def fF_rd_inBlock : List Nat := [205, 206, 207, 208, 209, 210, 211, 212, 213, 220, 224, 225, 227, 228, 229, 230, 231]
def fA_rd_inBlock : List Nat := [18, 19, 20, 21, 22, 23, 24, 45, 46, 47, 48, 49, 50, 51, 52, 53, 54, 55, 56, 57, 58, 66, 67, 68, 69, 70]
def Q_rd_inBlock (m : mR) (c : Nat → Option am_C) (N : Nat) : ag_Re af_T → Prop := fun R => (∃ (M : mR), KTy M ∧ fr fF_rd_inBlock fA_rd_inBlock m M ∧ (NKp (M.2 18) (M.2 19)) ∧ (DEp (M.1 224) (M.2 45) (M.2 46) (M.2 47) (M.2 49)) ∧ (SPp (M.1 225) (M.2 52) (M.2 58) (M.2 55) (M.2 56) (m.1 219) (M.1 224)) ∧ ((M.1 224) ≤ 192 + (M.1 225)) ∧ ((m.1 224) ≤ (M.1 224)) ∧ ((M.1 227) ≤ 8) ∧ R = (.inl (none), (khp M c, N), 0, 0)) ∨ (∃ (x : Nat) (M : mR), (x = 0) ∧ (KTy M) ∧ (fr fF_rd_inBlock fA_rd_inBlock m M) ∧ (NKp (M.2 18) (M.2 19)) ∧ R = (.inr x, (khp M c, N), 1, 6))
set_option maxHeartbeats 3000000 in
theorem c_rd_inBlock (w : wX) (m : mR) (c : Nat → Option am_C) (N D : Nat) (hD : 12 ≤ D) (hT : KTy m) (pKP : KPp (m.1 203) (m.2 8) (m.2 9) (m.1 214) (m.1 215) (m.1 216) (m.1 217) (m.1 221) (m.1 223) (m.1 219)) (hNK : NKp (m.2 18) (m.2 19)) (hDE : DEp (m.1 224) (m.2 45) (m.2 46) (m.2 47) (m.2 49)) (hSP : SPp (m.1 225) (m.2 52) (m.2 58) (m.2 55) (m.2 56) (m.1 219) (m.1 224)) (p4 : 1 ≤ (m.1 227) ∧ (m.1 227) ≤ 8) (p5 : (m.1 224) ≤ 192 + (m.1 225)) : TC w D 137 [.ref 178] (khp m c, N) (Q_rd_inBlock m c N) := by
  obtain ⟨D, rfl⟩ : ∃ k, D = k + 1 := ⟨D - 1, by omega⟩
  have f206 : (-1) ≤ m.1 206 ∧ m.1 206 ≤ 65535 := hT.1 206
  have f207 : 0 ≤ m.1 207 ∧ m.1 207 ≤ 4001 := hT.1 207
  have f224 : 0 ≤ m.1 224 ∧ m.1 224 ≤ 240 := hT.1 224
  have f225 : 0 ≤ m.1 225 ∧ m.1 225 ≤ 48 := hT.1 225
  have f227 : 0 ≤ m.1 227 ∧ m.1 227 ≤ 8 := hT.1 227
  have f203 : 0 ≤ m.1 203 ∧ m.1 203 ≤ 90 := hT.1 203
  have f214 : 0 ≤ m.1 214 ∧ m.1 214 ≤ 12 := hT.1 214
  have f215 : 0 ≤ m.1 215 ∧ m.1 215 ≤ 12 := hT.1 215
  have f216 : 0 ≤ m.1 216 ∧ m.1 216 ≤ 16 := hT.1 216
  have f217 : 0 ≤ m.1 217 ∧ m.1 217 ≤ 8 := hT.1 217
  have f219 : 0 ≤ m.1 219 ∧ m.1 219 ≤ 8 := hT.1 219
  have f221 : 0 ≤ m.1 221 ∧ m.1 221 ≤ 16 := hT.1 221
  have f223 : 0 ≤ m.1 223 ∧ m.1 223 ≤ 16 := hT.1 223
  refine Tc_of rfl ?_
  rw [show (khp m c, N) = (khp (mO m [] []) c, N) from by rw [mO_nil m]]
  show TT w D pm_137 (0, [(0, .ref 178)], [], (khp (mO m [] []) c, N), 0, 0) (Q_rd_inBlock m c N)
  refine T_ld 1 (.ref 178) rfl (fun _ => rfl) ?_
  refine K_gf 4 (.ref 6) rfl rfl kd_178 rfl rfl rfl ?_
  refine K_gf 7 (.int (i32 (m.1 206))) rfl rfl kd_6 rfl rfl rfl ?_
  refine T_ld 10 (.int (i32 321)) rfl (fun _ => rfl) ?_
  refine T_icmp 17 13 rfl rfl rfl (r32 (by omega) (by omega)) ⟨by decide, by decide⟩ (fun (h1 : (m.1 206) ≠ 321) => ?_) (fun (h1 : ¬ ((m.1 206) ≠ 321)) => ?_)
  · skip
    refine T_ld 18 (.int (i32 0)) rfl (fun _ => rfl) ?_
    refine T_sto 19 [(1, .int (i32 0)), (0, .ref 178)] rfl (fun _ => rfl) ?_
    refine T_ld 20 (.ref 178) rfl (fun _ => rfl) ?_
    refine K_gf 23 (.ref 6) rfl rfl kd_178 rfl rfl rfl ?_
    refine K_gf 26 (.int (i32 (m.1 206))) rfl rfl kd_6 rfl rfl rfl ?_
    refine T_ld 29 (.int (i32 320)) rfl (fun _ => rfl) ?_
    refine T_icmp 36 32 rfl rfl rfl (r32 (by omega) (by omega)) ⟨by decide, by decide⟩ (fun (h2 : (m.1 206) ≠ 320) => ?_) (fun (h2 : ¬ ((m.1 206) ≠ 320)) => ?_)
    · skip
      refine T_ld 37 (.int (i32 0)) rfl (fun _ => rfl) ?_
      refine T_sto 38 [(2, .int (i32 0)), (1, .int (i32 0)), (0, .ref 178)] rfl (fun _ => rfl) ?_
      refine T_ld 39 (.ref 178) rfl (fun _ => rfl) ?_
      refine K_gf 42 (.ref 6) rfl rfl kd_178 rfl rfl rfl ?_
      refine K_gf 45 (.int (i32 (m.1 206))) rfl rfl kd_6 rfl rfl rfl ?_
      refine T_ld 47 (.int (i32 125)) rfl (fun _ => rfl) ?_
      refine T_icmp 55 50 rfl rfl rfl (r32 (by omega) (by omega)) ⟨by decide, by decide⟩ (fun (h3 : (m.1 206) ≠ 125) => ?_) (fun (h3 : ¬ ((m.1 206) ≠ 125)) => ?_)
      · skip
        refine T_ld 56 (.int (i32 0)) rfl (fun _ => rfl) ?_
        refine T_if 77 59 rfl rfl rfl ⟨by decide, by decide⟩ (fun h4 => absurd (show (0 : Int) ≠ 0 from h4) (by decide)) (fun _ => ?_)
        refine T_ld 60 (.int (i32 0)) rfl (fun _ => rfl) ?_
        refine T_if 77 63 rfl rfl rfl ⟨by decide, by decide⟩ (fun h5 => absurd (show (0 : Int) ≠ 0 from h5) (by decide)) (fun _ => ?_)
        refine T_ld 64 (.ref 178) rfl (fun _ => rfl) ?_
        refine T_callx 67 121 [.ref 178] [] rfl (fun _ => rfl) rfl rfl (c_rd_isStatement w (mO m [] []) c N D (by omega) hT ) (fun rr6 k7 => ?_)
        obtain ⟨iss, g8, h9, rfl⟩ := k7
        refine Or.inl ⟨_, _, _, _, rfl, ?_⟩
        refine T_ns (st' := [.int (i32 iss)]) rfl ?_
        obtain ⟨g8a, g8b⟩ := g8
        replace h9 : iss = 1 → (m.1 206) = 256 ∨ 324 ≤ (m.1 206) ∧ (m.1 206) ≤ 328 := h9
        have hIs := h9
        refine T_if 77 70 rfl rfl rfl (r32 (by omega) (by omega)) (fun (h10 : iss ≠ 0) => ?_) (fun (h10 : ¬ (iss ≠ 0)) => ?_)
        · skip
          refine T_ld 78 (.ref 178) rfl (fun _ => rfl) ?_
          refine K_gf 81 (.ref 59) rfl rfl kd_178 rfl rfl rfl ?_
          refine K_gf 84 (.int (i32 (m.1 225))) rfl rfl kd_59 rfl rfl rfl ?_
          refine T_ld 86 (.int (i32 48)) rfl (fun _ => rfl) ?_
          refine T_icmp 104 89 rfl rfl rfl (r32 (by omega) (by omega)) ⟨by decide, by decide⟩ (fun (h11 : (m.1 225) < 48) => ?_) (fun (h11 : ¬ ((m.1 225) < 48)) => ?_)
          · skip
            refine T_ld 105 (.int (i32 0)) rfl (fun _ => rfl) ?_
            refine T_if 112 108 rfl rfl rfl ⟨by decide, by decide⟩ (fun _ => ?_) (fun h12 => absurd (show (0 : Int) = 0 by decide) h12)
            refine T_ld 113 (.int (i32 0)) rfl (fun _ => rfl) ?_
            refine T_if 120 116 rfl rfl rfl ⟨by decide, by decide⟩ (fun _ => ?_) (fun h13 => absurd (show (0 : Int) = 0 by decide) h13)
            refine T_ld 121 (.int (i32 0)) rfl (fun _ => rfl) ?_
            refine T_sto 122 [(3, .int (i32 0)), (2, .int (i32 0)), (1, .int (i32 0)), (0, .ref 178)] rfl (fun _ => rfl) ?_
            refine T_ld 123 (.ref 178) rfl (fun _ => rfl) ?_
            refine K_gf 126 (.ref 59) rfl rfl kd_178 rfl rfl rfl ?_
            refine T_ld 127 (.int (i32 0)) rfl (fun _ => rfl) ?_
            refine T_ld 128 (.ref 178) rfl (fun _ => rfl) ?_
            refine K_gf 131 (.ref 179) rfl rfl kd_178 rfl rfl rfl ?_
            refine T_ld 132 (.ref 178) rfl (fun _ => rfl) ?_
            refine K_gf 135 (.int (i32 (m.1 227))) rfl rfl kd_178 rfl rfl rfl ?_
            refine K_iald 136 66 (m.2 66) rfl rfl rfl (by omega) (show (m.1 227) < (9 : Int) by omega) rfl ?_
            have e14 : (-1) ≤ (m.2 66) (m.1 227) ∧ (m.2 66) (m.1 227) ≤ 47 := (hT.2.1 66) (m.1 227)
            refine T_ld 137 (.ref 178) rfl (fun _ => rfl) ?_
            refine K_gf 140 (.ref 180) rfl rfl kd_178 rfl rfl rfl ?_
            refine T_ld 141 (.ref 178) rfl (fun _ => rfl) ?_
            refine K_gf 144 (.int (i32 (m.1 227))) rfl rfl kd_178 rfl rfl rfl ?_
            refine K_iald 145 67 (m.2 67) rfl rfl rfl (by omega) (show (m.1 227) < (9 : Int) by omega) rfl ?_
            have e15 : (-1) ≤ (m.2 67) (m.1 227) ∧ (m.2 67) (m.1 227) ≤ 1 := (hT.2.1 67) (m.1 227)
            refine T_callx 148 139 [.ref 59, .int (i32 0), .int (i32 ((m.2 66) (m.1 227))), .int (i32 ((m.2 67) (m.1 227)))] [] rfl (fun _ => rfl) rfl rfl (c_sp_add w (mO m [] []) c N D (by omega) hT 0 ((m.2 66) (m.1 227)) ((m.2 67) (m.1 227)) ⟨by decide, by decide⟩ (r32 (by omega) (by omega)) (r32 (by omega) (by omega)) (show (m.1 225) ≤ 47 by omega) (show 0 ≤ (0 : Int) ∧ (0 : Int) ≤ 2 by omega) (show (-1) ≤ ((m.2 66) (m.1 227)) ∧ ((m.2 66) (m.1 227)) ≤ 47 by omega) (show (-1) ≤ ((m.2 67) (m.1 227)) ∧ ((m.2 67) (m.1 227)) ≤ 1 by omega)) (fun rr16 k17 => ?_)
            obtain ⟨m18, sd, Tm18, Fm18, g19, h20, h21, h22, h23, h24, h25, rfl⟩ := k17
            refine Or.inl ⟨_, _, _, _, rfl, ?_⟩
            refine K_nb (st' := [.int (i32 sd)]) rfl ?_
            obtain ⟨g19a, g19b⟩ := g19
            have g26 : 0 ≤ m18.1 225 ∧ m18.1 225 ≤ 48 := Tm18.1 225
            replace h20 : sd = (m.1 225) := h20
            replace h21 : (m18.1 225) = (m.1 225) + 1 := h21
            replace h22 : (m18.2 52) = upI (m.2 52) (m.1 225) (0 : Int) := h22
            have hPk := h22
            replace h23 : (m18.2 55) = upI (m.2 55) (m.1 225) (-1) := h23
            have hPt := h23
            replace h24 : (m18.2 56) = upI (m.2 56) (m.1 225) (-1) := h24
            have hPd := h24
            replace h25 : (m18.2 58) = upI (m.2 58) (m.1 225) (-1) := h25
            have hPr := h25
            have hk0 : (m18.2 52) sd = (0 : Int) := up_at hPk (by omega)
            refine T_sto 150 [(4, .int (i32 sd)), (3, .int (i32 0)), (2, .int (i32 0)), (1, .int (i32 0)), (0, .ref 178)] rfl (fun _ => rfl) ?_
            refine T_ld 151 (.int (i32 0)) rfl (fun _ => rfl) ?_
            refine T_if 163 154 rfl rfl rfl ⟨by decide, by decide⟩ (fun _ => ?_) (fun h27 => absurd (show (0 : Int) = 0 by decide) h27)
            refine T_ld 164 (.int (i32 0)) rfl (fun _ => rfl) ?_
            refine T_if 176 167 rfl rfl rfl ⟨by decide, by decide⟩ (fun _ => ?_) (fun h28 => absurd (show (0 : Int) = 0 by decide) h28)
            have hIw := hIs (by omega)
            refine T_ld 177 (.ref 178) rfl (fun _ => rfl) ?_
            refine K_gf 180 (.ref 59) rfl rfl kd_178 rfl rfl rfl ?_
            refine K_gf 183 (.ref 64) rfl rfl kd_59 rfl rfl rfl ?_
            refine T_ld 185 (.int (i32 sd)) rfl (fun _ => rfl) ?_
            refine T_ld 186 (.ref 178) rfl (fun _ => rfl) ?_
            refine T_ld 187 (.int (i32 (-1))) rfl (fun _ => rfl) ?_
            refine T_callx 190 122 [.ref 178, .int (i32 (-1))] [.int (i32 sd), .ref 64] rfl (fun _ => rfl) rfl rfl (c_rd_statement w (mO m18 [] []) c N D (by omega) Tm18 (-1) ⟨by decide, by decide⟩ (show KPp (m18.1 203) (m18.2 8) (m18.2 9) (m18.1 214) (m18.1 215) (m18.1 216) (m18.1 217) (m18.1 221) (m18.1 223) (m18.1 219) by rewrite [(show (m18.1 203) = (m.1 203) from (fr1 Fm18 203 rfl)), (show (m18.2 8) = (m.2 8) from (fr2 Fm18 8 rfl)), (show (m18.2 9) = (m.2 9) from (fr2 Fm18 9 rfl)), (show (m18.1 214) = (m.1 214) from (fr1 Fm18 214 rfl)), (show (m18.1 215) = (m.1 215) from (fr1 Fm18 215 rfl)), (show (m18.1 216) = (m.1 216) from (fr1 Fm18 216 rfl)), (show (m18.1 217) = (m.1 217) from (fr1 Fm18 217 rfl)), (show (m18.1 221) = (m.1 221) from (fr1 Fm18 221 rfl)), (show (m18.1 223) = (m.1 223) from (fr1 Fm18 223 rfl)), (show (m18.1 219) = (m.1 219) from (fr1 Fm18 219 rfl))]; exact pKP) (show NKp (m18.2 18) (m18.2 19) by rewrite [(show (m18.2 18) = (m.2 18) from (fr2 Fm18 18 rfl)), (show (m18.2 19) = (m.2 19) from (fr2 Fm18 19 rfl))]; exact hNK) (show DEp (m18.1 224) (m18.2 45) (m18.2 46) (m18.2 47) (m18.2 49) by rewrite [(show (m18.1 224) = (m.1 224) from (fr1 Fm18 224 rfl)), (show (m18.2 45) = (m.2 45) from (fr2 Fm18 45 rfl)), (show (m18.2 46) = (m.2 46) from (fr2 Fm18 46 rfl)), (show (m18.2 47) = (m.2 47) from (fr2 Fm18 47 rfl)), (show (m18.2 49) = (m.2 49) from (fr2 Fm18 49 rfl))]; exact hDE) (show (m18.1 224) ≤ 239 by rewrite [(show (m18.1 224) = (m.1 224) from (fr1 Fm18 224 rfl))]; omega) (show (m18.1 206) = 256 ∨ 324 ≤ (m18.1 206) ∧ (m18.1 206) ≤ 328 by rewrite [(show (m18.1 206) = (m.1 206) from (fr1 Fm18 206 rfl))]; omega) (show (-1) ≤ (-1 : Int) ∧ (-1 : Int) ≤ 15 by omega)) (fun rr29 k30 => ?_)
            rcases k30 with ⟨m31, st, Tm31, Fm31, g32, h33, h34, h35, h36, rfl⟩ | ⟨xx40, m37, hx38, Tm37, Fm37, h39, rfl⟩
            rotate_left
            · skip
              refine Or.inr ⟨_, _, _, _, rfl, ?_⟩
              have hNK := h39
              exact Or.inr ⟨xx40, (mO m37 [] []), (hx38), Tm37, (fr_m (fr_s Fm37 (fr_m (fr_s Fm18 (fr_m fr_0 rfl rfl) rfl rfl) rfl rfl) rfl rfl) rfl rfl), (show NKp (m37.2 18) (m37.2 19) by exact hNK), rfl⟩
            refine Or.inl ⟨_, _, _, _, rfl, ?_⟩
            refine K_nb (st' := [.int (i32 st), .int (i32 sd), .ref 64]) rfl ?_
            obtain ⟨g32a, g32b⟩ := g32
            have g41 : (-1) ≤ m31.1 206 ∧ m31.1 206 ≤ 65535 := Tm31.1 206
            have g42 : 0 ≤ m31.1 207 ∧ m31.1 207 ≤ 4001 := Tm31.1 207
            have g43 : 0 ≤ m31.1 224 ∧ m31.1 224 ≤ 240 := Tm31.1 224
            replace h33 : NKp (m31.2 18) (m31.2 19) := h33
            have hNK := h33
            replace h34 : st = (m18.1 224) := h34
            rewrite [(show (m18.1 224) = (m.1 224) from (fr1 Fm18 224 rfl))] at h34
            replace h35 : (m31.1 224) = (m18.1 224) + 1 := h35
            rewrite [(show (m18.1 224) = (m.1 224) from (fr1 Fm18 224 rfl))] at h35
            replace h36 : DEp (m31.1 224) (m31.2 45) (m31.2 46) (m31.2 47) (m31.2 49) := h36
            have hDE := h36
            have G44 : ∀ j, (-1) ≤ (upI (m18.2 56) sd st) j ∧ (upI (m18.2 56) sd st) j ≤ 239 := upI_rg (Tm18.2.1 56) ⟨by omega, by omega⟩
            refine K_iast (a' := [(56, upI (m18.2 56) sd st)]) 191 56 (m18.2 56) rfl rfl rfl (by omega) (show sd < (48 : Int) by omega) (show (m31.2 56) = (m18.2 56) from (fr2 Fm31 56 rfl)) rfl ?_
            have hSP : SPp (m18.1 225) (m18.2 52) (m18.2 58) (m18.2 55) (upI (m18.2 56) sd st) (m.1 219) (m31.1 224) := by first | exact hSP | exact SP_new hSP (agr_e hPk (Int.le_refl _)) (agr_e hPr (Int.le_refl _)) (agr_e hPt (Int.le_refl _)) (agr_t (agr_e hPd (Int.le_refl _)) (agr_u (by omega)) (Int.le_refl _)) (by omega) (by omega) (SR_0c (by rw [show ((m.1 225) : Int) = sd by omega]; exact hk0) (by rw [show ((m.1 225) : Int) = sd by omega, upI_s]; omega))
            refine T_ret rfl (fun _ => rfl) ?_
            exact Or.inl ⟨(mO m31 [] [(56, upI (m18.2 56) sd st)]), (KTy_mO Tm31 rfl rfl trivial ⟨G44, trivial⟩), (fr_m (fr_s Fm31 (fr_m (fr_s Fm18 (fr_m fr_0 rfl rfl) rfl rfl) rfl rfl) rfl rfl) rfl rfl), (show NKp (m31.2 18) (m31.2 19) by first | (exact hNK) | (exfalso; omega)), (show DEp (m31.1 224) (m31.2 45) (m31.2 46) (m31.2 47) (m31.2 49) by first | (exact hDE) | (exfalso; omega)), (show SPp (m31.1 225) (m31.2 52) (m31.2 58) (m31.2 55) (upI (m18.2 56) sd st) (m.1 219) (m31.1 224) by rewrite [(show (m31.1 225) = (m18.1 225) from (fr1 Fm31 225 rfl)), (show (m31.2 52) = (m18.2 52) from (fr2 Fm31 52 rfl)), (show (m31.2 58) = (m18.2 58) from (fr2 Fm31 58 rfl)), (show (m31.2 55) = (m18.2 55) from (fr2 Fm31 55 rfl))]; first | (exact hSP) | (exfalso; omega)), (show (m31.1 224) ≤ 192 + (m31.1 225) by rewrite [(show (m31.1 225) = (m18.1 225) from (fr1 Fm31 225 rfl))]; omega), (show (m.1 224) ≤ (m31.1 224) by omega), (show (m31.1 227) ≤ 8 by rewrite [(show (m31.1 227) = (m.1 227) from ((fr1 Fm31 227 rfl).trans (fr1 Fm18 227 rfl)))]; omega), rfl⟩
          · skip
            refine T_ld 90 (.ref 178) rfl (fun _ => rfl) ?_
            refine K_gf 93 (.ref 6) rfl rfl kd_178 rfl rfl rfl ?_
            refine T_ld 94 (.int (i32 4)) rfl (fun _ => rfl) ?_
            refine T_ld 95 (.ref 178) rfl (fun _ => rfl) ?_
            refine K_gf 98 (.ref 6) rfl rfl kd_178 rfl rfl rfl ?_
            refine K_gf 101 (.int (i32 (m.1 207))) rfl rfl kd_6 rfl rfl rfl ?_
            refine T_callx 104 51 [.ref 6, .int (i32 4), .int (i32 (m.1 207))] [] rfl (fun _ => rfl) rfl rfl (c_tx_fail w (mO m [] []) c N D (by omega) hT 4 (m.1 207) ⟨by decide, by decide⟩ (r32 (by omega) (by omega)) (show 1 ≤ (4 : Int) ∧ (4 : Int) ≤ 8 by omega) (show 0 ≤ (m.1 207) ∧ (m.1 207) ≤ 4001 by omega)) (fun rr45 k46 => ?_)
            rcases k46 with ⟨m47, Tm47, Fm47, h48, rfl⟩ | ⟨xx51, m49, hx50, Tm49, Fm49, rfl⟩
            rotate_left
            · skip
              refine Or.inr ⟨_, _, _, _, rfl, ?_⟩
              exact Or.inr ⟨xx51, (mO m49 [] []), (hx50), Tm49, (fr_m (fr_s Fm49 (fr_m fr_0 rfl rfl) rfl rfl) rfl rfl), (show NKp (m49.2 18) (m49.2 19) by rewrite [(show (m49.2 18) = (m.2 18) from (fr2 Fm49 18 rfl)), (show (m49.2 19) = (m.2 19) from (fr2 Fm49 19 rfl))]; exact hNK), rfl⟩
            exact h48.elim
        · skip
          refine T_ld 71 (.ref 178) rfl (fun _ => rfl) ?_
          refine K_gf 74 (.ref 6) rfl rfl kd_178 rfl rfl rfl ?_
          refine T_callx 77 76 [.ref 6] [] rfl (fun _ => rfl) rfl rfl (c_tx_refuse w (mO m [] []) c N D (by omega) hT ) (fun rr52 k53 => ?_)
          rcases k53 with ⟨m54, Tm54, Fm54, h55, rfl⟩ | ⟨xx58, m56, hx57, Tm56, Fm56, rfl⟩
          rotate_left
          · skip
            refine Or.inr ⟨_, _, _, _, rfl, ?_⟩
            exact Or.inr ⟨xx58, (mO m56 [] []), (hx57), Tm56, (fr_m (fr_s Fm56 (fr_m fr_0 rfl rfl) rfl rfl) rfl rfl), (show NKp (m56.2 18) (m56.2 19) by rewrite [(show (m56.2 18) = (m.2 18) from (fr2 Fm56 18 rfl)), (show (m56.2 19) = (m.2 19) from (fr2 Fm56 19 rfl))]; exact hNK), rfl⟩
          exact h55.elim
      · skip
        refine T_ld 51 (.ref 178) rfl (fun _ => rfl) ?_
        refine T_callx 54 138 [.ref 178] [] rfl (fun _ => rfl) rfl rfl (c_rd_closeBlock w (mO m [] []) c N D (by omega) hT (show 1 ≤ (m.1 227) ∧ (m.1 227) ≤ 8 by omega)) (fun rr59 k60 => ?_)
        rcases k60 with ⟨m61, Tm61, Fm61, rfl⟩ | ⟨xx64, m62, hx63, Tm62, Fm62, rfl⟩
        rotate_left
        · skip
          refine Or.inr ⟨_, _, _, _, rfl, ?_⟩
          exact Or.inr ⟨xx64, (mO m62 [] []), (hx63), Tm62, (fr_m (fr_s Fm62 (fr_m fr_0 rfl rfl) rfl rfl) rfl rfl), (show NKp (m62.2 18) (m62.2 19) by rewrite [(show (m62.2 18) = (m.2 18) from (fr2 Fm62 18 rfl)), (show (m62.2 19) = (m.2 19) from (fr2 Fm62 19 rfl))]; exact hNK), rfl⟩
        refine Or.inl ⟨_, _, _, _, rfl, ?_⟩
        refine K_nb (st' := []) rfl ?_
        have g65 : (-1) ≤ m61.1 206 ∧ m61.1 206 ≤ 65535 := Tm61.1 206
        have g66 : 0 ≤ m61.1 207 ∧ m61.1 207 ≤ 4001 := Tm61.1 207
        have g67 : 0 ≤ m61.1 227 ∧ m61.1 227 ≤ 8 := Tm61.1 227
        refine T_ret rfl (fun _ => rfl) ?_
        exact Or.inl ⟨(mO m61 [] []), Tm61, (fr_m (fr_s Fm61 (fr_m fr_0 rfl rfl) rfl rfl) rfl rfl), (show NKp (m61.2 18) (m61.2 19) by rewrite [(show (m61.2 18) = (m.2 18) from (fr2 Fm61 18 rfl)), (show (m61.2 19) = (m.2 19) from (fr2 Fm61 19 rfl))]; first | (exact hNK) | (exfalso; omega)), (show DEp (m61.1 224) (m61.2 45) (m61.2 46) (m61.2 47) (m61.2 49) by rewrite [(show (m61.1 224) = (m.1 224) from (fr1 Fm61 224 rfl)), (show (m61.2 45) = (m.2 45) from (fr2 Fm61 45 rfl)), (show (m61.2 46) = (m.2 46) from (fr2 Fm61 46 rfl)), (show (m61.2 47) = (m.2 47) from (fr2 Fm61 47 rfl)), (show (m61.2 49) = (m.2 49) from (fr2 Fm61 49 rfl))]; first | (exact hDE) | (exfalso; omega)), (show SPp (m61.1 225) (m61.2 52) (m61.2 58) (m61.2 55) (m61.2 56) (m.1 219) (m61.1 224) by rewrite [(show (m61.1 225) = (m.1 225) from (fr1 Fm61 225 rfl)), (show (m61.2 52) = (m.2 52) from (fr2 Fm61 52 rfl)), (show (m61.2 58) = (m.2 58) from (fr2 Fm61 58 rfl)), (show (m61.2 55) = (m.2 55) from (fr2 Fm61 55 rfl)), (show (m61.2 56) = (m.2 56) from (fr2 Fm61 56 rfl)), (show (m61.1 224) = (m.1 224) from (fr1 Fm61 224 rfl))]; first | (exact hSP) | (exfalso; omega)), (show (m61.1 224) ≤ 192 + (m61.1 225) by rewrite [(show (m61.1 224) = (m.1 224) from (fr1 Fm61 224 rfl)), (show (m61.1 225) = (m.1 225) from (fr1 Fm61 225 rfl))]; omega), (show (m.1 224) ≤ (m61.1 224) by rewrite [(show (m61.1 224) = (m.1 224) from (fr1 Fm61 224 rfl))]; omega), (show (m61.1 227) ≤ 8 by omega), rfl⟩
    · skip
      refine T_ld 33 (.int (i32 1)) rfl (fun _ => rfl) ?_
      refine T_goto 37 rfl (fun _ => rfl) ?_
      refine T_sto 38 [(2, .int (i32 1)), (1, .int (i32 0)), (0, .ref 178)] rfl (fun _ => rfl) ?_
      refine T_ld 39 (.ref 178) rfl (fun _ => rfl) ?_
      refine K_gf 42 (.ref 6) rfl rfl kd_178 rfl rfl rfl ?_
      refine K_gf 45 (.int (i32 (m.1 206))) rfl rfl kd_6 rfl rfl rfl ?_
      refine T_ld 47 (.int (i32 125)) rfl (fun _ => rfl) ?_
      refine T_icmp 55 50 rfl rfl rfl (r32 (by omega) (by omega)) ⟨by decide, by decide⟩ (fun (h68 : (m.1 206) ≠ 125) => ?_) (fun (h68 : ¬ ((m.1 206) ≠ 125)) => by exfalso; omega)
      refine T_ld 56 (.int (i32 0)) rfl (fun _ => rfl) ?_
      refine T_if 77 59 rfl rfl rfl ⟨by decide, by decide⟩ (fun h69 => absurd (show (0 : Int) ≠ 0 from h69) (by decide)) (fun _ => ?_)
      refine T_ld 60 (.int (i32 1)) rfl (fun _ => rfl) ?_
      refine T_if 77 63 rfl rfl rfl ⟨by decide, by decide⟩ (fun _ => ?_) (fun h70 => absurd (show (1 : Int) ≠ 0 by decide) h70)
      refine T_ld 78 (.ref 178) rfl (fun _ => rfl) ?_
      refine K_gf 81 (.ref 59) rfl rfl kd_178 rfl rfl rfl ?_
      refine K_gf 84 (.int (i32 (m.1 225))) rfl rfl kd_59 rfl rfl rfl ?_
      refine T_ld 86 (.int (i32 48)) rfl (fun _ => rfl) ?_
      refine T_icmp 104 89 rfl rfl rfl (r32 (by omega) (by omega)) ⟨by decide, by decide⟩ (fun (h71 : (m.1 225) < 48) => ?_) (fun (h71 : ¬ ((m.1 225) < 48)) => ?_)
      · skip
        refine T_ld 105 (.int (i32 0)) rfl (fun _ => rfl) ?_
        refine T_if 112 108 rfl rfl rfl ⟨by decide, by decide⟩ (fun _ => ?_) (fun h72 => absurd (show (0 : Int) = 0 by decide) h72)
        refine T_ld 113 (.int (i32 1)) rfl (fun _ => rfl) ?_
        refine T_if 120 116 rfl rfl rfl ⟨by decide, by decide⟩ (fun h73 => absurd (show (1 : Int) = 0 from h73) (by decide)) (fun _ => ?_)
        refine T_ld 117 (.int (i32 2)) rfl (fun _ => rfl) ?_
        refine T_goto 121 rfl (fun _ => rfl) ?_
        refine T_sto 122 [(3, .int (i32 2)), (2, .int (i32 1)), (1, .int (i32 0)), (0, .ref 178)] rfl (fun _ => rfl) ?_
        refine T_ld 123 (.ref 178) rfl (fun _ => rfl) ?_
        refine K_gf 126 (.ref 59) rfl rfl kd_178 rfl rfl rfl ?_
        refine T_ld 127 (.int (i32 2)) rfl (fun _ => rfl) ?_
        refine T_ld 128 (.ref 178) rfl (fun _ => rfl) ?_
        refine K_gf 131 (.ref 179) rfl rfl kd_178 rfl rfl rfl ?_
        refine T_ld 132 (.ref 178) rfl (fun _ => rfl) ?_
        refine K_gf 135 (.int (i32 (m.1 227))) rfl rfl kd_178 rfl rfl rfl ?_
        refine K_iald 136 66 (m.2 66) rfl rfl rfl (by omega) (show (m.1 227) < (9 : Int) by omega) rfl ?_
        have e74 : (-1) ≤ (m.2 66) (m.1 227) ∧ (m.2 66) (m.1 227) ≤ 47 := (hT.2.1 66) (m.1 227)
        refine T_ld 137 (.ref 178) rfl (fun _ => rfl) ?_
        refine K_gf 140 (.ref 180) rfl rfl kd_178 rfl rfl rfl ?_
        refine T_ld 141 (.ref 178) rfl (fun _ => rfl) ?_
        refine K_gf 144 (.int (i32 (m.1 227))) rfl rfl kd_178 rfl rfl rfl ?_
        refine K_iald 145 67 (m.2 67) rfl rfl rfl (by omega) (show (m.1 227) < (9 : Int) by omega) rfl ?_
        have e75 : (-1) ≤ (m.2 67) (m.1 227) ∧ (m.2 67) (m.1 227) ≤ 1 := (hT.2.1 67) (m.1 227)
        refine T_callx 148 139 [.ref 59, .int (i32 2), .int (i32 ((m.2 66) (m.1 227))), .int (i32 ((m.2 67) (m.1 227)))] [] rfl (fun _ => rfl) rfl rfl (c_sp_add w (mO m [] []) c N D (by omega) hT 2 ((m.2 66) (m.1 227)) ((m.2 67) (m.1 227)) ⟨by decide, by decide⟩ (r32 (by omega) (by omega)) (r32 (by omega) (by omega)) (show (m.1 225) ≤ 47 by omega) (show 0 ≤ (2 : Int) ∧ (2 : Int) ≤ 2 by omega) (show (-1) ≤ ((m.2 66) (m.1 227)) ∧ ((m.2 66) (m.1 227)) ≤ 47 by omega) (show (-1) ≤ ((m.2 67) (m.1 227)) ∧ ((m.2 67) (m.1 227)) ≤ 1 by omega)) (fun rr76 k77 => ?_)
        obtain ⟨m78, sd, Tm78, Fm78, g79, h80, h81, h82, h83, h84, h85, rfl⟩ := k77
        refine Or.inl ⟨_, _, _, _, rfl, ?_⟩
        refine K_nb (st' := [.int (i32 sd)]) rfl ?_
        obtain ⟨g79a, g79b⟩ := g79
        have g86 : 0 ≤ m78.1 225 ∧ m78.1 225 ≤ 48 := Tm78.1 225
        replace h80 : sd = (m.1 225) := h80
        replace h81 : (m78.1 225) = (m.1 225) + 1 := h81
        replace h82 : (m78.2 52) = upI (m.2 52) (m.1 225) (2 : Int) := h82
        have hPk := h82
        replace h83 : (m78.2 55) = upI (m.2 55) (m.1 225) (-1) := h83
        have hPt := h83
        replace h84 : (m78.2 56) = upI (m.2 56) (m.1 225) (-1) := h84
        have hPd := h84
        replace h85 : (m78.2 58) = upI (m.2 58) (m.1 225) (-1) := h85
        have hPr := h85
        have hk0 : (m78.2 52) sd = (2 : Int) := up_at hPk (by omega)
        refine T_sto 150 [(4, .int (i32 sd)), (3, .int (i32 2)), (2, .int (i32 1)), (1, .int (i32 0)), (0, .ref 178)] rfl (fun _ => rfl) ?_
        refine T_ld 151 (.int (i32 0)) rfl (fun _ => rfl) ?_
        refine T_if 163 154 rfl rfl rfl ⟨by decide, by decide⟩ (fun _ => ?_) (fun h87 => absurd (show (0 : Int) = 0 by decide) h87)
        refine T_ld 164 (.int (i32 1)) rfl (fun _ => rfl) ?_
        refine T_if 176 167 rfl rfl rfl ⟨by decide, by decide⟩ (fun h88 => absurd (show (1 : Int) = 0 from h88) (by decide)) (fun _ => ?_)
        refine T_ld 168 (.ref 178) rfl (fun _ => rfl) ?_
        refine T_ld 170 (.int (i32 sd)) rfl (fun _ => rfl) ?_
        refine T_callx 173 141 [.ref 178, .int (i32 sd)] [] rfl (fun _ => rfl) rfl rfl (c_rd_apply w (mO m78 [] []) c N D (by omega) Tm78 sd (r32 (by omega) (by omega)) (show KPp (m78.1 203) (m78.2 8) (m78.2 9) (m78.1 214) (m78.1 215) (m78.1 216) (m78.1 217) (m78.1 221) (m78.1 223) (m78.1 219) by rewrite [(show (m78.1 203) = (m.1 203) from (fr1 Fm78 203 rfl)), (show (m78.2 8) = (m.2 8) from (fr2 Fm78 8 rfl)), (show (m78.2 9) = (m.2 9) from (fr2 Fm78 9 rfl)), (show (m78.1 214) = (m.1 214) from (fr1 Fm78 214 rfl)), (show (m78.1 215) = (m.1 215) from (fr1 Fm78 215 rfl)), (show (m78.1 216) = (m.1 216) from (fr1 Fm78 216 rfl)), (show (m78.1 217) = (m.1 217) from (fr1 Fm78 217 rfl)), (show (m78.1 221) = (m.1 221) from (fr1 Fm78 221 rfl)), (show (m78.1 223) = (m.1 223) from (fr1 Fm78 223 rfl)), (show (m78.1 219) = (m.1 219) from (fr1 Fm78 219 rfl))]; exact pKP) (show 0 ≤ sd ∧ sd ≤ 47 by omega)) (fun rr89 k90 => ?_)
        rcases k90 with ⟨m91, Tm91, Fm91, h92, rfl⟩ | ⟨xx95, m93, hx94, Tm93, Fm93, rfl⟩
        rotate_left
        · skip
          refine Or.inr ⟨_, _, _, _, rfl, ?_⟩
          exact Or.inr ⟨xx95, (mO m93 [] []), (hx94), Tm93, (fr_m (fr_s Fm93 (fr_m (fr_s Fm78 (fr_m fr_0 rfl rfl) rfl rfl) rfl rfl) rfl rfl) rfl rfl), (show NKp (m93.2 18) (m93.2 19) by rewrite [(show (m93.2 18) = (m.2 18) from ((fr2 Fm93 18 rfl).trans (fr2 Fm78 18 rfl))), (show (m93.2 19) = (m.2 19) from ((fr2 Fm93 19 rfl).trans (fr2 Fm78 19 rfl)))]; exact hNK), rfl⟩
        refine Or.inl ⟨_, _, _, _, rfl, ?_⟩
        refine K_nb (st' := []) rfl ?_
        have g96 : (-1) ≤ m91.1 206 ∧ m91.1 206 ≤ 65535 := Tm91.1 206
        have g97 : 0 ≤ m91.1 207 ∧ m91.1 207 ≤ 4001 := Tm91.1 207
        replace h92 : (m91.2 55) = upI (m78.2 55) sd ((m91.2 55) sd) ∧ 0 ≤ (m91.2 55) sd ∧ (m91.2 55) sd < (m78.1 219) := h92
        rewrite [(show (m78.1 219) = (m.1 219) from (fr1 Fm78 219 rfl))] at h92
        have hAy := h92
        have hSP : SPp (m78.1 225) (m78.2 52) (m78.2 58) (m91.2 55) (m78.2 56) (m.1 219) (m.1 224) := SP_new hSP (agr_e hPk (Int.le_refl _)) (agr_e hPr (Int.le_refl _)) (agr_t (agr_e hPt (Int.le_refl _)) (agr_e hAy.1 (by omega)) (Int.le_refl _)) (agr_e hPd (Int.le_refl _)) (by omega) (by omega) (SR_2 (by rw [show ((m.1 225) : Int) = sd by omega]; exact hk0) (by rw [show ((m.1 225) : Int) = sd by omega]; exact hAy.2))
        refine T_goto 191 rfl (fun _ => rfl) ?_
        have hSP : SPp (m78.1 225) (m78.2 52) (m78.2 58) (m91.2 55) (m78.2 56) (m.1 219) (m.1 224) := by first | exact hSP | exact SP_new hSP (agr_e hPk (Int.le_refl _)) (agr_e hPr (Int.le_refl _)) (agr_e hPt (Int.le_refl _)) (agr_t (agr_e hPd (Int.le_refl _)) (agr_u (by omega)) (Int.le_refl _)) (by omega) (by omega) (SR_0c (by rw [show ((m.1 225) : Int) = sd by omega]; exact hk0) (by rw [show ((m.1 225) : Int) = sd by omega, upI_s]; omega))
        refine T_ret rfl (fun _ => rfl) ?_
        exact Or.inl ⟨(mO m91 [] []), Tm91, (fr_m (fr_s Fm91 (fr_m (fr_s Fm78 (fr_m fr_0 rfl rfl) rfl rfl) rfl rfl) rfl rfl) rfl rfl), (show NKp (m91.2 18) (m91.2 19) by rewrite [(show (m91.2 18) = (m.2 18) from ((fr2 Fm91 18 rfl).trans (fr2 Fm78 18 rfl))), (show (m91.2 19) = (m.2 19) from ((fr2 Fm91 19 rfl).trans (fr2 Fm78 19 rfl)))]; first | (exact hNK) | (exfalso; omega)), (show DEp (m91.1 224) (m91.2 45) (m91.2 46) (m91.2 47) (m91.2 49) by rewrite [(show (m91.1 224) = (m.1 224) from ((fr1 Fm91 224 rfl).trans (fr1 Fm78 224 rfl))), (show (m91.2 45) = (m.2 45) from ((fr2 Fm91 45 rfl).trans (fr2 Fm78 45 rfl))), (show (m91.2 46) = (m.2 46) from ((fr2 Fm91 46 rfl).trans (fr2 Fm78 46 rfl))), (show (m91.2 47) = (m.2 47) from ((fr2 Fm91 47 rfl).trans (fr2 Fm78 47 rfl))), (show (m91.2 49) = (m.2 49) from ((fr2 Fm91 49 rfl).trans (fr2 Fm78 49 rfl)))]; first | (exact hDE) | (exfalso; omega)), (show SPp (m91.1 225) (m91.2 52) (m91.2 58) (m91.2 55) (m91.2 56) (m.1 219) (m91.1 224) by rewrite [(show (m91.1 225) = (m78.1 225) from (fr1 Fm91 225 rfl)), (show (m91.2 52) = (m78.2 52) from (fr2 Fm91 52 rfl)), (show (m91.2 58) = (m78.2 58) from (fr2 Fm91 58 rfl)), (show (m91.2 56) = (m78.2 56) from (fr2 Fm91 56 rfl)), (show (m91.1 224) = (m.1 224) from ((fr1 Fm91 224 rfl).trans (fr1 Fm78 224 rfl)))]; first | (exact hSP) | (exfalso; omega)), (show (m91.1 224) ≤ 192 + (m91.1 225) by rewrite [(show (m91.1 224) = (m.1 224) from ((fr1 Fm91 224 rfl).trans (fr1 Fm78 224 rfl))), (show (m91.1 225) = (m78.1 225) from (fr1 Fm91 225 rfl))]; omega), (show (m.1 224) ≤ (m91.1 224) by rewrite [(show (m91.1 224) = (m.1 224) from ((fr1 Fm91 224 rfl).trans (fr1 Fm78 224 rfl)))]; omega), (show (m91.1 227) ≤ 8 by rewrite [(show (m91.1 227) = (m.1 227) from ((fr1 Fm91 227 rfl).trans (fr1 Fm78 227 rfl)))]; omega), rfl⟩
      · skip
        refine T_ld 90 (.ref 178) rfl (fun _ => rfl) ?_
        refine K_gf 93 (.ref 6) rfl rfl kd_178 rfl rfl rfl ?_
        refine T_ld 94 (.int (i32 4)) rfl (fun _ => rfl) ?_
        refine T_ld 95 (.ref 178) rfl (fun _ => rfl) ?_
        refine K_gf 98 (.ref 6) rfl rfl kd_178 rfl rfl rfl ?_
        refine K_gf 101 (.int (i32 (m.1 207))) rfl rfl kd_6 rfl rfl rfl ?_
        refine T_callx 104 51 [.ref 6, .int (i32 4), .int (i32 (m.1 207))] [] rfl (fun _ => rfl) rfl rfl (c_tx_fail w (mO m [] []) c N D (by omega) hT 4 (m.1 207) ⟨by decide, by decide⟩ (r32 (by omega) (by omega)) (show 1 ≤ (4 : Int) ∧ (4 : Int) ≤ 8 by omega) (show 0 ≤ (m.1 207) ∧ (m.1 207) ≤ 4001 by omega)) (fun rr98 k99 => ?_)
        rcases k99 with ⟨m100, Tm100, Fm100, h101, rfl⟩ | ⟨xx104, m102, hx103, Tm102, Fm102, rfl⟩
        rotate_left
        · skip
          refine Or.inr ⟨_, _, _, _, rfl, ?_⟩
          exact Or.inr ⟨xx104, (mO m102 [] []), (hx103), Tm102, (fr_m (fr_s Fm102 (fr_m fr_0 rfl rfl) rfl rfl) rfl rfl), (show NKp (m102.2 18) (m102.2 19) by rewrite [(show (m102.2 18) = (m.2 18) from (fr2 Fm102 18 rfl)), (show (m102.2 19) = (m.2 19) from (fr2 Fm102 19 rfl))]; exact hNK), rfl⟩
        exact h101.elim
  · skip
    refine T_ld 14 (.int (i32 1)) rfl (fun _ => rfl) ?_
    refine T_goto 18 rfl (fun _ => rfl) ?_
    refine T_sto 19 [(1, .int (i32 1)), (0, .ref 178)] rfl (fun _ => rfl) ?_
    refine T_ld 20 (.ref 178) rfl (fun _ => rfl) ?_
    refine K_gf 23 (.ref 6) rfl rfl kd_178 rfl rfl rfl ?_
    refine K_gf 26 (.int (i32 (m.1 206))) rfl rfl kd_6 rfl rfl rfl ?_
    refine T_ld 29 (.int (i32 320)) rfl (fun _ => rfl) ?_
    refine T_icmp 36 32 rfl rfl rfl (r32 (by omega) (by omega)) ⟨by decide, by decide⟩ (fun (h105 : (m.1 206) ≠ 320) => ?_) (fun (h105 : ¬ ((m.1 206) ≠ 320)) => by exfalso; omega)
    refine T_ld 37 (.int (i32 0)) rfl (fun _ => rfl) ?_
    refine T_sto 38 [(2, .int (i32 0)), (1, .int (i32 1)), (0, .ref 178)] rfl (fun _ => rfl) ?_
    refine T_ld 39 (.ref 178) rfl (fun _ => rfl) ?_
    refine K_gf 42 (.ref 6) rfl rfl kd_178 rfl rfl rfl ?_
    refine K_gf 45 (.int (i32 (m.1 206))) rfl rfl kd_6 rfl rfl rfl ?_
    refine T_ld 47 (.int (i32 125)) rfl (fun _ => rfl) ?_
    refine T_icmp 55 50 rfl rfl rfl (r32 (by omega) (by omega)) ⟨by decide, by decide⟩ (fun (h106 : (m.1 206) ≠ 125) => ?_) (fun (h106 : ¬ ((m.1 206) ≠ 125)) => by exfalso; omega)
    refine T_ld 56 (.int (i32 1)) rfl (fun _ => rfl) ?_
    refine T_if 77 59 rfl rfl rfl ⟨by decide, by decide⟩ (fun _ => ?_) (fun h107 => absurd (show (1 : Int) ≠ 0 by decide) h107)
    refine T_ld 78 (.ref 178) rfl (fun _ => rfl) ?_
    refine K_gf 81 (.ref 59) rfl rfl kd_178 rfl rfl rfl ?_
    refine K_gf 84 (.int (i32 (m.1 225))) rfl rfl kd_59 rfl rfl rfl ?_
    refine T_ld 86 (.int (i32 48)) rfl (fun _ => rfl) ?_
    refine T_icmp 104 89 rfl rfl rfl (r32 (by omega) (by omega)) ⟨by decide, by decide⟩ (fun (h108 : (m.1 225) < 48) => ?_) (fun (h108 : ¬ ((m.1 225) < 48)) => ?_)
    · skip
      refine T_ld 105 (.int (i32 1)) rfl (fun _ => rfl) ?_
      refine T_if 112 108 rfl rfl rfl ⟨by decide, by decide⟩ (fun h109 => absurd (show (1 : Int) = 0 from h109) (by decide)) (fun _ => ?_)
      refine T_ld 109 (.int (i32 1)) rfl (fun _ => rfl) ?_
      refine T_goto 121 rfl (fun _ => rfl) ?_
      refine T_sto 122 [(3, .int (i32 1)), (2, .int (i32 0)), (1, .int (i32 1)), (0, .ref 178)] rfl (fun _ => rfl) ?_
      refine T_ld 123 (.ref 178) rfl (fun _ => rfl) ?_
      refine K_gf 126 (.ref 59) rfl rfl kd_178 rfl rfl rfl ?_
      refine T_ld 127 (.int (i32 1)) rfl (fun _ => rfl) ?_
      refine T_ld 128 (.ref 178) rfl (fun _ => rfl) ?_
      refine K_gf 131 (.ref 179) rfl rfl kd_178 rfl rfl rfl ?_
      refine T_ld 132 (.ref 178) rfl (fun _ => rfl) ?_
      refine K_gf 135 (.int (i32 (m.1 227))) rfl rfl kd_178 rfl rfl rfl ?_
      refine K_iald 136 66 (m.2 66) rfl rfl rfl (by omega) (show (m.1 227) < (9 : Int) by omega) rfl ?_
      have e110 : (-1) ≤ (m.2 66) (m.1 227) ∧ (m.2 66) (m.1 227) ≤ 47 := (hT.2.1 66) (m.1 227)
      refine T_ld 137 (.ref 178) rfl (fun _ => rfl) ?_
      refine K_gf 140 (.ref 180) rfl rfl kd_178 rfl rfl rfl ?_
      refine T_ld 141 (.ref 178) rfl (fun _ => rfl) ?_
      refine K_gf 144 (.int (i32 (m.1 227))) rfl rfl kd_178 rfl rfl rfl ?_
      refine K_iald 145 67 (m.2 67) rfl rfl rfl (by omega) (show (m.1 227) < (9 : Int) by omega) rfl ?_
      have e111 : (-1) ≤ (m.2 67) (m.1 227) ∧ (m.2 67) (m.1 227) ≤ 1 := (hT.2.1 67) (m.1 227)
      refine T_callx 148 139 [.ref 59, .int (i32 1), .int (i32 ((m.2 66) (m.1 227))), .int (i32 ((m.2 67) (m.1 227)))] [] rfl (fun _ => rfl) rfl rfl (c_sp_add w (mO m [] []) c N D (by omega) hT 1 ((m.2 66) (m.1 227)) ((m.2 67) (m.1 227)) ⟨by decide, by decide⟩ (r32 (by omega) (by omega)) (r32 (by omega) (by omega)) (show (m.1 225) ≤ 47 by omega) (show 0 ≤ (1 : Int) ∧ (1 : Int) ≤ 2 by omega) (show (-1) ≤ ((m.2 66) (m.1 227)) ∧ ((m.2 66) (m.1 227)) ≤ 47 by omega) (show (-1) ≤ ((m.2 67) (m.1 227)) ∧ ((m.2 67) (m.1 227)) ≤ 1 by omega)) (fun rr112 k113 => ?_)
      obtain ⟨m114, sd, Tm114, Fm114, g115, h116, h117, h118, h119, h120, h121, rfl⟩ := k113
      refine Or.inl ⟨_, _, _, _, rfl, ?_⟩
      refine K_nb (st' := [.int (i32 sd)]) rfl ?_
      obtain ⟨g115a, g115b⟩ := g115
      have g122 : 0 ≤ m114.1 225 ∧ m114.1 225 ≤ 48 := Tm114.1 225
      replace h116 : sd = (m.1 225) := h116
      replace h117 : (m114.1 225) = (m.1 225) + 1 := h117
      replace h118 : (m114.2 52) = upI (m.2 52) (m.1 225) (1 : Int) := h118
      have hPk := h118
      replace h119 : (m114.2 55) = upI (m.2 55) (m.1 225) (-1) := h119
      have hPt := h119
      replace h120 : (m114.2 56) = upI (m.2 56) (m.1 225) (-1) := h120
      have hPd := h120
      replace h121 : (m114.2 58) = upI (m.2 58) (m.1 225) (-1) := h121
      have hPr := h121
      have hk0 : (m114.2 52) sd = (1 : Int) := up_at hPk (by omega)
      refine T_sto 150 [(4, .int (i32 sd)), (3, .int (i32 1)), (2, .int (i32 0)), (1, .int (i32 1)), (0, .ref 178)] rfl (fun _ => rfl) ?_
      refine T_ld 151 (.int (i32 1)) rfl (fun _ => rfl) ?_
      refine T_if 163 154 rfl rfl rfl ⟨by decide, by decide⟩ (fun h123 => absurd (show (1 : Int) = 0 from h123) (by decide)) (fun _ => ?_)
      refine T_ld 155 (.ref 178) rfl (fun _ => rfl) ?_
      refine T_ld 157 (.int (i32 sd)) rfl (fun _ => rfl) ?_
      refine T_callx 160 140 [.ref 178, .int (i32 sd)] [] rfl (fun _ => rfl) rfl rfl (c_rd_openIf w (mO m114 [] []) c N D (by omega) Tm114 sd (r32 (by omega) (by omega)) (show KPp (m114.1 203) (m114.2 8) (m114.2 9) (m114.1 214) (m114.1 215) (m114.1 216) (m114.1 217) (m114.1 221) (m114.1 223) (m114.1 219) by rewrite [(show (m114.1 203) = (m.1 203) from (fr1 Fm114 203 rfl)), (show (m114.2 8) = (m.2 8) from (fr2 Fm114 8 rfl)), (show (m114.2 9) = (m.2 9) from (fr2 Fm114 9 rfl)), (show (m114.1 214) = (m.1 214) from (fr1 Fm114 214 rfl)), (show (m114.1 215) = (m.1 215) from (fr1 Fm114 215 rfl)), (show (m114.1 216) = (m.1 216) from (fr1 Fm114 216 rfl)), (show (m114.1 217) = (m.1 217) from (fr1 Fm114 217 rfl)), (show (m114.1 221) = (m.1 221) from (fr1 Fm114 221 rfl)), (show (m114.1 223) = (m.1 223) from (fr1 Fm114 223 rfl)), (show (m114.1 219) = (m.1 219) from (fr1 Fm114 219 rfl))]; exact pKP) (show NKp (m114.2 18) (m114.2 19) by rewrite [(show (m114.2 18) = (m.2 18) from (fr2 Fm114 18 rfl)), (show (m114.2 19) = (m.2 19) from (fr2 Fm114 19 rfl))]; exact hNK) (show 0 ≤ sd ∧ sd ≤ 47 by omega) (show 1 ≤ (m114.1 227) ∧ (m114.1 227) ≤ 8 by rewrite [(show (m114.1 227) = (m.1 227) from (fr1 Fm114 227 rfl))]; omega)) (fun rr124 k125 => ?_)
      rcases k125 with ⟨m126, Tm126, Fm126, h127, h128, rfl⟩ | ⟨xx132, m129, hx130, Tm129, Fm129, h131, rfl⟩
      rotate_left
      · skip
        refine Or.inr ⟨_, _, _, _, rfl, ?_⟩
        have hNK := h131
        exact Or.inr ⟨xx132, (mO m129 [] []), (hx130), Tm129, (fr_m (fr_s Fm129 (fr_m (fr_s Fm114 (fr_m fr_0 rfl rfl) rfl rfl) rfl rfl) rfl rfl) rfl rfl), (show NKp (m129.2 18) (m129.2 19) by exact hNK), rfl⟩
      refine Or.inl ⟨_, _, _, _, rfl, ?_⟩
      refine K_nb (st' := []) rfl ?_
      have g133 : (-1) ≤ m126.1 206 ∧ m126.1 206 ≤ 65535 := Tm126.1 206
      have g134 : 0 ≤ m126.1 207 ∧ m126.1 207 ≤ 4001 := Tm126.1 207
      have g135 : 0 ≤ m126.1 227 ∧ m126.1 227 ≤ 8 := Tm126.1 227
      replace h127 : NKp (m126.2 18) (m126.2 19) := h127
      have hNK := h127
      replace h128 : (m126.2 58) = upI (m114.2 58) sd ((m126.2 58) sd) ∧ 0 ≤ (m126.2 58) sd := h128
      have hOi := h128
      have hSP : SPp (m114.1 225) (m114.2 52) (m126.2 58) (m114.2 55) (m114.2 56) (m.1 219) (m.1 224) := SP_new hSP (agr_e hPk (Int.le_refl _)) (agr_t (agr_e hPr (Int.le_refl _)) (agr_e hOi.1 (by omega)) (Int.le_refl _)) (agr_e hPt (Int.le_refl _)) (agr_e hPd (Int.le_refl _)) (by omega) (by omega) (SR_1 (by rw [show ((m.1 225) : Int) = sd by omega]; exact hk0) (by rw [show ((m.1 225) : Int) = sd by omega]; exact hOi.2))
      refine T_goto 191 rfl (fun _ => rfl) ?_
      have hSP : SPp (m114.1 225) (m114.2 52) (m126.2 58) (m114.2 55) (m114.2 56) (m.1 219) (m.1 224) := by first | exact hSP | exact SP_new hSP (agr_e hPk (Int.le_refl _)) (agr_e hPr (Int.le_refl _)) (agr_e hPt (Int.le_refl _)) (agr_t (agr_e hPd (Int.le_refl _)) (agr_u (by omega)) (Int.le_refl _)) (by omega) (by omega) (SR_0c (by rw [show ((m.1 225) : Int) = sd by omega]; exact hk0) (by rw [show ((m.1 225) : Int) = sd by omega, upI_s]; omega))
      refine T_ret rfl (fun _ => rfl) ?_
      exact Or.inl ⟨(mO m126 [] []), Tm126, (fr_m (fr_s Fm126 (fr_m (fr_s Fm114 (fr_m fr_0 rfl rfl) rfl rfl) rfl rfl) rfl rfl) rfl rfl), (show NKp (m126.2 18) (m126.2 19) by first | (exact hNK) | (exfalso; omega)), (show DEp (m126.1 224) (m126.2 45) (m126.2 46) (m126.2 47) (m126.2 49) by rewrite [(show (m126.1 224) = (m.1 224) from ((fr1 Fm126 224 rfl).trans (fr1 Fm114 224 rfl))), (show (m126.2 45) = (m.2 45) from ((fr2 Fm126 45 rfl).trans (fr2 Fm114 45 rfl))), (show (m126.2 46) = (m.2 46) from ((fr2 Fm126 46 rfl).trans (fr2 Fm114 46 rfl))), (show (m126.2 47) = (m.2 47) from ((fr2 Fm126 47 rfl).trans (fr2 Fm114 47 rfl))), (show (m126.2 49) = (m.2 49) from ((fr2 Fm126 49 rfl).trans (fr2 Fm114 49 rfl)))]; first | (exact hDE) | (exfalso; omega)), (show SPp (m126.1 225) (m126.2 52) (m126.2 58) (m126.2 55) (m126.2 56) (m.1 219) (m126.1 224) by rewrite [(show (m126.1 225) = (m114.1 225) from (fr1 Fm126 225 rfl)), (show (m126.2 52) = (m114.2 52) from (fr2 Fm126 52 rfl)), (show (m126.2 55) = (m114.2 55) from (fr2 Fm126 55 rfl)), (show (m126.2 56) = (m114.2 56) from (fr2 Fm126 56 rfl)), (show (m126.1 224) = (m.1 224) from ((fr1 Fm126 224 rfl).trans (fr1 Fm114 224 rfl)))]; first | (exact hSP) | (exfalso; omega)), (show (m126.1 224) ≤ 192 + (m126.1 225) by rewrite [(show (m126.1 224) = (m.1 224) from ((fr1 Fm126 224 rfl).trans (fr1 Fm114 224 rfl))), (show (m126.1 225) = (m114.1 225) from (fr1 Fm126 225 rfl))]; omega), (show (m.1 224) ≤ (m126.1 224) by rewrite [(show (m126.1 224) = (m.1 224) from ((fr1 Fm126 224 rfl).trans (fr1 Fm114 224 rfl)))]; omega), (show (m126.1 227) ≤ 8 by omega), rfl⟩
    · skip
      refine T_ld 90 (.ref 178) rfl (fun _ => rfl) ?_
      refine K_gf 93 (.ref 6) rfl rfl kd_178 rfl rfl rfl ?_
      refine T_ld 94 (.int (i32 4)) rfl (fun _ => rfl) ?_
      refine T_ld 95 (.ref 178) rfl (fun _ => rfl) ?_
      refine K_gf 98 (.ref 6) rfl rfl kd_178 rfl rfl rfl ?_
      refine K_gf 101 (.int (i32 (m.1 207))) rfl rfl kd_6 rfl rfl rfl ?_
      refine T_callx 104 51 [.ref 6, .int (i32 4), .int (i32 (m.1 207))] [] rfl (fun _ => rfl) rfl rfl (c_tx_fail w (mO m [] []) c N D (by omega) hT 4 (m.1 207) ⟨by decide, by decide⟩ (r32 (by omega) (by omega)) (show 1 ≤ (4 : Int) ∧ (4 : Int) ≤ 8 by omega) (show 0 ≤ (m.1 207) ∧ (m.1 207) ≤ 4001 by omega)) (fun rr136 k137 => ?_)
      rcases k137 with ⟨m138, Tm138, Fm138, h139, rfl⟩ | ⟨xx142, m140, hx141, Tm140, Fm140, rfl⟩
      rotate_left
      · skip
        refine Or.inr ⟨_, _, _, _, rfl, ?_⟩
        exact Or.inr ⟨xx142, (mO m140 [] []), (hx141), Tm140, (fr_m (fr_s Fm140 (fr_m fr_0 rfl rfl) rfl rfl) rfl rfl), (show NKp (m140.2 18) (m140.2 19) by rewrite [(show (m140.2 18) = (m.2 18) from (fr2 Fm140 18 rfl)), (show (m140.2 19) = (m.2 19) from (fr2 Fm140 19 rfl))]; exact hNK), rfl⟩
      exact h139.elim
def fF_sp_gather : List Nat := []
def fA_sp_gather : List Nat := [60, 61, 62]
def Q_sp_gather (m : mR) (c : Nat → Option am_C) (N : Nat) (s : Int) : ag_Re af_T → Prop := fun R => (∃ (M : mR), KTy M ∧ fr fF_sp_gather fA_sp_gather m M ∧ R = (.inl (none), (khp M c, N), 0, 0))
set_option maxHeartbeats 3000000 in
theorem c_sp_gather (w : wX) (m : mR) (c : Nat → Option am_C) (N D : Nat) (hD : 5 ≤ D) (hT : KTy m) (s : Int) (qs : R32 s) (hNK : NKp (m.2 18) (m.2 19)) (hDE : DEp (m.1 224) (m.2 45) (m.2 46) (m.2 47) (m.2 49)) (hAC : AcP (m.1 223) (m.1 224) (m.2 43) (m.2 44)) (hTL : TLp (m.1 219) (m.2 73) (m.2 83) (m.1 223)) (hTD : LTp (m.1 219) (m.2 74) (m.1 223)) (p5 : 0 ≤ s ∧ s < (m.1 225)) (hSP : SPp (m.1 225) (m.2 52) (m.2 58) (m.2 55) (m.2 56) (m.1 219) (m.1 224)) : TC w D 151 [.ref 59, .ref 12, .int (i32 s)] (khp m c, N) (Q_sp_gather m c N s) := by
  obtain ⟨D, rfl⟩ : ∃ k, D = k + 1 := ⟨D - 1, by omega⟩
  obtain ⟨qsa, qsb⟩ := id qs
  have f219 : 0 ≤ m.1 219 ∧ m.1 219 ≤ 8 := hT.1 219
  have f223 : 0 ≤ m.1 223 ∧ m.1 223 ≤ 16 := hT.1 223
  have f224 : 0 ≤ m.1 224 ∧ m.1 224 ≤ 240 := hT.1 224
  have f225 : 0 ≤ m.1 225 ∧ m.1 225 ≤ 48 := hT.1 225
  refine Tc_of rfl ?_
  rw [show (khp m c, N) = (khp (mO m [] []) c, N) from by rw [mO_nil m]]
  show TT w D pm_151 (0, [(0, .ref 59), (1, .ref 12), (2, .int (i32 s))], [], (khp (mO m [] []) c, N), 0, 0) (Q_sp_gather m c N s)
  refine T_ld 1 (.int (i32 0)) rfl (fun _ => rfl) ?_
  refine T_sto 2 [(3, .int (i32 0)), (0, .ref 59), (1, .ref 12), (2, .int (i32 s))] rfl (fun _ => rfl) ?_
  have L2_3 : ∀ (n9 : Nat) (v1 : Int) (m2 : mR), (R32 v1) → KTy m2 → fr [] [60, 61] (mO m [] []) m2 → (0 ≤ v1) → (0 ≤ v1 ∧ v1 ≤ 4) → 10 - v1 < (n9 : Int) → TT w D pm_151 (2, [(0, .ref 59), (1, .ref 12), (2, .int (i32 s)), (3, .int (i32 v1))], [], (khp (mO m2 [] []) c, N), 0, 0) (Q_sp_gather m c N s) := by
    intro n9
    induction n9 with
    | zero =>
      intro v1 m2 q6 Tm2 Fm2 ic4 ic5 hmu
      obtain ⟨q6a, q6b⟩ := id q6
      exfalso
      omega
    | succ n9 ih =>
      intro v1 m2 q6 Tm2 Fm2 ic4 ic5 hmu
      obtain ⟨q6a, q6b⟩ := id q6
      have ih10 := ih
      refine T_ld 3 (.int (i32 v1)) rfl (fun _ => rfl) ?_
      refine T_ld 4 (.int (i32 4)) rfl (fun _ => rfl) ?_
      refine T_icmp 35 7 rfl rfl rfl (r32 (by omega) (by omega)) ⟨by decide, by decide⟩ (fun (h11 : (4 : Int) ≤ v1) => ?_) (fun (h11 : ¬ ((4 : Int) ≤ v1)) => ?_)
      · skip
        refine T_ld 36 (.ref 59) rfl (fun _ => rfl) ?_
        refine K_gf 39 (.ref 70) rfl rfl kd_59 rfl rfl rfl ?_
        refine T_ld 40 (.int (i32 s)) rfl (fun _ => rfl) ?_
        refine T_ld 41 (.int (i32 0)) rfl (fun _ => rfl) ?_
        have G12 : ∀ j, (-2147483648) ≤ (upI (m.2 62) s 0) j ∧ (upI (m.2 62) s 0) j ≤ 2147483647 := upI_rg (hT.2.1 62) ⟨by omega, by omega⟩
        refine K_iast (a' := [(62, upI (m.2 62) s 0)]) 42 62 (m.2 62) rfl rfl rfl (by omega) (show s < (48 : Int) by omega) (show (m2.2 62) = (m.2 62) from (fr2 Fm2 62 rfl)) rfl ?_
        refine T_ld 43 (.ref 59) rfl (fun _ => rfl) ?_
        refine K_gf 46 (.ref 60) rfl rfl kd_59 rfl rfl rfl ?_
        refine T_ld 47 (.int (i32 s)) rfl (fun _ => rfl) ?_
        refine K_iald 48 52 (m.2 52) rfl rfl rfl (by omega) (show s < (48 : Int) by omega) (show (m2.2 52) = (m.2 52) from (fr2 Fm2 52 rfl)) ?_
        have e13 : 0 ≤ m.2 52 s ∧ m.2 52 s ≤ 2 := hT.2.1 52 s
        refine T_ld 49 (.int (i32 1)) rfl (fun _ => rfl) ?_
        refine T_icmp 76 52 rfl rfl rfl (r32 (by omega) (by omega)) ⟨by decide, by decide⟩ (fun (h14 : (m.2 52) s ≠ 1) => ?_) (fun (h14 : ¬ ((m.2 52) s ≠ 1)) => ?_)
        · skip
          refine T_ld 77 (.ref 59) rfl (fun _ => rfl) ?_
          refine K_gf 80 (.ref 60) rfl rfl kd_59 rfl rfl rfl ?_
          refine T_ld 81 (.int (i32 s)) rfl (fun _ => rfl) ?_
          refine K_iald 82 52 (m.2 52) rfl rfl rfl (by omega) (show s < (48 : Int) by omega) (show (m2.2 52) = (m.2 52) from (fr2 Fm2 52 rfl)) ?_
          have e15 : 0 ≤ m.2 52 s ∧ m.2 52 s ≤ 2 := hT.2.1 52 s
          refine T_if 100 85 rfl rfl rfl (r32 (by omega) (by omega)) (fun (h16 : (m.2 52) s ≠ 0) => ?_) (fun (h16 : ¬ ((m.2 52) s ≠ 0)) => ?_)
          · skip
            refine T_ld 101 (.ref 12) rfl (fun _ => rfl) ?_
            refine K_gf 104 (.ref 21) rfl rfl kd_12 rfl rfl rfl ?_
            refine T_ld 105 (.ref 59) rfl (fun _ => rfl) ?_
            refine K_gf 108 (.ref 63) rfl rfl kd_59 rfl rfl rfl ?_
            refine T_ld 109 (.int (i32 s)) rfl (fun _ => rfl) ?_
            refine K_iald 110 55 (m.2 55) rfl rfl rfl (by omega) (show s < (48 : Int) by omega) (show (m2.2 55) = (m.2 55) from (fr2 Fm2 55 rfl)) ?_
            have e17 : (-1) ≤ m.2 55 s ∧ m.2 55 s ≤ 7 := hT.2.1 55 s
            have hsr := (hSP s (by omega) (by omega)).2.1 (by omega)
            refine K_aatb 111 rfl (by omega) (by omega) rfl ?_
            refine T_sto 112 [(3, .ref (tbr ((m.2 55) s))), (0, .ref 59), (1, .ref 12), (2, .int (i32 s))] rfl (fun _ => rfl) ?_
            refine T_ld 113 (.int (i32 0)) rfl (fun _ => rfl) ?_
            refine T_sto 115 [(4, .int (i32 0)), (3, .ref (tbr ((m.2 55) s))), (0, .ref 59), (1, .ref 12), (2, .int (i32 s))] rfl (fun _ => rfl) ?_
            refine K_fl (KTy_mO Tm2 rfl rfl trivial ⟨G12, trivial⟩) (fun m18 Tm18 Fm18 => ?_)
            have L115_21 : ∀ (n27 : Nat) (v19 : Int) (m20 : mR), (R32 v19) → KTy m20 → fr [] [60] (mO m18 [] []) m20 → (0 ≤ v19) → (0 ≤ v19 ∧ v19 ≤ 4) → 10 - v19 < (n27 : Int) → TT w D pm_151 (115, [(0, .ref 59), (1, .ref 12), (2, .int (i32 s)), (3, .ref (tbr ((m.2 55) s))), (4, .int (i32 v19))], [], (khp (mO m20 [] []) c, N), 0, 0) (Q_sp_gather m c N s) := by
              intro n27
              induction n27 with
              | zero =>
                intro v19 m20 q24 Tm20 Fm20 ic22 ic23 hmu
                obtain ⟨q24a, q24b⟩ := id q24
                exfalso
                omega
              | succ n27 ih =>
                intro v19 m20 q24 Tm20 Fm20 ic22 ic23 hmu
                obtain ⟨q24a, q24b⟩ := id q24
                have ih28 := ih
                refine T_ld 117 (.int (i32 v19)) rfl (fun _ => rfl) ?_
                refine T_ld 118 (.ref (tbr ((m.2 55) s))) rfl (fun _ => rfl) ?_
                refine K_gfi 121 72 (m.2 72) rfl rfl (by omega) (by omega) (show (m20.2 72) = (m.2 72) from ((fr2 Fm20 72 rfl).trans ((fr2 Fm18 72 rfl).trans (fr2 Fm2 72 rfl)))) rfl ?_
                have e29 : 0 ≤ m.2 72 ((m.2 55) s) ∧ m.2 72 ((m.2 55) s) ≤ 4 := hT.2.1 72 ((m.2 55) s)
                refine T_icmp 153 124 rfl rfl rfl (r32 (by omega) (by omega)) (r32 (by omega) (by omega)) (fun (h30 : (m.2 72) ((m.2 55) s) ≤ v19) => ?_) (fun (h30 : ¬ ((m.2 72) ((m.2 55) s) ≤ v19)) => ?_)
                · skip
                  refine T_ld 154 (.int (i32 0)) rfl (fun _ => rfl) ?_
                  refine T_sto 156 [(4, .int (i32 0)), (0, .ref 59), (1, .ref 12), (2, .int (i32 s)), (3, .ref (tbr ((m.2 55) s)))] rfl (fun _ => rfl) ?_
                  have L156_33 : ∀ (n39 : Nat) (v31 : Int) (m32 : mR), (R32 v31) → KTy m32 → fr [] [60, 61, 62] (mO m20 [] []) m32 → (0 ≤ v31) → (0 ≤ v31 ∧ v31 ≤ 8) → 10 - v31 < (n39 : Int) → TT w D pm_151 (156, [(0, .ref 59), (1, .ref 12), (2, .int (i32 s)), (3, .ref (tbr ((m.2 55) s))), (4, .int (i32 v31))], [], (khp (mO m32 [] []) c, N), 0, 0) (Q_sp_gather m c N s) := by
                    intro n39
                    induction n39 with
                    | zero =>
                      intro v31 m32 q36 Tm32 Fm32 ic34 ic35 hmu
                      obtain ⟨q36a, q36b⟩ := id q36
                      exfalso
                      omega
                    | succ n39 ih =>
                      intro v31 m32 q36 Tm32 Fm32 ic34 ic35 hmu
                      obtain ⟨q36a, q36b⟩ := id q36
                      have ih40 := ih
                      refine T_ld 158 (.int (i32 v31)) rfl (fun _ => rfl) ?_
                      refine T_ld 159 (.ref (tbr ((m.2 55) s))) rfl (fun _ => rfl) ?_
                      refine K_gfi 162 73 (m.2 73) rfl rfl (by omega) (by omega) (show (m32.2 73) = (m.2 73) from ((fr2 Fm32 73 rfl).trans ((fr2 Fm20 73 rfl).trans ((fr2 Fm18 73 rfl).trans (fr2 Fm2 73 rfl))))) rfl ?_
                      have e41 : 0 ≤ m.2 73 ((m.2 55) s) ∧ m.2 73 ((m.2 55) s) ≤ 8 := hT.2.1 73 ((m.2 55) s)
                      refine T_icmp 184 165 rfl rfl rfl (r32 (by omega) (by omega)) (r32 (by omega) (by omega)) (fun (h42 : (m.2 73) ((m.2 55) s) ≤ v31) => ?_) (fun (h42 : ¬ ((m.2 73) ((m.2 55) s) ≤ v31)) => ?_)
                      · skip
                        have hld := hTD ((m.2 55) s) (by omega) (by omega)
                        refine T_ld 185 (.ref 59) rfl (fun _ => rfl) ?_
                        refine T_ld 186 (.ref 12) rfl (fun _ => rfl) ?_
                        refine T_ld 187 (.int (i32 s)) rfl (fun _ => rfl) ?_
                        refine T_ld 188 (.ref (tbr ((m.2 55) s))) rfl (fun _ => rfl) ?_
                        refine K_gfi 191 74 (m.2 74) rfl rfl (by omega) (by omega) (show (m32.2 74) = (m.2 74) from ((fr2 Fm32 74 rfl).trans ((fr2 Fm20 74 rfl).trans ((fr2 Fm18 74 rfl).trans (fr2 Fm2 74 rfl))))) rfl ?_
                        have e43 : 0 ≤ m.2 74 ((m.2 55) s) ∧ m.2 74 ((m.2 55) s) ≤ 15 := hT.2.1 74 ((m.2 55) s)
                        refine T_callx 194 155 [.ref 59, .ref 12, .int (i32 s), .int (i32 ((m.2 74) ((m.2 55) s)))] [] rfl (fun _ => rfl) rfl rfl (c_sp_gatherAction w (mO m32 [] []) c N D (by omega) Tm32 s ((m.2 74) ((m.2 55) s)) (r32 (by omega) (by omega)) (r32 (by omega) (by omega)) (show NKp (m32.2 18) (m32.2 19) by rewrite [(show (m32.2 18) = (m.2 18) from ((fr2 Fm32 18 rfl).trans ((fr2 Fm20 18 rfl).trans ((fr2 Fm18 18 rfl).trans (fr2 Fm2 18 rfl))))), (show (m32.2 19) = (m.2 19) from ((fr2 Fm32 19 rfl).trans ((fr2 Fm20 19 rfl).trans ((fr2 Fm18 19 rfl).trans (fr2 Fm2 19 rfl)))))]; exact hNK) (show DEp (m32.1 224) (m32.2 45) (m32.2 46) (m32.2 47) (m32.2 49) by rewrite [(show (m32.1 224) = (m.1 224) from ((fr1 Fm32 224 rfl).trans ((fr1 Fm20 224 rfl).trans ((fr1 Fm18 224 rfl).trans (fr1 Fm2 224 rfl))))), (show (m32.2 45) = (m.2 45) from ((fr2 Fm32 45 rfl).trans ((fr2 Fm20 45 rfl).trans ((fr2 Fm18 45 rfl).trans (fr2 Fm2 45 rfl))))), (show (m32.2 46) = (m.2 46) from ((fr2 Fm32 46 rfl).trans ((fr2 Fm20 46 rfl).trans ((fr2 Fm18 46 rfl).trans (fr2 Fm2 46 rfl))))), (show (m32.2 47) = (m.2 47) from ((fr2 Fm32 47 rfl).trans ((fr2 Fm20 47 rfl).trans ((fr2 Fm18 47 rfl).trans (fr2 Fm2 47 rfl))))), (show (m32.2 49) = (m.2 49) from ((fr2 Fm32 49 rfl).trans ((fr2 Fm20 49 rfl).trans ((fr2 Fm18 49 rfl).trans (fr2 Fm2 49 rfl)))))]; exact hDE) (show AcP (m32.1 223) (m32.1 224) (m32.2 43) (m32.2 44) by rewrite [(show (m32.1 223) = (m.1 223) from ((fr1 Fm32 223 rfl).trans ((fr1 Fm20 223 rfl).trans ((fr1 Fm18 223 rfl).trans (fr1 Fm2 223 rfl))))), (show (m32.1 224) = (m.1 224) from ((fr1 Fm32 224 rfl).trans ((fr1 Fm20 224 rfl).trans ((fr1 Fm18 224 rfl).trans (fr1 Fm2 224 rfl))))), (show (m32.2 43) = (m.2 43) from ((fr2 Fm32 43 rfl).trans ((fr2 Fm20 43 rfl).trans ((fr2 Fm18 43 rfl).trans (fr2 Fm2 43 rfl))))), (show (m32.2 44) = (m.2 44) from ((fr2 Fm32 44 rfl).trans ((fr2 Fm20 44 rfl).trans ((fr2 Fm18 44 rfl).trans (fr2 Fm2 44 rfl)))))]; exact hAC) (show 0 ≤ s ∧ s ≤ 47 by omega) (show 0 ≤ ((m.2 74) ((m.2 55) s)) ∧ ((m.2 74) ((m.2 55) s)) < (m32.1 223) by rewrite [(show (m32.1 223) = (m.1 223) from ((fr1 Fm32 223 rfl).trans ((fr1 Fm20 223 rfl).trans ((fr1 Fm18 223 rfl).trans (fr1 Fm2 223 rfl)))))]; omega)) (fun rr44 k45 => ?_)
                        obtain ⟨m46, Tm46, Fm46, rfl⟩ := k45
                        refine Or.inl ⟨_, _, _, _, rfl, ?_⟩
                        refine K_nb (st' := []) rfl ?_
                        refine T_ret rfl (fun _ => rfl) ?_
                        exact ⟨(mO m46 [] []), Tm46, (fr_m (fr_s Fm46 (fr_m (fr_s Fm32 (fr_m (fr_s Fm20 (fr_m (fr_s Fm18 (fr_m (fr_s Fm2 (fr_m fr_0 rfl rfl) rfl rfl) rfl rfl) rfl rfl) rfl rfl) rfl rfl) rfl rfl) rfl rfl) rfl rfl) rfl rfl) rfl rfl), rfl⟩
                      · skip
                        refine T_ld 166 (.ref 59) rfl (fun _ => rfl) ?_
                        refine T_ld 167 (.ref 12) rfl (fun _ => rfl) ?_
                        refine T_ld 168 (.int (i32 s)) rfl (fun _ => rfl) ?_
                        refine T_ld 169 (.ref (tbr ((m.2 55) s))) rfl (fun _ => rfl) ?_
                        refine K_gfr 172 rfl rfl (by omega) (by omega) rfl ?_
                        refine T_ld 174 (.int (i32 v31)) rfl (fun _ => rfl) ?_
                        refine K_ialt 175 4 (m.2 83) rfl rfl rfl (by omega) (by omega) (by omega) (show v31 < (8 : Int) by omega) (show (m32.2 83) = (m.2 83) from ((fr2 Fm32 83 rfl).trans ((fr2 Fm20 83 rfl).trans ((fr2 Fm18 83 rfl).trans (fr2 Fm2 83 rfl))))) ?_
                        have e47 : 0 ≤ m.2 83 (65536 * ((m.2 55) s) + v31) ∧ m.2 83 (65536 * ((m.2 55) s) + v31) ≤ 15 := hT.2.1 83 (65536 * ((m.2 55) s) + v31)
                        have hla := hTL ((m.2 55) s) (by omega) (by omega) v31 (by omega) (by omega)
                        refine T_callx 178 155 [.ref 59, .ref 12, .int (i32 s), .int (i32 ((m.2 83) (65536 * ((m.2 55) s) + v31)))] [] rfl (fun _ => rfl) rfl rfl (c_sp_gatherAction w (mO m32 [] []) c N D (by omega) Tm32 s ((m.2 83) (65536 * ((m.2 55) s) + v31)) (r32 (by omega) (by omega)) (r32 (by omega) (by omega)) (show NKp (m32.2 18) (m32.2 19) by rewrite [(show (m32.2 18) = (m.2 18) from ((fr2 Fm32 18 rfl).trans ((fr2 Fm20 18 rfl).trans ((fr2 Fm18 18 rfl).trans (fr2 Fm2 18 rfl))))), (show (m32.2 19) = (m.2 19) from ((fr2 Fm32 19 rfl).trans ((fr2 Fm20 19 rfl).trans ((fr2 Fm18 19 rfl).trans (fr2 Fm2 19 rfl)))))]; exact hNK) (show DEp (m32.1 224) (m32.2 45) (m32.2 46) (m32.2 47) (m32.2 49) by rewrite [(show (m32.1 224) = (m.1 224) from ((fr1 Fm32 224 rfl).trans ((fr1 Fm20 224 rfl).trans ((fr1 Fm18 224 rfl).trans (fr1 Fm2 224 rfl))))), (show (m32.2 45) = (m.2 45) from ((fr2 Fm32 45 rfl).trans ((fr2 Fm20 45 rfl).trans ((fr2 Fm18 45 rfl).trans (fr2 Fm2 45 rfl))))), (show (m32.2 46) = (m.2 46) from ((fr2 Fm32 46 rfl).trans ((fr2 Fm20 46 rfl).trans ((fr2 Fm18 46 rfl).trans (fr2 Fm2 46 rfl))))), (show (m32.2 47) = (m.2 47) from ((fr2 Fm32 47 rfl).trans ((fr2 Fm20 47 rfl).trans ((fr2 Fm18 47 rfl).trans (fr2 Fm2 47 rfl))))), (show (m32.2 49) = (m.2 49) from ((fr2 Fm32 49 rfl).trans ((fr2 Fm20 49 rfl).trans ((fr2 Fm18 49 rfl).trans (fr2 Fm2 49 rfl)))))]; exact hDE) (show AcP (m32.1 223) (m32.1 224) (m32.2 43) (m32.2 44) by rewrite [(show (m32.1 223) = (m.1 223) from ((fr1 Fm32 223 rfl).trans ((fr1 Fm20 223 rfl).trans ((fr1 Fm18 223 rfl).trans (fr1 Fm2 223 rfl))))), (show (m32.1 224) = (m.1 224) from ((fr1 Fm32 224 rfl).trans ((fr1 Fm20 224 rfl).trans ((fr1 Fm18 224 rfl).trans (fr1 Fm2 224 rfl))))), (show (m32.2 43) = (m.2 43) from ((fr2 Fm32 43 rfl).trans ((fr2 Fm20 43 rfl).trans ((fr2 Fm18 43 rfl).trans (fr2 Fm2 43 rfl))))), (show (m32.2 44) = (m.2 44) from ((fr2 Fm32 44 rfl).trans ((fr2 Fm20 44 rfl).trans ((fr2 Fm18 44 rfl).trans (fr2 Fm2 44 rfl)))))]; exact hAC) (show 0 ≤ s ∧ s ≤ 47 by omega) (show 0 ≤ ((m.2 83) (65536 * ((m.2 55) s) + v31)) ∧ ((m.2 83) (65536 * ((m.2 55) s) + v31)) < (m32.1 223) by rewrite [(show (m32.1 223) = (m.1 223) from ((fr1 Fm32 223 rfl).trans ((fr1 Fm20 223 rfl).trans ((fr1 Fm18 223 rfl).trans (fr1 Fm2 223 rfl)))))]; omega)) (fun rr48 k49 => ?_)
                        obtain ⟨m50, Tm50, Fm50, rfl⟩ := k49
                        refine Or.inl ⟨_, _, _, _, rfl, ?_⟩
                        refine K_nb (st' := []) rfl ?_
                        refine T_iinc 181 [(4, .int (i32 (v31 + 1))), (0, .ref 59), (1, .ref 12), (2, .int (i32 s)), (3, .ref (tbr ((m.2 55) s)))] rfl rfl (by decide) rfl rfl ?_
                        refine T_goto 156 rfl (fun _ => rfl) ?_
                        refine Tm_lv (a := [(0, .ref 59), (1, .ref 12), (2, .int (i32 s)), (3, .ref (tbr ((m.2 55) s))), (4, .int (i32 (v31 + 1)))]) rfl rfl ⟨rfl, rfl, rfl, rfl, rfl, trivial⟩ ?_
                        exact ih40 (v31 + 1) (mO m50 [] []) (r32 (by omega) (by omega)) Tm50 (fr_m (fr_s Fm50 (fr_m (fr_s Fm32 (fr_m fr_0 rfl rfl) rfl rfl) rfl rfl) rfl rfl) rfl rfl) (show 0 ≤ (v31 + 1) by omega) (show 0 ≤ (v31 + 1) ∧ (v31 + 1) ≤ 8 by omega) (show 10 - (v31 + 1) < (n39 : Int) by omega)
                  refine Tm_lv (a := [(0, .ref 59), (1, .ref 12), (2, .int (i32 s)), (3, .ref (tbr ((m.2 55) s))), (4, .int (i32 0))]) rfl rfl ⟨rfl, rfl, rfl, rfl, rfl, trivial⟩ ?_
                  exact L156_33 ((10 - (0 : Int) : Int) + 1).toNat 0 (mO m20 [] []) ⟨by decide, by decide⟩ Tm20 (fr_m fr_0 rfl rfl) (show 0 ≤ (0 : Int) by omega) (show 0 ≤ (0 : Int) ∧ (0 : Int) ≤ 8 by omega) (show 10 - (0 : Int) < ((((10 - (0 : Int) : Int) + 1).toNat : Nat) : Int) by omega)
                · skip
                  refine T_ld 125 (.ref 59) rfl (fun _ => rfl) ?_
                  refine T_ld 126 (.ref 12) rfl (fun _ => rfl) ?_
                  refine K_gf 129 (.ref 22) rfl rfl kd_12 rfl rfl rfl ?_
                  refine T_ld 130 (.int (i32 s)) rfl (fun _ => rfl) ?_
                  refine T_ld 131 (.ref (tbr ((m.2 55) s))) rfl (fun _ => rfl) ?_
                  refine K_gfr 134 rfl rfl (by omega) (by omega) rfl ?_
                  refine T_ld 136 (.int (i32 v19)) rfl (fun _ => rfl) ?_
                  refine K_ialt 137 0 (m.2 79) rfl rfl rfl (by omega) (by omega) (by omega) (show v19 < (4 : Int) by omega) (show (m20.2 79) = (m.2 79) from ((fr2 Fm20 79 rfl).trans ((fr2 Fm18 79 rfl).trans (fr2 Fm2 79 rfl)))) ?_
                  have e51 : 0 ≤ m.2 79 (65536 * ((m.2 55) s) + v19) ∧ m.2 79 (65536 * ((m.2 55) s) + v19) ≤ 1090 := hT.2.1 79 (65536 * ((m.2 55) s) + v19)
                  refine T_ld 138 (.ref (tbr ((m.2 55) s))) rfl (fun _ => rfl) ?_
                  refine K_gfr 141 rfl rfl (by omega) (by omega) rfl ?_
                  refine T_ld 143 (.int (i32 v19)) rfl (fun _ => rfl) ?_
                  refine K_ialt 144 1 (m.2 80) rfl rfl rfl (by omega) (by omega) (by omega) (show v19 < (4 : Int) by omega) (show (m20.2 80) = (m.2 80) from ((fr2 Fm20 80 rfl).trans ((fr2 Fm18 80 rfl).trans (fr2 Fm2 80 rfl)))) ?_
                  have e52 : 0 ≤ m.2 80 (65536 * ((m.2 55) s) + v19) ∧ m.2 80 (65536 * ((m.2 55) s) + v19) ≤ 1089 := hT.2.1 80 (65536 * ((m.2 55) s) + v19)
                  refine T_callx 147 152 [.ref 59, .ref 22, .int (i32 s), .int (i32 ((m.2 79) (65536 * ((m.2 55) s) + v19))), .int (i32 ((m.2 80) (65536 * ((m.2 55) s) + v19)))] [] rfl (fun _ => rfl) rfl rfl (c_sp_gatherExpr w (mO m20 [] []) c N D (by omega) Tm20 s ((m.2 79) (65536 * ((m.2 55) s) + v19)) ((m.2 80) (65536 * ((m.2 55) s) + v19)) (r32 (by omega) (by omega)) (r32 (by omega) (by omega)) (r32 (by omega) (by omega)) (show NKp (m20.2 18) (m20.2 19) by rewrite [(show (m20.2 18) = (m.2 18) from ((fr2 Fm20 18 rfl).trans ((fr2 Fm18 18 rfl).trans (fr2 Fm2 18 rfl)))), (show (m20.2 19) = (m.2 19) from ((fr2 Fm20 19 rfl).trans ((fr2 Fm18 19 rfl).trans (fr2 Fm2 19 rfl))))]; exact hNK) (show 0 ≤ s ∧ s ≤ 47 by omega) (show 0 ≤ ((m.2 79) (65536 * ((m.2 55) s) + v19)) ∧ ((m.2 79) (65536 * ((m.2 55) s) + v19)) ≤ 1090 by omega) (show (-1) ≤ ((m.2 80) (65536 * ((m.2 55) s) + v19)) ∧ ((m.2 80) (65536 * ((m.2 55) s) + v19)) ≤ 1089 by omega)) (fun rr53 k54 => ?_)
                  obtain ⟨m55, Tm55, Fm55, rfl⟩ := k54
                  refine Or.inl ⟨_, _, _, _, rfl, ?_⟩
                  refine K_nb (st' := []) rfl ?_
                  refine T_iinc 150 [(4, .int (i32 (v19 + 1))), (0, .ref 59), (1, .ref 12), (2, .int (i32 s)), (3, .ref (tbr ((m.2 55) s)))] rfl rfl (by decide) rfl rfl ?_
                  refine T_goto 115 rfl (fun _ => rfl) ?_
                  refine Tm_lv (a := [(0, .ref 59), (1, .ref 12), (2, .int (i32 s)), (3, .ref (tbr ((m.2 55) s))), (4, .int (i32 (v19 + 1)))]) rfl rfl ⟨rfl, rfl, rfl, rfl, rfl, trivial⟩ ?_
                  exact ih28 (v19 + 1) (mO m55 [] []) (r32 (by omega) (by omega)) Tm55 (fr_m (fr_s Fm55 (fr_m (fr_s Fm20 (fr_m fr_0 rfl rfl) rfl rfl) rfl rfl) rfl rfl) rfl rfl) (show 0 ≤ (v19 + 1) by omega) (show 0 ≤ (v19 + 1) ∧ (v19 + 1) ≤ 4 by omega) (show 10 - (v19 + 1) < (n27 : Int) by omega)
            refine Tm_lv (a := [(0, .ref 59), (1, .ref 12), (2, .int (i32 s)), (3, .ref (tbr ((m.2 55) s))), (4, .int (i32 0))]) rfl rfl ⟨rfl, rfl, rfl, rfl, rfl, trivial⟩ ?_
            exact L115_21 ((10 - (0 : Int) : Int) + 1).toNat 0 (mO m18 [] []) ⟨by decide, by decide⟩ Tm18 (fr_m fr_0 rfl rfl) (show 0 ≤ (0 : Int) by omega) (show 0 ≤ (0 : Int) ∧ (0 : Int) ≤ 4 by omega) (show 10 - (0 : Int) < ((((10 - (0 : Int) : Int) + 1).toNat : Nat) : Int) by omega)
          · skip
            have hsr := (hSP s (by omega) (by omega)).2.2 (by omega)
            refine T_ld 86 (.ref 59) rfl (fun _ => rfl) ?_
            refine T_ld 87 (.ref 12) rfl (fun _ => rfl) ?_
            refine T_ld 88 (.int (i32 s)) rfl (fun _ => rfl) ?_
            refine T_ld 89 (.ref 59) rfl (fun _ => rfl) ?_
            refine K_gf 92 (.ref 64) rfl rfl kd_59 rfl rfl rfl ?_
            refine T_ld 93 (.int (i32 s)) rfl (fun _ => rfl) ?_
            refine K_iald 94 56 (m.2 56) rfl rfl rfl (by omega) (show s < (48 : Int) by omega) (show (m2.2 56) = (m.2 56) from (fr2 Fm2 56 rfl)) ?_
            have e56 : (-1) ≤ m.2 56 s ∧ m.2 56 s ≤ 239 := hT.2.1 56 s
            have hRW := hDE ((m.2 56) s) (by omega) (by omega)
            refine T_callx 97 154 [.ref 59, .ref 12, .int (i32 s), .int (i32 ((m.2 56) s))] [] rfl (fun _ => rfl) rfl rfl (c_sp_gatherDeed w (mO m2 [] [(62, upI (m.2 62) s 0)]) c N D (by omega) (KTy_mO Tm2 rfl rfl trivial ⟨G12, trivial⟩) s ((m.2 56) s) (r32 (by omega) (by omega)) (r32 (by omega) (by omega)) (show NKp (m2.2 18) (m2.2 19) by rewrite [(show (m2.2 18) = (m.2 18) from (fr2 Fm2 18 rfl)), (show (m2.2 19) = (m.2 19) from (fr2 Fm2 19 rfl))]; exact hNK) (show 0 ≤ s ∧ s ≤ 47 by omega) (show 0 ≤ ((m.2 56) s) ∧ ((m.2 56) s) ≤ 239 by omega) (show RWp ((m2.2 45) ((m.2 56) s)) ((m2.2 46) ((m.2 56) s)) ((m2.2 47) ((m.2 56) s)) ((m2.2 49) ((m.2 56) s)) by rewrite [(show (m2.2 45) = (m.2 45) from (fr2 Fm2 45 rfl)), (show (m2.2 46) = (m.2 46) from (fr2 Fm2 46 rfl)), (show (m2.2 47) = (m.2 47) from (fr2 Fm2 47 rfl)), (show (m2.2 49) = (m.2 49) from (fr2 Fm2 49 rfl))]; exact hRW)) (fun rr57 k58 => ?_)
            obtain ⟨m59, Tm59, Fm59, rfl⟩ := k58
            refine Or.inl ⟨_, _, _, _, rfl, ?_⟩
            refine K_nb (st' := []) rfl ?_
            refine T_goto 194 rfl (fun _ => rfl) ?_
            refine T_ret rfl (fun _ => rfl) ?_
            exact ⟨(mO m59 [] []), Tm59, (fr_m (fr_s Fm59 (fr_m (fr_s Fm2 (fr_m fr_0 rfl rfl) rfl rfl) rfl rfl) rfl rfl) rfl rfl), rfl⟩
        · skip
          have hsr := (hSP s (by omega) (by omega)).1 (by omega)
          refine T_ld 53 (.ref 59) rfl (fun _ => rfl) ?_
          refine T_ld 54 (.ref 12) rfl (fun _ => rfl) ?_
          refine K_gf 57 (.ref 22) rfl rfl kd_12 rfl rfl rfl ?_
          refine T_ld 58 (.int (i32 s)) rfl (fun _ => rfl) ?_
          refine T_ld 59 (.ref 59) rfl (fun _ => rfl) ?_
          refine K_gf 62 (.ref 65) rfl rfl kd_59 rfl rfl rfl ?_
          refine T_ld 63 (.int (i32 s)) rfl (fun _ => rfl) ?_
          refine K_iald 64 57 (m.2 57) rfl rfl rfl (by omega) (show s < (48 : Int) by omega) (show (m2.2 57) = (m.2 57) from (fr2 Fm2 57 rfl)) ?_
          have e60 : 0 ≤ m.2 57 s ∧ m.2 57 s ≤ 1090 := hT.2.1 57 s
          refine T_ld 65 (.ref 59) rfl (fun _ => rfl) ?_
          refine K_gf 68 (.ref 66) rfl rfl kd_59 rfl rfl rfl ?_
          refine T_ld 69 (.int (i32 s)) rfl (fun _ => rfl) ?_
          refine K_iald 70 58 (m.2 58) rfl rfl rfl (by omega) (show s < (48 : Int) by omega) (show (m2.2 58) = (m.2 58) from (fr2 Fm2 58 rfl)) ?_
          have e61 : (-1) ≤ m.2 58 s ∧ m.2 58 s ≤ 1089 := hT.2.1 58 s
          refine T_callx 73 152 [.ref 59, .ref 22, .int (i32 s), .int (i32 ((m.2 57) s)), .int (i32 ((m.2 58) s))] [] rfl (fun _ => rfl) rfl rfl (c_sp_gatherExpr w (mO m2 [] [(62, upI (m.2 62) s 0)]) c N D (by omega) (KTy_mO Tm2 rfl rfl trivial ⟨G12, trivial⟩) s ((m.2 57) s) ((m.2 58) s) (r32 (by omega) (by omega)) (r32 (by omega) (by omega)) (r32 (by omega) (by omega)) (show NKp (m2.2 18) (m2.2 19) by rewrite [(show (m2.2 18) = (m.2 18) from (fr2 Fm2 18 rfl)), (show (m2.2 19) = (m.2 19) from (fr2 Fm2 19 rfl))]; exact hNK) (show 0 ≤ s ∧ s ≤ 47 by omega) (show 0 ≤ ((m.2 57) s) ∧ ((m.2 57) s) ≤ 1090 by omega) (show (-1) ≤ ((m.2 58) s) ∧ ((m.2 58) s) ≤ 1089 by omega)) (fun rr62 k63 => ?_)
          obtain ⟨m64, Tm64, Fm64, rfl⟩ := k63
          refine Or.inl ⟨_, _, _, _, rfl, ?_⟩
          refine K_nb (st' := []) rfl ?_
          refine T_goto 194 rfl (fun _ => rfl) ?_
          refine T_ret rfl (fun _ => rfl) ?_
          exact ⟨(mO m64 [] []), Tm64, (fr_m (fr_s Fm64 (fr_m (fr_s Fm2 (fr_m fr_0 rfl rfl) rfl rfl) rfl rfl) rfl rfl) rfl rfl), rfl⟩
      · skip
        refine T_ld 8 (.ref 59) rfl (fun _ => rfl) ?_
        refine K_gf 11 (.ref 68) rfl rfl kd_59 rfl rfl rfl ?_
        refine T_ld 12 (.int (i32 s)) rfl (fun _ => rfl) ?_
        refine T_ld 13 (.int (i32 4)) rfl (fun _ => rfl) ?_
        refine T_imul 14 rfl rfl ?_
        refine T_ld 15 (.int (i32 v1)) rfl (fun _ => rfl) ?_
        refine T_iadd 16 rfl rfl ?_
        refine T_ld 17 (.long (i64 0)) rfl (fun _ => rfl) ?_
        have G65 : ∀ j, (-9223372036854775808) ≤ (upI (m2.2 60) ((s * 4) + v1) 0) j ∧ (upI (m2.2 60) ((s * 4) + v1) 0) j ≤ 9223372036854775807 := upI_rg (Tm2.2.1 60) ⟨by omega, by omega⟩
        refine K_last (a' := [(60, upI (m2.2 60) ((s * 4) + v1) 0)]) 18 60 (m2.2 60) rfl rfl rfl (by omega) (show ((s * 4) + v1) < (192 : Int) by omega) rfl rfl ?_
        refine T_ld 19 (.ref 59) rfl (fun _ => rfl) ?_
        refine K_gf 22 (.ref 69) rfl rfl kd_59 rfl rfl rfl ?_
        refine T_ld 23 (.int (i32 s)) rfl (fun _ => rfl) ?_
        refine T_ld 24 (.int (i32 4)) rfl (fun _ => rfl) ?_
        refine T_imul 25 rfl rfl ?_
        refine T_ld 26 (.int (i32 v1)) rfl (fun _ => rfl) ?_
        refine T_iadd 27 rfl rfl ?_
        refine T_ld 28 (.long (i64 0)) rfl (fun _ => rfl) ?_
        have G66 : ∀ j, (-9223372036854775808) ≤ (upI (m2.2 61) ((s * 4) + v1) 0) j ∧ (upI (m2.2 61) ((s * 4) + v1) 0) j ≤ 9223372036854775807 := upI_rg (Tm2.2.1 61) ⟨by omega, by omega⟩
        refine K_last (a' := [(60, upI (m2.2 60) ((s * 4) + v1) 0), (61, upI (m2.2 61) ((s * 4) + v1) 0)]) 29 61 (m2.2 61) rfl rfl rfl (by omega) (show ((s * 4) + v1) < (192 : Int) by omega) rfl rfl ?_
        refine T_iinc 32 [(3, .int (i32 (v1 + 1))), (0, .ref 59), (1, .ref 12), (2, .int (i32 s))] rfl rfl (by decide) rfl rfl ?_
        refine T_goto 2 rfl (fun _ => rfl) ?_
        refine Tm_lv (a := [(0, .ref 59), (1, .ref 12), (2, .int (i32 s)), (3, .int (i32 (v1 + 1)))]) rfl rfl ⟨rfl, rfl, rfl, rfl, trivial⟩ ?_
        exact ih10 (v1 + 1) (mO m2 [] [(60, upI (m2.2 60) ((s * 4) + v1) 0), (61, upI (m2.2 61) ((s * 4) + v1) 0)]) (r32 (by omega) (by omega)) (KTy_mO Tm2 rfl rfl trivial ⟨G65, G66, trivial⟩) (fr_m (fr_s Fm2 (fr_m fr_0 rfl rfl) rfl rfl) rfl rfl) (show 0 ≤ (v1 + 1) by omega) (show 0 ≤ (v1 + 1) ∧ (v1 + 1) ≤ 4 by omega) (show 10 - (v1 + 1) < (n9 : Int) by omega)
  refine Tm_lv (a := [(0, .ref 59), (1, .ref 12), (2, .int (i32 s)), (3, .int (i32 0))]) rfl rfl ⟨rfl, rfl, rfl, rfl, trivial⟩ ?_
  exact L2_3 ((10 - (0 : Int) : Int) + 1).toNat 0 (mO m [] []) ⟨by decide, by decide⟩ hT (fr_m fr_0 rfl rfl) (show 0 ≤ (0 : Int) by omega) (show 0 ≤ (0 : Int) ∧ (0 : Int) ≤ 4 by omega) (show 10 - (0 : Int) < ((((10 - (0 : Int) : Int) + 1).toNat : Nat) : Int) by omega)
def Q_nd_reckon (m : mR) (c : Nat → Option am_C) (N : Nat) (k : Int) (x : Int) (y : Int) (u : Int) : ag_Re af_T → Prop := fun R => (∃ (r : Int), ((-9223372036854775808) ≤ r ∧ r ≤ 9223372036854775807) ∧ R = (.inl (some (.long (i64 r))), (khp m c, N), 0, 0))
set_option maxHeartbeats 3000000 in
theorem c_nd_reckon (w : wX) (m : mR) (c : Nat → Option am_C) (N D : Nat) (hD : 1 ≤ D) (hT : KTy m) (k : Int) (x : Int) (y : Int) (u : Int) (qk : R32 k) (qx : R64 x) (qy : R64 y) (qu : R32 u) : TC w D 184 [.ref 22, .int (i32 k), .long (i64 x), .long (i64 y), .int (i32 u)] (khp m c, N) (Q_nd_reckon m c N k x y u) := by
  obtain ⟨D, rfl⟩ : ∃ k, D = k + 1 := ⟨D - 1, by omega⟩
  obtain ⟨qka, qkb⟩ := id qk
  obtain ⟨qxa, qxb⟩ := id qx
  obtain ⟨qya, qyb⟩ := id qy
  obtain ⟨qua, qub⟩ := id qu
  refine Tc_of rfl ?_
  rw [show (khp m c, N) = (khp (mO m [] []) c, N) from by rw [mO_nil m]]
  show TT w D pm_184 (0, [(0, .ref 22), (1, .int (i32 k)), (2, .long (i64 x)), (4, .long (i64 y)), (6, .int (i32 u))], [], (khp (mO m [] []) c, N), 0, 0) (Q_nd_reckon m c N k x y u)
  refine T_ld 2 (.long (i64 y)) rfl (fun _ => rfl) ?_
  refine T_ld 3 (.long (i64 0)) rfl (fun _ => rfl) ?_
  refine T_lcmp 4 rfl rfl (r64 (by omega) (by omega)) ⟨by decide, by decide⟩ (fun z1 h2 => ?_)
  obtain ⟨h2a, h2b, h2c, h2d, h2e⟩ := h2
  refine T_if 20 7 rfl rfl rfl (r32 (by omega) (by omega)) (fun (h3 : z1 < 0) => ?_) (fun (h3 : ¬ (z1 < 0)) => ?_)
  · skip
    have hl4 : y < 0 := by omega
    refine T_ld 21 (.int (i32 0)) rfl (fun _ => rfl) ?_
    refine T_sto 23 [(7, .int (i32 0)), (0, .ref 22), (1, .int (i32 k)), (2, .long (i64 x)), (4, .long (i64 y)), (6, .int (i32 u))] rfl (fun _ => rfl) ?_
    refine T_ld 24 (.int (i32 k)) rfl (fun _ => rfl) ?_
    have T213_5 : (k = 38 ∨ k = 9766) → TT w D pm_184 (213, [(7, .int (i32 0)), (0, .ref 22), (1, .int (i32 k)), (2, .long (i64 x)), (4, .long (i64 y)), (6, .int (i32 u))], [], (khp (mO m [] []) c, N), 0, 0) (Q_nd_reckon m c N k x y u) := by
      intro ht6
      refine T_ld 214 (.long (i64 x)) rfl (fun _ => rfl) ?_
      refine T_ld 216 (.long (i64 y)) rfl (fun _ => rfl) ?_
      refine T_lhv 217 _ rfl (fun _ => rfl) (fun z7 h8 => ?_)
      obtain ⟨h8a, h8b⟩ := h8
      refine T_ret rfl (fun _ => rfl) ?_
      exact ⟨z7, ⟨by omega, by omega⟩, rfl⟩
    have T218_9 : (k = 124 ∨ k = 31868) → TT w D pm_184 (218, [(7, .int (i32 0)), (0, .ref 22), (1, .int (i32 k)), (2, .long (i64 x)), (4, .long (i64 y)), (6, .int (i32 u))], [], (khp (mO m [] []) c, N), 0, 0) (Q_nd_reckon m c N k x y u) := by
      intro ht10
      refine T_ld 219 (.long (i64 x)) rfl (fun _ => rfl) ?_
      refine T_ld 221 (.long (i64 y)) rfl (fun _ => rfl) ?_
      refine T_lhv 222 _ rfl (fun _ => rfl) (fun z11 h12 => ?_)
      obtain ⟨h12a, h12b⟩ := h12
      refine T_ret rfl (fun _ => rfl) ?_
      exact ⟨z11, ⟨by omega, by omega⟩, rfl⟩
    by_cases h13 : k = 33
    · skip
      refine T_cast 33 h13 ?_
      refine T_pop 199 rfl (fun _ => rfl) ?_
      refine T_ld 200 (.long (i64 x)) rfl (fun _ => rfl) ?_
      refine T_ld 201 (.long (i64 1)) rfl (fun _ => rfl) ?_
      refine T_lhv 202 _ rfl (fun _ => rfl) (fun z14 h15 => ?_)
      obtain ⟨h15a, h15b⟩ := h15
      refine T_ret rfl (fun _ => rfl) ?_
      exact ⟨z14, ⟨by omega, by omega⟩, rfl⟩
    by_cases h16 : k = 38
    · skip
      refine T_cast 38 h16 ?_
      refine T_pop 213 rfl (fun _ => rfl) ?_
      exact T213_5 (by omega)
    by_cases h17 : k = 43
    · skip
      refine T_cast 43 h17 ?_
      refine T_pop 203 rfl (fun _ => rfl) ?_
      refine T_ld 204 (.long (i64 x)) rfl (fun _ => rfl) ?_
      refine T_ld 206 (.long (i64 y)) rfl (fun _ => rfl) ?_
      refine T_ladd 207 rfl rfl ?_
      refine T_lnm (fun z18 h19 => ?_)
      obtain ⟨h19a, h19b⟩ := h19
      refine T_ret rfl (fun _ => rfl) ?_
      exact ⟨z18, ⟨by omega, by omega⟩, rfl⟩
    by_cases h20 : k = 45
    · skip
      refine T_cast 45 h20 ?_
      refine T_pop 208 rfl (fun _ => rfl) ?_
      refine T_ld 209 (.long (i64 x)) rfl (fun _ => rfl) ?_
      refine T_ld 211 (.long (i64 y)) rfl (fun _ => rfl) ?_
      refine T_lsub 212 rfl rfl ?_
      refine T_lnm (fun z21 h22 => ?_)
      obtain ⟨h22a, h22b⟩ := h22
      refine T_ret rfl (fun _ => rfl) ?_
      exact ⟨z21, ⟨by omega, by omega⟩, rfl⟩
    by_cases h23 : k = 60
    · skip
      refine T_cast 60 h23 ?_
      refine T_pop 284 rfl (fun _ => rfl) ?_
      refine T_ld 285 (.long (i64 x)) rfl (fun _ => rfl) ?_
      refine T_ld 288 (.long (i64 (-9223372036854775808))) rfl (fun _ => rfl) ?_
      refine T_ladd 289 rfl rfl ?_
      refine T_lnm (fun z24 h25 => ?_)
      obtain ⟨h25a, h25b⟩ := h25
      refine T_ld 291 (.long (i64 y)) rfl (fun _ => rfl) ?_
      refine T_ld 294 (.long (i64 (-9223372036854775808))) rfl (fun _ => rfl) ?_
      refine T_ladd 295 rfl rfl ?_
      refine T_lnm (fun z26 h27 => ?_)
      obtain ⟨h27a, h27b⟩ := h27
      refine T_lcmp 296 rfl rfl (r64 (by omega) (by omega)) (r64 (by omega) (by omega)) (fun z28 h29 => ?_)
      obtain ⟨h29a, h29b, h29c, h29d, h29e⟩ := h29
      refine T_if 303 299 rfl rfl rfl (r32 (by omega) (by omega)) (fun (h30 : (0 : Int) ≤ z28) => ?_) (fun (h30 : ¬ ((0 : Int) ≤ z28)) => ?_)
      · skip
        have hl31 : z24 ≥ z26 := by omega
        refine T_ld 304 (.long (i64 0)) rfl (fun _ => rfl) ?_
        refine T_ret rfl (fun _ => rfl) ?_
        exact ⟨0, ⟨by omega, by omega⟩, rfl⟩
      · skip
        have hl32 : z24 < z26 := by omega
        refine T_ld 300 (.long (i64 1)) rfl (fun _ => rfl) ?_
        refine T_goto 304 rfl (fun _ => rfl) ?_
        refine T_ret rfl (fun _ => rfl) ?_
        exact ⟨1, ⟨by omega, by omega⟩, rfl⟩
    by_cases h33 : k = 62
    · skip
      refine T_cast 62 h33 ?_
      refine T_pop 326 rfl (fun _ => rfl) ?_
      refine T_ld 327 (.long (i64 x)) rfl (fun _ => rfl) ?_
      refine T_ld 330 (.long (i64 (-9223372036854775808))) rfl (fun _ => rfl) ?_
      refine T_ladd 331 rfl rfl ?_
      refine T_lnm (fun z34 h35 => ?_)
      obtain ⟨h35a, h35b⟩ := h35
      refine T_ld 333 (.long (i64 y)) rfl (fun _ => rfl) ?_
      refine T_ld 336 (.long (i64 (-9223372036854775808))) rfl (fun _ => rfl) ?_
      refine T_ladd 337 rfl rfl ?_
      refine T_lnm (fun z36 h37 => ?_)
      obtain ⟨h37a, h37b⟩ := h37
      refine T_lcmp 338 rfl rfl (r64 (by omega) (by omega)) (r64 (by omega) (by omega)) (fun z38 h39 => ?_)
      obtain ⟨h39a, h39b, h39c, h39d, h39e⟩ := h39
      refine T_if 345 341 rfl rfl rfl (r32 (by omega) (by omega)) (fun (h40 : z38 ≤ 0) => ?_) (fun (h40 : ¬ (z38 ≤ 0)) => ?_)
      · skip
        have hl41 : z34 ≤ z36 := by omega
        refine T_ld 346 (.long (i64 0)) rfl (fun _ => rfl) ?_
        refine T_ret rfl (fun _ => rfl) ?_
        exact ⟨0, ⟨by omega, by omega⟩, rfl⟩
      · skip
        have hl42 : z34 > z36 := by omega
        refine T_ld 342 (.long (i64 1)) rfl (fun _ => rfl) ?_
        refine T_goto 346 rfl (fun _ => rfl) ?_
        refine T_ret rfl (fun _ => rfl) ?_
        exact ⟨1, ⟨by omega, by omega⟩, rfl⟩
    by_cases h43 : k = 94
    · skip
      refine T_cast 94 h43 ?_
      refine T_pop 223 rfl (fun _ => rfl) ?_
      refine T_ld 224 (.long (i64 x)) rfl (fun _ => rfl) ?_
      refine T_ld 226 (.long (i64 y)) rfl (fun _ => rfl) ?_
      refine T_lhv 227 _ rfl (fun _ => rfl) (fun z44 h45 => ?_)
      obtain ⟨h45a, h45b⟩ := h45
      refine T_ret rfl (fun _ => rfl) ?_
      exact ⟨z44, ⟨by omega, by omega⟩, rfl⟩
    by_cases h46 : k = 124
    · skip
      refine T_cast 124 h46 ?_
      refine T_pop 218 rfl (fun _ => rfl) ?_
      exact T218_9 (by omega)
    by_cases h47 : k = 126
    · skip
      refine T_cast 126 h47 ?_
      refine T_pop 193 rfl (fun _ => rfl) ?_
      refine T_ld 194 (.long (i64 x)) rfl (fun _ => rfl) ?_
      refine T_ld 197 (.long (i64 (-1))) rfl (fun _ => rfl) ?_
      refine T_lhv 198 _ rfl (fun _ => rfl) (fun z48 h49 => ?_)
      obtain ⟨h49a, h49b⟩ := h49
      refine T_ret rfl (fun _ => rfl) ?_
      exact ⟨z48, ⟨by omega, by omega⟩, rfl⟩
    by_cases h50 : k = 403
    · skip
      refine T_cast 403 h50 ?_
      refine T_pop 188 rfl (fun _ => rfl) ?_
      refine T_ld 189 (.long (i64 x)) rfl (fun _ => rfl) ?_
      refine T_ret rfl (fun _ => rfl) ?_
      exact ⟨x, ⟨by omega, by omega⟩, rfl⟩
    by_cases h51 : k = 405
    · skip
      refine T_cast 405 h51 ?_
      refine T_pop 190 rfl (fun _ => rfl) ?_
      refine T_ld 191 (.long (i64 x)) rfl (fun _ => rfl) ?_
      refine T_lhv 192 _ rfl (fun _ => rfl) (fun z52 h53 => ?_)
      obtain ⟨h53a, h53b⟩ := h53
      refine T_ret rfl (fun _ => rfl) ?_
      exact ⟨z52, ⟨by omega, by omega⟩, rfl⟩
    by_cases h54 : k = 8509
    · skip
      refine T_cast 8509 h54 ?_
      refine T_pop 271 rfl (fun _ => rfl) ?_
      refine T_ld 272 (.long (i64 x)) rfl (fun _ => rfl) ?_
      refine T_ld 274 (.long (i64 y)) rfl (fun _ => rfl) ?_
      refine T_lcmp 275 rfl rfl (r64 (by omega) (by omega)) (r64 (by omega) (by omega)) (fun z55 h56 => ?_)
      obtain ⟨h56a, h56b, h56c, h56d, h56e⟩ := h56
      refine T_if 282 278 rfl rfl rfl (r32 (by omega) (by omega)) (fun (h57 : z55 = 0) => ?_) (fun (h57 : ¬ (z55 = 0)) => ?_)
      · skip
        have hl58 : x = y := by omega
        refine T_ld 283 (.long (i64 0)) rfl (fun _ => rfl) ?_
        refine T_ret rfl (fun _ => rfl) ?_
        exact ⟨0, ⟨by omega, by omega⟩, rfl⟩
      · skip
        have hl59 : x ≠ y := by omega
        refine T_ld 279 (.long (i64 1)) rfl (fun _ => rfl) ?_
        refine T_goto 283 rfl (fun _ => rfl) ?_
        refine T_ret rfl (fun _ => rfl) ?_
        exact ⟨1, ⟨by omega, by omega⟩, rfl⟩
    by_cases h60 : k = 9766
    · skip
      refine T_cast 9766 h60 ?_
      refine T_pop 213 rfl (fun _ => rfl) ?_
      exact T213_5 (by omega)
    by_cases h61 : k = 15420
    · skip
      refine T_cast 15420 h61 ?_
      refine T_pop 228 rfl (fun _ => rfl) ?_
      refine T_ld 230 (.int (i32 0)) rfl (fun _ => rfl) ?_
      refine T_if 241 233 rfl rfl rfl ⟨by decide, by decide⟩ (fun _ => ?_) (fun h62 => absurd (show (0 : Int) = 0 by decide) h62)
      refine T_ld 242 (.long (i64 0)) rfl (fun _ => rfl) ?_
      refine T_ret rfl (fun _ => rfl) ?_
      exact ⟨0, ⟨by omega, by omega⟩, rfl⟩
    by_cases h63 : k = 15421
    · skip
      refine T_cast 15421 h63 ?_
      refine T_pop 305 rfl (fun _ => rfl) ?_
      refine T_ld 306 (.long (i64 x)) rfl (fun _ => rfl) ?_
      refine T_ld 309 (.long (i64 (-9223372036854775808))) rfl (fun _ => rfl) ?_
      refine T_ladd 310 rfl rfl ?_
      refine T_lnm (fun z64 h65 => ?_)
      obtain ⟨h65a, h65b⟩ := h65
      refine T_ld 312 (.long (i64 y)) rfl (fun _ => rfl) ?_
      refine T_ld 315 (.long (i64 (-9223372036854775808))) rfl (fun _ => rfl) ?_
      refine T_ladd 316 rfl rfl ?_
      refine T_lnm (fun z66 h67 => ?_)
      obtain ⟨h67a, h67b⟩ := h67
      refine T_lcmp 317 rfl rfl (r64 (by omega) (by omega)) (r64 (by omega) (by omega)) (fun z68 h69 => ?_)
      obtain ⟨h69a, h69b, h69c, h69d, h69e⟩ := h69
      refine T_if 324 320 rfl rfl rfl (r32 (by omega) (by omega)) (fun (h70 : (0 : Int) < z68) => ?_) (fun (h70 : ¬ ((0 : Int) < z68)) => ?_)
      · skip
        have hl71 : z64 > z66 := by omega
        refine T_ld 325 (.long (i64 0)) rfl (fun _ => rfl) ?_
        refine T_ret rfl (fun _ => rfl) ?_
        exact ⟨0, ⟨by omega, by omega⟩, rfl⟩
      · skip
        have hl72 : z64 ≤ z66 := by omega
        refine T_ld 321 (.long (i64 1)) rfl (fun _ => rfl) ?_
        refine T_goto 325 rfl (fun _ => rfl) ?_
        refine T_ret rfl (fun _ => rfl) ?_
        exact ⟨1, ⟨by omega, by omega⟩, rfl⟩
    by_cases h73 : k = 15677
    · skip
      refine T_cast 15677 h73 ?_
      refine T_pop 258 rfl (fun _ => rfl) ?_
      refine T_ld 259 (.long (i64 x)) rfl (fun _ => rfl) ?_
      refine T_ld 261 (.long (i64 y)) rfl (fun _ => rfl) ?_
      refine T_lcmp 262 rfl rfl (r64 (by omega) (by omega)) (r64 (by omega) (by omega)) (fun z74 h75 => ?_)
      obtain ⟨h75a, h75b, h75c, h75d, h75e⟩ := h75
      refine T_if 269 265 rfl rfl rfl (r32 (by omega) (by omega)) (fun (h76 : z74 ≠ 0) => ?_) (fun (h76 : ¬ (z74 ≠ 0)) => ?_)
      · skip
        have hl77 : x ≠ y := by omega
        refine T_ld 270 (.long (i64 0)) rfl (fun _ => rfl) ?_
        refine T_ret rfl (fun _ => rfl) ?_
        exact ⟨0, ⟨by omega, by omega⟩, rfl⟩
      · skip
        have hl78 : x = y := by omega
        refine T_ld 266 (.long (i64 1)) rfl (fun _ => rfl) ?_
        refine T_goto 270 rfl (fun _ => rfl) ?_
        refine T_ret rfl (fun _ => rfl) ?_
        exact ⟨1, ⟨by omega, by omega⟩, rfl⟩
    by_cases h79 : k = 15933
    · skip
      refine T_cast 15933 h79 ?_
      refine T_pop 347 rfl (fun _ => rfl) ?_
      refine T_ld 348 (.long (i64 x)) rfl (fun _ => rfl) ?_
      refine T_ld 351 (.long (i64 (-9223372036854775808))) rfl (fun _ => rfl) ?_
      refine T_ladd 352 rfl rfl ?_
      refine T_lnm (fun z80 h81 => ?_)
      obtain ⟨h81a, h81b⟩ := h81
      refine T_ld 354 (.long (i64 y)) rfl (fun _ => rfl) ?_
      refine T_ld 357 (.long (i64 (-9223372036854775808))) rfl (fun _ => rfl) ?_
      refine T_ladd 358 rfl rfl ?_
      refine T_lnm (fun z82 h83 => ?_)
      obtain ⟨h83a, h83b⟩ := h83
      refine T_lcmp 359 rfl rfl (r64 (by omega) (by omega)) (r64 (by omega) (by omega)) (fun z84 h85 => ?_)
      obtain ⟨h85a, h85b, h85c, h85d, h85e⟩ := h85
      refine T_if 366 362 rfl rfl rfl (r32 (by omega) (by omega)) (fun (h86 : z84 < 0) => ?_) (fun (h86 : ¬ (z84 < 0)) => ?_)
      · skip
        have hl87 : z80 < z82 := by omega
        refine T_ld 367 (.long (i64 0)) rfl (fun _ => rfl) ?_
        refine T_ret rfl (fun _ => rfl) ?_
        exact ⟨0, ⟨by omega, by omega⟩, rfl⟩
      · skip
        have hl88 : z80 ≥ z82 := by omega
        refine T_ld 363 (.long (i64 1)) rfl (fun _ => rfl) ?_
        refine T_goto 367 rfl (fun _ => rfl) ?_
        refine T_ret rfl (fun _ => rfl) ?_
        exact ⟨1, ⟨by omega, by omega⟩, rfl⟩
    by_cases h89 : k = 15934
    · skip
      refine T_cast 15934 h89 ?_
      refine T_pop 243 rfl (fun _ => rfl) ?_
      refine T_ld 245 (.int (i32 0)) rfl (fun _ => rfl) ?_
      refine T_if 256 248 rfl rfl rfl ⟨by decide, by decide⟩ (fun _ => ?_) (fun h90 => absurd (show (0 : Int) = 0 by decide) h90)
      refine T_ld 257 (.long (i64 0)) rfl (fun _ => rfl) ?_
      refine T_ret rfl (fun _ => rfl) ?_
      exact ⟨0, ⟨by omega, by omega⟩, rfl⟩
    by_cases h91 : k = 31868
    · skip
      refine T_cast 31868 h91 ?_
      refine T_pop 218 rfl (fun _ => rfl) ?_
      exact T218_9 (by omega)
    refine T_lkd 368 rfl rfl (r32 (by omega) (by omega)) (by simp [Op.lookupswitch.offset, show ¬ ((33 : Int) = k) by omega, show ¬ ((38 : Int) = k) by omega, show ¬ ((43 : Int) = k) by omega, show ¬ ((45 : Int) = k) by omega, show ¬ ((60 : Int) = k) by omega, show ¬ ((62 : Int) = k) by omega, show ¬ ((94 : Int) = k) by omega, show ¬ ((124 : Int) = k) by omega, show ¬ ((126 : Int) = k) by omega, show ¬ ((403 : Int) = k) by omega, show ¬ ((405 : Int) = k) by omega, show ¬ ((8509 : Int) = k) by omega, show ¬ ((9766 : Int) = k) by omega, show ¬ ((15420 : Int) = k) by omega, show ¬ ((15421 : Int) = k) by omega, show ¬ ((15677 : Int) = k) by omega, show ¬ ((15933 : Int) = k) by omega, show ¬ ((15934 : Int) = k) by omega, show ¬ ((31868 : Int) = k) by omega]) ?_
    refine T_ld 369 (.long (i64 0)) rfl (fun _ => rfl) ?_
    refine T_ret rfl (fun _ => rfl) ?_
    exact ⟨0, ⟨by omega, by omega⟩, rfl⟩
  · skip
    have hl92 : y ≥ 0 := by omega
    refine T_ld 9 (.long (i64 y)) rfl (fun _ => rfl) ?_
    refine T_ld 11 (.int (i32 u)) rfl (fun _ => rfl) ?_
    refine T_i2l 12 rfl rfl (r32 (by omega) (by omega)) ?_
    refine T_lcmp 13 rfl rfl (r64 (by omega) (by omega)) (r64 (by omega) (by omega)) (fun z93 h94 => ?_)
    obtain ⟨h94a, h94b, h94c, h94d, h94e⟩ := h94
    refine T_if 20 16 rfl rfl rfl (r32 (by omega) (by omega)) (fun (h95 : (0 : Int) ≤ z93) => ?_) (fun (h95 : ¬ ((0 : Int) ≤ z93)) => ?_)
    · skip
      have hl96 : y ≥ u := by omega
      refine T_ld 21 (.int (i32 0)) rfl (fun _ => rfl) ?_
      refine T_sto 23 [(7, .int (i32 0)), (0, .ref 22), (1, .int (i32 k)), (2, .long (i64 x)), (4, .long (i64 y)), (6, .int (i32 u))] rfl (fun _ => rfl) ?_
      refine T_ld 24 (.int (i32 k)) rfl (fun _ => rfl) ?_
      have T213_97 : (k = 38 ∨ k = 9766) → TT w D pm_184 (213, [(7, .int (i32 0)), (0, .ref 22), (1, .int (i32 k)), (2, .long (i64 x)), (4, .long (i64 y)), (6, .int (i32 u))], [], (khp (mO m [] []) c, N), 0, 0) (Q_nd_reckon m c N k x y u) := by
        intro ht98
        refine T_ld 214 (.long (i64 x)) rfl (fun _ => rfl) ?_
        refine T_ld 216 (.long (i64 y)) rfl (fun _ => rfl) ?_
        refine T_lhv 217 _ rfl (fun _ => rfl) (fun z99 h100 => ?_)
        obtain ⟨h100a, h100b⟩ := h100
        refine T_ret rfl (fun _ => rfl) ?_
        exact ⟨z99, ⟨by omega, by omega⟩, rfl⟩
      have T218_101 : (k = 124 ∨ k = 31868) → TT w D pm_184 (218, [(7, .int (i32 0)), (0, .ref 22), (1, .int (i32 k)), (2, .long (i64 x)), (4, .long (i64 y)), (6, .int (i32 u))], [], (khp (mO m [] []) c, N), 0, 0) (Q_nd_reckon m c N k x y u) := by
        intro ht102
        refine T_ld 219 (.long (i64 x)) rfl (fun _ => rfl) ?_
        refine T_ld 221 (.long (i64 y)) rfl (fun _ => rfl) ?_
        refine T_lhv 222 _ rfl (fun _ => rfl) (fun z103 h104 => ?_)
        obtain ⟨h104a, h104b⟩ := h104
        refine T_ret rfl (fun _ => rfl) ?_
        exact ⟨z103, ⟨by omega, by omega⟩, rfl⟩
      by_cases h105 : k = 33
      · skip
        refine T_cast 33 h105 ?_
        refine T_pop 199 rfl (fun _ => rfl) ?_
        refine T_ld 200 (.long (i64 x)) rfl (fun _ => rfl) ?_
        refine T_ld 201 (.long (i64 1)) rfl (fun _ => rfl) ?_
        refine T_lhv 202 _ rfl (fun _ => rfl) (fun z106 h107 => ?_)
        obtain ⟨h107a, h107b⟩ := h107
        refine T_ret rfl (fun _ => rfl) ?_
        exact ⟨z106, ⟨by omega, by omega⟩, rfl⟩
      by_cases h108 : k = 38
      · skip
        refine T_cast 38 h108 ?_
        refine T_pop 213 rfl (fun _ => rfl) ?_
        exact T213_97 (by omega)
      by_cases h109 : k = 43
      · skip
        refine T_cast 43 h109 ?_
        refine T_pop 203 rfl (fun _ => rfl) ?_
        refine T_ld 204 (.long (i64 x)) rfl (fun _ => rfl) ?_
        refine T_ld 206 (.long (i64 y)) rfl (fun _ => rfl) ?_
        refine T_ladd 207 rfl rfl ?_
        refine T_lnm (fun z110 h111 => ?_)
        obtain ⟨h111a, h111b⟩ := h111
        refine T_ret rfl (fun _ => rfl) ?_
        exact ⟨z110, ⟨by omega, by omega⟩, rfl⟩
      by_cases h112 : k = 45
      · skip
        refine T_cast 45 h112 ?_
        refine T_pop 208 rfl (fun _ => rfl) ?_
        refine T_ld 209 (.long (i64 x)) rfl (fun _ => rfl) ?_
        refine T_ld 211 (.long (i64 y)) rfl (fun _ => rfl) ?_
        refine T_lsub 212 rfl rfl ?_
        refine T_lnm (fun z113 h114 => ?_)
        obtain ⟨h114a, h114b⟩ := h114
        refine T_ret rfl (fun _ => rfl) ?_
        exact ⟨z113, ⟨by omega, by omega⟩, rfl⟩
      by_cases h115 : k = 60
      · skip
        refine T_cast 60 h115 ?_
        refine T_pop 284 rfl (fun _ => rfl) ?_
        refine T_ld 285 (.long (i64 x)) rfl (fun _ => rfl) ?_
        refine T_ld 288 (.long (i64 (-9223372036854775808))) rfl (fun _ => rfl) ?_
        refine T_ladd 289 rfl rfl ?_
        refine T_lnm (fun z116 h117 => ?_)
        obtain ⟨h117a, h117b⟩ := h117
        refine T_ld 291 (.long (i64 y)) rfl (fun _ => rfl) ?_
        refine T_ld 294 (.long (i64 (-9223372036854775808))) rfl (fun _ => rfl) ?_
        refine T_ladd 295 rfl rfl ?_
        refine T_lnm (fun z118 h119 => ?_)
        obtain ⟨h119a, h119b⟩ := h119
        refine T_lcmp 296 rfl rfl (r64 (by omega) (by omega)) (r64 (by omega) (by omega)) (fun z120 h121 => ?_)
        obtain ⟨h121a, h121b, h121c, h121d, h121e⟩ := h121
        refine T_if 303 299 rfl rfl rfl (r32 (by omega) (by omega)) (fun (h122 : (0 : Int) ≤ z120) => ?_) (fun (h122 : ¬ ((0 : Int) ≤ z120)) => ?_)
        · skip
          have hl123 : z116 ≥ z118 := by omega
          refine T_ld 304 (.long (i64 0)) rfl (fun _ => rfl) ?_
          refine T_ret rfl (fun _ => rfl) ?_
          exact ⟨0, ⟨by omega, by omega⟩, rfl⟩
        · skip
          have hl124 : z116 < z118 := by omega
          refine T_ld 300 (.long (i64 1)) rfl (fun _ => rfl) ?_
          refine T_goto 304 rfl (fun _ => rfl) ?_
          refine T_ret rfl (fun _ => rfl) ?_
          exact ⟨1, ⟨by omega, by omega⟩, rfl⟩
      by_cases h125 : k = 62
      · skip
        refine T_cast 62 h125 ?_
        refine T_pop 326 rfl (fun _ => rfl) ?_
        refine T_ld 327 (.long (i64 x)) rfl (fun _ => rfl) ?_
        refine T_ld 330 (.long (i64 (-9223372036854775808))) rfl (fun _ => rfl) ?_
        refine T_ladd 331 rfl rfl ?_
        refine T_lnm (fun z126 h127 => ?_)
        obtain ⟨h127a, h127b⟩ := h127
        refine T_ld 333 (.long (i64 y)) rfl (fun _ => rfl) ?_
        refine T_ld 336 (.long (i64 (-9223372036854775808))) rfl (fun _ => rfl) ?_
        refine T_ladd 337 rfl rfl ?_
        refine T_lnm (fun z128 h129 => ?_)
        obtain ⟨h129a, h129b⟩ := h129
        refine T_lcmp 338 rfl rfl (r64 (by omega) (by omega)) (r64 (by omega) (by omega)) (fun z130 h131 => ?_)
        obtain ⟨h131a, h131b, h131c, h131d, h131e⟩ := h131
        refine T_if 345 341 rfl rfl rfl (r32 (by omega) (by omega)) (fun (h132 : z130 ≤ 0) => ?_) (fun (h132 : ¬ (z130 ≤ 0)) => ?_)
        · skip
          have hl133 : z126 ≤ z128 := by omega
          refine T_ld 346 (.long (i64 0)) rfl (fun _ => rfl) ?_
          refine T_ret rfl (fun _ => rfl) ?_
          exact ⟨0, ⟨by omega, by omega⟩, rfl⟩
        · skip
          have hl134 : z126 > z128 := by omega
          refine T_ld 342 (.long (i64 1)) rfl (fun _ => rfl) ?_
          refine T_goto 346 rfl (fun _ => rfl) ?_
          refine T_ret rfl (fun _ => rfl) ?_
          exact ⟨1, ⟨by omega, by omega⟩, rfl⟩
      by_cases h135 : k = 94
      · skip
        refine T_cast 94 h135 ?_
        refine T_pop 223 rfl (fun _ => rfl) ?_
        refine T_ld 224 (.long (i64 x)) rfl (fun _ => rfl) ?_
        refine T_ld 226 (.long (i64 y)) rfl (fun _ => rfl) ?_
        refine T_lhv 227 _ rfl (fun _ => rfl) (fun z136 h137 => ?_)
        obtain ⟨h137a, h137b⟩ := h137
        refine T_ret rfl (fun _ => rfl) ?_
        exact ⟨z136, ⟨by omega, by omega⟩, rfl⟩
      by_cases h138 : k = 124
      · skip
        refine T_cast 124 h138 ?_
        refine T_pop 218 rfl (fun _ => rfl) ?_
        exact T218_101 (by omega)
      by_cases h139 : k = 126
      · skip
        refine T_cast 126 h139 ?_
        refine T_pop 193 rfl (fun _ => rfl) ?_
        refine T_ld 194 (.long (i64 x)) rfl (fun _ => rfl) ?_
        refine T_ld 197 (.long (i64 (-1))) rfl (fun _ => rfl) ?_
        refine T_lhv 198 _ rfl (fun _ => rfl) (fun z140 h141 => ?_)
        obtain ⟨h141a, h141b⟩ := h141
        refine T_ret rfl (fun _ => rfl) ?_
        exact ⟨z140, ⟨by omega, by omega⟩, rfl⟩
      by_cases h142 : k = 403
      · skip
        refine T_cast 403 h142 ?_
        refine T_pop 188 rfl (fun _ => rfl) ?_
        refine T_ld 189 (.long (i64 x)) rfl (fun _ => rfl) ?_
        refine T_ret rfl (fun _ => rfl) ?_
        exact ⟨x, ⟨by omega, by omega⟩, rfl⟩
      by_cases h143 : k = 405
      · skip
        refine T_cast 405 h143 ?_
        refine T_pop 190 rfl (fun _ => rfl) ?_
        refine T_ld 191 (.long (i64 x)) rfl (fun _ => rfl) ?_
        refine T_lhv 192 _ rfl (fun _ => rfl) (fun z144 h145 => ?_)
        obtain ⟨h145a, h145b⟩ := h145
        refine T_ret rfl (fun _ => rfl) ?_
        exact ⟨z144, ⟨by omega, by omega⟩, rfl⟩
      by_cases h146 : k = 8509
      · skip
        refine T_cast 8509 h146 ?_
        refine T_pop 271 rfl (fun _ => rfl) ?_
        refine T_ld 272 (.long (i64 x)) rfl (fun _ => rfl) ?_
        refine T_ld 274 (.long (i64 y)) rfl (fun _ => rfl) ?_
        refine T_lcmp 275 rfl rfl (r64 (by omega) (by omega)) (r64 (by omega) (by omega)) (fun z147 h148 => ?_)
        obtain ⟨h148a, h148b, h148c, h148d, h148e⟩ := h148
        refine T_if 282 278 rfl rfl rfl (r32 (by omega) (by omega)) (fun (h149 : z147 = 0) => ?_) (fun (h149 : ¬ (z147 = 0)) => ?_)
        · skip
          have hl150 : x = y := by omega
          refine T_ld 283 (.long (i64 0)) rfl (fun _ => rfl) ?_
          refine T_ret rfl (fun _ => rfl) ?_
          exact ⟨0, ⟨by omega, by omega⟩, rfl⟩
        · skip
          have hl151 : x ≠ y := by omega
          refine T_ld 279 (.long (i64 1)) rfl (fun _ => rfl) ?_
          refine T_goto 283 rfl (fun _ => rfl) ?_
          refine T_ret rfl (fun _ => rfl) ?_
          exact ⟨1, ⟨by omega, by omega⟩, rfl⟩
      by_cases h152 : k = 9766
      · skip
        refine T_cast 9766 h152 ?_
        refine T_pop 213 rfl (fun _ => rfl) ?_
        exact T213_97 (by omega)
      by_cases h153 : k = 15420
      · skip
        refine T_cast 15420 h153 ?_
        refine T_pop 228 rfl (fun _ => rfl) ?_
        refine T_ld 230 (.int (i32 0)) rfl (fun _ => rfl) ?_
        refine T_if 241 233 rfl rfl rfl ⟨by decide, by decide⟩ (fun _ => ?_) (fun h154 => absurd (show (0 : Int) = 0 by decide) h154)
        refine T_ld 242 (.long (i64 0)) rfl (fun _ => rfl) ?_
        refine T_ret rfl (fun _ => rfl) ?_
        exact ⟨0, ⟨by omega, by omega⟩, rfl⟩
      by_cases h155 : k = 15421
      · skip
        refine T_cast 15421 h155 ?_
        refine T_pop 305 rfl (fun _ => rfl) ?_
        refine T_ld 306 (.long (i64 x)) rfl (fun _ => rfl) ?_
        refine T_ld 309 (.long (i64 (-9223372036854775808))) rfl (fun _ => rfl) ?_
        refine T_ladd 310 rfl rfl ?_
        refine T_lnm (fun z156 h157 => ?_)
        obtain ⟨h157a, h157b⟩ := h157
        refine T_ld 312 (.long (i64 y)) rfl (fun _ => rfl) ?_
        refine T_ld 315 (.long (i64 (-9223372036854775808))) rfl (fun _ => rfl) ?_
        refine T_ladd 316 rfl rfl ?_
        refine T_lnm (fun z158 h159 => ?_)
        obtain ⟨h159a, h159b⟩ := h159
        refine T_lcmp 317 rfl rfl (r64 (by omega) (by omega)) (r64 (by omega) (by omega)) (fun z160 h161 => ?_)
        obtain ⟨h161a, h161b, h161c, h161d, h161e⟩ := h161
        refine T_if 324 320 rfl rfl rfl (r32 (by omega) (by omega)) (fun (h162 : (0 : Int) < z160) => ?_) (fun (h162 : ¬ ((0 : Int) < z160)) => ?_)
        · skip
          have hl163 : z156 > z158 := by omega
          refine T_ld 325 (.long (i64 0)) rfl (fun _ => rfl) ?_
          refine T_ret rfl (fun _ => rfl) ?_
          exact ⟨0, ⟨by omega, by omega⟩, rfl⟩
        · skip
          have hl164 : z156 ≤ z158 := by omega
          refine T_ld 321 (.long (i64 1)) rfl (fun _ => rfl) ?_
          refine T_goto 325 rfl (fun _ => rfl) ?_
          refine T_ret rfl (fun _ => rfl) ?_
          exact ⟨1, ⟨by omega, by omega⟩, rfl⟩
      by_cases h165 : k = 15677
      · skip
        refine T_cast 15677 h165 ?_
        refine T_pop 258 rfl (fun _ => rfl) ?_
        refine T_ld 259 (.long (i64 x)) rfl (fun _ => rfl) ?_
        refine T_ld 261 (.long (i64 y)) rfl (fun _ => rfl) ?_
        refine T_lcmp 262 rfl rfl (r64 (by omega) (by omega)) (r64 (by omega) (by omega)) (fun z166 h167 => ?_)
        obtain ⟨h167a, h167b, h167c, h167d, h167e⟩ := h167
        refine T_if 269 265 rfl rfl rfl (r32 (by omega) (by omega)) (fun (h168 : z166 ≠ 0) => ?_) (fun (h168 : ¬ (z166 ≠ 0)) => ?_)
        · skip
          have hl169 : x ≠ y := by omega
          refine T_ld 270 (.long (i64 0)) rfl (fun _ => rfl) ?_
          refine T_ret rfl (fun _ => rfl) ?_
          exact ⟨0, ⟨by omega, by omega⟩, rfl⟩
        · skip
          have hl170 : x = y := by omega
          refine T_ld 266 (.long (i64 1)) rfl (fun _ => rfl) ?_
          refine T_goto 270 rfl (fun _ => rfl) ?_
          refine T_ret rfl (fun _ => rfl) ?_
          exact ⟨1, ⟨by omega, by omega⟩, rfl⟩
      by_cases h171 : k = 15933
      · skip
        refine T_cast 15933 h171 ?_
        refine T_pop 347 rfl (fun _ => rfl) ?_
        refine T_ld 348 (.long (i64 x)) rfl (fun _ => rfl) ?_
        refine T_ld 351 (.long (i64 (-9223372036854775808))) rfl (fun _ => rfl) ?_
        refine T_ladd 352 rfl rfl ?_
        refine T_lnm (fun z172 h173 => ?_)
        obtain ⟨h173a, h173b⟩ := h173
        refine T_ld 354 (.long (i64 y)) rfl (fun _ => rfl) ?_
        refine T_ld 357 (.long (i64 (-9223372036854775808))) rfl (fun _ => rfl) ?_
        refine T_ladd 358 rfl rfl ?_
        refine T_lnm (fun z174 h175 => ?_)
        obtain ⟨h175a, h175b⟩ := h175
        refine T_lcmp 359 rfl rfl (r64 (by omega) (by omega)) (r64 (by omega) (by omega)) (fun z176 h177 => ?_)
        obtain ⟨h177a, h177b, h177c, h177d, h177e⟩ := h177
        refine T_if 366 362 rfl rfl rfl (r32 (by omega) (by omega)) (fun (h178 : z176 < 0) => ?_) (fun (h178 : ¬ (z176 < 0)) => ?_)
        · skip
          have hl179 : z172 < z174 := by omega
          refine T_ld 367 (.long (i64 0)) rfl (fun _ => rfl) ?_
          refine T_ret rfl (fun _ => rfl) ?_
          exact ⟨0, ⟨by omega, by omega⟩, rfl⟩
        · skip
          have hl180 : z172 ≥ z174 := by omega
          refine T_ld 363 (.long (i64 1)) rfl (fun _ => rfl) ?_
          refine T_goto 367 rfl (fun _ => rfl) ?_
          refine T_ret rfl (fun _ => rfl) ?_
          exact ⟨1, ⟨by omega, by omega⟩, rfl⟩
      by_cases h181 : k = 15934
      · skip
        refine T_cast 15934 h181 ?_
        refine T_pop 243 rfl (fun _ => rfl) ?_
        refine T_ld 245 (.int (i32 0)) rfl (fun _ => rfl) ?_
        refine T_if 256 248 rfl rfl rfl ⟨by decide, by decide⟩ (fun _ => ?_) (fun h182 => absurd (show (0 : Int) = 0 by decide) h182)
        refine T_ld 257 (.long (i64 0)) rfl (fun _ => rfl) ?_
        refine T_ret rfl (fun _ => rfl) ?_
        exact ⟨0, ⟨by omega, by omega⟩, rfl⟩
      by_cases h183 : k = 31868
      · skip
        refine T_cast 31868 h183 ?_
        refine T_pop 218 rfl (fun _ => rfl) ?_
        exact T218_101 (by omega)
      refine T_lkd 368 rfl rfl (r32 (by omega) (by omega)) (by simp [Op.lookupswitch.offset, show ¬ ((33 : Int) = k) by omega, show ¬ ((38 : Int) = k) by omega, show ¬ ((43 : Int) = k) by omega, show ¬ ((45 : Int) = k) by omega, show ¬ ((60 : Int) = k) by omega, show ¬ ((62 : Int) = k) by omega, show ¬ ((94 : Int) = k) by omega, show ¬ ((124 : Int) = k) by omega, show ¬ ((126 : Int) = k) by omega, show ¬ ((403 : Int) = k) by omega, show ¬ ((405 : Int) = k) by omega, show ¬ ((8509 : Int) = k) by omega, show ¬ ((9766 : Int) = k) by omega, show ¬ ((15420 : Int) = k) by omega, show ¬ ((15421 : Int) = k) by omega, show ¬ ((15677 : Int) = k) by omega, show ¬ ((15933 : Int) = k) by omega, show ¬ ((15934 : Int) = k) by omega, show ¬ ((31868 : Int) = k) by omega]) ?_
      refine T_ld 369 (.long (i64 0)) rfl (fun _ => rfl) ?_
      refine T_ret rfl (fun _ => rfl) ?_
      exact ⟨0, ⟨by omega, by omega⟩, rfl⟩
    · skip
      have hl184 : y < u := by omega
      refine T_ld 17 (.int (i32 1)) rfl (fun _ => rfl) ?_
      refine T_goto 21 rfl (fun _ => rfl) ?_
      refine T_sto 23 [(7, .int (i32 1)), (0, .ref 22), (1, .int (i32 k)), (2, .long (i64 x)), (4, .long (i64 y)), (6, .int (i32 u))] rfl (fun _ => rfl) ?_
      refine T_ld 24 (.int (i32 k)) rfl (fun _ => rfl) ?_
      have T213_185 : (k = 38 ∨ k = 9766) → TT w D pm_184 (213, [(7, .int (i32 1)), (0, .ref 22), (1, .int (i32 k)), (2, .long (i64 x)), (4, .long (i64 y)), (6, .int (i32 u))], [], (khp (mO m [] []) c, N), 0, 0) (Q_nd_reckon m c N k x y u) := by
        intro ht186
        refine T_ld 214 (.long (i64 x)) rfl (fun _ => rfl) ?_
        refine T_ld 216 (.long (i64 y)) rfl (fun _ => rfl) ?_
        refine T_lhv 217 _ rfl (fun _ => rfl) (fun z187 h188 => ?_)
        obtain ⟨h188a, h188b⟩ := h188
        refine T_ret rfl (fun _ => rfl) ?_
        exact ⟨z187, ⟨by omega, by omega⟩, rfl⟩
      have T218_189 : (k = 124 ∨ k = 31868) → TT w D pm_184 (218, [(7, .int (i32 1)), (0, .ref 22), (1, .int (i32 k)), (2, .long (i64 x)), (4, .long (i64 y)), (6, .int (i32 u))], [], (khp (mO m [] []) c, N), 0, 0) (Q_nd_reckon m c N k x y u) := by
        intro ht190
        refine T_ld 219 (.long (i64 x)) rfl (fun _ => rfl) ?_
        refine T_ld 221 (.long (i64 y)) rfl (fun _ => rfl) ?_
        refine T_lhv 222 _ rfl (fun _ => rfl) (fun z191 h192 => ?_)
        obtain ⟨h192a, h192b⟩ := h192
        refine T_ret rfl (fun _ => rfl) ?_
        exact ⟨z191, ⟨by omega, by omega⟩, rfl⟩
      by_cases h193 : k = 33
      · skip
        refine T_cast 33 h193 ?_
        refine T_pop 199 rfl (fun _ => rfl) ?_
        refine T_ld 200 (.long (i64 x)) rfl (fun _ => rfl) ?_
        refine T_ld 201 (.long (i64 1)) rfl (fun _ => rfl) ?_
        refine T_lhv 202 _ rfl (fun _ => rfl) (fun z194 h195 => ?_)
        obtain ⟨h195a, h195b⟩ := h195
        refine T_ret rfl (fun _ => rfl) ?_
        exact ⟨z194, ⟨by omega, by omega⟩, rfl⟩
      by_cases h196 : k = 38
      · skip
        refine T_cast 38 h196 ?_
        refine T_pop 213 rfl (fun _ => rfl) ?_
        exact T213_185 (by omega)
      by_cases h197 : k = 43
      · skip
        refine T_cast 43 h197 ?_
        refine T_pop 203 rfl (fun _ => rfl) ?_
        refine T_ld 204 (.long (i64 x)) rfl (fun _ => rfl) ?_
        refine T_ld 206 (.long (i64 y)) rfl (fun _ => rfl) ?_
        refine T_ladd 207 rfl rfl ?_
        refine T_lnm (fun z198 h199 => ?_)
        obtain ⟨h199a, h199b⟩ := h199
        refine T_ret rfl (fun _ => rfl) ?_
        exact ⟨z198, ⟨by omega, by omega⟩, rfl⟩
      by_cases h200 : k = 45
      · skip
        refine T_cast 45 h200 ?_
        refine T_pop 208 rfl (fun _ => rfl) ?_
        refine T_ld 209 (.long (i64 x)) rfl (fun _ => rfl) ?_
        refine T_ld 211 (.long (i64 y)) rfl (fun _ => rfl) ?_
        refine T_lsub 212 rfl rfl ?_
        refine T_lnm (fun z201 h202 => ?_)
        obtain ⟨h202a, h202b⟩ := h202
        refine T_ret rfl (fun _ => rfl) ?_
        exact ⟨z201, ⟨by omega, by omega⟩, rfl⟩
      by_cases h203 : k = 60
      · skip
        refine T_cast 60 h203 ?_
        refine T_pop 284 rfl (fun _ => rfl) ?_
        refine T_ld 285 (.long (i64 x)) rfl (fun _ => rfl) ?_
        refine T_ld 288 (.long (i64 (-9223372036854775808))) rfl (fun _ => rfl) ?_
        refine T_ladd 289 rfl rfl ?_
        refine T_lnm (fun z204 h205 => ?_)
        obtain ⟨h205a, h205b⟩ := h205
        refine T_ld 291 (.long (i64 y)) rfl (fun _ => rfl) ?_
        refine T_ld 294 (.long (i64 (-9223372036854775808))) rfl (fun _ => rfl) ?_
        refine T_ladd 295 rfl rfl ?_
        refine T_lnm (fun z206 h207 => ?_)
        obtain ⟨h207a, h207b⟩ := h207
        refine T_lcmp 296 rfl rfl (r64 (by omega) (by omega)) (r64 (by omega) (by omega)) (fun z208 h209 => ?_)
        obtain ⟨h209a, h209b, h209c, h209d, h209e⟩ := h209
        refine T_if 303 299 rfl rfl rfl (r32 (by omega) (by omega)) (fun (h210 : (0 : Int) ≤ z208) => ?_) (fun (h210 : ¬ ((0 : Int) ≤ z208)) => ?_)
        · skip
          have hl211 : z204 ≥ z206 := by omega
          refine T_ld 304 (.long (i64 0)) rfl (fun _ => rfl) ?_
          refine T_ret rfl (fun _ => rfl) ?_
          exact ⟨0, ⟨by omega, by omega⟩, rfl⟩
        · skip
          have hl212 : z204 < z206 := by omega
          refine T_ld 300 (.long (i64 1)) rfl (fun _ => rfl) ?_
          refine T_goto 304 rfl (fun _ => rfl) ?_
          refine T_ret rfl (fun _ => rfl) ?_
          exact ⟨1, ⟨by omega, by omega⟩, rfl⟩
      by_cases h213 : k = 62
      · skip
        refine T_cast 62 h213 ?_
        refine T_pop 326 rfl (fun _ => rfl) ?_
        refine T_ld 327 (.long (i64 x)) rfl (fun _ => rfl) ?_
        refine T_ld 330 (.long (i64 (-9223372036854775808))) rfl (fun _ => rfl) ?_
        refine T_ladd 331 rfl rfl ?_
        refine T_lnm (fun z214 h215 => ?_)
        obtain ⟨h215a, h215b⟩ := h215
        refine T_ld 333 (.long (i64 y)) rfl (fun _ => rfl) ?_
        refine T_ld 336 (.long (i64 (-9223372036854775808))) rfl (fun _ => rfl) ?_
        refine T_ladd 337 rfl rfl ?_
        refine T_lnm (fun z216 h217 => ?_)
        obtain ⟨h217a, h217b⟩ := h217
        refine T_lcmp 338 rfl rfl (r64 (by omega) (by omega)) (r64 (by omega) (by omega)) (fun z218 h219 => ?_)
        obtain ⟨h219a, h219b, h219c, h219d, h219e⟩ := h219
        refine T_if 345 341 rfl rfl rfl (r32 (by omega) (by omega)) (fun (h220 : z218 ≤ 0) => ?_) (fun (h220 : ¬ (z218 ≤ 0)) => ?_)
        · skip
          have hl221 : z214 ≤ z216 := by omega
          refine T_ld 346 (.long (i64 0)) rfl (fun _ => rfl) ?_
          refine T_ret rfl (fun _ => rfl) ?_
          exact ⟨0, ⟨by omega, by omega⟩, rfl⟩
        · skip
          have hl222 : z214 > z216 := by omega
          refine T_ld 342 (.long (i64 1)) rfl (fun _ => rfl) ?_
          refine T_goto 346 rfl (fun _ => rfl) ?_
          refine T_ret rfl (fun _ => rfl) ?_
          exact ⟨1, ⟨by omega, by omega⟩, rfl⟩
      by_cases h223 : k = 94
      · skip
        refine T_cast 94 h223 ?_
        refine T_pop 223 rfl (fun _ => rfl) ?_
        refine T_ld 224 (.long (i64 x)) rfl (fun _ => rfl) ?_
        refine T_ld 226 (.long (i64 y)) rfl (fun _ => rfl) ?_
        refine T_lhv 227 _ rfl (fun _ => rfl) (fun z224 h225 => ?_)
        obtain ⟨h225a, h225b⟩ := h225
        refine T_ret rfl (fun _ => rfl) ?_
        exact ⟨z224, ⟨by omega, by omega⟩, rfl⟩
      by_cases h226 : k = 124
      · skip
        refine T_cast 124 h226 ?_
        refine T_pop 218 rfl (fun _ => rfl) ?_
        exact T218_189 (by omega)
      by_cases h227 : k = 126
      · skip
        refine T_cast 126 h227 ?_
        refine T_pop 193 rfl (fun _ => rfl) ?_
        refine T_ld 194 (.long (i64 x)) rfl (fun _ => rfl) ?_
        refine T_ld 197 (.long (i64 (-1))) rfl (fun _ => rfl) ?_
        refine T_lhv 198 _ rfl (fun _ => rfl) (fun z228 h229 => ?_)
        obtain ⟨h229a, h229b⟩ := h229
        refine T_ret rfl (fun _ => rfl) ?_
        exact ⟨z228, ⟨by omega, by omega⟩, rfl⟩
      by_cases h230 : k = 403
      · skip
        refine T_cast 403 h230 ?_
        refine T_pop 188 rfl (fun _ => rfl) ?_
        refine T_ld 189 (.long (i64 x)) rfl (fun _ => rfl) ?_
        refine T_ret rfl (fun _ => rfl) ?_
        exact ⟨x, ⟨by omega, by omega⟩, rfl⟩
      by_cases h231 : k = 405
      · skip
        refine T_cast 405 h231 ?_
        refine T_pop 190 rfl (fun _ => rfl) ?_
        refine T_ld 191 (.long (i64 x)) rfl (fun _ => rfl) ?_
        refine T_lhv 192 _ rfl (fun _ => rfl) (fun z232 h233 => ?_)
        obtain ⟨h233a, h233b⟩ := h233
        refine T_ret rfl (fun _ => rfl) ?_
        exact ⟨z232, ⟨by omega, by omega⟩, rfl⟩
      by_cases h234 : k = 8509
      · skip
        refine T_cast 8509 h234 ?_
        refine T_pop 271 rfl (fun _ => rfl) ?_
        refine T_ld 272 (.long (i64 x)) rfl (fun _ => rfl) ?_
        refine T_ld 274 (.long (i64 y)) rfl (fun _ => rfl) ?_
        refine T_lcmp 275 rfl rfl (r64 (by omega) (by omega)) (r64 (by omega) (by omega)) (fun z235 h236 => ?_)
        obtain ⟨h236a, h236b, h236c, h236d, h236e⟩ := h236
        refine T_if 282 278 rfl rfl rfl (r32 (by omega) (by omega)) (fun (h237 : z235 = 0) => ?_) (fun (h237 : ¬ (z235 = 0)) => ?_)
        · skip
          have hl238 : x = y := by omega
          refine T_ld 283 (.long (i64 0)) rfl (fun _ => rfl) ?_
          refine T_ret rfl (fun _ => rfl) ?_
          exact ⟨0, ⟨by omega, by omega⟩, rfl⟩
        · skip
          have hl239 : x ≠ y := by omega
          refine T_ld 279 (.long (i64 1)) rfl (fun _ => rfl) ?_
          refine T_goto 283 rfl (fun _ => rfl) ?_
          refine T_ret rfl (fun _ => rfl) ?_
          exact ⟨1, ⟨by omega, by omega⟩, rfl⟩
      by_cases h240 : k = 9766
      · skip
        refine T_cast 9766 h240 ?_
        refine T_pop 213 rfl (fun _ => rfl) ?_
        exact T213_185 (by omega)
      by_cases h241 : k = 15420
      · skip
        refine T_cast 15420 h241 ?_
        refine T_pop 228 rfl (fun _ => rfl) ?_
        refine T_ld 230 (.int (i32 1)) rfl (fun _ => rfl) ?_
        refine T_if 241 233 rfl rfl rfl ⟨by decide, by decide⟩ (fun h242 => absurd (show (1 : Int) = 0 from h242) (by decide)) (fun _ => ?_)
        refine T_ld 234 (.long (i64 x)) rfl (fun _ => rfl) ?_
        refine T_ld 236 (.long (i64 y)) rfl (fun _ => rfl) ?_
        refine T_l2i 237 rfl rfl ?_
        refine T_lhv 238 _ rfl (fun _ => rfl) (fun z243 h244 => ?_)
        obtain ⟨h244a, h244b⟩ := h244
        refine T_goto 242 rfl (fun _ => rfl) ?_
        refine T_ret rfl (fun _ => rfl) ?_
        exact ⟨z243, ⟨by omega, by omega⟩, rfl⟩
      by_cases h245 : k = 15421
      · skip
        refine T_cast 15421 h245 ?_
        refine T_pop 305 rfl (fun _ => rfl) ?_
        refine T_ld 306 (.long (i64 x)) rfl (fun _ => rfl) ?_
        refine T_ld 309 (.long (i64 (-9223372036854775808))) rfl (fun _ => rfl) ?_
        refine T_ladd 310 rfl rfl ?_
        refine T_lnm (fun z246 h247 => ?_)
        obtain ⟨h247a, h247b⟩ := h247
        refine T_ld 312 (.long (i64 y)) rfl (fun _ => rfl) ?_
        refine T_ld 315 (.long (i64 (-9223372036854775808))) rfl (fun _ => rfl) ?_
        refine T_ladd 316 rfl rfl ?_
        refine T_lnm (fun z248 h249 => ?_)
        obtain ⟨h249a, h249b⟩ := h249
        refine T_lcmp 317 rfl rfl (r64 (by omega) (by omega)) (r64 (by omega) (by omega)) (fun z250 h251 => ?_)
        obtain ⟨h251a, h251b, h251c, h251d, h251e⟩ := h251
        refine T_if 324 320 rfl rfl rfl (r32 (by omega) (by omega)) (fun (h252 : (0 : Int) < z250) => ?_) (fun (h252 : ¬ ((0 : Int) < z250)) => ?_)
        · skip
          have hl253 : z246 > z248 := by omega
          refine T_ld 325 (.long (i64 0)) rfl (fun _ => rfl) ?_
          refine T_ret rfl (fun _ => rfl) ?_
          exact ⟨0, ⟨by omega, by omega⟩, rfl⟩
        · skip
          have hl254 : z246 ≤ z248 := by omega
          refine T_ld 321 (.long (i64 1)) rfl (fun _ => rfl) ?_
          refine T_goto 325 rfl (fun _ => rfl) ?_
          refine T_ret rfl (fun _ => rfl) ?_
          exact ⟨1, ⟨by omega, by omega⟩, rfl⟩
      by_cases h255 : k = 15677
      · skip
        refine T_cast 15677 h255 ?_
        refine T_pop 258 rfl (fun _ => rfl) ?_
        refine T_ld 259 (.long (i64 x)) rfl (fun _ => rfl) ?_
        refine T_ld 261 (.long (i64 y)) rfl (fun _ => rfl) ?_
        refine T_lcmp 262 rfl rfl (r64 (by omega) (by omega)) (r64 (by omega) (by omega)) (fun z256 h257 => ?_)
        obtain ⟨h257a, h257b, h257c, h257d, h257e⟩ := h257
        refine T_if 269 265 rfl rfl rfl (r32 (by omega) (by omega)) (fun (h258 : z256 ≠ 0) => ?_) (fun (h258 : ¬ (z256 ≠ 0)) => ?_)
        · skip
          have hl259 : x ≠ y := by omega
          refine T_ld 270 (.long (i64 0)) rfl (fun _ => rfl) ?_
          refine T_ret rfl (fun _ => rfl) ?_
          exact ⟨0, ⟨by omega, by omega⟩, rfl⟩
        · skip
          have hl260 : x = y := by omega
          refine T_ld 266 (.long (i64 1)) rfl (fun _ => rfl) ?_
          refine T_goto 270 rfl (fun _ => rfl) ?_
          refine T_ret rfl (fun _ => rfl) ?_
          exact ⟨1, ⟨by omega, by omega⟩, rfl⟩
      by_cases h261 : k = 15933
      · skip
        refine T_cast 15933 h261 ?_
        refine T_pop 347 rfl (fun _ => rfl) ?_
        refine T_ld 348 (.long (i64 x)) rfl (fun _ => rfl) ?_
        refine T_ld 351 (.long (i64 (-9223372036854775808))) rfl (fun _ => rfl) ?_
        refine T_ladd 352 rfl rfl ?_
        refine T_lnm (fun z262 h263 => ?_)
        obtain ⟨h263a, h263b⟩ := h263
        refine T_ld 354 (.long (i64 y)) rfl (fun _ => rfl) ?_
        refine T_ld 357 (.long (i64 (-9223372036854775808))) rfl (fun _ => rfl) ?_
        refine T_ladd 358 rfl rfl ?_
        refine T_lnm (fun z264 h265 => ?_)
        obtain ⟨h265a, h265b⟩ := h265
        refine T_lcmp 359 rfl rfl (r64 (by omega) (by omega)) (r64 (by omega) (by omega)) (fun z266 h267 => ?_)
        obtain ⟨h267a, h267b, h267c, h267d, h267e⟩ := h267
        refine T_if 366 362 rfl rfl rfl (r32 (by omega) (by omega)) (fun (h268 : z266 < 0) => ?_) (fun (h268 : ¬ (z266 < 0)) => ?_)
        · skip
          have hl269 : z262 < z264 := by omega
          refine T_ld 367 (.long (i64 0)) rfl (fun _ => rfl) ?_
          refine T_ret rfl (fun _ => rfl) ?_
          exact ⟨0, ⟨by omega, by omega⟩, rfl⟩
        · skip
          have hl270 : z262 ≥ z264 := by omega
          refine T_ld 363 (.long (i64 1)) rfl (fun _ => rfl) ?_
          refine T_goto 367 rfl (fun _ => rfl) ?_
          refine T_ret rfl (fun _ => rfl) ?_
          exact ⟨1, ⟨by omega, by omega⟩, rfl⟩
      by_cases h271 : k = 15934
      · skip
        refine T_cast 15934 h271 ?_
        refine T_pop 243 rfl (fun _ => rfl) ?_
        refine T_ld 245 (.int (i32 1)) rfl (fun _ => rfl) ?_
        refine T_if 256 248 rfl rfl rfl ⟨by decide, by decide⟩ (fun h272 => absurd (show (1 : Int) = 0 from h272) (by decide)) (fun _ => ?_)
        refine T_ld 249 (.long (i64 x)) rfl (fun _ => rfl) ?_
        refine T_ld 251 (.long (i64 y)) rfl (fun _ => rfl) ?_
        refine T_l2i 252 rfl rfl ?_
        refine T_lhv 253 _ rfl (fun _ => rfl) (fun z273 h274 => ?_)
        obtain ⟨h274a, h274b⟩ := h274
        refine T_goto 257 rfl (fun _ => rfl) ?_
        refine T_ret rfl (fun _ => rfl) ?_
        exact ⟨z273, ⟨by omega, by omega⟩, rfl⟩
      by_cases h275 : k = 31868
      · skip
        refine T_cast 31868 h275 ?_
        refine T_pop 218 rfl (fun _ => rfl) ?_
        exact T218_189 (by omega)
      refine T_lkd 368 rfl rfl (r32 (by omega) (by omega)) (by simp [Op.lookupswitch.offset, show ¬ ((33 : Int) = k) by omega, show ¬ ((38 : Int) = k) by omega, show ¬ ((43 : Int) = k) by omega, show ¬ ((45 : Int) = k) by omega, show ¬ ((60 : Int) = k) by omega, show ¬ ((62 : Int) = k) by omega, show ¬ ((94 : Int) = k) by omega, show ¬ ((124 : Int) = k) by omega, show ¬ ((126 : Int) = k) by omega, show ¬ ((403 : Int) = k) by omega, show ¬ ((405 : Int) = k) by omega, show ¬ ((8509 : Int) = k) by omega, show ¬ ((9766 : Int) = k) by omega, show ¬ ((15420 : Int) = k) by omega, show ¬ ((15421 : Int) = k) by omega, show ¬ ((15677 : Int) = k) by omega, show ¬ ((15933 : Int) = k) by omega, show ¬ ((15934 : Int) = k) by omega, show ¬ ((31868 : Int) = k) by omega]) ?_
      refine T_ld 369 (.long (i64 0)) rfl (fun _ => rfl) ?_
      refine T_ret rfl (fun _ => rfl) ?_
      exact ⟨0, ⟨by omega, by omega⟩, rfl⟩
