def fF_pi_clear : List Nat := [232, 233, 234, 235]
def fA_pi_clear : List Nat := [71, 106]
def Q_pi_clear (m : mR) (c : Nat → Option am_C) (N : Nat) : ag_Re af_T → Prop := fun R => (∃ (M : mR), KTy M ∧ fr fF_pi_clear fA_pi_clear m M ∧ ((M.1 232) = 0 ∧ (M.1 233) = 0 ∧ (M.1 234) = 0 ∧ (M.1 235) = 0) ∧ (∀ g, 0 ≤ g → g < 12 → (M.2 106) g = -1) ∧ R = (.inl (none), (khp M c, N), 0, 0))
set_option maxHeartbeats 3000000 in
theorem c_pi_clear (w : wX) (m : mR) (c : Nat → Option am_C) (N D : Nat) (hD : 2 ≤ D) (hT : KTy m) : TC w D 45 [.ref 185] (khp m c, N) (Q_pi_clear m c N) := by
  obtain ⟨D, rfl⟩ : ∃ k, D = k + 1 := ⟨D - 1, by omega⟩
  have f232 : 0 ≤ m.1 232 ∧ m.1 232 ≤ 1000000 := hT.1 232
  have f233 : 0 ≤ m.1 233 ∧ m.1 233 ≤ 1000000 := hT.1 233
  have f234 : 0 ≤ m.1 234 ∧ m.1 234 ≤ 1000000 := hT.1 234
  have f235 : 0 ≤ m.1 235 ∧ m.1 235 ≤ 100000000 := hT.1 235
  refine Tc_of rfl ?_
  rw [show (khp m c, N) = (khp (mO m [] []) c, N) from by rw [mO_nil m]]
  show TT w D pm_45 (0, [(0, .ref 185)], [], (khp (mO m [] []) c, N), 0, 0) (Q_pi_clear m c N)
  refine T_ld 1 (.ref 185) rfl (fun _ => rfl) ?_
  refine T_ld 2 (.int (i32 0)) rfl (fun _ => rfl) ?_
  refine K_pf (l' := [(232, 0)]) 5 0 rfl rfl kd_185 rfl rfl rfl rfl rfl rfl rfl ?_
  refine T_ld 6 (.ref 185) rfl (fun _ => rfl) ?_
  refine T_ld 7 (.int (i32 0)) rfl (fun _ => rfl) ?_
  refine K_pf (l' := [(232, 0), (233, 0)]) 10 0 rfl rfl kd_185 rfl rfl rfl rfl rfl rfl rfl ?_
  refine T_ld 11 (.ref 185) rfl (fun _ => rfl) ?_
  refine T_ld 12 (.int (i32 0)) rfl (fun _ => rfl) ?_
  refine K_pf (l' := [(232, 0), (233, 0), (234, 0)]) 15 0 rfl rfl kd_185 rfl rfl rfl rfl rfl rfl rfl ?_
  refine T_ld 16 (.ref 185) rfl (fun _ => rfl) ?_
  refine T_ld 17 (.int (i32 0)) rfl (fun _ => rfl) ?_
  refine K_pf (l' := [(232, 0), (233, 0), (234, 0), (235, 0)]) 20 0 rfl rfl kd_185 rfl rfl rfl rfl rfl rfl rfl ?_
  refine T_ld 21 (.ref 185) rfl (fun _ => rfl) ?_
  refine K_gf 24 (.ref 188) rfl rfl kd_185 rfl rfl rfl ?_
  refine T_ld 25 (.long (i64 0)) rfl (fun _ => rfl) ?_
  refine T_callx 28 46 [.ref 188, .long (i64 0)] [] rfl (fun _ => rfl) rfl rfl (c_fill_pi_words w (mO m [(232, 0), (233, 0), (234, 0), (235, 0)] []) c N D (by omega) (KTy_mO hT rfl rfl ⟨⟨(by omega : (0 : Int) ≤ 0), (by omega : (0 : Int) ≤ 1000000)⟩, ⟨(by omega : (0 : Int) ≤ 0), (by omega : (0 : Int) ≤ 1000000)⟩, ⟨(by omega : (0 : Int) ≤ 0), (by omega : (0 : Int) ≤ 1000000)⟩, ⟨(by omega : (0 : Int) ≤ 0), (by omega : (0 : Int) ≤ 100000000)⟩, trivial⟩ trivial) 0 ⟨by decide, by decide⟩) (fun rr1 k2 => ?_)
  obtain ⟨m3, Tm3, Fm3, rfl⟩ := k2
  refine Or.inl ⟨_, _, _, _, rfl, ?_⟩
  refine K_nb (st' := []) rfl ?_
  refine T_ld 29 (.int (i32 0)) rfl (fun _ => rfl) ?_
  refine T_sto 30 [(1, .int (i32 0)), (0, .ref 185)] rfl (fun _ => rfl) ?_
  have L30_6 : ∀ (n13 : Nat) (v4 : Int) (m5 : mR), (R32 v4) → KTy m5 → fr [] [106] (mO m3 [] []) m5 → (0 ≤ v4) → (0 ≤ v4 ∧ v4 ≤ 12) → (∀ g, 0 ≤ g → g < v4 → (m5.2 106) g = -1) → 20 - v4 < (n13 : Int) → TT w D pm_45 (30, [(0, .ref 185), (1, .int (i32 v4))], [], (khp (mO m5 [] []) c, N), 0, 0) (Q_pi_clear m c N) := by
    intro n13
    induction n13 with
    | zero =>
      intro v4 m5 q10 Tm5 Fm5 ic7 ic8 ic9 hmu
      obtain ⟨q10a, q10b⟩ := id q10
      have hz := ic9
      exfalso
      omega
    | succ n13 ih =>
      intro v4 m5 q10 Tm5 Fm5 ic7 ic8 ic9 hmu
      obtain ⟨q10a, q10b⟩ := id q10
      have hz := ic9
      have ih14 := ih
      refine T_ld 31 (.int (i32 v4)) rfl (fun _ => rfl) ?_
      refine T_ld 33 (.int (i32 12)) rfl (fun _ => rfl) ?_
      refine T_icmp 49 36 rfl rfl rfl (r32 (by omega) (by omega)) ⟨by decide, by decide⟩ (fun (h15 : (12 : Int) ≤ v4) => ?_) (fun (h15 : ¬ ((12 : Int) ≤ v4)) => ?_)
      · skip
        refine T_ret rfl (fun _ => rfl) ?_
        exact ⟨(mO m5 [] []), Tm5, (fr_m (fr_s Fm5 (fr_m (fr_s Fm3 (fr_m fr_0 rfl rfl) rfl rfl) rfl rfl) rfl rfl) rfl rfl), (show (m5.1 232) = 0 ∧ (m5.1 233) = 0 ∧ (m5.1 234) = 0 ∧ (m5.1 235) = 0 by rewrite [(show (m5.1 232) = 0 from ((fr1 Fm5 232 rfl).trans (fr1 Fm3 232 rfl))), (show (m5.1 233) = 0 from ((fr1 Fm5 233 rfl).trans (fr1 Fm3 233 rfl))), (show (m5.1 234) = 0 from ((fr1 Fm5 234 rfl).trans (fr1 Fm3 234 rfl))), (show (m5.1 235) = 0 from ((fr1 Fm5 235 rfl).trans (fr1 Fm3 235 rfl)))]; omega), (show ∀ g, 0 ≤ g → g < 12 → (m5.2 106) g = -1 by first | (exact fun g a b => hz g a (by omega)) | (exfalso; omega)), rfl⟩
      · skip
        refine T_ld 37 (.ref 185) rfl (fun _ => rfl) ?_
        refine K_gf 40 (.ref 187) rfl rfl kd_185 rfl rfl rfl ?_
        refine T_ld 41 (.int (i32 v4)) rfl (fun _ => rfl) ?_
        refine T_ld 42 .null rfl (fun _ => rfl) ?_
        have G16 : ∀ j, (-1) ≤ (upI (m5.2 106) v4 (-1)) j ∧ (upI (m5.2 106) v4 (-1)) j ≤ 127 := upI_rg (Tm5.2.1 106) ⟨by omega, by omega⟩
        refine K_aasn (a' := [(106, upI (m5.2 106) v4 (-1))]) 43 (m5.2 106) rfl rfl (by omega) (by omega) Tm5 rfl rfl ?_
        refine T_iinc 46 [(1, .int (i32 (v4 + 1))), (0, .ref 185)] rfl rfl (by decide) rfl rfl ?_
        refine T_goto 30 rfl (fun _ => rfl) ?_
        refine Tm_lv (a := [(0, .ref 185), (1, .int (i32 (v4 + 1)))]) rfl rfl ⟨rfl, rfl, trivial⟩ ?_
        exact ih14 (v4 + 1) (mO m5 [] [(106, upI (m5.2 106) v4 (-1))]) (r32 (by omega) (by omega)) (KTy_mO Tm5 rfl rfl trivial ⟨G16, trivial⟩) (fr_m (fr_s Fm5 (fr_m fr_0 rfl rfl) rfl rfl) rfl rfl) (show 0 ≤ (v4 + 1) by omega) (show 0 ≤ (v4 + 1) ∧ (v4 + 1) ≤ 12 by omega) (show ∀ g, 0 ≤ g → g < (v4 + 1) → (upI (m5.2 106) v4 (-1)) g = -1 by first | (intro g a b; omega) | (intro g a b; by_cases e : g = v4; (rw [e, upI_s]); (rw [upI_n e]; exact hz g a (by omega)))) (show 20 - (v4 + 1) < (n13 : Int) by omega)
  refine Tm_lv (a := [(0, .ref 185), (1, .int (i32 0))]) rfl rfl ⟨rfl, rfl, trivial⟩ ?_
  exact L30_6 ((20 - (0 : Int) : Int) + 1).toNat 0 (mO m3 [] []) ⟨by decide, by decide⟩ Tm3 (fr_m fr_0 rfl rfl) (show 0 ≤ (0 : Int) by omega) (show 0 ≤ (0 : Int) ∧ (0 : Int) ≤ 12 by omega) (show ∀ g, 0 ≤ g → g < (0 : Int) → (m3.2 106) g = -1 by rewrite [(show (m3.2 106) = (m.2 106) from (fr2 Fm3 106 rfl))]; first | (intro g a b; omega) | (intro g a b; by_cases e : g = v4; (rw [e, upI_s]); (rw [upI_n e]; exact hz g a (by omega)))) (show 20 - (0 : Int) < ((((20 - (0 : Int) : Int) + 1).toNat : Nat) : Int) by omega)
def fF_pi_cycle : List Nat := [233, 234, 235]
def fA_pi_cycle : List Nat := [25, 71, 78, 85, 86, 87, 88, 89, 90, 92, 94, 98, 99, 100, 101, 102, 103, 104, 105, 106]
def Q_pi_cycle (m : mR) (c : Nat → Option am_C) (N : Nat) : ag_Re af_T → Prop := fun R => (∃ (M : mR), KTy M ∧ fr fF_pi_cycle fA_pi_cycle m M ∧ (((m.1 233) < (m.1 232) ∧ (M.1 233) = (m.1 233) + 1) ∨ ((m.1 232) ≤ (m.1 233) ∧ (M.1 233) = (m.1 233))) ∧ (PIp (m.1 226) (M.1 233) (m.1 232) (M.2 106) (m.2 91) (M.2 92) (M.2 94)) ∧ (TCp (m.1 219) (M.2 78) (M.2 89) (m.1 223)) ∧ ((M.1 235) = (m.1 235) + 1) ∧ ((M.1 234) ≤ (M.1 235)) ∧ R = (.inl (none), (khp M c, N), 0, 0))
set_option maxHeartbeats 3000000 in
theorem c_pi_cycle (w : wX) (m : mR) (c : Nat → Option am_C) (N D : Nat) (hD : 7 ≤ D) (hT : KTy m) (hNu : ∀ r9, 0 ≤ r9 → r9 < 128 → r9 < (m.1 232) → 1 ≤ (m.2 107) r9) (hPI : PIp (m.1 226) (m.1 233) (m.1 232) (m.2 106) (m.2 91) (m.2 92) (m.2 94)) (p2 : 1 ≤ (m.1 226)) (hNK : NKp (m.2 18) (m.2 19)) (hDE : DEp (m.1 224) (m.2 45) (m.2 46) (m.2 47) (m.2 49)) (hAC : AcP (m.1 223) (m.1 224) (m.2 43) (m.2 44)) (hTL : TLp (m.1 219) (m.2 73) (m.2 83) (m.1 223)) (hTD : LTp (m.1 219) (m.2 74) (m.1 223)) (hTC : TCp (m.1 219) (m.2 78) (m.2 89) (m.1 223)) (hSP : SPp (m.1 225) (m.2 52) (m.2 58) (m.2 55) (m.2 56) (m.1 219) (m.1 224)) (hHB : HBp (m.1 214) (m.2 10)) (hIH : IHp (m.1 215) (m.2 13) (m.1 214)) (hEM : LTp (m.1 218) (m.2 17) (m.1 215)) (p13 : (m.1 235) ≤ 900000) (p14 : (m.1 234) ≤ (m.1 235)) : TC w D 177 [.ref 185] (khp m c, N) (Q_pi_cycle m c N) := by
  obtain ⟨D, rfl⟩ : ∃ k, D = k + 1 := ⟨D - 1, by omega⟩
  have f233 : 0 ≤ m.1 233 ∧ m.1 233 ≤ 1000000 := hT.1 233
  have f234 : 0 ≤ m.1 234 ∧ m.1 234 ≤ 1000000 := hT.1 234
  have f235 : 0 ≤ m.1 235 ∧ m.1 235 ≤ 100000000 := hT.1 235
  have f214 : 0 ≤ m.1 214 ∧ m.1 214 ≤ 12 := hT.1 214
  have f215 : 0 ≤ m.1 215 ∧ m.1 215 ≤ 12 := hT.1 215
  have f218 : 0 ≤ m.1 218 ∧ m.1 218 ≤ 12 := hT.1 218
  have f219 : 0 ≤ m.1 219 ∧ m.1 219 ≤ 8 := hT.1 219
  have f223 : 0 ≤ m.1 223 ∧ m.1 223 ≤ 16 := hT.1 223
  have f224 : 0 ≤ m.1 224 ∧ m.1 224 ≤ 240 := hT.1 224
  have f225 : 0 ≤ m.1 225 ∧ m.1 225 ≤ 48 := hT.1 225
  have f226 : 0 ≤ m.1 226 ∧ m.1 226 ≤ 12 := hT.1 226
  have f232 : 0 ≤ m.1 232 ∧ m.1 232 ≤ 1000000 := hT.1 232
  refine Tc_of rfl ?_
  rw [show (khp m c, N) = (khp (mO m [] []) c, N) from by rw [mO_nil m]]
  show TT w D pm_177 (0, [(0, .ref 185)], [], (khp (mO m [] []) c, N), 0, 0) (Q_pi_cycle m c N)
  have hPb := PI_b hPI
  refine T_ld 1 (.ref 185) rfl (fun _ => rfl) ?_
  refine K_gf 4 (.ref 12) rfl rfl kd_185 rfl rfl rfl ?_
  refine K_gf 7 (.ref 59) rfl rfl kd_12 rfl rfl rfl ?_
  refine K_gf 10 (.int (i32 (m.1 226))) rfl rfl kd_59 rfl rfl rfl ?_
  refine T_ld 11 (.int (i32 1)) rfl (fun _ => rfl) ?_
  refine T_isub 12 rfl rfl ?_
  refine T_sto 13 [(1, .int (i32 ((m.1 226) - 1))), (0, .ref 185)] rfl (fun _ => rfl) ?_
  refine T_ld 14 (.ref 185) rfl (fun _ => rfl) ?_
  refine K_gf 17 (.ref 187) rfl rfl kd_185 rfl rfl rfl ?_
  refine T_ld 18 (.int (i32 ((m.1 226) - 1))) rfl (fun _ => rfl) ?_
  refine K_aaisF 19 (m.2 106) (m.2 107) rfl rfl (by omega) (by omega) hT rfl rfl ?_ (fun h1 h2 ok3 => ?_)
  · skip
    refine T_sto 20 [(2, .null), (1, .int (i32 ((m.1 226) - 1))), (0, .ref 185)] rfl (fun _ => rfl) ?_
    refine T_ld 21 (.null) rfl (fun _ => rfl) ?_
    refine T_pop 46 rfl (fun _ => rfl) ?_
    have hLn : ∀ v, v ≠ (m.2 106) ((m.1 226) - 1) → (m.2 92) v = (m.2 92) v := by first | exact hLv | exact fun v _ => rfl
    refine T_ld 47 (.int (i32 ((m.1 226) - 1))) rfl (fun _ => rfl) ?_
    refine T_sto 48 [(3, .int (i32 ((m.1 226) - 1))), (2, .null), (1, .int (i32 ((m.1 226) - 1))), (0, .ref 185)] rfl (fun _ => rfl) ?_
    have L48_6 : ∀ (n14 : Nat) (v4 : Int) (m5 : mR), (R32 v4) → KTy m5 → fr [] [106] (mO m [] []) m5 → ((-1) ≤ v4) → (v4 ≤ 11) → (0 ≤ v4 ∧ v4 ≤ ((m.1 226) - 1)) → (SHp v4 ((m.1 226) - 1) (m.2 106) (m5.2 106)) → v4 + 1 < (n14 : Int) → TT w D pm_177 (48, [(0, .ref 185), (1, .int (i32 ((m.1 226) - 1))), (3, .int (i32 v4))], [], (khp (mO m5 [] []) c, N), 0, 0) (Q_pi_cycle m c N) := by
      intro n14
      induction n14 with
      | zero =>
        intro v4 m5 q11 Tm5 Fm5 ic7 ic8 ic9 ic10 hmu
        obtain ⟨q11a, q11b⟩ := id q11
        have hSH := ic10
        exfalso
        omega
      | succ n14 ih =>
        intro v4 m5 q11 Tm5 Fm5 ic7 ic8 ic9 ic10 hmu
        obtain ⟨q11a, q11b⟩ := id q11
        have hSH := ic10
        have ih15 := ih
        refine T_ld 49 (.int (i32 v4)) rfl (fun _ => rfl) ?_
        refine T_if 72 52 rfl rfl rfl (r32 (by omega) (by omega)) (fun (h16 : v4 ≤ 0) => ?_) (fun (h16 : ¬ (v4 ≤ 0)) => ?_)
        · skip
          have hSZ := SH_z hSH (show v4 = 0 by omega)
          refine T_ld 73 (.ref 185) rfl (fun _ => rfl) ?_
          refine K_gf 76 (.int (i32 (m.1 233))) rfl rfl kd_185 rfl (kval_c2 (k := 233) (F := fun x => .int (i32 x)) rfl (show (m5.1 233) = (m.1 233) from (fr1 Fm5 233 rfl))) rfl ?_
          refine T_ld 77 (.ref 185) rfl (fun _ => rfl) ?_
          refine K_gf 80 (.int (i32 (m.1 232))) rfl rfl kd_185 rfl (kval_c2 (k := 232) (F := fun x => .int (i32 x)) rfl (show (m5.1 232) = (m.1 232) from (fr1 Fm5 232 rfl))) rfl ?_
          refine T_icmp 99 83 rfl rfl rfl (r32 (by omega) (by omega)) (r32 (by omega) (by omega)) (fun (h17 : (m.1 232) ≤ (m.1 233)) => ?_) (fun (h17 : ¬ ((m.1 232) ≤ (m.1 233))) => ?_)
          · skip
            refine T_ld 100 .null rfl (fun _ => rfl) ?_
            refine T_sto 101 [(3, .null), (0, .ref 185), (1, .int (i32 ((m.1 226) - 1)))] rfl (fun _ => rfl) ?_
            refine T_ld 102 (.ref 185) rfl (fun _ => rfl) ?_
            refine K_gf 105 (.ref 187) rfl rfl kd_185 rfl rfl rfl ?_
            refine T_ld 106 (.int (i32 0)) rfl (fun _ => rfl) ?_
            refine T_ld 107 (.null) rfl (fun _ => rfl) ?_
            have G18 : ∀ j, (-1) ≤ (upI (m5.2 106) 0 (-1)) j ∧ (upI (m5.2 106) 0 (-1)) j ≤ 127 := upI_rg (Tm5.2.1 106) ⟨by omega, by omega⟩
            refine K_aasn (a' := [(106, upI (m5.2 106) 0 (-1))]) 108 (m5.2 106) rfl rfl (by omega) (by omega) Tm5 rfl rfl ?_
            refine T_ld 109 (.null) rfl (fun _ => rfl) ?_
            refine T_pop 130 rfl (fun _ => rfl) ?_
            have hPI : PIp (m.1 226) (m.1 233) (m.1 232) (upI (m5.2 106) 0 (-1)) (m.2 91) (m.2 92) (m.2 94) := by first | exact PI_cy hPI rfl ⟨by omega, by omega⟩ hLn hSZ (Or.inl ⟨by omega, rfl, rfl⟩) | exact PI_cy hPI rfl ⟨by omega, by omega⟩ hLn hSZ (Or.inr ⟨rfl, by omega, by omega, hEn.1, hEn.2⟩)
            refine T_ld 131 (.int (i32 0)) rfl (fun _ => rfl) ?_
            refine T_sto 133 [(4, .int (i32 0)), (3, .null), (0, .ref 185), (1, .int (i32 ((m.1 226) - 1)))] rfl (fun _ => rfl) ?_
            refine K_fl (KTy_mO Tm5 rfl rfl trivial ⟨G18, trivial⟩) (fun m19 Tm19 Fm19 => ?_)
            have L133_22 : ∀ (n30 : Nat) (v20 : Int) (m21 : mR), (R32 v20) → KTy m21 → fr [] [25, 71, 78, 85, 86, 87, 88, 89, 90, 98, 101, 102, 103, 104, 105] (mO m19 [] []) m21 → (0 ≤ v20) → (0 ≤ v20 ∧ v20 ≤ 12) → (((m.1 233) < (m.1 232) ∧ (m.1 233) = (m.1 233) + 1) ∨ ((m.1 232) ≤ (m.1 233) ∧ (m.1 233) = (m.1 233))) → (TCp (m.1 219) (m21.2 78) (m21.2 89) (m.1 223)) → 20 - v20 < (n30 : Int) → TT w D pm_177 (133, [(0, .ref 185), (1, .int (i32 ((m.1 226) - 1))), (4, .int (i32 v20))], [], (khp (mO m21 [] []) c, N), 0, 0) (Q_pi_cycle m c N) := by
              intro n30
              induction n30 with
              | zero =>
                intro v20 m21 q27 Tm21 Fm21 ic23 ic24 ic25 ic26 hmu
                obtain ⟨q27a, q27b⟩ := id q27
                have hEnt := ic25
                have hTC := ic26
                exfalso
                omega
              | succ n30 ih =>
                intro v20 m21 q27 Tm21 Fm21 ic23 ic24 ic25 ic26 hmu
                obtain ⟨q27a, q27b⟩ := id q27
                have hEnt := ic25
                have hTC := ic26
                have ih31 := ih
                refine T_ld 135 (.int (i32 v20)) rfl (fun _ => rfl) ?_
                refine T_ld 136 (.int (i32 ((m.1 226) - 1))) rfl (fun _ => rfl) ?_
                refine T_icmp 174 139 rfl rfl rfl (r32 (by omega) (by omega)) (r32 (by omega) (by omega)) (fun (h32 : (m.1 226) - 1 < v20) => ?_) (fun (h32 : ¬ ((m.1 226) - 1 < v20)) => ?_)
                · skip
                  refine T_ld 175 (.ref 185) rfl (fun _ => rfl) ?_
                  refine T_ld 176 (.ref 185) rfl (fun _ => rfl) ?_
                  refine K_gf 179 (.int (i32 (m.1 235))) rfl rfl kd_185 rfl (kval_c2 (k := 235) (F := fun x => .int (i32 x)) rfl (show (m21.1 235) = (m.1 235) from ((fr1 Fm21 235 rfl).trans ((fr1 Fm19 235 rfl).trans (fr1 Fm5 235 rfl))))) rfl ?_
                  refine T_ld 180 (.int (i32 1)) rfl (fun _ => rfl) ?_
                  refine T_iadd 181 rfl rfl ?_
                  refine K_pf (l' := [(235, (m.1 235) + 1)]) 184 ((m.1 235) + 1) rfl rfl kd_185 rfl rfl rfl rfl rfl rfl rfl ?_
                  have g33 : 0 ≤ (m.1 235) + 1 ∧ (m.1 235) + 1 ≤ 100000000 := ⟨by omega, by omega⟩
                  refine T_ret rfl (fun _ => rfl) ?_
                  exact ⟨(mO m21 [(235, (m.1 235) + 1)] []), (KTy_mO Tm21 rfl rfl ⟨g33, trivial⟩ trivial), (fr_m (fr_s Fm21 (fr_m (fr_s Fm19 (fr_m (fr_s Fm5 (fr_m fr_0 rfl rfl) rfl rfl) rfl rfl) rfl rfl) rfl rfl) rfl rfl) rfl rfl), (show ((m.1 233) < (m.1 232) ∧ (m21.1 233) = (m.1 233) + 1) ∨ ((m.1 232) ≤ (m.1 233) ∧ (m21.1 233) = (m.1 233)) by rewrite [(show (m21.1 233) = (m.1 233) from ((fr1 Fm21 233 rfl).trans ((fr1 Fm19 233 rfl).trans (fr1 Fm5 233 rfl))))]; first | (first | exact hEnt | omega | (exfalso; have h9 := hNu ((m.1 233) % 128) (by omega) (by omega) (by omega); omega)) | (exfalso; omega)), (show PIp (m.1 226) (m21.1 233) (m.1 232) (m21.2 106) (m.2 91) (m21.2 92) (m21.2 94) by rewrite [(show (m21.1 233) = (m.1 233) from ((fr1 Fm21 233 rfl).trans ((fr1 Fm19 233 rfl).trans (fr1 Fm5 233 rfl)))), (show (m21.2 106) = (upI (m5.2 106) 0 (-1)) from ((fr2 Fm21 106 rfl).trans (fr2 Fm19 106 rfl))), (show (m21.2 92) = (m.2 92) from ((fr2 Fm21 92 rfl).trans ((fr2 Fm19 92 rfl).trans (fr2 Fm5 92 rfl)))), (show (m21.2 94) = (m.2 94) from ((fr2 Fm21 94 rfl).trans ((fr2 Fm19 94 rfl).trans (fr2 Fm5 94 rfl))))]; first | (exact hPI) | (exfalso; omega)), (show TCp (m.1 219) (m21.2 78) (m21.2 89) (m.1 223) by first | (exact hTC) | (exfalso; omega)), (show ((m.1 235) + 1) = (m.1 235) + 1 by omega), (show (m21.1 234) ≤ ((m.1 235) + 1) by rewrite [(show (m21.1 234) = (m.1 234) from ((fr1 Fm21 234 rfl).trans ((fr1 Fm19 234 rfl).trans (fr1 Fm5 234 rfl))))]; omega), rfl⟩
                · skip
                  refine T_ld 140 (.ref 185) rfl (fun _ => rfl) ?_
                  refine K_gf 143 (.ref 187) rfl rfl kd_185 rfl rfl rfl ?_
                  refine T_ld 145 (.int (i32 v20)) rfl (fun _ => rfl) ?_
                  refine K_aaisF 146 (upI (m5.2 106) 0 (-1)) (m.2 107) rfl rfl (by omega) (by omega) Tm21 (show (m21.2 106) = (upI (m5.2 106) 0 (-1)) from ((fr2 Fm21 106 rfl).trans (fr2 Fm19 106 rfl))) (show (m21.2 107) = (m.2 107) from ((fr2 Fm21 107 rfl).trans ((fr2 Fm19 107 rfl).trans (fr2 Fm5 107 rfl)))) ?_ (fun h34 h35 ok36 => ?_)
                  · skip
                    refine T_sto 148 [(5, .null), (0, .ref 185), (1, .int (i32 ((m.1 226) - 1))), (4, .int (i32 v20))] rfl (fun _ => rfl) ?_
                    refine T_ld 150 (.null) rfl (fun _ => rfl) ?_
                    refine T_pop 168 rfl (fun _ => rfl) ?_
                    refine T_iinc 171 [(4, .int (i32 (v20 + 1))), (5, .null), (0, .ref 185), (1, .int (i32 ((m.1 226) - 1)))] rfl rfl (by decide) rfl rfl ?_
                    refine T_goto 133 rfl (fun _ => rfl) ?_
                    refine Tm_lv (a := [(0, .ref 185), (1, .int (i32 ((m.1 226) - 1))), (4, .int (i32 (v20 + 1)))]) rfl rfl ⟨rfl, rfl, rfl, trivial⟩ ?_
                    exact ih31 (v20 + 1) (mO m21 [] []) (r32 (by omega) (by omega)) Tm21 (fr_m (fr_s Fm21 (fr_m fr_0 rfl rfl) rfl rfl) rfl rfl) (show 0 ≤ (v20 + 1) by omega) (show 0 ≤ (v20 + 1) ∧ (v20 + 1) ≤ 12 by omega) (show ((m.1 233) < (m.1 232) ∧ (m.1 233) = (m.1 233) + 1) ∨ ((m.1 232) ≤ (m.1 233) ∧ (m.1 233) = (m.1 233)) by first | exact hEnt | omega | (exfalso; have h9 := hNu ((m.1 233) % 128) (by omega) (by omega) (by omega); omega)) (show TCp (m.1 219) (m21.2 78) (m21.2 89) (m.1 223) by exact hTC) (show 20 - (v20 + 1) < (n30 : Int) by omega)
                  have ok37 : OKr m ((upI (m5.2 106) 0 (-1)) v20) := OKr_c (show (m21.2 107) = (m.2 107) from ((fr2 Fm21 107 rfl).trans ((fr2 Fm19 107 rfl).trans (fr2 Fm5 107 rfl)))).symm (show (m21.2 108) = (m.2 108) from ((fr2 Fm21 108 rfl).trans ((fr2 Fm19 108 rfl).trans (fr2 Fm5 108 rfl)))).symm ok36
                  refine T_sto 148 [(5, .ref (obq (m.2 107) ((upI (m5.2 106) 0 (-1)) v20))), (0, .ref 185), (1, .int (i32 ((m.1 226) - 1))), (4, .int (i32 v20))] rfl (fun _ => rfl) ?_
                  refine T_ld 150 (.ref (obq (m.2 107) ((upI (m5.2 106) 0 (-1)) v20))) rfl (fun _ => rfl) ?_
                  refine T_pop 153 rfl (fun _ => rfl) ?_
                  refine T_ld 155 (.ref (obq (m.2 107) ((upI (m5.2 106) 0 (-1)) v20))) rfl (fun _ => rfl) ?_
                  refine T_ld 156 (.ref 185) rfl (fun _ => rfl) ?_
                  refine K_gf 159 (.ref 12) rfl rfl kd_185 rfl rfl rfl ?_
                  refine T_ld 161 (.int (i32 v20)) rfl (fun _ => rfl) ?_
                  refine T_ld 162 (.ref 185) rfl (fun _ => rfl) ?_
                  refine K_gf 165 (.ref 188) rfl rfl kd_185 rfl rfl rfl ?_
                  refine T_callx 168 186 [.ref (obq (m.2 107) ((upI (m5.2 106) 0 (-1)) v20)), .ref 12, .int (i32 v20), .ref 188] [] rfl (inv_vt (args := [.ref 188, .int (i32 v20), .ref 12]) (obe_c (congrArg (fun f : Int → Int => (f ((upI (m5.2 106) 0 (-1)) v20)).toNat) (show (m21.2 107) = (m.2 107) from ((fr2 Fm21 107 rfl).trans ((fr2 Fm19 107 rfl).trans (fr2 Fm5 107 rfl))))) (khp_o0 _ (OKr_c (show (m21.2 107) = (m.2 107) from ((fr2 Fm21 107 rfl).trans ((fr2 Fm19 107 rfl).trans (fr2 Fm5 107 rfl)))) (show (m21.2 108) = (m.2 108) from ((fr2 Fm21 108 rfl).trans ((fr2 Fm19 108 rfl).trans (fr2 Fm5 108 rfl)))) ok37))) rfl rfl rfl) rfl rfl (TC_cast (fun g9 => [.ref (obq g9 ((upI (m5.2 106) 0 (-1)) v20)), .ref 12, .int (i32 v20), .ref 188]) (show (m21.2 107) = (m.2 107) from ((fr2 Fm21 107 rfl).trans ((fr2 Fm19 107 rfl).trans (fr2 Fm5 107 rfl)))) (c_op_work w (mO m21 [] []) c N D (by omega) Tm21 ((upI (m5.2 106) 0 (-1)) v20) v20 (r32 (by omega) (by omega)) (r32 (by omega) (by omega)) (OKr_c (show (m21.2 107) = (m.2 107) from ((fr2 Fm21 107 rfl).trans ((fr2 Fm19 107 rfl).trans (fr2 Fm5 107 rfl)))) (show (m21.2 108) = (m.2 108) from ((fr2 Fm21 108 rfl).trans ((fr2 Fm19 108 rfl).trans (fr2 Fm5 108 rfl)))) ok37) (show NKp (m21.2 18) (m21.2 19) by rewrite [(show (m21.2 18) = (m.2 18) from ((fr2 Fm21 18 rfl).trans ((fr2 Fm19 18 rfl).trans (fr2 Fm5 18 rfl)))), (show (m21.2 19) = (m.2 19) from ((fr2 Fm21 19 rfl).trans ((fr2 Fm19 19 rfl).trans (fr2 Fm5 19 rfl))))]; exact hNK) (show DEp (m21.1 224) (m21.2 45) (m21.2 46) (m21.2 47) (m21.2 49) by rewrite [(show (m21.1 224) = (m.1 224) from ((fr1 Fm21 224 rfl).trans ((fr1 Fm19 224 rfl).trans (fr1 Fm5 224 rfl)))), (show (m21.2 45) = (m.2 45) from ((fr2 Fm21 45 rfl).trans ((fr2 Fm19 45 rfl).trans (fr2 Fm5 45 rfl)))), (show (m21.2 46) = (m.2 46) from ((fr2 Fm21 46 rfl).trans ((fr2 Fm19 46 rfl).trans (fr2 Fm5 46 rfl)))), (show (m21.2 47) = (m.2 47) from ((fr2 Fm21 47 rfl).trans ((fr2 Fm19 47 rfl).trans (fr2 Fm5 47 rfl)))), (show (m21.2 49) = (m.2 49) from ((fr2 Fm21 49 rfl).trans ((fr2 Fm19 49 rfl).trans (fr2 Fm5 49 rfl))))]; exact hDE) (show AcP (m21.1 223) (m21.1 224) (m21.2 43) (m21.2 44) by rewrite [(show (m21.1 223) = (m.1 223) from ((fr1 Fm21 223 rfl).trans ((fr1 Fm19 223 rfl).trans (fr1 Fm5 223 rfl)))), (show (m21.1 224) = (m.1 224) from ((fr1 Fm21 224 rfl).trans ((fr1 Fm19 224 rfl).trans (fr1 Fm5 224 rfl)))), (show (m21.2 43) = (m.2 43) from ((fr2 Fm21 43 rfl).trans ((fr2 Fm19 43 rfl).trans (fr2 Fm5 43 rfl)))), (show (m21.2 44) = (m.2 44) from ((fr2 Fm21 44 rfl).trans ((fr2 Fm19 44 rfl).trans (fr2 Fm5 44 rfl))))]; exact hAC) (show TLp (m21.1 219) (m21.2 73) (m21.2 83) (m21.1 223) by rewrite [(show (m21.1 219) = (m.1 219) from ((fr1 Fm21 219 rfl).trans ((fr1 Fm19 219 rfl).trans (fr1 Fm5 219 rfl)))), (show (m21.2 73) = (m.2 73) from ((fr2 Fm21 73 rfl).trans ((fr2 Fm19 73 rfl).trans (fr2 Fm5 73 rfl)))), (show (m21.2 83) = (m.2 83) from ((fr2 Fm21 83 rfl).trans ((fr2 Fm19 83 rfl).trans (fr2 Fm5 83 rfl)))), (show (m21.1 223) = (m.1 223) from ((fr1 Fm21 223 rfl).trans ((fr1 Fm19 223 rfl).trans (fr1 Fm5 223 rfl))))]; exact hTL) (show LTp (m21.1 219) (m21.2 74) (m21.1 223) by rewrite [(show (m21.1 219) = (m.1 219) from ((fr1 Fm21 219 rfl).trans ((fr1 Fm19 219 rfl).trans (fr1 Fm5 219 rfl)))), (show (m21.2 74) = (m.2 74) from ((fr2 Fm21 74 rfl).trans ((fr2 Fm19 74 rfl).trans (fr2 Fm5 74 rfl)))), (show (m21.1 223) = (m.1 223) from ((fr1 Fm21 223 rfl).trans ((fr1 Fm19 223 rfl).trans (fr1 Fm5 223 rfl))))]; exact hTD) (show TCp (m21.1 219) (m21.2 78) (m21.2 89) (m21.1 223) by rewrite [(show (m21.1 219) = (m.1 219) from ((fr1 Fm21 219 rfl).trans ((fr1 Fm19 219 rfl).trans (fr1 Fm5 219 rfl)))), (show (m21.1 223) = (m.1 223) from ((fr1 Fm21 223 rfl).trans ((fr1 Fm19 223 rfl).trans (fr1 Fm5 223 rfl))))]; exact hTC) (show SPp (m21.1 225) (m21.2 52) (m21.2 58) (m21.2 55) (m21.2 56) (m21.1 219) (m21.1 224) by rewrite [(show (m21.1 225) = (m.1 225) from ((fr1 Fm21 225 rfl).trans ((fr1 Fm19 225 rfl).trans (fr1 Fm5 225 rfl)))), (show (m21.2 52) = (m.2 52) from ((fr2 Fm21 52 rfl).trans ((fr2 Fm19 52 rfl).trans (fr2 Fm5 52 rfl)))), (show (m21.2 58) = (m.2 58) from ((fr2 Fm21 58 rfl).trans ((fr2 Fm19 58 rfl).trans (fr2 Fm5 58 rfl)))), (show (m21.2 55) = (m.2 55) from ((fr2 Fm21 55 rfl).trans ((fr2 Fm19 55 rfl).trans (fr2 Fm5 55 rfl)))), (show (m21.2 56) = (m.2 56) from ((fr2 Fm21 56 rfl).trans ((fr2 Fm19 56 rfl).trans (fr2 Fm5 56 rfl)))), (show (m21.1 219) = (m.1 219) from ((fr1 Fm21 219 rfl).trans ((fr1 Fm19 219 rfl).trans (fr1 Fm5 219 rfl)))), (show (m21.1 224) = (m.1 224) from ((fr1 Fm21 224 rfl).trans ((fr1 Fm19 224 rfl).trans (fr1 Fm5 224 rfl))))]; exact hSP) (show 0 ≤ v20 ∧ v20 ≤ 11 by omega))) (fun rr38 k39 => ?_)
                  obtain ⟨m40, Tm40, Fm40, h41, rfl⟩ := k39
                  refine Or.inl ⟨_, _, _, _, rfl, ?_⟩
                  refine K_nb (st' := []) rfl ?_
                  replace h41 : TCp (m21.1 219) (m40.2 78) (m40.2 89) (m21.1 223) := h41
                  rewrite [(show (m21.1 219) = (m.1 219) from ((fr1 Fm21 219 rfl).trans ((fr1 Fm19 219 rfl).trans (fr1 Fm5 219 rfl)))), (show (m21.1 223) = (m.1 223) from ((fr1 Fm21 223 rfl).trans ((fr1 Fm19 223 rfl).trans (fr1 Fm5 223 rfl))))] at h41
                  have hTC := h41
                  refine T_iinc 171 [(4, .int (i32 (v20 + 1))), (5, .ref (obq (m.2 107) ((upI (m5.2 106) 0 (-1)) v20))), (0, .ref 185), (1, .int (i32 ((m.1 226) - 1)))] rfl rfl (by decide) rfl rfl ?_
                  refine T_goto 133 rfl (fun _ => rfl) ?_
                  refine Tm_lv (a := [(0, .ref 185), (1, .int (i32 ((m.1 226) - 1))), (4, .int (i32 (v20 + 1)))]) rfl rfl ⟨rfl, rfl, rfl, trivial⟩ ?_
                  exact ih31 (v20 + 1) (mO m40 [] []) (r32 (by omega) (by omega)) Tm40 (fr_m (fr_s Fm40 (fr_m (fr_s Fm21 (fr_m fr_0 rfl rfl) rfl rfl) rfl rfl) rfl rfl) rfl rfl) (show 0 ≤ (v20 + 1) by omega) (show 0 ≤ (v20 + 1) ∧ (v20 + 1) ≤ 12 by omega) (show ((m.1 233) < (m.1 232) ∧ (m.1 233) = (m.1 233) + 1) ∨ ((m.1 232) ≤ (m.1 233) ∧ (m.1 233) = (m.1 233)) by first | exact hEnt | omega | (exfalso; have h9 := hNu ((m.1 233) % 128) (by omega) (by omega) (by omega); omega)) (show TCp (m.1 219) (m40.2 78) (m40.2 89) (m.1 223) by exact hTC) (show 20 - (v20 + 1) < (n30 : Int) by omega)
            refine Tm_lv (a := [(0, .ref 185), (1, .int (i32 ((m.1 226) - 1))), (4, .int (i32 0))]) rfl rfl ⟨rfl, rfl, rfl, trivial⟩ ?_
            exact L133_22 ((20 - (0 : Int) : Int) + 1).toNat 0 (mO m19 [] []) ⟨by decide, by decide⟩ Tm19 (fr_m fr_0 rfl rfl) (show 0 ≤ (0 : Int) by omega) (show 0 ≤ (0 : Int) ∧ (0 : Int) ≤ 12 by omega) (show ((m.1 233) < (m.1 232) ∧ (m.1 233) = (m.1 233) + 1) ∨ ((m.1 232) ≤ (m.1 233) ∧ (m.1 233) = (m.1 233)) by first | exact hEnt | omega | (exfalso; have h9 := hNu ((m.1 233) % 128) (by omega) (by omega) (by omega); omega)) (show TCp (m.1 219) (m19.2 78) (m19.2 89) (m.1 223) by rewrite [(show (m19.2 78) = (m.2 78) from ((fr2 Fm19 78 rfl).trans (fr2 Fm5 78 rfl))), (show (m19.2 89) = (m.2 89) from ((fr2 Fm19 89 rfl).trans (fr2 Fm5 89 rfl)))]; exact hTC) (show 20 - (0 : Int) < ((((20 - (0 : Int) : Int) + 1).toNat : Nat) : Int) by omega)
          · skip
            refine T_ld 84 (.ref 185) rfl (fun _ => rfl) ?_
            refine K_gf 87 (.ref 186) rfl rfl kd_185 rfl rfl rfl ?_
            refine T_ld 88 (.ref 185) rfl (fun _ => rfl) ?_
            refine K_gf 91 (.int (i32 (m.1 233))) rfl rfl kd_185 rfl (kval_c2 (k := 233) (F := fun x => .int (i32 x)) rfl (show (m5.1 233) = (m.1 233) from (fr1 Fm5 233 rfl))) rfl ?_
            refine T_ld 94 (.int (i32 128)) rfl (fun _ => rfl) ?_
            refine T_irem 95 rfl rfl (by omega) (by omega) (by omega) (by omega) ?_
            refine K_aaopF 96 (m.2 107) rfl rfl (by omega) (by omega) Tm5 (show (m5.2 107) = (m.2 107) from (fr2 Fm5 107 rfl)) (fun h43 => ?_) (fun ok42 => ?_)
            · skip
              refine T_goto 100 rfl (fun _ => rfl) ?_
              refine T_sto 101 [(3, .null), (0, .ref 185), (1, .int (i32 ((m.1 226) - 1)))] rfl (fun _ => rfl) ?_
              refine T_ld 102 (.ref 185) rfl (fun _ => rfl) ?_
              refine K_gf 105 (.ref 187) rfl rfl kd_185 rfl rfl rfl ?_
              refine T_ld 106 (.int (i32 0)) rfl (fun _ => rfl) ?_
              refine T_ld 107 (.null) rfl (fun _ => rfl) ?_
              have G44 : ∀ j, (-1) ≤ (upI (m5.2 106) 0 (-1)) j ∧ (upI (m5.2 106) 0 (-1)) j ≤ 127 := upI_rg (Tm5.2.1 106) ⟨by omega, by omega⟩
              refine K_aasn (a' := [(106, upI (m5.2 106) 0 (-1))]) 108 (m5.2 106) rfl rfl (by omega) (by omega) Tm5 rfl rfl ?_
              refine T_ld 109 (.null) rfl (fun _ => rfl) ?_
              refine T_pop 130 rfl (fun _ => rfl) ?_
              have hPI : PIp (m.1 226) (m.1 233) (m.1 232) (upI (m5.2 106) 0 (-1)) (m.2 91) (m.2 92) (m.2 94) := by first | exact PI_cy hPI rfl ⟨by omega, by omega⟩ hLn hSZ (Or.inl ⟨by omega, rfl, rfl⟩) | exact PI_cy hPI rfl ⟨by omega, by omega⟩ hLn hSZ (Or.inr ⟨rfl, by omega, by omega, hEn.1, hEn.2⟩)
              refine T_ld 131 (.int (i32 0)) rfl (fun _ => rfl) ?_
              refine T_sto 133 [(4, .int (i32 0)), (3, .null), (0, .ref 185), (1, .int (i32 ((m.1 226) - 1)))] rfl (fun _ => rfl) ?_
              refine K_fl (KTy_mO Tm5 rfl rfl trivial ⟨G44, trivial⟩) (fun m45 Tm45 Fm45 => ?_)
              have L133_48 : ∀ (n56 : Nat) (v46 : Int) (m47 : mR), (R32 v46) → KTy m47 → fr [] [25, 71, 78, 85, 86, 87, 88, 89, 90, 98, 101, 102, 103, 104, 105] (mO m45 [] []) m47 → (0 ≤ v46) → (0 ≤ v46 ∧ v46 ≤ 12) → (((m.1 233) < (m.1 232) ∧ (m.1 233) = (m.1 233) + 1) ∨ ((m.1 232) ≤ (m.1 233) ∧ (m.1 233) = (m.1 233))) → (TCp (m.1 219) (m47.2 78) (m47.2 89) (m.1 223)) → 20 - v46 < (n56 : Int) → TT w D pm_177 (133, [(0, .ref 185), (1, .int (i32 ((m.1 226) - 1))), (4, .int (i32 v46))], [], (khp (mO m47 [] []) c, N), 0, 0) (Q_pi_cycle m c N) := by
                intro n56
                induction n56 with
                | zero =>
                  intro v46 m47 q53 Tm47 Fm47 ic49 ic50 ic51 ic52 hmu
                  obtain ⟨q53a, q53b⟩ := id q53
                  have hEnt := ic51
                  have hTC := ic52
                  exfalso
                  omega
                | succ n56 ih =>
                  intro v46 m47 q53 Tm47 Fm47 ic49 ic50 ic51 ic52 hmu
                  obtain ⟨q53a, q53b⟩ := id q53
                  have hEnt := ic51
                  have hTC := ic52
                  have ih57 := ih
                  refine T_ld 135 (.int (i32 v46)) rfl (fun _ => rfl) ?_
                  refine T_ld 136 (.int (i32 ((m.1 226) - 1))) rfl (fun _ => rfl) ?_
                  refine T_icmp 174 139 rfl rfl rfl (r32 (by omega) (by omega)) (r32 (by omega) (by omega)) (fun (h58 : (m.1 226) - 1 < v46) => ?_) (fun (h58 : ¬ ((m.1 226) - 1 < v46)) => ?_)
                  · skip
                    refine T_ld 175 (.ref 185) rfl (fun _ => rfl) ?_
                    refine T_ld 176 (.ref 185) rfl (fun _ => rfl) ?_
                    refine K_gf 179 (.int (i32 (m.1 235))) rfl rfl kd_185 rfl (kval_c2 (k := 235) (F := fun x => .int (i32 x)) rfl (show (m47.1 235) = (m.1 235) from ((fr1 Fm47 235 rfl).trans ((fr1 Fm45 235 rfl).trans (fr1 Fm5 235 rfl))))) rfl ?_
                    refine T_ld 180 (.int (i32 1)) rfl (fun _ => rfl) ?_
                    refine T_iadd 181 rfl rfl ?_
                    refine K_pf (l' := [(235, (m.1 235) + 1)]) 184 ((m.1 235) + 1) rfl rfl kd_185 rfl rfl rfl rfl rfl rfl rfl ?_
                    have g59 : 0 ≤ (m.1 235) + 1 ∧ (m.1 235) + 1 ≤ 100000000 := ⟨by omega, by omega⟩
                    refine T_ret rfl (fun _ => rfl) ?_
                    exact ⟨(mO m47 [(235, (m.1 235) + 1)] []), (KTy_mO Tm47 rfl rfl ⟨g59, trivial⟩ trivial), (fr_m (fr_s Fm47 (fr_m (fr_s Fm45 (fr_m (fr_s Fm5 (fr_m fr_0 rfl rfl) rfl rfl) rfl rfl) rfl rfl) rfl rfl) rfl rfl) rfl rfl), (show ((m.1 233) < (m.1 232) ∧ (m47.1 233) = (m.1 233) + 1) ∨ ((m.1 232) ≤ (m.1 233) ∧ (m47.1 233) = (m.1 233)) by rewrite [(show (m47.1 233) = (m.1 233) from ((fr1 Fm47 233 rfl).trans ((fr1 Fm45 233 rfl).trans (fr1 Fm5 233 rfl))))]; first | (first | exact hEnt | omega | (exfalso; have h9 := hNu ((m.1 233) % 128) (by omega) (by omega) (by omega); omega)) | (exfalso; omega)), (show PIp (m.1 226) (m47.1 233) (m.1 232) (m47.2 106) (m.2 91) (m47.2 92) (m47.2 94) by rewrite [(show (m47.1 233) = (m.1 233) from ((fr1 Fm47 233 rfl).trans ((fr1 Fm45 233 rfl).trans (fr1 Fm5 233 rfl)))), (show (m47.2 106) = (upI (m5.2 106) 0 (-1)) from ((fr2 Fm47 106 rfl).trans (fr2 Fm45 106 rfl))), (show (m47.2 92) = (m.2 92) from ((fr2 Fm47 92 rfl).trans ((fr2 Fm45 92 rfl).trans (fr2 Fm5 92 rfl)))), (show (m47.2 94) = (m.2 94) from ((fr2 Fm47 94 rfl).trans ((fr2 Fm45 94 rfl).trans (fr2 Fm5 94 rfl))))]; first | (exact hPI) | (exfalso; omega)), (show TCp (m.1 219) (m47.2 78) (m47.2 89) (m.1 223) by first | (exact hTC) | (exfalso; omega)), (show ((m.1 235) + 1) = (m.1 235) + 1 by omega), (show (m47.1 234) ≤ ((m.1 235) + 1) by rewrite [(show (m47.1 234) = (m.1 234) from ((fr1 Fm47 234 rfl).trans ((fr1 Fm45 234 rfl).trans (fr1 Fm5 234 rfl))))]; omega), rfl⟩
                  · skip
                    refine T_ld 140 (.ref 185) rfl (fun _ => rfl) ?_
                    refine K_gf 143 (.ref 187) rfl rfl kd_185 rfl rfl rfl ?_
                    refine T_ld 145 (.int (i32 v46)) rfl (fun _ => rfl) ?_
                    refine K_aaisF 146 (upI (m5.2 106) 0 (-1)) (m.2 107) rfl rfl (by omega) (by omega) Tm47 (show (m47.2 106) = (upI (m5.2 106) 0 (-1)) from ((fr2 Fm47 106 rfl).trans (fr2 Fm45 106 rfl))) (show (m47.2 107) = (m.2 107) from ((fr2 Fm47 107 rfl).trans ((fr2 Fm45 107 rfl).trans (fr2 Fm5 107 rfl)))) ?_ (fun h60 h61 ok62 => ?_)
                    · skip
                      refine T_sto 148 [(5, .null), (0, .ref 185), (1, .int (i32 ((m.1 226) - 1))), (4, .int (i32 v46))] rfl (fun _ => rfl) ?_
                      refine T_ld 150 (.null) rfl (fun _ => rfl) ?_
                      refine T_pop 168 rfl (fun _ => rfl) ?_
                      refine T_iinc 171 [(4, .int (i32 (v46 + 1))), (5, .null), (0, .ref 185), (1, .int (i32 ((m.1 226) - 1)))] rfl rfl (by decide) rfl rfl ?_
                      refine T_goto 133 rfl (fun _ => rfl) ?_
                      refine Tm_lv (a := [(0, .ref 185), (1, .int (i32 ((m.1 226) - 1))), (4, .int (i32 (v46 + 1)))]) rfl rfl ⟨rfl, rfl, rfl, trivial⟩ ?_
                      exact ih57 (v46 + 1) (mO m47 [] []) (r32 (by omega) (by omega)) Tm47 (fr_m (fr_s Fm47 (fr_m fr_0 rfl rfl) rfl rfl) rfl rfl) (show 0 ≤ (v46 + 1) by omega) (show 0 ≤ (v46 + 1) ∧ (v46 + 1) ≤ 12 by omega) (show ((m.1 233) < (m.1 232) ∧ (m.1 233) = (m.1 233) + 1) ∨ ((m.1 232) ≤ (m.1 233) ∧ (m.1 233) = (m.1 233)) by first | exact hEnt | omega | (exfalso; have h9 := hNu ((m.1 233) % 128) (by omega) (by omega) (by omega); omega)) (show TCp (m.1 219) (m47.2 78) (m47.2 89) (m.1 223) by exact hTC) (show 20 - (v46 + 1) < (n56 : Int) by omega)
                    have ok63 : OKr m ((upI (m5.2 106) 0 (-1)) v46) := OKr_c (show (m47.2 107) = (m.2 107) from ((fr2 Fm47 107 rfl).trans ((fr2 Fm45 107 rfl).trans (fr2 Fm5 107 rfl)))).symm (show (m47.2 108) = (m.2 108) from ((fr2 Fm47 108 rfl).trans ((fr2 Fm45 108 rfl).trans (fr2 Fm5 108 rfl)))).symm ok62
                    refine T_sto 148 [(5, .ref (obq (m.2 107) ((upI (m5.2 106) 0 (-1)) v46))), (0, .ref 185), (1, .int (i32 ((m.1 226) - 1))), (4, .int (i32 v46))] rfl (fun _ => rfl) ?_
                    refine T_ld 150 (.ref (obq (m.2 107) ((upI (m5.2 106) 0 (-1)) v46))) rfl (fun _ => rfl) ?_
                    refine T_pop 153 rfl (fun _ => rfl) ?_
                    refine T_ld 155 (.ref (obq (m.2 107) ((upI (m5.2 106) 0 (-1)) v46))) rfl (fun _ => rfl) ?_
                    refine T_ld 156 (.ref 185) rfl (fun _ => rfl) ?_
                    refine K_gf 159 (.ref 12) rfl rfl kd_185 rfl rfl rfl ?_
                    refine T_ld 161 (.int (i32 v46)) rfl (fun _ => rfl) ?_
                    refine T_ld 162 (.ref 185) rfl (fun _ => rfl) ?_
                    refine K_gf 165 (.ref 188) rfl rfl kd_185 rfl rfl rfl ?_
                    refine T_callx 168 186 [.ref (obq (m.2 107) ((upI (m5.2 106) 0 (-1)) v46)), .ref 12, .int (i32 v46), .ref 188] [] rfl (inv_vt (args := [.ref 188, .int (i32 v46), .ref 12]) (obe_c (congrArg (fun f : Int → Int => (f ((upI (m5.2 106) 0 (-1)) v46)).toNat) (show (m47.2 107) = (m.2 107) from ((fr2 Fm47 107 rfl).trans ((fr2 Fm45 107 rfl).trans (fr2 Fm5 107 rfl))))) (khp_o0 _ (OKr_c (show (m47.2 107) = (m.2 107) from ((fr2 Fm47 107 rfl).trans ((fr2 Fm45 107 rfl).trans (fr2 Fm5 107 rfl)))) (show (m47.2 108) = (m.2 108) from ((fr2 Fm47 108 rfl).trans ((fr2 Fm45 108 rfl).trans (fr2 Fm5 108 rfl)))) ok63))) rfl rfl rfl) rfl rfl (TC_cast (fun g9 => [.ref (obq g9 ((upI (m5.2 106) 0 (-1)) v46)), .ref 12, .int (i32 v46), .ref 188]) (show (m47.2 107) = (m.2 107) from ((fr2 Fm47 107 rfl).trans ((fr2 Fm45 107 rfl).trans (fr2 Fm5 107 rfl)))) (c_op_work w (mO m47 [] []) c N D (by omega) Tm47 ((upI (m5.2 106) 0 (-1)) v46) v46 (r32 (by omega) (by omega)) (r32 (by omega) (by omega)) (OKr_c (show (m47.2 107) = (m.2 107) from ((fr2 Fm47 107 rfl).trans ((fr2 Fm45 107 rfl).trans (fr2 Fm5 107 rfl)))) (show (m47.2 108) = (m.2 108) from ((fr2 Fm47 108 rfl).trans ((fr2 Fm45 108 rfl).trans (fr2 Fm5 108 rfl)))) ok63) (show NKp (m47.2 18) (m47.2 19) by rewrite [(show (m47.2 18) = (m.2 18) from ((fr2 Fm47 18 rfl).trans ((fr2 Fm45 18 rfl).trans (fr2 Fm5 18 rfl)))), (show (m47.2 19) = (m.2 19) from ((fr2 Fm47 19 rfl).trans ((fr2 Fm45 19 rfl).trans (fr2 Fm5 19 rfl))))]; exact hNK) (show DEp (m47.1 224) (m47.2 45) (m47.2 46) (m47.2 47) (m47.2 49) by rewrite [(show (m47.1 224) = (m.1 224) from ((fr1 Fm47 224 rfl).trans ((fr1 Fm45 224 rfl).trans (fr1 Fm5 224 rfl)))), (show (m47.2 45) = (m.2 45) from ((fr2 Fm47 45 rfl).trans ((fr2 Fm45 45 rfl).trans (fr2 Fm5 45 rfl)))), (show (m47.2 46) = (m.2 46) from ((fr2 Fm47 46 rfl).trans ((fr2 Fm45 46 rfl).trans (fr2 Fm5 46 rfl)))), (show (m47.2 47) = (m.2 47) from ((fr2 Fm47 47 rfl).trans ((fr2 Fm45 47 rfl).trans (fr2 Fm5 47 rfl)))), (show (m47.2 49) = (m.2 49) from ((fr2 Fm47 49 rfl).trans ((fr2 Fm45 49 rfl).trans (fr2 Fm5 49 rfl))))]; exact hDE) (show AcP (m47.1 223) (m47.1 224) (m47.2 43) (m47.2 44) by rewrite [(show (m47.1 223) = (m.1 223) from ((fr1 Fm47 223 rfl).trans ((fr1 Fm45 223 rfl).trans (fr1 Fm5 223 rfl)))), (show (m47.1 224) = (m.1 224) from ((fr1 Fm47 224 rfl).trans ((fr1 Fm45 224 rfl).trans (fr1 Fm5 224 rfl)))), (show (m47.2 43) = (m.2 43) from ((fr2 Fm47 43 rfl).trans ((fr2 Fm45 43 rfl).trans (fr2 Fm5 43 rfl)))), (show (m47.2 44) = (m.2 44) from ((fr2 Fm47 44 rfl).trans ((fr2 Fm45 44 rfl).trans (fr2 Fm5 44 rfl))))]; exact hAC) (show TLp (m47.1 219) (m47.2 73) (m47.2 83) (m47.1 223) by rewrite [(show (m47.1 219) = (m.1 219) from ((fr1 Fm47 219 rfl).trans ((fr1 Fm45 219 rfl).trans (fr1 Fm5 219 rfl)))), (show (m47.2 73) = (m.2 73) from ((fr2 Fm47 73 rfl).trans ((fr2 Fm45 73 rfl).trans (fr2 Fm5 73 rfl)))), (show (m47.2 83) = (m.2 83) from ((fr2 Fm47 83 rfl).trans ((fr2 Fm45 83 rfl).trans (fr2 Fm5 83 rfl)))), (show (m47.1 223) = (m.1 223) from ((fr1 Fm47 223 rfl).trans ((fr1 Fm45 223 rfl).trans (fr1 Fm5 223 rfl))))]; exact hTL) (show LTp (m47.1 219) (m47.2 74) (m47.1 223) by rewrite [(show (m47.1 219) = (m.1 219) from ((fr1 Fm47 219 rfl).trans ((fr1 Fm45 219 rfl).trans (fr1 Fm5 219 rfl)))), (show (m47.2 74) = (m.2 74) from ((fr2 Fm47 74 rfl).trans ((fr2 Fm45 74 rfl).trans (fr2 Fm5 74 rfl)))), (show (m47.1 223) = (m.1 223) from ((fr1 Fm47 223 rfl).trans ((fr1 Fm45 223 rfl).trans (fr1 Fm5 223 rfl))))]; exact hTD) (show TCp (m47.1 219) (m47.2 78) (m47.2 89) (m47.1 223) by rewrite [(show (m47.1 219) = (m.1 219) from ((fr1 Fm47 219 rfl).trans ((fr1 Fm45 219 rfl).trans (fr1 Fm5 219 rfl)))), (show (m47.1 223) = (m.1 223) from ((fr1 Fm47 223 rfl).trans ((fr1 Fm45 223 rfl).trans (fr1 Fm5 223 rfl))))]; exact hTC) (show SPp (m47.1 225) (m47.2 52) (m47.2 58) (m47.2 55) (m47.2 56) (m47.1 219) (m47.1 224) by rewrite [(show (m47.1 225) = (m.1 225) from ((fr1 Fm47 225 rfl).trans ((fr1 Fm45 225 rfl).trans (fr1 Fm5 225 rfl)))), (show (m47.2 52) = (m.2 52) from ((fr2 Fm47 52 rfl).trans ((fr2 Fm45 52 rfl).trans (fr2 Fm5 52 rfl)))), (show (m47.2 58) = (m.2 58) from ((fr2 Fm47 58 rfl).trans ((fr2 Fm45 58 rfl).trans (fr2 Fm5 58 rfl)))), (show (m47.2 55) = (m.2 55) from ((fr2 Fm47 55 rfl).trans ((fr2 Fm45 55 rfl).trans (fr2 Fm5 55 rfl)))), (show (m47.2 56) = (m.2 56) from ((fr2 Fm47 56 rfl).trans ((fr2 Fm45 56 rfl).trans (fr2 Fm5 56 rfl)))), (show (m47.1 219) = (m.1 219) from ((fr1 Fm47 219 rfl).trans ((fr1 Fm45 219 rfl).trans (fr1 Fm5 219 rfl)))), (show (m47.1 224) = (m.1 224) from ((fr1 Fm47 224 rfl).trans ((fr1 Fm45 224 rfl).trans (fr1 Fm5 224 rfl))))]; exact hSP) (show 0 ≤ v46 ∧ v46 ≤ 11 by omega))) (fun rr64 k65 => ?_)
                    obtain ⟨m66, Tm66, Fm66, h67, rfl⟩ := k65
                    refine Or.inl ⟨_, _, _, _, rfl, ?_⟩
                    refine K_nb (st' := []) rfl ?_
                    replace h67 : TCp (m47.1 219) (m66.2 78) (m66.2 89) (m47.1 223) := h67
                    rewrite [(show (m47.1 219) = (m.1 219) from ((fr1 Fm47 219 rfl).trans ((fr1 Fm45 219 rfl).trans (fr1 Fm5 219 rfl)))), (show (m47.1 223) = (m.1 223) from ((fr1 Fm47 223 rfl).trans ((fr1 Fm45 223 rfl).trans (fr1 Fm5 223 rfl))))] at h67
                    have hTC := h67
                    refine T_iinc 171 [(4, .int (i32 (v46 + 1))), (5, .ref (obq (m.2 107) ((upI (m5.2 106) 0 (-1)) v46))), (0, .ref 185), (1, .int (i32 ((m.1 226) - 1)))] rfl rfl (by decide) rfl rfl ?_
                    refine T_goto 133 rfl (fun _ => rfl) ?_
                    refine Tm_lv (a := [(0, .ref 185), (1, .int (i32 ((m.1 226) - 1))), (4, .int (i32 (v46 + 1)))]) rfl rfl ⟨rfl, rfl, rfl, trivial⟩ ?_
                    exact ih57 (v46 + 1) (mO m66 [] []) (r32 (by omega) (by omega)) Tm66 (fr_m (fr_s Fm66 (fr_m (fr_s Fm47 (fr_m fr_0 rfl rfl) rfl rfl) rfl rfl) rfl rfl) rfl rfl) (show 0 ≤ (v46 + 1) by omega) (show 0 ≤ (v46 + 1) ∧ (v46 + 1) ≤ 12 by omega) (show ((m.1 233) < (m.1 232) ∧ (m.1 233) = (m.1 233) + 1) ∨ ((m.1 232) ≤ (m.1 233) ∧ (m.1 233) = (m.1 233)) by first | exact hEnt | omega | (exfalso; have h9 := hNu ((m.1 233) % 128) (by omega) (by omega) (by omega); omega)) (show TCp (m.1 219) (m66.2 78) (m66.2 89) (m.1 223) by exact hTC) (show 20 - (v46 + 1) < (n56 : Int) by omega)
              refine Tm_lv (a := [(0, .ref 185), (1, .int (i32 ((m.1 226) - 1))), (4, .int (i32 0))]) rfl rfl ⟨rfl, rfl, rfl, trivial⟩ ?_
              exact L133_48 ((20 - (0 : Int) : Int) + 1).toNat 0 (mO m45 [] []) ⟨by decide, by decide⟩ Tm45 (fr_m fr_0 rfl rfl) (show 0 ≤ (0 : Int) by omega) (show 0 ≤ (0 : Int) ∧ (0 : Int) ≤ 12 by omega) (show ((m.1 233) < (m.1 232) ∧ (m.1 233) = (m.1 233) + 1) ∨ ((m.1 232) ≤ (m.1 233) ∧ (m.1 233) = (m.1 233)) by first | exact hEnt | omega | (exfalso; have h9 := hNu ((m.1 233) % 128) (by omega) (by omega) (by omega); omega)) (show TCp (m.1 219) (m45.2 78) (m45.2 89) (m.1 223) by rewrite [(show (m45.2 78) = (m.2 78) from ((fr2 Fm45 78 rfl).trans (fr2 Fm5 78 rfl))), (show (m45.2 89) = (m.2 89) from ((fr2 Fm45 89 rfl).trans (fr2 Fm5 89 rfl)))]; exact hTC) (show 20 - (0 : Int) < ((((20 - (0 : Int) : Int) + 1).toNat : Nat) : Int) by omega)
            have ok68 : OKr m ((m.1 233) % 128) := OKr_c (show (m5.2 107) = (m.2 107) from (fr2 Fm5 107 rfl)).symm (show (m5.2 108) = (m.2 108) from (fr2 Fm5 108 rfl)).symm ok42
            refine T_goto 100 rfl (fun _ => rfl) ?_
            refine T_sto 101 [(3, .ref (obq (m.2 107) ((m.1 233) % 128))), (0, .ref 185), (1, .int (i32 ((m.1 226) - 1)))] rfl (fun _ => rfl) ?_
            refine T_ld 102 (.ref 185) rfl (fun _ => rfl) ?_
            refine K_gf 105 (.ref 187) rfl rfl kd_185 rfl rfl rfl ?_
            refine T_ld 106 (.int (i32 0)) rfl (fun _ => rfl) ?_
            refine T_ld 107 (.ref (obq (m.2 107) ((m.1 233) % 128))) rfl (fun _ => rfl) ?_
            have G69 : ∀ j, (-1) ≤ (upI (m5.2 106) 0 ((m.1 233) % 128)) j ∧ (upI (m5.2 106) 0 ((m.1 233) % 128)) j ≤ 127 := upI_rg (Tm5.2.1 106) ⟨by omega, by omega⟩
            refine K_aaso (a' := [(106, upI (m5.2 106) 0 ((m.1 233) % 128))]) 108 (m5.2 106) rfl rfl (by omega) (by omega) Tm5 (OKr_c (show (m5.2 107) = (m.2 107) from (fr2 Fm5 107 rfl)) (show (m5.2 108) = (m.2 108) from (fr2 Fm5 108 rfl)) ok68) (congrArg (fun f : Int → Int => (f ((m.1 233) % 128)).toNat) (show (m5.2 107) = (m.2 107) from (fr2 Fm5 107 rfl))) rfl rfl ?_
            refine T_ld 109 (.ref (obq (m.2 107) ((m.1 233) % 128))) rfl (fun _ => rfl) ?_
            refine T_pop 112 rfl (fun _ => rfl) ?_
            refine T_ld 113 (.ref (obq (m.2 107) ((m.1 233) % 128))) rfl (fun _ => rfl) ?_
            refine T_ld 114 (.ref 185) rfl (fun _ => rfl) ?_
            refine K_gf 117 (.ref 12) rfl rfl kd_185 rfl rfl rfl ?_
            have hEp := PI_en hPI hLn (by omega) (by omega) (by omega)
            refine T_callx 120 180 [.ref (obq (m.2 107) ((m.1 233) % 128)), .ref 12] [] rfl (inv_vt (args := [.ref 12]) (obe_c (congrArg (fun f : Int → Int => (f ((m.1 233) % 128)).toNat) (show (m5.2 107) = (m.2 107) from (fr2 Fm5 107 rfl))) (khp_o0 _ (OKr_c (show (m5.2 107) = (m.2 107) from (fr2 Fm5 107 rfl)) (show (m5.2 108) = (m.2 108) from (fr2 Fm5 108 rfl)) ok68))) rfl rfl rfl) rfl rfl (TC_cast (fun g9 => [.ref (obq g9 ((m.1 233) % 128)), .ref 12]) (show (m5.2 107) = (m.2 107) from (fr2 Fm5 107 rfl)) (c_op_enter w (mO m5 [] [(106, upI (m5.2 106) 0 ((m.1 233) % 128))]) c N D (by omega) (KTy_mO Tm5 rfl rfl trivial ⟨G69, trivial⟩) ((m.1 233) % 128) (r32 (by omega) (by omega)) (OKr_c (show (m5.2 107) = (m.2 107) from (fr2 Fm5 107 rfl)) (show (m5.2 108) = (m.2 108) from (fr2 Fm5 108 rfl)) ok68) (show NKp (m5.2 18) (m5.2 19) by rewrite [(show (m5.2 18) = (m.2 18) from (fr2 Fm5 18 rfl)), (show (m5.2 19) = (m.2 19) from (fr2 Fm5 19 rfl))]; exact hNK) (show (m5.2 91) ((m.1 233) % 128) = 0 → (m5.2 92) ((m.1 233) % 128) ≤ 128 by rewrite [(show (m5.2 91) = (m.2 91) from (fr2 Fm5 91 rfl)), (show (m5.2 92) = (m.2 92) from (fr2 Fm5 92 rfl))]; exact hEp))) (fun rr70 k71 => ?_)
            obtain ⟨m72, Tm72, Fm72, h73, rfl⟩ := k71
            refine Or.inl ⟨_, _, _, _, rfl, ?_⟩
            refine K_nb (st' := []) rfl ?_
            replace h73 : (∀ v, v ≠ ((m.1 233) % 128) → (m72.2 94) v = (m5.2 94) v) ∧ ((m5.2 91) ((m.1 233) % 128) = 0 → (m72.2 94) ((m.1 233) % 128) ≤ (m5.2 92) ((m.1 233) % 128)) := h73
            rewrite [(show (m5.2 94) = (m.2 94) from (fr2 Fm5 94 rfl)), (show (m5.2 91) = (m.2 91) from (fr2 Fm5 91 rfl)), (show (m5.2 92) = (m.2 92) from (fr2 Fm5 92 rfl))] at h73
            have hEn := h73
            refine T_ld 121 (.ref 185) rfl (fun _ => rfl) ?_
            refine T_ld 122 (.ref 185) rfl (fun _ => rfl) ?_
            refine K_gf 125 (.int (i32 (m.1 233))) rfl rfl kd_185 rfl (kval_c2 (k := 233) (F := fun x => .int (i32 x)) rfl (show (m72.1 233) = (m.1 233) from ((fr1 Fm72 233 rfl).trans (fr1 Fm5 233 rfl)))) rfl ?_
            refine T_ld 126 (.int (i32 1)) rfl (fun _ => rfl) ?_
            refine T_iadd 127 rfl rfl ?_
            refine K_pf (l' := [(233, (m.1 233) + 1)]) 130 ((m.1 233) + 1) rfl rfl kd_185 rfl rfl rfl rfl rfl rfl rfl ?_
            have g74 : 0 ≤ (m.1 233) + 1 ∧ (m.1 233) + 1 ≤ 1000000 := ⟨by omega, by omega⟩
            have hPI : PIp (m.1 226) ((m.1 233) + 1) (m.1 232) (upI (m5.2 106) 0 ((m.1 233) % 128)) (m.2 91) (m.2 92) (m72.2 94) := by first | exact PI_cy hPI rfl ⟨by omega, by omega⟩ hLn hSZ (Or.inl ⟨by omega, rfl, rfl⟩) | exact PI_cy hPI rfl ⟨by omega, by omega⟩ hLn hSZ (Or.inr ⟨rfl, by omega, by omega, hEn.1, hEn.2⟩)
            refine T_ld 131 (.int (i32 0)) rfl (fun _ => rfl) ?_
            refine T_sto 133 [(4, .int (i32 0)), (3, .ref (obq (m.2 107) ((m.1 233) % 128))), (0, .ref 185), (1, .int (i32 ((m.1 226) - 1)))] rfl (fun _ => rfl) ?_
            refine K_fl (KTy_mO Tm72 rfl rfl ⟨g74, trivial⟩ trivial) (fun m75 Tm75 Fm75 => ?_)
            have L133_78 : ∀ (n86 : Nat) (v76 : Int) (m77 : mR), (R32 v76) → KTy m77 → fr [] [25, 71, 78, 85, 86, 87, 88, 89, 90, 98, 101, 102, 103, 104, 105] (mO m75 [] []) m77 → (0 ≤ v76) → (0 ≤ v76 ∧ v76 ≤ 12) → (((m.1 233) < (m.1 232) ∧ ((m.1 233) + 1) = (m.1 233) + 1) ∨ ((m.1 232) ≤ (m.1 233) ∧ ((m.1 233) + 1) = (m.1 233))) → (TCp (m.1 219) (m77.2 78) (m77.2 89) (m.1 223)) → 20 - v76 < (n86 : Int) → TT w D pm_177 (133, [(0, .ref 185), (1, .int (i32 ((m.1 226) - 1))), (4, .int (i32 v76))], [], (khp (mO m77 [] []) c, N), 0, 0) (Q_pi_cycle m c N) := by
              intro n86
              induction n86 with
              | zero =>
                intro v76 m77 q83 Tm77 Fm77 ic79 ic80 ic81 ic82 hmu
                obtain ⟨q83a, q83b⟩ := id q83
                have hEnt := ic81
                have hTC := ic82
                exfalso
                omega
              | succ n86 ih =>
                intro v76 m77 q83 Tm77 Fm77 ic79 ic80 ic81 ic82 hmu
                obtain ⟨q83a, q83b⟩ := id q83
                have hEnt := ic81
                have hTC := ic82
                have ih87 := ih
                refine T_ld 135 (.int (i32 v76)) rfl (fun _ => rfl) ?_
                refine T_ld 136 (.int (i32 ((m.1 226) - 1))) rfl (fun _ => rfl) ?_
                refine T_icmp 174 139 rfl rfl rfl (r32 (by omega) (by omega)) (r32 (by omega) (by omega)) (fun (h88 : (m.1 226) - 1 < v76) => ?_) (fun (h88 : ¬ ((m.1 226) - 1 < v76)) => ?_)
                · skip
                  refine T_ld 175 (.ref 185) rfl (fun _ => rfl) ?_
                  refine T_ld 176 (.ref 185) rfl (fun _ => rfl) ?_
                  refine K_gf 179 (.int (i32 (m.1 235))) rfl rfl kd_185 rfl (kval_c2 (k := 235) (F := fun x => .int (i32 x)) rfl (show (m77.1 235) = (m.1 235) from ((fr1 Fm77 235 rfl).trans ((fr1 Fm75 235 rfl).trans ((fr1 Fm72 235 rfl).trans (fr1 Fm5 235 rfl)))))) rfl ?_
                  refine T_ld 180 (.int (i32 1)) rfl (fun _ => rfl) ?_
                  refine T_iadd 181 rfl rfl ?_
                  refine K_pf (l' := [(235, (m.1 235) + 1)]) 184 ((m.1 235) + 1) rfl rfl kd_185 rfl rfl rfl rfl rfl rfl rfl ?_
                  have g89 : 0 ≤ (m.1 235) + 1 ∧ (m.1 235) + 1 ≤ 100000000 := ⟨by omega, by omega⟩
                  refine T_ret rfl (fun _ => rfl) ?_
                  exact ⟨(mO m77 [(235, (m.1 235) + 1)] []), (KTy_mO Tm77 rfl rfl ⟨g89, trivial⟩ trivial), (fr_m (fr_s Fm77 (fr_m (fr_s Fm75 (fr_m (fr_s Fm72 (fr_m (fr_s Fm5 (fr_m fr_0 rfl rfl) rfl rfl) rfl rfl) rfl rfl) rfl rfl) rfl rfl) rfl rfl) rfl rfl) rfl rfl), (show ((m.1 233) < (m.1 232) ∧ (m77.1 233) = (m.1 233) + 1) ∨ ((m.1 232) ≤ (m.1 233) ∧ (m77.1 233) = (m.1 233)) by rewrite [(show (m77.1 233) = ((m.1 233) + 1) from ((fr1 Fm77 233 rfl).trans (fr1 Fm75 233 rfl)))]; first | (first | exact hEnt | omega | (exfalso; have h9 := hNu ((m.1 233) % 128) (by omega) (by omega) (by omega); omega)) | (exfalso; omega)), (show PIp (m.1 226) (m77.1 233) (m.1 232) (m77.2 106) (m.2 91) (m77.2 92) (m77.2 94) by rewrite [(show (m77.1 233) = ((m.1 233) + 1) from ((fr1 Fm77 233 rfl).trans (fr1 Fm75 233 rfl))), (show (m77.2 106) = (upI (m5.2 106) 0 ((m.1 233) % 128)) from ((fr2 Fm77 106 rfl).trans ((fr2 Fm75 106 rfl).trans (fr2 Fm72 106 rfl)))), (show (m77.2 92) = (m.2 92) from ((fr2 Fm77 92 rfl).trans ((fr2 Fm75 92 rfl).trans ((fr2 Fm72 92 rfl).trans (fr2 Fm5 92 rfl))))), (show (m77.2 94) = (m72.2 94) from ((fr2 Fm77 94 rfl).trans (fr2 Fm75 94 rfl)))]; first | (exact hPI) | (exfalso; omega)), (show TCp (m.1 219) (m77.2 78) (m77.2 89) (m.1 223) by first | (exact hTC) | (exfalso; omega)), (show ((m.1 235) + 1) = (m.1 235) + 1 by omega), (show (m77.1 234) ≤ ((m.1 235) + 1) by rewrite [(show (m77.1 234) = (m.1 234) from ((fr1 Fm77 234 rfl).trans ((fr1 Fm75 234 rfl).trans ((fr1 Fm72 234 rfl).trans (fr1 Fm5 234 rfl)))))]; omega), rfl⟩
                · skip
                  refine T_ld 140 (.ref 185) rfl (fun _ => rfl) ?_
                  refine K_gf 143 (.ref 187) rfl rfl kd_185 rfl rfl rfl ?_
                  refine T_ld 145 (.int (i32 v76)) rfl (fun _ => rfl) ?_
                  refine K_aaisF 146 (upI (m5.2 106) 0 ((m.1 233) % 128)) (m.2 107) rfl rfl (by omega) (by omega) Tm77 (show (m77.2 106) = (upI (m5.2 106) 0 ((m.1 233) % 128)) from ((fr2 Fm77 106 rfl).trans ((fr2 Fm75 106 rfl).trans (fr2 Fm72 106 rfl)))) (show (m77.2 107) = (m.2 107) from ((fr2 Fm77 107 rfl).trans ((fr2 Fm75 107 rfl).trans ((fr2 Fm72 107 rfl).trans (fr2 Fm5 107 rfl))))) ?_ (fun h90 h91 ok92 => ?_)
                  · skip
                    refine T_sto 148 [(5, .null), (0, .ref 185), (1, .int (i32 ((m.1 226) - 1))), (4, .int (i32 v76))] rfl (fun _ => rfl) ?_
                    refine T_ld 150 (.null) rfl (fun _ => rfl) ?_
                    refine T_pop 168 rfl (fun _ => rfl) ?_
                    refine T_iinc 171 [(4, .int (i32 (v76 + 1))), (5, .null), (0, .ref 185), (1, .int (i32 ((m.1 226) - 1)))] rfl rfl (by decide) rfl rfl ?_
                    refine T_goto 133 rfl (fun _ => rfl) ?_
                    refine Tm_lv (a := [(0, .ref 185), (1, .int (i32 ((m.1 226) - 1))), (4, .int (i32 (v76 + 1)))]) rfl rfl ⟨rfl, rfl, rfl, trivial⟩ ?_
                    exact ih87 (v76 + 1) (mO m77 [] []) (r32 (by omega) (by omega)) Tm77 (fr_m (fr_s Fm77 (fr_m fr_0 rfl rfl) rfl rfl) rfl rfl) (show 0 ≤ (v76 + 1) by omega) (show 0 ≤ (v76 + 1) ∧ (v76 + 1) ≤ 12 by omega) (show ((m.1 233) < (m.1 232) ∧ ((m.1 233) + 1) = (m.1 233) + 1) ∨ ((m.1 232) ≤ (m.1 233) ∧ ((m.1 233) + 1) = (m.1 233)) by first | exact hEnt | omega | (exfalso; have h9 := hNu ((m.1 233) % 128) (by omega) (by omega) (by omega); omega)) (show TCp (m.1 219) (m77.2 78) (m77.2 89) (m.1 223) by exact hTC) (show 20 - (v76 + 1) < (n86 : Int) by omega)
                  have ok93 : OKr m ((upI (m5.2 106) 0 ((m.1 233) % 128)) v76) := OKr_c (show (m77.2 107) = (m.2 107) from ((fr2 Fm77 107 rfl).trans ((fr2 Fm75 107 rfl).trans ((fr2 Fm72 107 rfl).trans (fr2 Fm5 107 rfl))))).symm (show (m77.2 108) = (m.2 108) from ((fr2 Fm77 108 rfl).trans ((fr2 Fm75 108 rfl).trans ((fr2 Fm72 108 rfl).trans (fr2 Fm5 108 rfl))))).symm ok92
                  refine T_sto 148 [(5, .ref (obq (m.2 107) ((upI (m5.2 106) 0 ((m.1 233) % 128)) v76))), (0, .ref 185), (1, .int (i32 ((m.1 226) - 1))), (4, .int (i32 v76))] rfl (fun _ => rfl) ?_
                  refine T_ld 150 (.ref (obq (m.2 107) ((upI (m5.2 106) 0 ((m.1 233) % 128)) v76))) rfl (fun _ => rfl) ?_
                  refine T_pop 153 rfl (fun _ => rfl) ?_
                  refine T_ld 155 (.ref (obq (m.2 107) ((upI (m5.2 106) 0 ((m.1 233) % 128)) v76))) rfl (fun _ => rfl) ?_
                  refine T_ld 156 (.ref 185) rfl (fun _ => rfl) ?_
                  refine K_gf 159 (.ref 12) rfl rfl kd_185 rfl rfl rfl ?_
                  refine T_ld 161 (.int (i32 v76)) rfl (fun _ => rfl) ?_
                  refine T_ld 162 (.ref 185) rfl (fun _ => rfl) ?_
                  refine K_gf 165 (.ref 188) rfl rfl kd_185 rfl rfl rfl ?_
                  refine T_callx 168 186 [.ref (obq (m.2 107) ((upI (m5.2 106) 0 ((m.1 233) % 128)) v76)), .ref 12, .int (i32 v76), .ref 188] [] rfl (inv_vt (args := [.ref 188, .int (i32 v76), .ref 12]) (obe_c (congrArg (fun f : Int → Int => (f ((upI (m5.2 106) 0 ((m.1 233) % 128)) v76)).toNat) (show (m77.2 107) = (m.2 107) from ((fr2 Fm77 107 rfl).trans ((fr2 Fm75 107 rfl).trans ((fr2 Fm72 107 rfl).trans (fr2 Fm5 107 rfl)))))) (khp_o0 _ (OKr_c (show (m77.2 107) = (m.2 107) from ((fr2 Fm77 107 rfl).trans ((fr2 Fm75 107 rfl).trans ((fr2 Fm72 107 rfl).trans (fr2 Fm5 107 rfl))))) (show (m77.2 108) = (m.2 108) from ((fr2 Fm77 108 rfl).trans ((fr2 Fm75 108 rfl).trans ((fr2 Fm72 108 rfl).trans (fr2 Fm5 108 rfl))))) ok93))) rfl rfl rfl) rfl rfl (TC_cast (fun g9 => [.ref (obq g9 ((upI (m5.2 106) 0 ((m.1 233) % 128)) v76)), .ref 12, .int (i32 v76), .ref 188]) (show (m77.2 107) = (m.2 107) from ((fr2 Fm77 107 rfl).trans ((fr2 Fm75 107 rfl).trans ((fr2 Fm72 107 rfl).trans (fr2 Fm5 107 rfl))))) (c_op_work w (mO m77 [] []) c N D (by omega) Tm77 ((upI (m5.2 106) 0 ((m.1 233) % 128)) v76) v76 (r32 (by omega) (by omega)) (r32 (by omega) (by omega)) (OKr_c (show (m77.2 107) = (m.2 107) from ((fr2 Fm77 107 rfl).trans ((fr2 Fm75 107 rfl).trans ((fr2 Fm72 107 rfl).trans (fr2 Fm5 107 rfl))))) (show (m77.2 108) = (m.2 108) from ((fr2 Fm77 108 rfl).trans ((fr2 Fm75 108 rfl).trans ((fr2 Fm72 108 rfl).trans (fr2 Fm5 108 rfl))))) ok93) (show NKp (m77.2 18) (m77.2 19) by rewrite [(show (m77.2 18) = (m.2 18) from ((fr2 Fm77 18 rfl).trans ((fr2 Fm75 18 rfl).trans ((fr2 Fm72 18 rfl).trans (fr2 Fm5 18 rfl))))), (show (m77.2 19) = (m.2 19) from ((fr2 Fm77 19 rfl).trans ((fr2 Fm75 19 rfl).trans ((fr2 Fm72 19 rfl).trans (fr2 Fm5 19 rfl)))))]; exact hNK) (show DEp (m77.1 224) (m77.2 45) (m77.2 46) (m77.2 47) (m77.2 49) by rewrite [(show (m77.1 224) = (m.1 224) from ((fr1 Fm77 224 rfl).trans ((fr1 Fm75 224 rfl).trans ((fr1 Fm72 224 rfl).trans (fr1 Fm5 224 rfl))))), (show (m77.2 45) = (m.2 45) from ((fr2 Fm77 45 rfl).trans ((fr2 Fm75 45 rfl).trans ((fr2 Fm72 45 rfl).trans (fr2 Fm5 45 rfl))))), (show (m77.2 46) = (m.2 46) from ((fr2 Fm77 46 rfl).trans ((fr2 Fm75 46 rfl).trans ((fr2 Fm72 46 rfl).trans (fr2 Fm5 46 rfl))))), (show (m77.2 47) = (m.2 47) from ((fr2 Fm77 47 rfl).trans ((fr2 Fm75 47 rfl).trans ((fr2 Fm72 47 rfl).trans (fr2 Fm5 47 rfl))))), (show (m77.2 49) = (m.2 49) from ((fr2 Fm77 49 rfl).trans ((fr2 Fm75 49 rfl).trans ((fr2 Fm72 49 rfl).trans (fr2 Fm5 49 rfl)))))]; exact hDE) (show AcP (m77.1 223) (m77.1 224) (m77.2 43) (m77.2 44) by rewrite [(show (m77.1 223) = (m.1 223) from ((fr1 Fm77 223 rfl).trans ((fr1 Fm75 223 rfl).trans ((fr1 Fm72 223 rfl).trans (fr1 Fm5 223 rfl))))), (show (m77.1 224) = (m.1 224) from ((fr1 Fm77 224 rfl).trans ((fr1 Fm75 224 rfl).trans ((fr1 Fm72 224 rfl).trans (fr1 Fm5 224 rfl))))), (show (m77.2 43) = (m.2 43) from ((fr2 Fm77 43 rfl).trans ((fr2 Fm75 43 rfl).trans ((fr2 Fm72 43 rfl).trans (fr2 Fm5 43 rfl))))), (show (m77.2 44) = (m.2 44) from ((fr2 Fm77 44 rfl).trans ((fr2 Fm75 44 rfl).trans ((fr2 Fm72 44 rfl).trans (fr2 Fm5 44 rfl)))))]; exact hAC) (show TLp (m77.1 219) (m77.2 73) (m77.2 83) (m77.1 223) by rewrite [(show (m77.1 219) = (m.1 219) from ((fr1 Fm77 219 rfl).trans ((fr1 Fm75 219 rfl).trans ((fr1 Fm72 219 rfl).trans (fr1 Fm5 219 rfl))))), (show (m77.2 73) = (m.2 73) from ((fr2 Fm77 73 rfl).trans ((fr2 Fm75 73 rfl).trans ((fr2 Fm72 73 rfl).trans (fr2 Fm5 73 rfl))))), (show (m77.2 83) = (m.2 83) from ((fr2 Fm77 83 rfl).trans ((fr2 Fm75 83 rfl).trans ((fr2 Fm72 83 rfl).trans (fr2 Fm5 83 rfl))))), (show (m77.1 223) = (m.1 223) from ((fr1 Fm77 223 rfl).trans ((fr1 Fm75 223 rfl).trans ((fr1 Fm72 223 rfl).trans (fr1 Fm5 223 rfl)))))]; exact hTL) (show LTp (m77.1 219) (m77.2 74) (m77.1 223) by rewrite [(show (m77.1 219) = (m.1 219) from ((fr1 Fm77 219 rfl).trans ((fr1 Fm75 219 rfl).trans ((fr1 Fm72 219 rfl).trans (fr1 Fm5 219 rfl))))), (show (m77.2 74) = (m.2 74) from ((fr2 Fm77 74 rfl).trans ((fr2 Fm75 74 rfl).trans ((fr2 Fm72 74 rfl).trans (fr2 Fm5 74 rfl))))), (show (m77.1 223) = (m.1 223) from ((fr1 Fm77 223 rfl).trans ((fr1 Fm75 223 rfl).trans ((fr1 Fm72 223 rfl).trans (fr1 Fm5 223 rfl)))))]; exact hTD) (show TCp (m77.1 219) (m77.2 78) (m77.2 89) (m77.1 223) by rewrite [(show (m77.1 219) = (m.1 219) from ((fr1 Fm77 219 rfl).trans ((fr1 Fm75 219 rfl).trans ((fr1 Fm72 219 rfl).trans (fr1 Fm5 219 rfl))))), (show (m77.1 223) = (m.1 223) from ((fr1 Fm77 223 rfl).trans ((fr1 Fm75 223 rfl).trans ((fr1 Fm72 223 rfl).trans (fr1 Fm5 223 rfl)))))]; exact hTC) (show SPp (m77.1 225) (m77.2 52) (m77.2 58) (m77.2 55) (m77.2 56) (m77.1 219) (m77.1 224) by rewrite [(show (m77.1 225) = (m.1 225) from ((fr1 Fm77 225 rfl).trans ((fr1 Fm75 225 rfl).trans ((fr1 Fm72 225 rfl).trans (fr1 Fm5 225 rfl))))), (show (m77.2 52) = (m.2 52) from ((fr2 Fm77 52 rfl).trans ((fr2 Fm75 52 rfl).trans ((fr2 Fm72 52 rfl).trans (fr2 Fm5 52 rfl))))), (show (m77.2 58) = (m.2 58) from ((fr2 Fm77 58 rfl).trans ((fr2 Fm75 58 rfl).trans ((fr2 Fm72 58 rfl).trans (fr2 Fm5 58 rfl))))), (show (m77.2 55) = (m.2 55) from ((fr2 Fm77 55 rfl).trans ((fr2 Fm75 55 rfl).trans ((fr2 Fm72 55 rfl).trans (fr2 Fm5 55 rfl))))), (show (m77.2 56) = (m.2 56) from ((fr2 Fm77 56 rfl).trans ((fr2 Fm75 56 rfl).trans ((fr2 Fm72 56 rfl).trans (fr2 Fm5 56 rfl))))), (show (m77.1 219) = (m.1 219) from ((fr1 Fm77 219 rfl).trans ((fr1 Fm75 219 rfl).trans ((fr1 Fm72 219 rfl).trans (fr1 Fm5 219 rfl))))), (show (m77.1 224) = (m.1 224) from ((fr1 Fm77 224 rfl).trans ((fr1 Fm75 224 rfl).trans ((fr1 Fm72 224 rfl).trans (fr1 Fm5 224 rfl)))))]; exact hSP) (show 0 ≤ v76 ∧ v76 ≤ 11 by omega))) (fun rr94 k95 => ?_)
                  obtain ⟨m96, Tm96, Fm96, h97, rfl⟩ := k95
                  refine Or.inl ⟨_, _, _, _, rfl, ?_⟩
                  refine K_nb (st' := []) rfl ?_
                  replace h97 : TCp (m77.1 219) (m96.2 78) (m96.2 89) (m77.1 223) := h97
                  rewrite [(show (m77.1 219) = (m.1 219) from ((fr1 Fm77 219 rfl).trans ((fr1 Fm75 219 rfl).trans ((fr1 Fm72 219 rfl).trans (fr1 Fm5 219 rfl))))), (show (m77.1 223) = (m.1 223) from ((fr1 Fm77 223 rfl).trans ((fr1 Fm75 223 rfl).trans ((fr1 Fm72 223 rfl).trans (fr1 Fm5 223 rfl)))))] at h97
                  have hTC := h97
                  refine T_iinc 171 [(4, .int (i32 (v76 + 1))), (5, .ref (obq (m.2 107) ((upI (m5.2 106) 0 ((m.1 233) % 128)) v76))), (0, .ref 185), (1, .int (i32 ((m.1 226) - 1)))] rfl rfl (by decide) rfl rfl ?_
                  refine T_goto 133 rfl (fun _ => rfl) ?_
                  refine Tm_lv (a := [(0, .ref 185), (1, .int (i32 ((m.1 226) - 1))), (4, .int (i32 (v76 + 1)))]) rfl rfl ⟨rfl, rfl, rfl, trivial⟩ ?_
                  exact ih87 (v76 + 1) (mO m96 [] []) (r32 (by omega) (by omega)) Tm96 (fr_m (fr_s Fm96 (fr_m (fr_s Fm77 (fr_m fr_0 rfl rfl) rfl rfl) rfl rfl) rfl rfl) rfl rfl) (show 0 ≤ (v76 + 1) by omega) (show 0 ≤ (v76 + 1) ∧ (v76 + 1) ≤ 12 by omega) (show ((m.1 233) < (m.1 232) ∧ ((m.1 233) + 1) = (m.1 233) + 1) ∨ ((m.1 232) ≤ (m.1 233) ∧ ((m.1 233) + 1) = (m.1 233)) by first | exact hEnt | omega | (exfalso; have h9 := hNu ((m.1 233) % 128) (by omega) (by omega) (by omega); omega)) (show TCp (m.1 219) (m96.2 78) (m96.2 89) (m.1 223) by exact hTC) (show 20 - (v76 + 1) < (n86 : Int) by omega)
            refine Tm_lv (a := [(0, .ref 185), (1, .int (i32 ((m.1 226) - 1))), (4, .int (i32 0))]) rfl rfl ⟨rfl, rfl, rfl, trivial⟩ ?_
            exact L133_78 ((20 - (0 : Int) : Int) + 1).toNat 0 (mO m75 [] []) ⟨by decide, by decide⟩ Tm75 (fr_m fr_0 rfl rfl) (show 0 ≤ (0 : Int) by omega) (show 0 ≤ (0 : Int) ∧ (0 : Int) ≤ 12 by omega) (show ((m.1 233) < (m.1 232) ∧ ((m.1 233) + 1) = (m.1 233) + 1) ∨ ((m.1 232) ≤ (m.1 233) ∧ ((m.1 233) + 1) = (m.1 233)) by first | exact hEnt | omega | (exfalso; have h9 := hNu ((m.1 233) % 128) (by omega) (by omega) (by omega); omega)) (show TCp (m.1 219) (m75.2 78) (m75.2 89) (m.1 223) by rewrite [(show (m75.2 78) = (m.2 78) from ((fr2 Fm75 78 rfl).trans ((fr2 Fm72 78 rfl).trans (fr2 Fm5 78 rfl)))), (show (m75.2 89) = (m.2 89) from ((fr2 Fm75 89 rfl).trans ((fr2 Fm72 89 rfl).trans (fr2 Fm5 89 rfl))))]; exact hTC) (show 20 - (0 : Int) < ((((20 - (0 : Int) : Int) + 1).toNat : Nat) : Int) by omega)
        · skip
          refine T_ld 53 (.ref 185) rfl (fun _ => rfl) ?_
          refine K_gf 56 (.ref 187) rfl rfl kd_185 rfl rfl rfl ?_
          refine T_ld 57 (.int (i32 v4)) rfl (fun _ => rfl) ?_
          refine T_ld 58 (.ref 185) rfl (fun _ => rfl) ?_
          refine K_gf 61 (.ref 187) rfl rfl kd_185 rfl rfl rfl ?_
          refine T_ld 62 (.int (i32 v4)) rfl (fun _ => rfl) ?_
          refine T_ld 63 (.int (i32 1)) rfl (fun _ => rfl) ?_
          refine T_isub 64 rfl rfl ?_
          refine K_aaisF 65 (m5.2 106) (m.2 107) rfl rfl (by omega) (by omega) Tm5 rfl (show (m5.2 107) = (m.2 107) from (fr2 Fm5 107 rfl)) ?_ (fun h98 h99 ok100 => ?_)
          · skip
            have G101 : ∀ j, (-1) ≤ (upI (m5.2 106) v4 (-1)) j ∧ (upI (m5.2 106) v4 (-1)) j ≤ 127 := upI_rg (Tm5.2.1 106) ⟨by omega, by omega⟩
            refine K_aasn (a' := [(106, upI (m5.2 106) v4 (-1))]) 66 (m5.2 106) rfl rfl (by omega) (by omega) Tm5 rfl rfl ?_
            refine T_iinc 69 [(3, .int (i32 (v4 + (-1)))), (0, .ref 185), (1, .int (i32 ((m.1 226) - 1)))] rfl rfl (by decide) rfl rfl ?_
            refine T_goto 48 rfl (fun _ => rfl) ?_
            refine Tm_lv (a := [(0, .ref 185), (1, .int (i32 ((m.1 226) - 1))), (3, .int (i32 (v4 + (-1))))]) rfl rfl ⟨rfl, rfl, rfl, trivial⟩ ?_
            exact ih15 (v4 + (-1)) (mO m5 [] [(106, upI (m5.2 106) v4 (-1))]) (r32 (by omega) (by omega)) (KTy_mO Tm5 rfl rfl trivial ⟨G101, trivial⟩) (fr_m (fr_s Fm5 (fr_m fr_0 rfl rfl) rfl rfl) rfl rfl) (show (-1) ≤ (v4 + (-1)) by omega) (show (v4 + (-1)) ≤ 11 by omega) (show 0 ≤ (v4 + (-1)) ∧ (v4 + (-1)) ≤ ((m.1 226) - 1) by omega) (show SHp (v4 + (-1)) ((m.1 226) - 1) (m.2 106) (upI (m5.2 106) v4 (-1)) by first | exact SH_0 rfl | exact SH_s hSH (by omega) (by omega) (Or.inl rfl) (by omega) | exact SH_s hSH (by omega) (by omega) (Or.inr (by decide)) (by omega)) (show (v4 + (-1)) + 1 < (n14 : Int) by omega)
          have ok102 : OKr m ((m5.2 106) (v4 - 1)) := OKr_c (show (m5.2 107) = (m.2 107) from (fr2 Fm5 107 rfl)).symm (show (m5.2 108) = (m.2 108) from (fr2 Fm5 108 rfl)).symm ok100
          have G103 : ∀ j, (-1) ≤ (upI (m5.2 106) v4 ((m5.2 106) (v4 - 1))) j ∧ (upI (m5.2 106) v4 ((m5.2 106) (v4 - 1))) j ≤ 127 := upI_rg (Tm5.2.1 106) ⟨by omega, by omega⟩
          refine K_aaso (a' := [(106, upI (m5.2 106) v4 ((m5.2 106) (v4 - 1)))]) 66 (m5.2 106) rfl rfl (by omega) (by omega) Tm5 (OKr_c (show (m5.2 107) = (m.2 107) from (fr2 Fm5 107 rfl)) (show (m5.2 108) = (m.2 108) from (fr2 Fm5 108 rfl)) ok102) (congrArg (fun f : Int → Int => (f ((m5.2 106) (v4 - 1))).toNat) (show (m5.2 107) = (m.2 107) from (fr2 Fm5 107 rfl))) rfl rfl ?_
          refine T_iinc 69 [(3, .int (i32 (v4 + (-1)))), (0, .ref 185), (1, .int (i32 ((m.1 226) - 1)))] rfl rfl (by decide) rfl rfl ?_
          refine T_goto 48 rfl (fun _ => rfl) ?_
          refine Tm_lv (a := [(0, .ref 185), (1, .int (i32 ((m.1 226) - 1))), (3, .int (i32 (v4 + (-1))))]) rfl rfl ⟨rfl, rfl, rfl, trivial⟩ ?_
          exact ih15 (v4 + (-1)) (mO m5 [] [(106, upI (m5.2 106) v4 ((m5.2 106) (v4 - 1)))]) (r32 (by omega) (by omega)) (KTy_mO Tm5 rfl rfl trivial ⟨G103, trivial⟩) (fr_m (fr_s Fm5 (fr_m fr_0 rfl rfl) rfl rfl) rfl rfl) (show (-1) ≤ (v4 + (-1)) by omega) (show (v4 + (-1)) ≤ 11 by omega) (show 0 ≤ (v4 + (-1)) ∧ (v4 + (-1)) ≤ ((m.1 226) - 1) by omega) (show SHp (v4 + (-1)) ((m.1 226) - 1) (m.2 106) (upI (m5.2 106) v4 ((m5.2 106) (v4 - 1))) by first | exact SH_0 rfl | exact SH_s hSH (by omega) (by omega) (Or.inl rfl) (by omega) | exact SH_s hSH (by omega) (by omega) (Or.inr (by decide)) (by omega)) (show (v4 + (-1)) + 1 < (n14 : Int) by omega)
    refine Tm_lv (a := [(0, .ref 185), (1, .int (i32 ((m.1 226) - 1))), (3, .int (i32 ((m.1 226) - 1)))]) rfl rfl ⟨rfl, rfl, rfl, trivial⟩ ?_
    exact L48_6 ((((m.1 226) - 1) + 1 : Int) + 1).toNat ((m.1 226) - 1) (mO m [] []) (r32 (by omega) (by omega)) hT (fr_m fr_0 rfl rfl) (show (-1) ≤ ((m.1 226) - 1) by omega) (show ((m.1 226) - 1) ≤ 11 by omega) (show 0 ≤ ((m.1 226) - 1) ∧ ((m.1 226) - 1) ≤ ((m.1 226) - 1) by omega) (show SHp ((m.1 226) - 1) ((m.1 226) - 1) (m.2 106) (m.2 106) by first | exact SH_0 rfl | exact SH_s hSH (by omega) (by omega) (Or.inl rfl) (by omega) | exact SH_s hSH (by omega) (by omega) (Or.inr (by decide)) (by omega)) (show ((m.1 226) - 1) + 1 < ((((((m.1 226) - 1) + 1 : Int) + 1).toNat : Nat) : Int) by omega)
  have ok104 : OKr m ((m.2 106) ((m.1 226) - 1)) := OKr_c rfl.symm rfl.symm ok3
  refine T_sto 20 [(2, .ref (obq (m.2 107) ((m.2 106) ((m.1 226) - 1)))), (1, .int (i32 ((m.1 226) - 1))), (0, .ref 185)] rfl (fun _ => rfl) ?_
  refine T_ld 21 (.ref (obq (m.2 107) ((m.2 106) ((m.1 226) - 1)))) rfl (fun _ => rfl) ?_
  refine T_pop 24 rfl (fun _ => rfl) ?_
  refine T_ld 25 (.ref (obq (m.2 107) ((m.2 106) ((m.1 226) - 1)))) rfl (fun _ => rfl) ?_
  refine T_ld 26 (.ref 185) rfl (fun _ => rfl) ?_
  refine K_gf 29 (.ref 12) rfl rfl kd_185 rfl rfl rfl ?_
  refine T_ld 30 (.ref 185) rfl (fun _ => rfl) ?_
  refine K_gf 33 (.int (i32 (m.1 235))) rfl rfl kd_185 rfl rfl rfl ?_
  have hLp := PI_lv hPI (g := ((m.1 226) - 1)) (by omega) (by omega) (by omega)
  refine T_callx 36 178 [.ref (obq (m.2 107) ((m.2 106) ((m.1 226) - 1))), .ref 12, .int (i32 (m.1 235))] [] rfl (inv_vt (args := [.int (i32 (m.1 235)), .ref 12]) (obe_c rfl (khp_o0 _ ok104)) rfl rfl rfl) rfl rfl (c_op_leave w (mO m [] []) c N D (by omega) hT ((m.2 106) ((m.1 226) - 1)) (m.1 235) (r32 (by omega) (by omega)) (r32 (by omega) (by omega)) ok104 (show HBp (m.1 214) (m.2 10) by exact hHB) (show IHp (m.1 215) (m.2 13) (m.1 214) by exact hIH) (show LTp (m.1 218) (m.2 17) (m.1 215) by exact hEM) (show 0 ≤ (m.1 235) ∧ (m.1 235) ≤ 100000000 by omega) (show (m.2 91) ((m.2 106) ((m.1 226) - 1)) = 0 → (m.2 92) ((m.2 106) ((m.1 226) - 1)) ≤ 128 ∧ (m.2 94) ((m.2 106) ((m.1 226) - 1)) ≤ (m.2 92) ((m.2 106) ((m.1 226) - 1)) by exact hLp)) (fun rr105 k106 => ?_)
  obtain ⟨m107, Tm107, Fm107, h108, rfl⟩ := k106
  refine Or.inl ⟨_, _, _, _, rfl, ?_⟩
  refine K_nb (st' := []) rfl ?_
  replace h108 : ∀ v, v ≠ ((m.2 106) ((m.1 226) - 1)) → (m107.2 92) v = (m.2 92) v := h108
  have hLv := h108
  refine T_ld 37 (.ref 185) rfl (fun _ => rfl) ?_
  refine T_ld 38 (.ref 185) rfl (fun _ => rfl) ?_
  refine K_gf 41 (.int (i32 (m.1 234))) rfl rfl kd_185 rfl (kval_c2 (k := 234) (F := fun x => .int (i32 x)) rfl (show (m107.1 234) = (m.1 234) from (fr1 Fm107 234 rfl))) rfl ?_
  refine T_ld 42 (.int (i32 1)) rfl (fun _ => rfl) ?_
  refine T_iadd 43 rfl rfl ?_
  refine K_pf (l' := [(234, (m.1 234) + 1)]) 46 ((m.1 234) + 1) rfl rfl kd_185 rfl rfl rfl rfl rfl rfl rfl ?_
  have g109 : 0 ≤ (m.1 234) + 1 ∧ (m.1 234) + 1 ≤ 1000000 := ⟨by omega, by omega⟩
  have hLn : ∀ v, v ≠ (m.2 106) ((m.1 226) - 1) → (m107.2 92) v = (m.2 92) v := by first | exact hLv | exact fun v _ => rfl
  refine T_ld 47 (.int (i32 ((m.1 226) - 1))) rfl (fun _ => rfl) ?_
  refine T_sto 48 [(3, .int (i32 ((m.1 226) - 1))), (2, .ref (obq (m.2 107) ((m.2 106) ((m.1 226) - 1)))), (1, .int (i32 ((m.1 226) - 1))), (0, .ref 185)] rfl (fun _ => rfl) ?_
  refine K_fl (KTy_mO Tm107 rfl rfl ⟨g109, trivial⟩ trivial) (fun m110 Tm110 Fm110 => ?_)
  have L48_113 : ∀ (n121 : Nat) (v111 : Int) (m112 : mR), (R32 v111) → KTy m112 → fr [] [106] (mO m110 [] []) m112 → ((-1) ≤ v111) → (v111 ≤ 11) → (0 ≤ v111 ∧ v111 ≤ ((m.1 226) - 1)) → (SHp v111 ((m.1 226) - 1) (m.2 106) (m112.2 106)) → v111 + 1 < (n121 : Int) → TT w D pm_177 (48, [(0, .ref 185), (1, .int (i32 ((m.1 226) - 1))), (3, .int (i32 v111))], [], (khp (mO m112 [] []) c, N), 0, 0) (Q_pi_cycle m c N) := by
    intro n121
    induction n121 with
    | zero =>
      intro v111 m112 q118 Tm112 Fm112 ic114 ic115 ic116 ic117 hmu
      obtain ⟨q118a, q118b⟩ := id q118
      have hSH := ic117
      exfalso
      omega
    | succ n121 ih =>
      intro v111 m112 q118 Tm112 Fm112 ic114 ic115 ic116 ic117 hmu
      obtain ⟨q118a, q118b⟩ := id q118
      have hSH := ic117
      have ih122 := ih
      refine T_ld 49 (.int (i32 v111)) rfl (fun _ => rfl) ?_
      refine T_if 72 52 rfl rfl rfl (r32 (by omega) (by omega)) (fun (h123 : v111 ≤ 0) => ?_) (fun (h123 : ¬ (v111 ≤ 0)) => ?_)
      · skip
        have hSZ := SH_z hSH (show v111 = 0 by omega)
        refine T_ld 73 (.ref 185) rfl (fun _ => rfl) ?_
        refine K_gf 76 (.int (i32 (m.1 233))) rfl rfl kd_185 rfl (kval_c2 (k := 233) (F := fun x => .int (i32 x)) rfl (show (m112.1 233) = (m.1 233) from ((fr1 Fm112 233 rfl).trans ((fr1 Fm110 233 rfl).trans (fr1 Fm107 233 rfl))))) rfl ?_
        refine T_ld 77 (.ref 185) rfl (fun _ => rfl) ?_
        refine K_gf 80 (.int (i32 (m.1 232))) rfl rfl kd_185 rfl (kval_c2 (k := 232) (F := fun x => .int (i32 x)) rfl (show (m112.1 232) = (m.1 232) from ((fr1 Fm112 232 rfl).trans ((fr1 Fm110 232 rfl).trans (fr1 Fm107 232 rfl))))) rfl ?_
        refine T_icmp 99 83 rfl rfl rfl (r32 (by omega) (by omega)) (r32 (by omega) (by omega)) (fun (h124 : (m.1 232) ≤ (m.1 233)) => ?_) (fun (h124 : ¬ ((m.1 232) ≤ (m.1 233))) => ?_)
        · skip
          refine T_ld 100 .null rfl (fun _ => rfl) ?_
          refine T_sto 101 [(3, .null), (0, .ref 185), (1, .int (i32 ((m.1 226) - 1)))] rfl (fun _ => rfl) ?_
          refine T_ld 102 (.ref 185) rfl (fun _ => rfl) ?_
          refine K_gf 105 (.ref 187) rfl rfl kd_185 rfl rfl rfl ?_
          refine T_ld 106 (.int (i32 0)) rfl (fun _ => rfl) ?_
          refine T_ld 107 (.null) rfl (fun _ => rfl) ?_
          have G125 : ∀ j, (-1) ≤ (upI (m112.2 106) 0 (-1)) j ∧ (upI (m112.2 106) 0 (-1)) j ≤ 127 := upI_rg (Tm112.2.1 106) ⟨by omega, by omega⟩
          refine K_aasn (a' := [(106, upI (m112.2 106) 0 (-1))]) 108 (m112.2 106) rfl rfl (by omega) (by omega) Tm112 rfl rfl ?_
          refine T_ld 109 (.null) rfl (fun _ => rfl) ?_
          refine T_pop 130 rfl (fun _ => rfl) ?_
          have hPI : PIp (m.1 226) (m.1 233) (m.1 232) (upI (m112.2 106) 0 (-1)) (m.2 91) (m107.2 92) (m.2 94) := by first | exact PI_cy hPI rfl ⟨by omega, by omega⟩ hLn hSZ (Or.inl ⟨by omega, rfl, rfl⟩) | exact PI_cy hPI rfl ⟨by omega, by omega⟩ hLn hSZ (Or.inr ⟨rfl, by omega, by omega, hEn.1, hEn.2⟩)
          refine T_ld 131 (.int (i32 0)) rfl (fun _ => rfl) ?_
          refine T_sto 133 [(4, .int (i32 0)), (3, .null), (0, .ref 185), (1, .int (i32 ((m.1 226) - 1)))] rfl (fun _ => rfl) ?_
          refine K_fl (KTy_mO Tm112 rfl rfl trivial ⟨G125, trivial⟩) (fun m126 Tm126 Fm126 => ?_)
          have L133_129 : ∀ (n137 : Nat) (v127 : Int) (m128 : mR), (R32 v127) → KTy m128 → fr [] [25, 71, 78, 85, 86, 87, 88, 89, 90, 98, 101, 102, 103, 104, 105] (mO m126 [] []) m128 → (0 ≤ v127) → (0 ≤ v127 ∧ v127 ≤ 12) → (((m.1 233) < (m.1 232) ∧ (m.1 233) = (m.1 233) + 1) ∨ ((m.1 232) ≤ (m.1 233) ∧ (m.1 233) = (m.1 233))) → (TCp (m.1 219) (m128.2 78) (m128.2 89) (m.1 223)) → 20 - v127 < (n137 : Int) → TT w D pm_177 (133, [(0, .ref 185), (1, .int (i32 ((m.1 226) - 1))), (4, .int (i32 v127))], [], (khp (mO m128 [] []) c, N), 0, 0) (Q_pi_cycle m c N) := by
            intro n137
            induction n137 with
            | zero =>
              intro v127 m128 q134 Tm128 Fm128 ic130 ic131 ic132 ic133 hmu
              obtain ⟨q134a, q134b⟩ := id q134
              have hEnt := ic132
              have hTC := ic133
              exfalso
              omega
            | succ n137 ih =>
              intro v127 m128 q134 Tm128 Fm128 ic130 ic131 ic132 ic133 hmu
              obtain ⟨q134a, q134b⟩ := id q134
              have hEnt := ic132
              have hTC := ic133
              have ih138 := ih
              refine T_ld 135 (.int (i32 v127)) rfl (fun _ => rfl) ?_
              refine T_ld 136 (.int (i32 ((m.1 226) - 1))) rfl (fun _ => rfl) ?_
              refine T_icmp 174 139 rfl rfl rfl (r32 (by omega) (by omega)) (r32 (by omega) (by omega)) (fun (h139 : (m.1 226) - 1 < v127) => ?_) (fun (h139 : ¬ ((m.1 226) - 1 < v127)) => ?_)
              · skip
                refine T_ld 175 (.ref 185) rfl (fun _ => rfl) ?_
                refine T_ld 176 (.ref 185) rfl (fun _ => rfl) ?_
                refine K_gf 179 (.int (i32 (m.1 235))) rfl rfl kd_185 rfl (kval_c2 (k := 235) (F := fun x => .int (i32 x)) rfl (show (m128.1 235) = (m.1 235) from ((fr1 Fm128 235 rfl).trans ((fr1 Fm126 235 rfl).trans ((fr1 Fm112 235 rfl).trans ((fr1 Fm110 235 rfl).trans (fr1 Fm107 235 rfl))))))) rfl ?_
                refine T_ld 180 (.int (i32 1)) rfl (fun _ => rfl) ?_
                refine T_iadd 181 rfl rfl ?_
                refine K_pf (l' := [(235, (m.1 235) + 1)]) 184 ((m.1 235) + 1) rfl rfl kd_185 rfl rfl rfl rfl rfl rfl rfl ?_
                have g140 : 0 ≤ (m.1 235) + 1 ∧ (m.1 235) + 1 ≤ 100000000 := ⟨by omega, by omega⟩
                refine T_ret rfl (fun _ => rfl) ?_
                exact ⟨(mO m128 [(235, (m.1 235) + 1)] []), (KTy_mO Tm128 rfl rfl ⟨g140, trivial⟩ trivial), (fr_m (fr_s Fm128 (fr_m (fr_s Fm126 (fr_m (fr_s Fm112 (fr_m (fr_s Fm110 (fr_m (fr_s Fm107 (fr_m fr_0 rfl rfl) rfl rfl) rfl rfl) rfl rfl) rfl rfl) rfl rfl) rfl rfl) rfl rfl) rfl rfl) rfl rfl) rfl rfl), (show ((m.1 233) < (m.1 232) ∧ (m128.1 233) = (m.1 233) + 1) ∨ ((m.1 232) ≤ (m.1 233) ∧ (m128.1 233) = (m.1 233)) by rewrite [(show (m128.1 233) = (m.1 233) from ((fr1 Fm128 233 rfl).trans ((fr1 Fm126 233 rfl).trans ((fr1 Fm112 233 rfl).trans ((fr1 Fm110 233 rfl).trans (fr1 Fm107 233 rfl))))))]; first | (first | exact hEnt | omega | (exfalso; have h9 := hNu ((m.1 233) % 128) (by omega) (by omega) (by omega); omega)) | (exfalso; omega)), (show PIp (m.1 226) (m128.1 233) (m.1 232) (m128.2 106) (m.2 91) (m128.2 92) (m128.2 94) by rewrite [(show (m128.1 233) = (m.1 233) from ((fr1 Fm128 233 rfl).trans ((fr1 Fm126 233 rfl).trans ((fr1 Fm112 233 rfl).trans ((fr1 Fm110 233 rfl).trans (fr1 Fm107 233 rfl)))))), (show (m128.2 106) = (upI (m112.2 106) 0 (-1)) from ((fr2 Fm128 106 rfl).trans (fr2 Fm126 106 rfl))), (show (m128.2 92) = (m107.2 92) from ((fr2 Fm128 92 rfl).trans ((fr2 Fm126 92 rfl).trans ((fr2 Fm112 92 rfl).trans (fr2 Fm110 92 rfl))))), (show (m128.2 94) = (m.2 94) from ((fr2 Fm128 94 rfl).trans ((fr2 Fm126 94 rfl).trans ((fr2 Fm112 94 rfl).trans ((fr2 Fm110 94 rfl).trans (fr2 Fm107 94 rfl))))))]; first | (exact hPI) | (exfalso; omega)), (show TCp (m.1 219) (m128.2 78) (m128.2 89) (m.1 223) by first | (exact hTC) | (exfalso; omega)), (show ((m.1 235) + 1) = (m.1 235) + 1 by omega), (show (m128.1 234) ≤ ((m.1 235) + 1) by rewrite [(show (m128.1 234) = ((m.1 234) + 1) from ((fr1 Fm128 234 rfl).trans ((fr1 Fm126 234 rfl).trans ((fr1 Fm112 234 rfl).trans (fr1 Fm110 234 rfl)))))]; omega), rfl⟩
              · skip
                refine T_ld 140 (.ref 185) rfl (fun _ => rfl) ?_
                refine K_gf 143 (.ref 187) rfl rfl kd_185 rfl rfl rfl ?_
                refine T_ld 145 (.int (i32 v127)) rfl (fun _ => rfl) ?_
                refine K_aaisF 146 (upI (m112.2 106) 0 (-1)) (m.2 107) rfl rfl (by omega) (by omega) Tm128 (show (m128.2 106) = (upI (m112.2 106) 0 (-1)) from ((fr2 Fm128 106 rfl).trans (fr2 Fm126 106 rfl))) (show (m128.2 107) = (m.2 107) from ((fr2 Fm128 107 rfl).trans ((fr2 Fm126 107 rfl).trans ((fr2 Fm112 107 rfl).trans ((fr2 Fm110 107 rfl).trans (fr2 Fm107 107 rfl)))))) ?_ (fun h141 h142 ok143 => ?_)
                · skip
                  refine T_sto 148 [(5, .null), (0, .ref 185), (1, .int (i32 ((m.1 226) - 1))), (4, .int (i32 v127))] rfl (fun _ => rfl) ?_
                  refine T_ld 150 (.null) rfl (fun _ => rfl) ?_
                  refine T_pop 168 rfl (fun _ => rfl) ?_
                  refine T_iinc 171 [(4, .int (i32 (v127 + 1))), (5, .null), (0, .ref 185), (1, .int (i32 ((m.1 226) - 1)))] rfl rfl (by decide) rfl rfl ?_
                  refine T_goto 133 rfl (fun _ => rfl) ?_
                  refine Tm_lv (a := [(0, .ref 185), (1, .int (i32 ((m.1 226) - 1))), (4, .int (i32 (v127 + 1)))]) rfl rfl ⟨rfl, rfl, rfl, trivial⟩ ?_
                  exact ih138 (v127 + 1) (mO m128 [] []) (r32 (by omega) (by omega)) Tm128 (fr_m (fr_s Fm128 (fr_m fr_0 rfl rfl) rfl rfl) rfl rfl) (show 0 ≤ (v127 + 1) by omega) (show 0 ≤ (v127 + 1) ∧ (v127 + 1) ≤ 12 by omega) (show ((m.1 233) < (m.1 232) ∧ (m.1 233) = (m.1 233) + 1) ∨ ((m.1 232) ≤ (m.1 233) ∧ (m.1 233) = (m.1 233)) by first | exact hEnt | omega | (exfalso; have h9 := hNu ((m.1 233) % 128) (by omega) (by omega) (by omega); omega)) (show TCp (m.1 219) (m128.2 78) (m128.2 89) (m.1 223) by exact hTC) (show 20 - (v127 + 1) < (n137 : Int) by omega)
                have ok144 : OKr m ((upI (m112.2 106) 0 (-1)) v127) := OKr_c (show (m128.2 107) = (m.2 107) from ((fr2 Fm128 107 rfl).trans ((fr2 Fm126 107 rfl).trans ((fr2 Fm112 107 rfl).trans ((fr2 Fm110 107 rfl).trans (fr2 Fm107 107 rfl)))))).symm (show (m128.2 108) = (m.2 108) from ((fr2 Fm128 108 rfl).trans ((fr2 Fm126 108 rfl).trans ((fr2 Fm112 108 rfl).trans ((fr2 Fm110 108 rfl).trans (fr2 Fm107 108 rfl)))))).symm ok143
                refine T_sto 148 [(5, .ref (obq (m.2 107) ((upI (m112.2 106) 0 (-1)) v127))), (0, .ref 185), (1, .int (i32 ((m.1 226) - 1))), (4, .int (i32 v127))] rfl (fun _ => rfl) ?_
                refine T_ld 150 (.ref (obq (m.2 107) ((upI (m112.2 106) 0 (-1)) v127))) rfl (fun _ => rfl) ?_
                refine T_pop 153 rfl (fun _ => rfl) ?_
                refine T_ld 155 (.ref (obq (m.2 107) ((upI (m112.2 106) 0 (-1)) v127))) rfl (fun _ => rfl) ?_
                refine T_ld 156 (.ref 185) rfl (fun _ => rfl) ?_
                refine K_gf 159 (.ref 12) rfl rfl kd_185 rfl rfl rfl ?_
                refine T_ld 161 (.int (i32 v127)) rfl (fun _ => rfl) ?_
                refine T_ld 162 (.ref 185) rfl (fun _ => rfl) ?_
                refine K_gf 165 (.ref 188) rfl rfl kd_185 rfl rfl rfl ?_
                refine T_callx 168 186 [.ref (obq (m.2 107) ((upI (m112.2 106) 0 (-1)) v127)), .ref 12, .int (i32 v127), .ref 188] [] rfl (inv_vt (args := [.ref 188, .int (i32 v127), .ref 12]) (obe_c (congrArg (fun f : Int → Int => (f ((upI (m112.2 106) 0 (-1)) v127)).toNat) (show (m128.2 107) = (m.2 107) from ((fr2 Fm128 107 rfl).trans ((fr2 Fm126 107 rfl).trans ((fr2 Fm112 107 rfl).trans ((fr2 Fm110 107 rfl).trans (fr2 Fm107 107 rfl))))))) (khp_o0 _ (OKr_c (show (m128.2 107) = (m.2 107) from ((fr2 Fm128 107 rfl).trans ((fr2 Fm126 107 rfl).trans ((fr2 Fm112 107 rfl).trans ((fr2 Fm110 107 rfl).trans (fr2 Fm107 107 rfl)))))) (show (m128.2 108) = (m.2 108) from ((fr2 Fm128 108 rfl).trans ((fr2 Fm126 108 rfl).trans ((fr2 Fm112 108 rfl).trans ((fr2 Fm110 108 rfl).trans (fr2 Fm107 108 rfl)))))) ok144))) rfl rfl rfl) rfl rfl (TC_cast (fun g9 => [.ref (obq g9 ((upI (m112.2 106) 0 (-1)) v127)), .ref 12, .int (i32 v127), .ref 188]) (show (m128.2 107) = (m.2 107) from ((fr2 Fm128 107 rfl).trans ((fr2 Fm126 107 rfl).trans ((fr2 Fm112 107 rfl).trans ((fr2 Fm110 107 rfl).trans (fr2 Fm107 107 rfl)))))) (c_op_work w (mO m128 [] []) c N D (by omega) Tm128 ((upI (m112.2 106) 0 (-1)) v127) v127 (r32 (by omega) (by omega)) (r32 (by omega) (by omega)) (OKr_c (show (m128.2 107) = (m.2 107) from ((fr2 Fm128 107 rfl).trans ((fr2 Fm126 107 rfl).trans ((fr2 Fm112 107 rfl).trans ((fr2 Fm110 107 rfl).trans (fr2 Fm107 107 rfl)))))) (show (m128.2 108) = (m.2 108) from ((fr2 Fm128 108 rfl).trans ((fr2 Fm126 108 rfl).trans ((fr2 Fm112 108 rfl).trans ((fr2 Fm110 108 rfl).trans (fr2 Fm107 108 rfl)))))) ok144) (show NKp (m128.2 18) (m128.2 19) by rewrite [(show (m128.2 18) = (m.2 18) from ((fr2 Fm128 18 rfl).trans ((fr2 Fm126 18 rfl).trans ((fr2 Fm112 18 rfl).trans ((fr2 Fm110 18 rfl).trans (fr2 Fm107 18 rfl)))))), (show (m128.2 19) = (m.2 19) from ((fr2 Fm128 19 rfl).trans ((fr2 Fm126 19 rfl).trans ((fr2 Fm112 19 rfl).trans ((fr2 Fm110 19 rfl).trans (fr2 Fm107 19 rfl))))))]; exact hNK) (show DEp (m128.1 224) (m128.2 45) (m128.2 46) (m128.2 47) (m128.2 49) by rewrite [(show (m128.1 224) = (m.1 224) from ((fr1 Fm128 224 rfl).trans ((fr1 Fm126 224 rfl).trans ((fr1 Fm112 224 rfl).trans ((fr1 Fm110 224 rfl).trans (fr1 Fm107 224 rfl)))))), (show (m128.2 45) = (m.2 45) from ((fr2 Fm128 45 rfl).trans ((fr2 Fm126 45 rfl).trans ((fr2 Fm112 45 rfl).trans ((fr2 Fm110 45 rfl).trans (fr2 Fm107 45 rfl)))))), (show (m128.2 46) = (m.2 46) from ((fr2 Fm128 46 rfl).trans ((fr2 Fm126 46 rfl).trans ((fr2 Fm112 46 rfl).trans ((fr2 Fm110 46 rfl).trans (fr2 Fm107 46 rfl)))))), (show (m128.2 47) = (m.2 47) from ((fr2 Fm128 47 rfl).trans ((fr2 Fm126 47 rfl).trans ((fr2 Fm112 47 rfl).trans ((fr2 Fm110 47 rfl).trans (fr2 Fm107 47 rfl)))))), (show (m128.2 49) = (m.2 49) from ((fr2 Fm128 49 rfl).trans ((fr2 Fm126 49 rfl).trans ((fr2 Fm112 49 rfl).trans ((fr2 Fm110 49 rfl).trans (fr2 Fm107 49 rfl))))))]; exact hDE) (show AcP (m128.1 223) (m128.1 224) (m128.2 43) (m128.2 44) by rewrite [(show (m128.1 223) = (m.1 223) from ((fr1 Fm128 223 rfl).trans ((fr1 Fm126 223 rfl).trans ((fr1 Fm112 223 rfl).trans ((fr1 Fm110 223 rfl).trans (fr1 Fm107 223 rfl)))))), (show (m128.1 224) = (m.1 224) from ((fr1 Fm128 224 rfl).trans ((fr1 Fm126 224 rfl).trans ((fr1 Fm112 224 rfl).trans ((fr1 Fm110 224 rfl).trans (fr1 Fm107 224 rfl)))))), (show (m128.2 43) = (m.2 43) from ((fr2 Fm128 43 rfl).trans ((fr2 Fm126 43 rfl).trans ((fr2 Fm112 43 rfl).trans ((fr2 Fm110 43 rfl).trans (fr2 Fm107 43 rfl)))))), (show (m128.2 44) = (m.2 44) from ((fr2 Fm128 44 rfl).trans ((fr2 Fm126 44 rfl).trans ((fr2 Fm112 44 rfl).trans ((fr2 Fm110 44 rfl).trans (fr2 Fm107 44 rfl))))))]; exact hAC) (show TLp (m128.1 219) (m128.2 73) (m128.2 83) (m128.1 223) by rewrite [(show (m128.1 219) = (m.1 219) from ((fr1 Fm128 219 rfl).trans ((fr1 Fm126 219 rfl).trans ((fr1 Fm112 219 rfl).trans ((fr1 Fm110 219 rfl).trans (fr1 Fm107 219 rfl)))))), (show (m128.2 73) = (m.2 73) from ((fr2 Fm128 73 rfl).trans ((fr2 Fm126 73 rfl).trans ((fr2 Fm112 73 rfl).trans ((fr2 Fm110 73 rfl).trans (fr2 Fm107 73 rfl)))))), (show (m128.2 83) = (m.2 83) from ((fr2 Fm128 83 rfl).trans ((fr2 Fm126 83 rfl).trans ((fr2 Fm112 83 rfl).trans ((fr2 Fm110 83 rfl).trans (fr2 Fm107 83 rfl)))))), (show (m128.1 223) = (m.1 223) from ((fr1 Fm128 223 rfl).trans ((fr1 Fm126 223 rfl).trans ((fr1 Fm112 223 rfl).trans ((fr1 Fm110 223 rfl).trans (fr1 Fm107 223 rfl))))))]; exact hTL) (show LTp (m128.1 219) (m128.2 74) (m128.1 223) by rewrite [(show (m128.1 219) = (m.1 219) from ((fr1 Fm128 219 rfl).trans ((fr1 Fm126 219 rfl).trans ((fr1 Fm112 219 rfl).trans ((fr1 Fm110 219 rfl).trans (fr1 Fm107 219 rfl)))))), (show (m128.2 74) = (m.2 74) from ((fr2 Fm128 74 rfl).trans ((fr2 Fm126 74 rfl).trans ((fr2 Fm112 74 rfl).trans ((fr2 Fm110 74 rfl).trans (fr2 Fm107 74 rfl)))))), (show (m128.1 223) = (m.1 223) from ((fr1 Fm128 223 rfl).trans ((fr1 Fm126 223 rfl).trans ((fr1 Fm112 223 rfl).trans ((fr1 Fm110 223 rfl).trans (fr1 Fm107 223 rfl))))))]; exact hTD) (show TCp (m128.1 219) (m128.2 78) (m128.2 89) (m128.1 223) by rewrite [(show (m128.1 219) = (m.1 219) from ((fr1 Fm128 219 rfl).trans ((fr1 Fm126 219 rfl).trans ((fr1 Fm112 219 rfl).trans ((fr1 Fm110 219 rfl).trans (fr1 Fm107 219 rfl)))))), (show (m128.1 223) = (m.1 223) from ((fr1 Fm128 223 rfl).trans ((fr1 Fm126 223 rfl).trans ((fr1 Fm112 223 rfl).trans ((fr1 Fm110 223 rfl).trans (fr1 Fm107 223 rfl))))))]; exact hTC) (show SPp (m128.1 225) (m128.2 52) (m128.2 58) (m128.2 55) (m128.2 56) (m128.1 219) (m128.1 224) by rewrite [(show (m128.1 225) = (m.1 225) from ((fr1 Fm128 225 rfl).trans ((fr1 Fm126 225 rfl).trans ((fr1 Fm112 225 rfl).trans ((fr1 Fm110 225 rfl).trans (fr1 Fm107 225 rfl)))))), (show (m128.2 52) = (m.2 52) from ((fr2 Fm128 52 rfl).trans ((fr2 Fm126 52 rfl).trans ((fr2 Fm112 52 rfl).trans ((fr2 Fm110 52 rfl).trans (fr2 Fm107 52 rfl)))))), (show (m128.2 58) = (m.2 58) from ((fr2 Fm128 58 rfl).trans ((fr2 Fm126 58 rfl).trans ((fr2 Fm112 58 rfl).trans ((fr2 Fm110 58 rfl).trans (fr2 Fm107 58 rfl)))))), (show (m128.2 55) = (m.2 55) from ((fr2 Fm128 55 rfl).trans ((fr2 Fm126 55 rfl).trans ((fr2 Fm112 55 rfl).trans ((fr2 Fm110 55 rfl).trans (fr2 Fm107 55 rfl)))))), (show (m128.2 56) = (m.2 56) from ((fr2 Fm128 56 rfl).trans ((fr2 Fm126 56 rfl).trans ((fr2 Fm112 56 rfl).trans ((fr2 Fm110 56 rfl).trans (fr2 Fm107 56 rfl)))))), (show (m128.1 219) = (m.1 219) from ((fr1 Fm128 219 rfl).trans ((fr1 Fm126 219 rfl).trans ((fr1 Fm112 219 rfl).trans ((fr1 Fm110 219 rfl).trans (fr1 Fm107 219 rfl)))))), (show (m128.1 224) = (m.1 224) from ((fr1 Fm128 224 rfl).trans ((fr1 Fm126 224 rfl).trans ((fr1 Fm112 224 rfl).trans ((fr1 Fm110 224 rfl).trans (fr1 Fm107 224 rfl))))))]; exact hSP) (show 0 ≤ v127 ∧ v127 ≤ 11 by omega))) (fun rr145 k146 => ?_)
                obtain ⟨m147, Tm147, Fm147, h148, rfl⟩ := k146
                refine Or.inl ⟨_, _, _, _, rfl, ?_⟩
                refine K_nb (st' := []) rfl ?_
                replace h148 : TCp (m128.1 219) (m147.2 78) (m147.2 89) (m128.1 223) := h148
                rewrite [(show (m128.1 219) = (m.1 219) from ((fr1 Fm128 219 rfl).trans ((fr1 Fm126 219 rfl).trans ((fr1 Fm112 219 rfl).trans ((fr1 Fm110 219 rfl).trans (fr1 Fm107 219 rfl)))))), (show (m128.1 223) = (m.1 223) from ((fr1 Fm128 223 rfl).trans ((fr1 Fm126 223 rfl).trans ((fr1 Fm112 223 rfl).trans ((fr1 Fm110 223 rfl).trans (fr1 Fm107 223 rfl))))))] at h148
                have hTC := h148
                refine T_iinc 171 [(4, .int (i32 (v127 + 1))), (5, .ref (obq (m.2 107) ((upI (m112.2 106) 0 (-1)) v127))), (0, .ref 185), (1, .int (i32 ((m.1 226) - 1)))] rfl rfl (by decide) rfl rfl ?_
                refine T_goto 133 rfl (fun _ => rfl) ?_
                refine Tm_lv (a := [(0, .ref 185), (1, .int (i32 ((m.1 226) - 1))), (4, .int (i32 (v127 + 1)))]) rfl rfl ⟨rfl, rfl, rfl, trivial⟩ ?_
                exact ih138 (v127 + 1) (mO m147 [] []) (r32 (by omega) (by omega)) Tm147 (fr_m (fr_s Fm147 (fr_m (fr_s Fm128 (fr_m fr_0 rfl rfl) rfl rfl) rfl rfl) rfl rfl) rfl rfl) (show 0 ≤ (v127 + 1) by omega) (show 0 ≤ (v127 + 1) ∧ (v127 + 1) ≤ 12 by omega) (show ((m.1 233) < (m.1 232) ∧ (m.1 233) = (m.1 233) + 1) ∨ ((m.1 232) ≤ (m.1 233) ∧ (m.1 233) = (m.1 233)) by first | exact hEnt | omega | (exfalso; have h9 := hNu ((m.1 233) % 128) (by omega) (by omega) (by omega); omega)) (show TCp (m.1 219) (m147.2 78) (m147.2 89) (m.1 223) by exact hTC) (show 20 - (v127 + 1) < (n137 : Int) by omega)
          refine Tm_lv (a := [(0, .ref 185), (1, .int (i32 ((m.1 226) - 1))), (4, .int (i32 0))]) rfl rfl ⟨rfl, rfl, rfl, trivial⟩ ?_
          exact L133_129 ((20 - (0 : Int) : Int) + 1).toNat 0 (mO m126 [] []) ⟨by decide, by decide⟩ Tm126 (fr_m fr_0 rfl rfl) (show 0 ≤ (0 : Int) by omega) (show 0 ≤ (0 : Int) ∧ (0 : Int) ≤ 12 by omega) (show ((m.1 233) < (m.1 232) ∧ (m.1 233) = (m.1 233) + 1) ∨ ((m.1 232) ≤ (m.1 233) ∧ (m.1 233) = (m.1 233)) by first | exact hEnt | omega | (exfalso; have h9 := hNu ((m.1 233) % 128) (by omega) (by omega) (by omega); omega)) (show TCp (m.1 219) (m126.2 78) (m126.2 89) (m.1 223) by rewrite [(show (m126.2 78) = (m.2 78) from ((fr2 Fm126 78 rfl).trans ((fr2 Fm112 78 rfl).trans ((fr2 Fm110 78 rfl).trans (fr2 Fm107 78 rfl))))), (show (m126.2 89) = (m.2 89) from ((fr2 Fm126 89 rfl).trans ((fr2 Fm112 89 rfl).trans ((fr2 Fm110 89 rfl).trans (fr2 Fm107 89 rfl)))))]; exact hTC) (show 20 - (0 : Int) < ((((20 - (0 : Int) : Int) + 1).toNat : Nat) : Int) by omega)
        · skip
          refine T_ld 84 (.ref 185) rfl (fun _ => rfl) ?_
          refine K_gf 87 (.ref 186) rfl rfl kd_185 rfl rfl rfl ?_
          refine T_ld 88 (.ref 185) rfl (fun _ => rfl) ?_
          refine K_gf 91 (.int (i32 (m.1 233))) rfl rfl kd_185 rfl (kval_c2 (k := 233) (F := fun x => .int (i32 x)) rfl (show (m112.1 233) = (m.1 233) from ((fr1 Fm112 233 rfl).trans ((fr1 Fm110 233 rfl).trans (fr1 Fm107 233 rfl))))) rfl ?_
          refine T_ld 94 (.int (i32 128)) rfl (fun _ => rfl) ?_
          refine T_irem 95 rfl rfl (by omega) (by omega) (by omega) (by omega) ?_
          refine K_aaopF 96 (m.2 107) rfl rfl (by omega) (by omega) Tm112 (show (m112.2 107) = (m.2 107) from ((fr2 Fm112 107 rfl).trans ((fr2 Fm110 107 rfl).trans (fr2 Fm107 107 rfl)))) (fun h150 => ?_) (fun ok149 => ?_)
          · skip
            refine T_goto 100 rfl (fun _ => rfl) ?_
            refine T_sto 101 [(3, .null), (0, .ref 185), (1, .int (i32 ((m.1 226) - 1)))] rfl (fun _ => rfl) ?_
            refine T_ld 102 (.ref 185) rfl (fun _ => rfl) ?_
            refine K_gf 105 (.ref 187) rfl rfl kd_185 rfl rfl rfl ?_
            refine T_ld 106 (.int (i32 0)) rfl (fun _ => rfl) ?_
            refine T_ld 107 (.null) rfl (fun _ => rfl) ?_
            have G151 : ∀ j, (-1) ≤ (upI (m112.2 106) 0 (-1)) j ∧ (upI (m112.2 106) 0 (-1)) j ≤ 127 := upI_rg (Tm112.2.1 106) ⟨by omega, by omega⟩
            refine K_aasn (a' := [(106, upI (m112.2 106) 0 (-1))]) 108 (m112.2 106) rfl rfl (by omega) (by omega) Tm112 rfl rfl ?_
            refine T_ld 109 (.null) rfl (fun _ => rfl) ?_
            refine T_pop 130 rfl (fun _ => rfl) ?_
            have hPI : PIp (m.1 226) (m.1 233) (m.1 232) (upI (m112.2 106) 0 (-1)) (m.2 91) (m107.2 92) (m.2 94) := by first | exact PI_cy hPI rfl ⟨by omega, by omega⟩ hLn hSZ (Or.inl ⟨by omega, rfl, rfl⟩) | exact PI_cy hPI rfl ⟨by omega, by omega⟩ hLn hSZ (Or.inr ⟨rfl, by omega, by omega, hEn.1, hEn.2⟩)
            refine T_ld 131 (.int (i32 0)) rfl (fun _ => rfl) ?_
            refine T_sto 133 [(4, .int (i32 0)), (3, .null), (0, .ref 185), (1, .int (i32 ((m.1 226) - 1)))] rfl (fun _ => rfl) ?_
            refine K_fl (KTy_mO Tm112 rfl rfl trivial ⟨G151, trivial⟩) (fun m152 Tm152 Fm152 => ?_)
            have L133_155 : ∀ (n163 : Nat) (v153 : Int) (m154 : mR), (R32 v153) → KTy m154 → fr [] [25, 71, 78, 85, 86, 87, 88, 89, 90, 98, 101, 102, 103, 104, 105] (mO m152 [] []) m154 → (0 ≤ v153) → (0 ≤ v153 ∧ v153 ≤ 12) → (((m.1 233) < (m.1 232) ∧ (m.1 233) = (m.1 233) + 1) ∨ ((m.1 232) ≤ (m.1 233) ∧ (m.1 233) = (m.1 233))) → (TCp (m.1 219) (m154.2 78) (m154.2 89) (m.1 223)) → 20 - v153 < (n163 : Int) → TT w D pm_177 (133, [(0, .ref 185), (1, .int (i32 ((m.1 226) - 1))), (4, .int (i32 v153))], [], (khp (mO m154 [] []) c, N), 0, 0) (Q_pi_cycle m c N) := by
              intro n163
              induction n163 with
              | zero =>
                intro v153 m154 q160 Tm154 Fm154 ic156 ic157 ic158 ic159 hmu
                obtain ⟨q160a, q160b⟩ := id q160
                have hEnt := ic158
                have hTC := ic159
                exfalso
                omega
              | succ n163 ih =>
                intro v153 m154 q160 Tm154 Fm154 ic156 ic157 ic158 ic159 hmu
                obtain ⟨q160a, q160b⟩ := id q160
                have hEnt := ic158
                have hTC := ic159
                have ih164 := ih
                refine T_ld 135 (.int (i32 v153)) rfl (fun _ => rfl) ?_
                refine T_ld 136 (.int (i32 ((m.1 226) - 1))) rfl (fun _ => rfl) ?_
                refine T_icmp 174 139 rfl rfl rfl (r32 (by omega) (by omega)) (r32 (by omega) (by omega)) (fun (h165 : (m.1 226) - 1 < v153) => ?_) (fun (h165 : ¬ ((m.1 226) - 1 < v153)) => ?_)
                · skip
                  refine T_ld 175 (.ref 185) rfl (fun _ => rfl) ?_
                  refine T_ld 176 (.ref 185) rfl (fun _ => rfl) ?_
                  refine K_gf 179 (.int (i32 (m.1 235))) rfl rfl kd_185 rfl (kval_c2 (k := 235) (F := fun x => .int (i32 x)) rfl (show (m154.1 235) = (m.1 235) from ((fr1 Fm154 235 rfl).trans ((fr1 Fm152 235 rfl).trans ((fr1 Fm112 235 rfl).trans ((fr1 Fm110 235 rfl).trans (fr1 Fm107 235 rfl))))))) rfl ?_
                  refine T_ld 180 (.int (i32 1)) rfl (fun _ => rfl) ?_
                  refine T_iadd 181 rfl rfl ?_
                  refine K_pf (l' := [(235, (m.1 235) + 1)]) 184 ((m.1 235) + 1) rfl rfl kd_185 rfl rfl rfl rfl rfl rfl rfl ?_
                  have g166 : 0 ≤ (m.1 235) + 1 ∧ (m.1 235) + 1 ≤ 100000000 := ⟨by omega, by omega⟩
                  refine T_ret rfl (fun _ => rfl) ?_
                  exact ⟨(mO m154 [(235, (m.1 235) + 1)] []), (KTy_mO Tm154 rfl rfl ⟨g166, trivial⟩ trivial), (fr_m (fr_s Fm154 (fr_m (fr_s Fm152 (fr_m (fr_s Fm112 (fr_m (fr_s Fm110 (fr_m (fr_s Fm107 (fr_m fr_0 rfl rfl) rfl rfl) rfl rfl) rfl rfl) rfl rfl) rfl rfl) rfl rfl) rfl rfl) rfl rfl) rfl rfl) rfl rfl), (show ((m.1 233) < (m.1 232) ∧ (m154.1 233) = (m.1 233) + 1) ∨ ((m.1 232) ≤ (m.1 233) ∧ (m154.1 233) = (m.1 233)) by rewrite [(show (m154.1 233) = (m.1 233) from ((fr1 Fm154 233 rfl).trans ((fr1 Fm152 233 rfl).trans ((fr1 Fm112 233 rfl).trans ((fr1 Fm110 233 rfl).trans (fr1 Fm107 233 rfl))))))]; first | (first | exact hEnt | omega | (exfalso; have h9 := hNu ((m.1 233) % 128) (by omega) (by omega) (by omega); omega)) | (exfalso; omega)), (show PIp (m.1 226) (m154.1 233) (m.1 232) (m154.2 106) (m.2 91) (m154.2 92) (m154.2 94) by rewrite [(show (m154.1 233) = (m.1 233) from ((fr1 Fm154 233 rfl).trans ((fr1 Fm152 233 rfl).trans ((fr1 Fm112 233 rfl).trans ((fr1 Fm110 233 rfl).trans (fr1 Fm107 233 rfl)))))), (show (m154.2 106) = (upI (m112.2 106) 0 (-1)) from ((fr2 Fm154 106 rfl).trans (fr2 Fm152 106 rfl))), (show (m154.2 92) = (m107.2 92) from ((fr2 Fm154 92 rfl).trans ((fr2 Fm152 92 rfl).trans ((fr2 Fm112 92 rfl).trans (fr2 Fm110 92 rfl))))), (show (m154.2 94) = (m.2 94) from ((fr2 Fm154 94 rfl).trans ((fr2 Fm152 94 rfl).trans ((fr2 Fm112 94 rfl).trans ((fr2 Fm110 94 rfl).trans (fr2 Fm107 94 rfl))))))]; first | (exact hPI) | (exfalso; omega)), (show TCp (m.1 219) (m154.2 78) (m154.2 89) (m.1 223) by first | (exact hTC) | (exfalso; omega)), (show ((m.1 235) + 1) = (m.1 235) + 1 by omega), (show (m154.1 234) ≤ ((m.1 235) + 1) by rewrite [(show (m154.1 234) = ((m.1 234) + 1) from ((fr1 Fm154 234 rfl).trans ((fr1 Fm152 234 rfl).trans ((fr1 Fm112 234 rfl).trans (fr1 Fm110 234 rfl)))))]; omega), rfl⟩
                · skip
                  refine T_ld 140 (.ref 185) rfl (fun _ => rfl) ?_
                  refine K_gf 143 (.ref 187) rfl rfl kd_185 rfl rfl rfl ?_
                  refine T_ld 145 (.int (i32 v153)) rfl (fun _ => rfl) ?_
                  refine K_aaisF 146 (upI (m112.2 106) 0 (-1)) (m.2 107) rfl rfl (by omega) (by omega) Tm154 (show (m154.2 106) = (upI (m112.2 106) 0 (-1)) from ((fr2 Fm154 106 rfl).trans (fr2 Fm152 106 rfl))) (show (m154.2 107) = (m.2 107) from ((fr2 Fm154 107 rfl).trans ((fr2 Fm152 107 rfl).trans ((fr2 Fm112 107 rfl).trans ((fr2 Fm110 107 rfl).trans (fr2 Fm107 107 rfl)))))) ?_ (fun h167 h168 ok169 => ?_)
                  · skip
                    refine T_sto 148 [(5, .null), (0, .ref 185), (1, .int (i32 ((m.1 226) - 1))), (4, .int (i32 v153))] rfl (fun _ => rfl) ?_
                    refine T_ld 150 (.null) rfl (fun _ => rfl) ?_
                    refine T_pop 168 rfl (fun _ => rfl) ?_
                    refine T_iinc 171 [(4, .int (i32 (v153 + 1))), (5, .null), (0, .ref 185), (1, .int (i32 ((m.1 226) - 1)))] rfl rfl (by decide) rfl rfl ?_
                    refine T_goto 133 rfl (fun _ => rfl) ?_
                    refine Tm_lv (a := [(0, .ref 185), (1, .int (i32 ((m.1 226) - 1))), (4, .int (i32 (v153 + 1)))]) rfl rfl ⟨rfl, rfl, rfl, trivial⟩ ?_
                    exact ih164 (v153 + 1) (mO m154 [] []) (r32 (by omega) (by omega)) Tm154 (fr_m (fr_s Fm154 (fr_m fr_0 rfl rfl) rfl rfl) rfl rfl) (show 0 ≤ (v153 + 1) by omega) (show 0 ≤ (v153 + 1) ∧ (v153 + 1) ≤ 12 by omega) (show ((m.1 233) < (m.1 232) ∧ (m.1 233) = (m.1 233) + 1) ∨ ((m.1 232) ≤ (m.1 233) ∧ (m.1 233) = (m.1 233)) by first | exact hEnt | omega | (exfalso; have h9 := hNu ((m.1 233) % 128) (by omega) (by omega) (by omega); omega)) (show TCp (m.1 219) (m154.2 78) (m154.2 89) (m.1 223) by exact hTC) (show 20 - (v153 + 1) < (n163 : Int) by omega)
                  have ok170 : OKr m ((upI (m112.2 106) 0 (-1)) v153) := OKr_c (show (m154.2 107) = (m.2 107) from ((fr2 Fm154 107 rfl).trans ((fr2 Fm152 107 rfl).trans ((fr2 Fm112 107 rfl).trans ((fr2 Fm110 107 rfl).trans (fr2 Fm107 107 rfl)))))).symm (show (m154.2 108) = (m.2 108) from ((fr2 Fm154 108 rfl).trans ((fr2 Fm152 108 rfl).trans ((fr2 Fm112 108 rfl).trans ((fr2 Fm110 108 rfl).trans (fr2 Fm107 108 rfl)))))).symm ok169
                  refine T_sto 148 [(5, .ref (obq (m.2 107) ((upI (m112.2 106) 0 (-1)) v153))), (0, .ref 185), (1, .int (i32 ((m.1 226) - 1))), (4, .int (i32 v153))] rfl (fun _ => rfl) ?_
                  refine T_ld 150 (.ref (obq (m.2 107) ((upI (m112.2 106) 0 (-1)) v153))) rfl (fun _ => rfl) ?_
                  refine T_pop 153 rfl (fun _ => rfl) ?_
                  refine T_ld 155 (.ref (obq (m.2 107) ((upI (m112.2 106) 0 (-1)) v153))) rfl (fun _ => rfl) ?_
                  refine T_ld 156 (.ref 185) rfl (fun _ => rfl) ?_
                  refine K_gf 159 (.ref 12) rfl rfl kd_185 rfl rfl rfl ?_
                  refine T_ld 161 (.int (i32 v153)) rfl (fun _ => rfl) ?_
                  refine T_ld 162 (.ref 185) rfl (fun _ => rfl) ?_
                  refine K_gf 165 (.ref 188) rfl rfl kd_185 rfl rfl rfl ?_
                  refine T_callx 168 186 [.ref (obq (m.2 107) ((upI (m112.2 106) 0 (-1)) v153)), .ref 12, .int (i32 v153), .ref 188] [] rfl (inv_vt (args := [.ref 188, .int (i32 v153), .ref 12]) (obe_c (congrArg (fun f : Int → Int => (f ((upI (m112.2 106) 0 (-1)) v153)).toNat) (show (m154.2 107) = (m.2 107) from ((fr2 Fm154 107 rfl).trans ((fr2 Fm152 107 rfl).trans ((fr2 Fm112 107 rfl).trans ((fr2 Fm110 107 rfl).trans (fr2 Fm107 107 rfl))))))) (khp_o0 _ (OKr_c (show (m154.2 107) = (m.2 107) from ((fr2 Fm154 107 rfl).trans ((fr2 Fm152 107 rfl).trans ((fr2 Fm112 107 rfl).trans ((fr2 Fm110 107 rfl).trans (fr2 Fm107 107 rfl)))))) (show (m154.2 108) = (m.2 108) from ((fr2 Fm154 108 rfl).trans ((fr2 Fm152 108 rfl).trans ((fr2 Fm112 108 rfl).trans ((fr2 Fm110 108 rfl).trans (fr2 Fm107 108 rfl)))))) ok170))) rfl rfl rfl) rfl rfl (TC_cast (fun g9 => [.ref (obq g9 ((upI (m112.2 106) 0 (-1)) v153)), .ref 12, .int (i32 v153), .ref 188]) (show (m154.2 107) = (m.2 107) from ((fr2 Fm154 107 rfl).trans ((fr2 Fm152 107 rfl).trans ((fr2 Fm112 107 rfl).trans ((fr2 Fm110 107 rfl).trans (fr2 Fm107 107 rfl)))))) (c_op_work w (mO m154 [] []) c N D (by omega) Tm154 ((upI (m112.2 106) 0 (-1)) v153) v153 (r32 (by omega) (by omega)) (r32 (by omega) (by omega)) (OKr_c (show (m154.2 107) = (m.2 107) from ((fr2 Fm154 107 rfl).trans ((fr2 Fm152 107 rfl).trans ((fr2 Fm112 107 rfl).trans ((fr2 Fm110 107 rfl).trans (fr2 Fm107 107 rfl)))))) (show (m154.2 108) = (m.2 108) from ((fr2 Fm154 108 rfl).trans ((fr2 Fm152 108 rfl).trans ((fr2 Fm112 108 rfl).trans ((fr2 Fm110 108 rfl).trans (fr2 Fm107 108 rfl)))))) ok170) (show NKp (m154.2 18) (m154.2 19) by rewrite [(show (m154.2 18) = (m.2 18) from ((fr2 Fm154 18 rfl).trans ((fr2 Fm152 18 rfl).trans ((fr2 Fm112 18 rfl).trans ((fr2 Fm110 18 rfl).trans (fr2 Fm107 18 rfl)))))), (show (m154.2 19) = (m.2 19) from ((fr2 Fm154 19 rfl).trans ((fr2 Fm152 19 rfl).trans ((fr2 Fm112 19 rfl).trans ((fr2 Fm110 19 rfl).trans (fr2 Fm107 19 rfl))))))]; exact hNK) (show DEp (m154.1 224) (m154.2 45) (m154.2 46) (m154.2 47) (m154.2 49) by rewrite [(show (m154.1 224) = (m.1 224) from ((fr1 Fm154 224 rfl).trans ((fr1 Fm152 224 rfl).trans ((fr1 Fm112 224 rfl).trans ((fr1 Fm110 224 rfl).trans (fr1 Fm107 224 rfl)))))), (show (m154.2 45) = (m.2 45) from ((fr2 Fm154 45 rfl).trans ((fr2 Fm152 45 rfl).trans ((fr2 Fm112 45 rfl).trans ((fr2 Fm110 45 rfl).trans (fr2 Fm107 45 rfl)))))), (show (m154.2 46) = (m.2 46) from ((fr2 Fm154 46 rfl).trans ((fr2 Fm152 46 rfl).trans ((fr2 Fm112 46 rfl).trans ((fr2 Fm110 46 rfl).trans (fr2 Fm107 46 rfl)))))), (show (m154.2 47) = (m.2 47) from ((fr2 Fm154 47 rfl).trans ((fr2 Fm152 47 rfl).trans ((fr2 Fm112 47 rfl).trans ((fr2 Fm110 47 rfl).trans (fr2 Fm107 47 rfl)))))), (show (m154.2 49) = (m.2 49) from ((fr2 Fm154 49 rfl).trans ((fr2 Fm152 49 rfl).trans ((fr2 Fm112 49 rfl).trans ((fr2 Fm110 49 rfl).trans (fr2 Fm107 49 rfl))))))]; exact hDE) (show AcP (m154.1 223) (m154.1 224) (m154.2 43) (m154.2 44) by rewrite [(show (m154.1 223) = (m.1 223) from ((fr1 Fm154 223 rfl).trans ((fr1 Fm152 223 rfl).trans ((fr1 Fm112 223 rfl).trans ((fr1 Fm110 223 rfl).trans (fr1 Fm107 223 rfl)))))), (show (m154.1 224) = (m.1 224) from ((fr1 Fm154 224 rfl).trans ((fr1 Fm152 224 rfl).trans ((fr1 Fm112 224 rfl).trans ((fr1 Fm110 224 rfl).trans (fr1 Fm107 224 rfl)))))), (show (m154.2 43) = (m.2 43) from ((fr2 Fm154 43 rfl).trans ((fr2 Fm152 43 rfl).trans ((fr2 Fm112 43 rfl).trans ((fr2 Fm110 43 rfl).trans (fr2 Fm107 43 rfl)))))), (show (m154.2 44) = (m.2 44) from ((fr2 Fm154 44 rfl).trans ((fr2 Fm152 44 rfl).trans ((fr2 Fm112 44 rfl).trans ((fr2 Fm110 44 rfl).trans (fr2 Fm107 44 rfl))))))]; exact hAC) (show TLp (m154.1 219) (m154.2 73) (m154.2 83) (m154.1 223) by rewrite [(show (m154.1 219) = (m.1 219) from ((fr1 Fm154 219 rfl).trans ((fr1 Fm152 219 rfl).trans ((fr1 Fm112 219 rfl).trans ((fr1 Fm110 219 rfl).trans (fr1 Fm107 219 rfl)))))), (show (m154.2 73) = (m.2 73) from ((fr2 Fm154 73 rfl).trans ((fr2 Fm152 73 rfl).trans ((fr2 Fm112 73 rfl).trans ((fr2 Fm110 73 rfl).trans (fr2 Fm107 73 rfl)))))), (show (m154.2 83) = (m.2 83) from ((fr2 Fm154 83 rfl).trans ((fr2 Fm152 83 rfl).trans ((fr2 Fm112 83 rfl).trans ((fr2 Fm110 83 rfl).trans (fr2 Fm107 83 rfl)))))), (show (m154.1 223) = (m.1 223) from ((fr1 Fm154 223 rfl).trans ((fr1 Fm152 223 rfl).trans ((fr1 Fm112 223 rfl).trans ((fr1 Fm110 223 rfl).trans (fr1 Fm107 223 rfl))))))]; exact hTL) (show LTp (m154.1 219) (m154.2 74) (m154.1 223) by rewrite [(show (m154.1 219) = (m.1 219) from ((fr1 Fm154 219 rfl).trans ((fr1 Fm152 219 rfl).trans ((fr1 Fm112 219 rfl).trans ((fr1 Fm110 219 rfl).trans (fr1 Fm107 219 rfl)))))), (show (m154.2 74) = (m.2 74) from ((fr2 Fm154 74 rfl).trans ((fr2 Fm152 74 rfl).trans ((fr2 Fm112 74 rfl).trans ((fr2 Fm110 74 rfl).trans (fr2 Fm107 74 rfl)))))), (show (m154.1 223) = (m.1 223) from ((fr1 Fm154 223 rfl).trans ((fr1 Fm152 223 rfl).trans ((fr1 Fm112 223 rfl).trans ((fr1 Fm110 223 rfl).trans (fr1 Fm107 223 rfl))))))]; exact hTD) (show TCp (m154.1 219) (m154.2 78) (m154.2 89) (m154.1 223) by rewrite [(show (m154.1 219) = (m.1 219) from ((fr1 Fm154 219 rfl).trans ((fr1 Fm152 219 rfl).trans ((fr1 Fm112 219 rfl).trans ((fr1 Fm110 219 rfl).trans (fr1 Fm107 219 rfl)))))), (show (m154.1 223) = (m.1 223) from ((fr1 Fm154 223 rfl).trans ((fr1 Fm152 223 rfl).trans ((fr1 Fm112 223 rfl).trans ((fr1 Fm110 223 rfl).trans (fr1 Fm107 223 rfl))))))]; exact hTC) (show SPp (m154.1 225) (m154.2 52) (m154.2 58) (m154.2 55) (m154.2 56) (m154.1 219) (m154.1 224) by rewrite [(show (m154.1 225) = (m.1 225) from ((fr1 Fm154 225 rfl).trans ((fr1 Fm152 225 rfl).trans ((fr1 Fm112 225 rfl).trans ((fr1 Fm110 225 rfl).trans (fr1 Fm107 225 rfl)))))), (show (m154.2 52) = (m.2 52) from ((fr2 Fm154 52 rfl).trans ((fr2 Fm152 52 rfl).trans ((fr2 Fm112 52 rfl).trans ((fr2 Fm110 52 rfl).trans (fr2 Fm107 52 rfl)))))), (show (m154.2 58) = (m.2 58) from ((fr2 Fm154 58 rfl).trans ((fr2 Fm152 58 rfl).trans ((fr2 Fm112 58 rfl).trans ((fr2 Fm110 58 rfl).trans (fr2 Fm107 58 rfl)))))), (show (m154.2 55) = (m.2 55) from ((fr2 Fm154 55 rfl).trans ((fr2 Fm152 55 rfl).trans ((fr2 Fm112 55 rfl).trans ((fr2 Fm110 55 rfl).trans (fr2 Fm107 55 rfl)))))), (show (m154.2 56) = (m.2 56) from ((fr2 Fm154 56 rfl).trans ((fr2 Fm152 56 rfl).trans ((fr2 Fm112 56 rfl).trans ((fr2 Fm110 56 rfl).trans (fr2 Fm107 56 rfl)))))), (show (m154.1 219) = (m.1 219) from ((fr1 Fm154 219 rfl).trans ((fr1 Fm152 219 rfl).trans ((fr1 Fm112 219 rfl).trans ((fr1 Fm110 219 rfl).trans (fr1 Fm107 219 rfl)))))), (show (m154.1 224) = (m.1 224) from ((fr1 Fm154 224 rfl).trans ((fr1 Fm152 224 rfl).trans ((fr1 Fm112 224 rfl).trans ((fr1 Fm110 224 rfl).trans (fr1 Fm107 224 rfl))))))]; exact hSP) (show 0 ≤ v153 ∧ v153 ≤ 11 by omega))) (fun rr171 k172 => ?_)
                  obtain ⟨m173, Tm173, Fm173, h174, rfl⟩ := k172
                  refine Or.inl ⟨_, _, _, _, rfl, ?_⟩
                  refine K_nb (st' := []) rfl ?_
                  replace h174 : TCp (m154.1 219) (m173.2 78) (m173.2 89) (m154.1 223) := h174
                  rewrite [(show (m154.1 219) = (m.1 219) from ((fr1 Fm154 219 rfl).trans ((fr1 Fm152 219 rfl).trans ((fr1 Fm112 219 rfl).trans ((fr1 Fm110 219 rfl).trans (fr1 Fm107 219 rfl)))))), (show (m154.1 223) = (m.1 223) from ((fr1 Fm154 223 rfl).trans ((fr1 Fm152 223 rfl).trans ((fr1 Fm112 223 rfl).trans ((fr1 Fm110 223 rfl).trans (fr1 Fm107 223 rfl))))))] at h174
                  have hTC := h174
                  refine T_iinc 171 [(4, .int (i32 (v153 + 1))), (5, .ref (obq (m.2 107) ((upI (m112.2 106) 0 (-1)) v153))), (0, .ref 185), (1, .int (i32 ((m.1 226) - 1)))] rfl rfl (by decide) rfl rfl ?_
                  refine T_goto 133 rfl (fun _ => rfl) ?_
                  refine Tm_lv (a := [(0, .ref 185), (1, .int (i32 ((m.1 226) - 1))), (4, .int (i32 (v153 + 1)))]) rfl rfl ⟨rfl, rfl, rfl, trivial⟩ ?_
                  exact ih164 (v153 + 1) (mO m173 [] []) (r32 (by omega) (by omega)) Tm173 (fr_m (fr_s Fm173 (fr_m (fr_s Fm154 (fr_m fr_0 rfl rfl) rfl rfl) rfl rfl) rfl rfl) rfl rfl) (show 0 ≤ (v153 + 1) by omega) (show 0 ≤ (v153 + 1) ∧ (v153 + 1) ≤ 12 by omega) (show ((m.1 233) < (m.1 232) ∧ (m.1 233) = (m.1 233) + 1) ∨ ((m.1 232) ≤ (m.1 233) ∧ (m.1 233) = (m.1 233)) by first | exact hEnt | omega | (exfalso; have h9 := hNu ((m.1 233) % 128) (by omega) (by omega) (by omega); omega)) (show TCp (m.1 219) (m173.2 78) (m173.2 89) (m.1 223) by exact hTC) (show 20 - (v153 + 1) < (n163 : Int) by omega)
            refine Tm_lv (a := [(0, .ref 185), (1, .int (i32 ((m.1 226) - 1))), (4, .int (i32 0))]) rfl rfl ⟨rfl, rfl, rfl, trivial⟩ ?_
            exact L133_155 ((20 - (0 : Int) : Int) + 1).toNat 0 (mO m152 [] []) ⟨by decide, by decide⟩ Tm152 (fr_m fr_0 rfl rfl) (show 0 ≤ (0 : Int) by omega) (show 0 ≤ (0 : Int) ∧ (0 : Int) ≤ 12 by omega) (show ((m.1 233) < (m.1 232) ∧ (m.1 233) = (m.1 233) + 1) ∨ ((m.1 232) ≤ (m.1 233) ∧ (m.1 233) = (m.1 233)) by first | exact hEnt | omega | (exfalso; have h9 := hNu ((m.1 233) % 128) (by omega) (by omega) (by omega); omega)) (show TCp (m.1 219) (m152.2 78) (m152.2 89) (m.1 223) by rewrite [(show (m152.2 78) = (m.2 78) from ((fr2 Fm152 78 rfl).trans ((fr2 Fm112 78 rfl).trans ((fr2 Fm110 78 rfl).trans (fr2 Fm107 78 rfl))))), (show (m152.2 89) = (m.2 89) from ((fr2 Fm152 89 rfl).trans ((fr2 Fm112 89 rfl).trans ((fr2 Fm110 89 rfl).trans (fr2 Fm107 89 rfl)))))]; exact hTC) (show 20 - (0 : Int) < ((((20 - (0 : Int) : Int) + 1).toNat : Nat) : Int) by omega)
          have ok175 : OKr m ((m.1 233) % 128) := OKr_c (show (m112.2 107) = (m.2 107) from ((fr2 Fm112 107 rfl).trans ((fr2 Fm110 107 rfl).trans (fr2 Fm107 107 rfl)))).symm (show (m112.2 108) = (m.2 108) from ((fr2 Fm112 108 rfl).trans ((fr2 Fm110 108 rfl).trans (fr2 Fm107 108 rfl)))).symm ok149
          refine T_goto 100 rfl (fun _ => rfl) ?_
          refine T_sto 101 [(3, .ref (obq (m.2 107) ((m.1 233) % 128))), (0, .ref 185), (1, .int (i32 ((m.1 226) - 1)))] rfl (fun _ => rfl) ?_
          refine T_ld 102 (.ref 185) rfl (fun _ => rfl) ?_
          refine K_gf 105 (.ref 187) rfl rfl kd_185 rfl rfl rfl ?_
          refine T_ld 106 (.int (i32 0)) rfl (fun _ => rfl) ?_
          refine T_ld 107 (.ref (obq (m.2 107) ((m.1 233) % 128))) rfl (fun _ => rfl) ?_
          have G176 : ∀ j, (-1) ≤ (upI (m112.2 106) 0 ((m.1 233) % 128)) j ∧ (upI (m112.2 106) 0 ((m.1 233) % 128)) j ≤ 127 := upI_rg (Tm112.2.1 106) ⟨by omega, by omega⟩
          refine K_aaso (a' := [(106, upI (m112.2 106) 0 ((m.1 233) % 128))]) 108 (m112.2 106) rfl rfl (by omega) (by omega) Tm112 (OKr_c (show (m112.2 107) = (m.2 107) from ((fr2 Fm112 107 rfl).trans ((fr2 Fm110 107 rfl).trans (fr2 Fm107 107 rfl)))) (show (m112.2 108) = (m.2 108) from ((fr2 Fm112 108 rfl).trans ((fr2 Fm110 108 rfl).trans (fr2 Fm107 108 rfl)))) ok175) (congrArg (fun f : Int → Int => (f ((m.1 233) % 128)).toNat) (show (m112.2 107) = (m.2 107) from ((fr2 Fm112 107 rfl).trans ((fr2 Fm110 107 rfl).trans (fr2 Fm107 107 rfl))))) rfl rfl ?_
          refine T_ld 109 (.ref (obq (m.2 107) ((m.1 233) % 128))) rfl (fun _ => rfl) ?_
          refine T_pop 112 rfl (fun _ => rfl) ?_
          refine T_ld 113 (.ref (obq (m.2 107) ((m.1 233) % 128))) rfl (fun _ => rfl) ?_
          refine T_ld 114 (.ref 185) rfl (fun _ => rfl) ?_
          refine K_gf 117 (.ref 12) rfl rfl kd_185 rfl rfl rfl ?_
          have hEp := PI_en hPI hLn (by omega) (by omega) (by omega)
          refine T_callx 120 180 [.ref (obq (m.2 107) ((m.1 233) % 128)), .ref 12] [] rfl (inv_vt (args := [.ref 12]) (obe_c (congrArg (fun f : Int → Int => (f ((m.1 233) % 128)).toNat) (show (m112.2 107) = (m.2 107) from ((fr2 Fm112 107 rfl).trans ((fr2 Fm110 107 rfl).trans (fr2 Fm107 107 rfl))))) (khp_o0 _ (OKr_c (show (m112.2 107) = (m.2 107) from ((fr2 Fm112 107 rfl).trans ((fr2 Fm110 107 rfl).trans (fr2 Fm107 107 rfl)))) (show (m112.2 108) = (m.2 108) from ((fr2 Fm112 108 rfl).trans ((fr2 Fm110 108 rfl).trans (fr2 Fm107 108 rfl)))) ok175))) rfl rfl rfl) rfl rfl (TC_cast (fun g9 => [.ref (obq g9 ((m.1 233) % 128)), .ref 12]) (show (m112.2 107) = (m.2 107) from ((fr2 Fm112 107 rfl).trans ((fr2 Fm110 107 rfl).trans (fr2 Fm107 107 rfl)))) (c_op_enter w (mO m112 [] [(106, upI (m112.2 106) 0 ((m.1 233) % 128))]) c N D (by omega) (KTy_mO Tm112 rfl rfl trivial ⟨G176, trivial⟩) ((m.1 233) % 128) (r32 (by omega) (by omega)) (OKr_c (show (m112.2 107) = (m.2 107) from ((fr2 Fm112 107 rfl).trans ((fr2 Fm110 107 rfl).trans (fr2 Fm107 107 rfl)))) (show (m112.2 108) = (m.2 108) from ((fr2 Fm112 108 rfl).trans ((fr2 Fm110 108 rfl).trans (fr2 Fm107 108 rfl)))) ok175) (show NKp (m112.2 18) (m112.2 19) by rewrite [(show (m112.2 18) = (m.2 18) from ((fr2 Fm112 18 rfl).trans ((fr2 Fm110 18 rfl).trans (fr2 Fm107 18 rfl)))), (show (m112.2 19) = (m.2 19) from ((fr2 Fm112 19 rfl).trans ((fr2 Fm110 19 rfl).trans (fr2 Fm107 19 rfl))))]; exact hNK) (show (m112.2 91) ((m.1 233) % 128) = 0 → (m112.2 92) ((m.1 233) % 128) ≤ 128 by rewrite [(show (m112.2 91) = (m.2 91) from ((fr2 Fm112 91 rfl).trans ((fr2 Fm110 91 rfl).trans (fr2 Fm107 91 rfl)))), (show (m112.2 92) = (m107.2 92) from ((fr2 Fm112 92 rfl).trans (fr2 Fm110 92 rfl)))]; exact hEp))) (fun rr177 k178 => ?_)
          obtain ⟨m179, Tm179, Fm179, h180, rfl⟩ := k178
          refine Or.inl ⟨_, _, _, _, rfl, ?_⟩
          refine K_nb (st' := []) rfl ?_
          replace h180 : (∀ v, v ≠ ((m.1 233) % 128) → (m179.2 94) v = (m112.2 94) v) ∧ ((m112.2 91) ((m.1 233) % 128) = 0 → (m179.2 94) ((m.1 233) % 128) ≤ (m112.2 92) ((m.1 233) % 128)) := h180
          rewrite [(show (m112.2 94) = (m.2 94) from ((fr2 Fm112 94 rfl).trans ((fr2 Fm110 94 rfl).trans (fr2 Fm107 94 rfl)))), (show (m112.2 91) = (m.2 91) from ((fr2 Fm112 91 rfl).trans ((fr2 Fm110 91 rfl).trans (fr2 Fm107 91 rfl)))), (show (m112.2 92) = (m107.2 92) from ((fr2 Fm112 92 rfl).trans (fr2 Fm110 92 rfl)))] at h180
          have hEn := h180
          refine T_ld 121 (.ref 185) rfl (fun _ => rfl) ?_
          refine T_ld 122 (.ref 185) rfl (fun _ => rfl) ?_
          refine K_gf 125 (.int (i32 (m.1 233))) rfl rfl kd_185 rfl (kval_c2 (k := 233) (F := fun x => .int (i32 x)) rfl (show (m179.1 233) = (m.1 233) from ((fr1 Fm179 233 rfl).trans ((fr1 Fm112 233 rfl).trans ((fr1 Fm110 233 rfl).trans (fr1 Fm107 233 rfl)))))) rfl ?_
          refine T_ld 126 (.int (i32 1)) rfl (fun _ => rfl) ?_
          refine T_iadd 127 rfl rfl ?_
          refine K_pf (l' := [(233, (m.1 233) + 1)]) 130 ((m.1 233) + 1) rfl rfl kd_185 rfl rfl rfl rfl rfl rfl rfl ?_
          have g181 : 0 ≤ (m.1 233) + 1 ∧ (m.1 233) + 1 ≤ 1000000 := ⟨by omega, by omega⟩
          have hPI : PIp (m.1 226) ((m.1 233) + 1) (m.1 232) (upI (m112.2 106) 0 ((m.1 233) % 128)) (m.2 91) (m107.2 92) (m179.2 94) := by first | exact PI_cy hPI rfl ⟨by omega, by omega⟩ hLn hSZ (Or.inl ⟨by omega, rfl, rfl⟩) | exact PI_cy hPI rfl ⟨by omega, by omega⟩ hLn hSZ (Or.inr ⟨rfl, by omega, by omega, hEn.1, hEn.2⟩)
          refine T_ld 131 (.int (i32 0)) rfl (fun _ => rfl) ?_
          refine T_sto 133 [(4, .int (i32 0)), (3, .ref (obq (m.2 107) ((m.1 233) % 128))), (0, .ref 185), (1, .int (i32 ((m.1 226) - 1)))] rfl (fun _ => rfl) ?_
          refine K_fl (KTy_mO Tm179 rfl rfl ⟨g181, trivial⟩ trivial) (fun m182 Tm182 Fm182 => ?_)
          have L133_185 : ∀ (n193 : Nat) (v183 : Int) (m184 : mR), (R32 v183) → KTy m184 → fr [] [25, 71, 78, 85, 86, 87, 88, 89, 90, 98, 101, 102, 103, 104, 105] (mO m182 [] []) m184 → (0 ≤ v183) → (0 ≤ v183 ∧ v183 ≤ 12) → (((m.1 233) < (m.1 232) ∧ ((m.1 233) + 1) = (m.1 233) + 1) ∨ ((m.1 232) ≤ (m.1 233) ∧ ((m.1 233) + 1) = (m.1 233))) → (TCp (m.1 219) (m184.2 78) (m184.2 89) (m.1 223)) → 20 - v183 < (n193 : Int) → TT w D pm_177 (133, [(0, .ref 185), (1, .int (i32 ((m.1 226) - 1))), (4, .int (i32 v183))], [], (khp (mO m184 [] []) c, N), 0, 0) (Q_pi_cycle m c N) := by
            intro n193
            induction n193 with
            | zero =>
              intro v183 m184 q190 Tm184 Fm184 ic186 ic187 ic188 ic189 hmu
              obtain ⟨q190a, q190b⟩ := id q190
              have hEnt := ic188
              have hTC := ic189
              exfalso
              omega
            | succ n193 ih =>
              intro v183 m184 q190 Tm184 Fm184 ic186 ic187 ic188 ic189 hmu
              obtain ⟨q190a, q190b⟩ := id q190
              have hEnt := ic188
              have hTC := ic189
              have ih194 := ih
              refine T_ld 135 (.int (i32 v183)) rfl (fun _ => rfl) ?_
              refine T_ld 136 (.int (i32 ((m.1 226) - 1))) rfl (fun _ => rfl) ?_
              refine T_icmp 174 139 rfl rfl rfl (r32 (by omega) (by omega)) (r32 (by omega) (by omega)) (fun (h195 : (m.1 226) - 1 < v183) => ?_) (fun (h195 : ¬ ((m.1 226) - 1 < v183)) => ?_)
              · skip
                refine T_ld 175 (.ref 185) rfl (fun _ => rfl) ?_
                refine T_ld 176 (.ref 185) rfl (fun _ => rfl) ?_
                refine K_gf 179 (.int (i32 (m.1 235))) rfl rfl kd_185 rfl (kval_c2 (k := 235) (F := fun x => .int (i32 x)) rfl (show (m184.1 235) = (m.1 235) from ((fr1 Fm184 235 rfl).trans ((fr1 Fm182 235 rfl).trans ((fr1 Fm179 235 rfl).trans ((fr1 Fm112 235 rfl).trans ((fr1 Fm110 235 rfl).trans (fr1 Fm107 235 rfl)))))))) rfl ?_
                refine T_ld 180 (.int (i32 1)) rfl (fun _ => rfl) ?_
                refine T_iadd 181 rfl rfl ?_
                refine K_pf (l' := [(235, (m.1 235) + 1)]) 184 ((m.1 235) + 1) rfl rfl kd_185 rfl rfl rfl rfl rfl rfl rfl ?_
                have g196 : 0 ≤ (m.1 235) + 1 ∧ (m.1 235) + 1 ≤ 100000000 := ⟨by omega, by omega⟩
                refine T_ret rfl (fun _ => rfl) ?_
                exact ⟨(mO m184 [(235, (m.1 235) + 1)] []), (KTy_mO Tm184 rfl rfl ⟨g196, trivial⟩ trivial), (fr_m (fr_s Fm184 (fr_m (fr_s Fm182 (fr_m (fr_s Fm179 (fr_m (fr_s Fm112 (fr_m (fr_s Fm110 (fr_m (fr_s Fm107 (fr_m fr_0 rfl rfl) rfl rfl) rfl rfl) rfl rfl) rfl rfl) rfl rfl) rfl rfl) rfl rfl) rfl rfl) rfl rfl) rfl rfl) rfl rfl) rfl rfl), (show ((m.1 233) < (m.1 232) ∧ (m184.1 233) = (m.1 233) + 1) ∨ ((m.1 232) ≤ (m.1 233) ∧ (m184.1 233) = (m.1 233)) by rewrite [(show (m184.1 233) = ((m.1 233) + 1) from ((fr1 Fm184 233 rfl).trans (fr1 Fm182 233 rfl)))]; first | (first | exact hEnt | omega | (exfalso; have h9 := hNu ((m.1 233) % 128) (by omega) (by omega) (by omega); omega)) | (exfalso; omega)), (show PIp (m.1 226) (m184.1 233) (m.1 232) (m184.2 106) (m.2 91) (m184.2 92) (m184.2 94) by rewrite [(show (m184.1 233) = ((m.1 233) + 1) from ((fr1 Fm184 233 rfl).trans (fr1 Fm182 233 rfl))), (show (m184.2 106) = (upI (m112.2 106) 0 ((m.1 233) % 128)) from ((fr2 Fm184 106 rfl).trans ((fr2 Fm182 106 rfl).trans (fr2 Fm179 106 rfl)))), (show (m184.2 92) = (m107.2 92) from ((fr2 Fm184 92 rfl).trans ((fr2 Fm182 92 rfl).trans ((fr2 Fm179 92 rfl).trans ((fr2 Fm112 92 rfl).trans (fr2 Fm110 92 rfl)))))), (show (m184.2 94) = (m179.2 94) from ((fr2 Fm184 94 rfl).trans (fr2 Fm182 94 rfl)))]; first | (exact hPI) | (exfalso; omega)), (show TCp (m.1 219) (m184.2 78) (m184.2 89) (m.1 223) by first | (exact hTC) | (exfalso; omega)), (show ((m.1 235) + 1) = (m.1 235) + 1 by omega), (show (m184.1 234) ≤ ((m.1 235) + 1) by rewrite [(show (m184.1 234) = ((m.1 234) + 1) from ((fr1 Fm184 234 rfl).trans ((fr1 Fm182 234 rfl).trans ((fr1 Fm179 234 rfl).trans ((fr1 Fm112 234 rfl).trans (fr1 Fm110 234 rfl))))))]; omega), rfl⟩
              · skip
                refine T_ld 140 (.ref 185) rfl (fun _ => rfl) ?_
                refine K_gf 143 (.ref 187) rfl rfl kd_185 rfl rfl rfl ?_
                refine T_ld 145 (.int (i32 v183)) rfl (fun _ => rfl) ?_
                refine K_aaisF 146 (upI (m112.2 106) 0 ((m.1 233) % 128)) (m.2 107) rfl rfl (by omega) (by omega) Tm184 (show (m184.2 106) = (upI (m112.2 106) 0 ((m.1 233) % 128)) from ((fr2 Fm184 106 rfl).trans ((fr2 Fm182 106 rfl).trans (fr2 Fm179 106 rfl)))) (show (m184.2 107) = (m.2 107) from ((fr2 Fm184 107 rfl).trans ((fr2 Fm182 107 rfl).trans ((fr2 Fm179 107 rfl).trans ((fr2 Fm112 107 rfl).trans ((fr2 Fm110 107 rfl).trans (fr2 Fm107 107 rfl))))))) ?_ (fun h197 h198 ok199 => ?_)
                · skip
                  refine T_sto 148 [(5, .null), (0, .ref 185), (1, .int (i32 ((m.1 226) - 1))), (4, .int (i32 v183))] rfl (fun _ => rfl) ?_
                  refine T_ld 150 (.null) rfl (fun _ => rfl) ?_
                  refine T_pop 168 rfl (fun _ => rfl) ?_
                  refine T_iinc 171 [(4, .int (i32 (v183 + 1))), (5, .null), (0, .ref 185), (1, .int (i32 ((m.1 226) - 1)))] rfl rfl (by decide) rfl rfl ?_
                  refine T_goto 133 rfl (fun _ => rfl) ?_
                  refine Tm_lv (a := [(0, .ref 185), (1, .int (i32 ((m.1 226) - 1))), (4, .int (i32 (v183 + 1)))]) rfl rfl ⟨rfl, rfl, rfl, trivial⟩ ?_
                  exact ih194 (v183 + 1) (mO m184 [] []) (r32 (by omega) (by omega)) Tm184 (fr_m (fr_s Fm184 (fr_m fr_0 rfl rfl) rfl rfl) rfl rfl) (show 0 ≤ (v183 + 1) by omega) (show 0 ≤ (v183 + 1) ∧ (v183 + 1) ≤ 12 by omega) (show ((m.1 233) < (m.1 232) ∧ ((m.1 233) + 1) = (m.1 233) + 1) ∨ ((m.1 232) ≤ (m.1 233) ∧ ((m.1 233) + 1) = (m.1 233)) by first | exact hEnt | omega | (exfalso; have h9 := hNu ((m.1 233) % 128) (by omega) (by omega) (by omega); omega)) (show TCp (m.1 219) (m184.2 78) (m184.2 89) (m.1 223) by exact hTC) (show 20 - (v183 + 1) < (n193 : Int) by omega)
                have ok200 : OKr m ((upI (m112.2 106) 0 ((m.1 233) % 128)) v183) := OKr_c (show (m184.2 107) = (m.2 107) from ((fr2 Fm184 107 rfl).trans ((fr2 Fm182 107 rfl).trans ((fr2 Fm179 107 rfl).trans ((fr2 Fm112 107 rfl).trans ((fr2 Fm110 107 rfl).trans (fr2 Fm107 107 rfl))))))).symm (show (m184.2 108) = (m.2 108) from ((fr2 Fm184 108 rfl).trans ((fr2 Fm182 108 rfl).trans ((fr2 Fm179 108 rfl).trans ((fr2 Fm112 108 rfl).trans ((fr2 Fm110 108 rfl).trans (fr2 Fm107 108 rfl))))))).symm ok199
                refine T_sto 148 [(5, .ref (obq (m.2 107) ((upI (m112.2 106) 0 ((m.1 233) % 128)) v183))), (0, .ref 185), (1, .int (i32 ((m.1 226) - 1))), (4, .int (i32 v183))] rfl (fun _ => rfl) ?_
                refine T_ld 150 (.ref (obq (m.2 107) ((upI (m112.2 106) 0 ((m.1 233) % 128)) v183))) rfl (fun _ => rfl) ?_
                refine T_pop 153 rfl (fun _ => rfl) ?_
                refine T_ld 155 (.ref (obq (m.2 107) ((upI (m112.2 106) 0 ((m.1 233) % 128)) v183))) rfl (fun _ => rfl) ?_
                refine T_ld 156 (.ref 185) rfl (fun _ => rfl) ?_
                refine K_gf 159 (.ref 12) rfl rfl kd_185 rfl rfl rfl ?_
                refine T_ld 161 (.int (i32 v183)) rfl (fun _ => rfl) ?_
                refine T_ld 162 (.ref 185) rfl (fun _ => rfl) ?_
                refine K_gf 165 (.ref 188) rfl rfl kd_185 rfl rfl rfl ?_
                refine T_callx 168 186 [.ref (obq (m.2 107) ((upI (m112.2 106) 0 ((m.1 233) % 128)) v183)), .ref 12, .int (i32 v183), .ref 188] [] rfl (inv_vt (args := [.ref 188, .int (i32 v183), .ref 12]) (obe_c (congrArg (fun f : Int → Int => (f ((upI (m112.2 106) 0 ((m.1 233) % 128)) v183)).toNat) (show (m184.2 107) = (m.2 107) from ((fr2 Fm184 107 rfl).trans ((fr2 Fm182 107 rfl).trans ((fr2 Fm179 107 rfl).trans ((fr2 Fm112 107 rfl).trans ((fr2 Fm110 107 rfl).trans (fr2 Fm107 107 rfl)))))))) (khp_o0 _ (OKr_c (show (m184.2 107) = (m.2 107) from ((fr2 Fm184 107 rfl).trans ((fr2 Fm182 107 rfl).trans ((fr2 Fm179 107 rfl).trans ((fr2 Fm112 107 rfl).trans ((fr2 Fm110 107 rfl).trans (fr2 Fm107 107 rfl))))))) (show (m184.2 108) = (m.2 108) from ((fr2 Fm184 108 rfl).trans ((fr2 Fm182 108 rfl).trans ((fr2 Fm179 108 rfl).trans ((fr2 Fm112 108 rfl).trans ((fr2 Fm110 108 rfl).trans (fr2 Fm107 108 rfl))))))) ok200))) rfl rfl rfl) rfl rfl (TC_cast (fun g9 => [.ref (obq g9 ((upI (m112.2 106) 0 ((m.1 233) % 128)) v183)), .ref 12, .int (i32 v183), .ref 188]) (show (m184.2 107) = (m.2 107) from ((fr2 Fm184 107 rfl).trans ((fr2 Fm182 107 rfl).trans ((fr2 Fm179 107 rfl).trans ((fr2 Fm112 107 rfl).trans ((fr2 Fm110 107 rfl).trans (fr2 Fm107 107 rfl))))))) (c_op_work w (mO m184 [] []) c N D (by omega) Tm184 ((upI (m112.2 106) 0 ((m.1 233) % 128)) v183) v183 (r32 (by omega) (by omega)) (r32 (by omega) (by omega)) (OKr_c (show (m184.2 107) = (m.2 107) from ((fr2 Fm184 107 rfl).trans ((fr2 Fm182 107 rfl).trans ((fr2 Fm179 107 rfl).trans ((fr2 Fm112 107 rfl).trans ((fr2 Fm110 107 rfl).trans (fr2 Fm107 107 rfl))))))) (show (m184.2 108) = (m.2 108) from ((fr2 Fm184 108 rfl).trans ((fr2 Fm182 108 rfl).trans ((fr2 Fm179 108 rfl).trans ((fr2 Fm112 108 rfl).trans ((fr2 Fm110 108 rfl).trans (fr2 Fm107 108 rfl))))))) ok200) (show NKp (m184.2 18) (m184.2 19) by rewrite [(show (m184.2 18) = (m.2 18) from ((fr2 Fm184 18 rfl).trans ((fr2 Fm182 18 rfl).trans ((fr2 Fm179 18 rfl).trans ((fr2 Fm112 18 rfl).trans ((fr2 Fm110 18 rfl).trans (fr2 Fm107 18 rfl))))))), (show (m184.2 19) = (m.2 19) from ((fr2 Fm184 19 rfl).trans ((fr2 Fm182 19 rfl).trans ((fr2 Fm179 19 rfl).trans ((fr2 Fm112 19 rfl).trans ((fr2 Fm110 19 rfl).trans (fr2 Fm107 19 rfl)))))))]; exact hNK) (show DEp (m184.1 224) (m184.2 45) (m184.2 46) (m184.2 47) (m184.2 49) by rewrite [(show (m184.1 224) = (m.1 224) from ((fr1 Fm184 224 rfl).trans ((fr1 Fm182 224 rfl).trans ((fr1 Fm179 224 rfl).trans ((fr1 Fm112 224 rfl).trans ((fr1 Fm110 224 rfl).trans (fr1 Fm107 224 rfl))))))), (show (m184.2 45) = (m.2 45) from ((fr2 Fm184 45 rfl).trans ((fr2 Fm182 45 rfl).trans ((fr2 Fm179 45 rfl).trans ((fr2 Fm112 45 rfl).trans ((fr2 Fm110 45 rfl).trans (fr2 Fm107 45 rfl))))))), (show (m184.2 46) = (m.2 46) from ((fr2 Fm184 46 rfl).trans ((fr2 Fm182 46 rfl).trans ((fr2 Fm179 46 rfl).trans ((fr2 Fm112 46 rfl).trans ((fr2 Fm110 46 rfl).trans (fr2 Fm107 46 rfl))))))), (show (m184.2 47) = (m.2 47) from ((fr2 Fm184 47 rfl).trans ((fr2 Fm182 47 rfl).trans ((fr2 Fm179 47 rfl).trans ((fr2 Fm112 47 rfl).trans ((fr2 Fm110 47 rfl).trans (fr2 Fm107 47 rfl))))))), (show (m184.2 49) = (m.2 49) from ((fr2 Fm184 49 rfl).trans ((fr2 Fm182 49 rfl).trans ((fr2 Fm179 49 rfl).trans ((fr2 Fm112 49 rfl).trans ((fr2 Fm110 49 rfl).trans (fr2 Fm107 49 rfl)))))))]; exact hDE) (show AcP (m184.1 223) (m184.1 224) (m184.2 43) (m184.2 44) by rewrite [(show (m184.1 223) = (m.1 223) from ((fr1 Fm184 223 rfl).trans ((fr1 Fm182 223 rfl).trans ((fr1 Fm179 223 rfl).trans ((fr1 Fm112 223 rfl).trans ((fr1 Fm110 223 rfl).trans (fr1 Fm107 223 rfl))))))), (show (m184.1 224) = (m.1 224) from ((fr1 Fm184 224 rfl).trans ((fr1 Fm182 224 rfl).trans ((fr1 Fm179 224 rfl).trans ((fr1 Fm112 224 rfl).trans ((fr1 Fm110 224 rfl).trans (fr1 Fm107 224 rfl))))))), (show (m184.2 43) = (m.2 43) from ((fr2 Fm184 43 rfl).trans ((fr2 Fm182 43 rfl).trans ((fr2 Fm179 43 rfl).trans ((fr2 Fm112 43 rfl).trans ((fr2 Fm110 43 rfl).trans (fr2 Fm107 43 rfl))))))), (show (m184.2 44) = (m.2 44) from ((fr2 Fm184 44 rfl).trans ((fr2 Fm182 44 rfl).trans ((fr2 Fm179 44 rfl).trans ((fr2 Fm112 44 rfl).trans ((fr2 Fm110 44 rfl).trans (fr2 Fm107 44 rfl)))))))]; exact hAC) (show TLp (m184.1 219) (m184.2 73) (m184.2 83) (m184.1 223) by rewrite [(show (m184.1 219) = (m.1 219) from ((fr1 Fm184 219 rfl).trans ((fr1 Fm182 219 rfl).trans ((fr1 Fm179 219 rfl).trans ((fr1 Fm112 219 rfl).trans ((fr1 Fm110 219 rfl).trans (fr1 Fm107 219 rfl))))))), (show (m184.2 73) = (m.2 73) from ((fr2 Fm184 73 rfl).trans ((fr2 Fm182 73 rfl).trans ((fr2 Fm179 73 rfl).trans ((fr2 Fm112 73 rfl).trans ((fr2 Fm110 73 rfl).trans (fr2 Fm107 73 rfl))))))), (show (m184.2 83) = (m.2 83) from ((fr2 Fm184 83 rfl).trans ((fr2 Fm182 83 rfl).trans ((fr2 Fm179 83 rfl).trans ((fr2 Fm112 83 rfl).trans ((fr2 Fm110 83 rfl).trans (fr2 Fm107 83 rfl))))))), (show (m184.1 223) = (m.1 223) from ((fr1 Fm184 223 rfl).trans ((fr1 Fm182 223 rfl).trans ((fr1 Fm179 223 rfl).trans ((fr1 Fm112 223 rfl).trans ((fr1 Fm110 223 rfl).trans (fr1 Fm107 223 rfl)))))))]; exact hTL) (show LTp (m184.1 219) (m184.2 74) (m184.1 223) by rewrite [(show (m184.1 219) = (m.1 219) from ((fr1 Fm184 219 rfl).trans ((fr1 Fm182 219 rfl).trans ((fr1 Fm179 219 rfl).trans ((fr1 Fm112 219 rfl).trans ((fr1 Fm110 219 rfl).trans (fr1 Fm107 219 rfl))))))), (show (m184.2 74) = (m.2 74) from ((fr2 Fm184 74 rfl).trans ((fr2 Fm182 74 rfl).trans ((fr2 Fm179 74 rfl).trans ((fr2 Fm112 74 rfl).trans ((fr2 Fm110 74 rfl).trans (fr2 Fm107 74 rfl))))))), (show (m184.1 223) = (m.1 223) from ((fr1 Fm184 223 rfl).trans ((fr1 Fm182 223 rfl).trans ((fr1 Fm179 223 rfl).trans ((fr1 Fm112 223 rfl).trans ((fr1 Fm110 223 rfl).trans (fr1 Fm107 223 rfl)))))))]; exact hTD) (show TCp (m184.1 219) (m184.2 78) (m184.2 89) (m184.1 223) by rewrite [(show (m184.1 219) = (m.1 219) from ((fr1 Fm184 219 rfl).trans ((fr1 Fm182 219 rfl).trans ((fr1 Fm179 219 rfl).trans ((fr1 Fm112 219 rfl).trans ((fr1 Fm110 219 rfl).trans (fr1 Fm107 219 rfl))))))), (show (m184.1 223) = (m.1 223) from ((fr1 Fm184 223 rfl).trans ((fr1 Fm182 223 rfl).trans ((fr1 Fm179 223 rfl).trans ((fr1 Fm112 223 rfl).trans ((fr1 Fm110 223 rfl).trans (fr1 Fm107 223 rfl)))))))]; exact hTC) (show SPp (m184.1 225) (m184.2 52) (m184.2 58) (m184.2 55) (m184.2 56) (m184.1 219) (m184.1 224) by rewrite [(show (m184.1 225) = (m.1 225) from ((fr1 Fm184 225 rfl).trans ((fr1 Fm182 225 rfl).trans ((fr1 Fm179 225 rfl).trans ((fr1 Fm112 225 rfl).trans ((fr1 Fm110 225 rfl).trans (fr1 Fm107 225 rfl))))))), (show (m184.2 52) = (m.2 52) from ((fr2 Fm184 52 rfl).trans ((fr2 Fm182 52 rfl).trans ((fr2 Fm179 52 rfl).trans ((fr2 Fm112 52 rfl).trans ((fr2 Fm110 52 rfl).trans (fr2 Fm107 52 rfl))))))), (show (m184.2 58) = (m.2 58) from ((fr2 Fm184 58 rfl).trans ((fr2 Fm182 58 rfl).trans ((fr2 Fm179 58 rfl).trans ((fr2 Fm112 58 rfl).trans ((fr2 Fm110 58 rfl).trans (fr2 Fm107 58 rfl))))))), (show (m184.2 55) = (m.2 55) from ((fr2 Fm184 55 rfl).trans ((fr2 Fm182 55 rfl).trans ((fr2 Fm179 55 rfl).trans ((fr2 Fm112 55 rfl).trans ((fr2 Fm110 55 rfl).trans (fr2 Fm107 55 rfl))))))), (show (m184.2 56) = (m.2 56) from ((fr2 Fm184 56 rfl).trans ((fr2 Fm182 56 rfl).trans ((fr2 Fm179 56 rfl).trans ((fr2 Fm112 56 rfl).trans ((fr2 Fm110 56 rfl).trans (fr2 Fm107 56 rfl))))))), (show (m184.1 219) = (m.1 219) from ((fr1 Fm184 219 rfl).trans ((fr1 Fm182 219 rfl).trans ((fr1 Fm179 219 rfl).trans ((fr1 Fm112 219 rfl).trans ((fr1 Fm110 219 rfl).trans (fr1 Fm107 219 rfl))))))), (show (m184.1 224) = (m.1 224) from ((fr1 Fm184 224 rfl).trans ((fr1 Fm182 224 rfl).trans ((fr1 Fm179 224 rfl).trans ((fr1 Fm112 224 rfl).trans ((fr1 Fm110 224 rfl).trans (fr1 Fm107 224 rfl)))))))]; exact hSP) (show 0 ≤ v183 ∧ v183 ≤ 11 by omega))) (fun rr201 k202 => ?_)
                obtain ⟨m203, Tm203, Fm203, h204, rfl⟩ := k202
                refine Or.inl ⟨_, _, _, _, rfl, ?_⟩
                refine K_nb (st' := []) rfl ?_
                replace h204 : TCp (m184.1 219) (m203.2 78) (m203.2 89) (m184.1 223) := h204
                rewrite [(show (m184.1 219) = (m.1 219) from ((fr1 Fm184 219 rfl).trans ((fr1 Fm182 219 rfl).trans ((fr1 Fm179 219 rfl).trans ((fr1 Fm112 219 rfl).trans ((fr1 Fm110 219 rfl).trans (fr1 Fm107 219 rfl))))))), (show (m184.1 223) = (m.1 223) from ((fr1 Fm184 223 rfl).trans ((fr1 Fm182 223 rfl).trans ((fr1 Fm179 223 rfl).trans ((fr1 Fm112 223 rfl).trans ((fr1 Fm110 223 rfl).trans (fr1 Fm107 223 rfl)))))))] at h204
                have hTC := h204
                refine T_iinc 171 [(4, .int (i32 (v183 + 1))), (5, .ref (obq (m.2 107) ((upI (m112.2 106) 0 ((m.1 233) % 128)) v183))), (0, .ref 185), (1, .int (i32 ((m.1 226) - 1)))] rfl rfl (by decide) rfl rfl ?_
                refine T_goto 133 rfl (fun _ => rfl) ?_
                refine Tm_lv (a := [(0, .ref 185), (1, .int (i32 ((m.1 226) - 1))), (4, .int (i32 (v183 + 1)))]) rfl rfl ⟨rfl, rfl, rfl, trivial⟩ ?_
                exact ih194 (v183 + 1) (mO m203 [] []) (r32 (by omega) (by omega)) Tm203 (fr_m (fr_s Fm203 (fr_m (fr_s Fm184 (fr_m fr_0 rfl rfl) rfl rfl) rfl rfl) rfl rfl) rfl rfl) (show 0 ≤ (v183 + 1) by omega) (show 0 ≤ (v183 + 1) ∧ (v183 + 1) ≤ 12 by omega) (show ((m.1 233) < (m.1 232) ∧ ((m.1 233) + 1) = (m.1 233) + 1) ∨ ((m.1 232) ≤ (m.1 233) ∧ ((m.1 233) + 1) = (m.1 233)) by first | exact hEnt | omega | (exfalso; have h9 := hNu ((m.1 233) % 128) (by omega) (by omega) (by omega); omega)) (show TCp (m.1 219) (m203.2 78) (m203.2 89) (m.1 223) by exact hTC) (show 20 - (v183 + 1) < (n193 : Int) by omega)
          refine Tm_lv (a := [(0, .ref 185), (1, .int (i32 ((m.1 226) - 1))), (4, .int (i32 0))]) rfl rfl ⟨rfl, rfl, rfl, trivial⟩ ?_
          exact L133_185 ((20 - (0 : Int) : Int) + 1).toNat 0 (mO m182 [] []) ⟨by decide, by decide⟩ Tm182 (fr_m fr_0 rfl rfl) (show 0 ≤ (0 : Int) by omega) (show 0 ≤ (0 : Int) ∧ (0 : Int) ≤ 12 by omega) (show ((m.1 233) < (m.1 232) ∧ ((m.1 233) + 1) = (m.1 233) + 1) ∨ ((m.1 232) ≤ (m.1 233) ∧ ((m.1 233) + 1) = (m.1 233)) by first | exact hEnt | omega | (exfalso; have h9 := hNu ((m.1 233) % 128) (by omega) (by omega) (by omega); omega)) (show TCp (m.1 219) (m182.2 78) (m182.2 89) (m.1 223) by rewrite [(show (m182.2 78) = (m.2 78) from ((fr2 Fm182 78 rfl).trans ((fr2 Fm179 78 rfl).trans ((fr2 Fm112 78 rfl).trans ((fr2 Fm110 78 rfl).trans (fr2 Fm107 78 rfl)))))), (show (m182.2 89) = (m.2 89) from ((fr2 Fm182 89 rfl).trans ((fr2 Fm179 89 rfl).trans ((fr2 Fm112 89 rfl).trans ((fr2 Fm110 89 rfl).trans (fr2 Fm107 89 rfl))))))]; exact hTC) (show 20 - (0 : Int) < ((((20 - (0 : Int) : Int) + 1).toNat : Nat) : Int) by omega)
      · skip
        refine T_ld 53 (.ref 185) rfl (fun _ => rfl) ?_
        refine K_gf 56 (.ref 187) rfl rfl kd_185 rfl rfl rfl ?_
        refine T_ld 57 (.int (i32 v111)) rfl (fun _ => rfl) ?_
        refine T_ld 58 (.ref 185) rfl (fun _ => rfl) ?_
        refine K_gf 61 (.ref 187) rfl rfl kd_185 rfl rfl rfl ?_
        refine T_ld 62 (.int (i32 v111)) rfl (fun _ => rfl) ?_
        refine T_ld 63 (.int (i32 1)) rfl (fun _ => rfl) ?_
        refine T_isub 64 rfl rfl ?_
        refine K_aaisF 65 (m112.2 106) (m.2 107) rfl rfl (by omega) (by omega) Tm112 rfl (show (m112.2 107) = (m.2 107) from ((fr2 Fm112 107 rfl).trans ((fr2 Fm110 107 rfl).trans (fr2 Fm107 107 rfl)))) ?_ (fun h205 h206 ok207 => ?_)
        · skip
          have G208 : ∀ j, (-1) ≤ (upI (m112.2 106) v111 (-1)) j ∧ (upI (m112.2 106) v111 (-1)) j ≤ 127 := upI_rg (Tm112.2.1 106) ⟨by omega, by omega⟩
          refine K_aasn (a' := [(106, upI (m112.2 106) v111 (-1))]) 66 (m112.2 106) rfl rfl (by omega) (by omega) Tm112 rfl rfl ?_
          refine T_iinc 69 [(3, .int (i32 (v111 + (-1)))), (0, .ref 185), (1, .int (i32 ((m.1 226) - 1)))] rfl rfl (by decide) rfl rfl ?_
          refine T_goto 48 rfl (fun _ => rfl) ?_
          refine Tm_lv (a := [(0, .ref 185), (1, .int (i32 ((m.1 226) - 1))), (3, .int (i32 (v111 + (-1))))]) rfl rfl ⟨rfl, rfl, rfl, trivial⟩ ?_
          exact ih122 (v111 + (-1)) (mO m112 [] [(106, upI (m112.2 106) v111 (-1))]) (r32 (by omega) (by omega)) (KTy_mO Tm112 rfl rfl trivial ⟨G208, trivial⟩) (fr_m (fr_s Fm112 (fr_m fr_0 rfl rfl) rfl rfl) rfl rfl) (show (-1) ≤ (v111 + (-1)) by omega) (show (v111 + (-1)) ≤ 11 by omega) (show 0 ≤ (v111 + (-1)) ∧ (v111 + (-1)) ≤ ((m.1 226) - 1) by omega) (show SHp (v111 + (-1)) ((m.1 226) - 1) (m.2 106) (upI (m112.2 106) v111 (-1)) by first | exact SH_0 rfl | exact SH_s hSH (by omega) (by omega) (Or.inl rfl) (by omega) | exact SH_s hSH (by omega) (by omega) (Or.inr (by decide)) (by omega)) (show (v111 + (-1)) + 1 < (n121 : Int) by omega)
        have ok209 : OKr m ((m112.2 106) (v111 - 1)) := OKr_c (show (m112.2 107) = (m.2 107) from ((fr2 Fm112 107 rfl).trans ((fr2 Fm110 107 rfl).trans (fr2 Fm107 107 rfl)))).symm (show (m112.2 108) = (m.2 108) from ((fr2 Fm112 108 rfl).trans ((fr2 Fm110 108 rfl).trans (fr2 Fm107 108 rfl)))).symm ok207
        have G210 : ∀ j, (-1) ≤ (upI (m112.2 106) v111 ((m112.2 106) (v111 - 1))) j ∧ (upI (m112.2 106) v111 ((m112.2 106) (v111 - 1))) j ≤ 127 := upI_rg (Tm112.2.1 106) ⟨by omega, by omega⟩
        refine K_aaso (a' := [(106, upI (m112.2 106) v111 ((m112.2 106) (v111 - 1)))]) 66 (m112.2 106) rfl rfl (by omega) (by omega) Tm112 (OKr_c (show (m112.2 107) = (m.2 107) from ((fr2 Fm112 107 rfl).trans ((fr2 Fm110 107 rfl).trans (fr2 Fm107 107 rfl)))) (show (m112.2 108) = (m.2 108) from ((fr2 Fm112 108 rfl).trans ((fr2 Fm110 108 rfl).trans (fr2 Fm107 108 rfl)))) ok209) (congrArg (fun f : Int → Int => (f ((m112.2 106) (v111 - 1))).toNat) (show (m112.2 107) = (m.2 107) from ((fr2 Fm112 107 rfl).trans ((fr2 Fm110 107 rfl).trans (fr2 Fm107 107 rfl))))) rfl rfl ?_
        refine T_iinc 69 [(3, .int (i32 (v111 + (-1)))), (0, .ref 185), (1, .int (i32 ((m.1 226) - 1)))] rfl rfl (by decide) rfl rfl ?_
        refine T_goto 48 rfl (fun _ => rfl) ?_
        refine Tm_lv (a := [(0, .ref 185), (1, .int (i32 ((m.1 226) - 1))), (3, .int (i32 (v111 + (-1))))]) rfl rfl ⟨rfl, rfl, rfl, trivial⟩ ?_
        exact ih122 (v111 + (-1)) (mO m112 [] [(106, upI (m112.2 106) v111 ((m112.2 106) (v111 - 1)))]) (r32 (by omega) (by omega)) (KTy_mO Tm112 rfl rfl trivial ⟨G210, trivial⟩) (fr_m (fr_s Fm112 (fr_m fr_0 rfl rfl) rfl rfl) rfl rfl) (show (-1) ≤ (v111 + (-1)) by omega) (show (v111 + (-1)) ≤ 11 by omega) (show 0 ≤ (v111 + (-1)) ∧ (v111 + (-1)) ≤ ((m.1 226) - 1) by omega) (show SHp (v111 + (-1)) ((m.1 226) - 1) (m.2 106) (upI (m112.2 106) v111 ((m112.2 106) (v111 - 1))) by first | exact SH_0 rfl | exact SH_s hSH (by omega) (by omega) (Or.inl rfl) (by omega) | exact SH_s hSH (by omega) (by omega) (Or.inr (by decide)) (by omega)) (show (v111 + (-1)) + 1 < (n121 : Int) by omega)
  refine Tm_lv (a := [(0, .ref 185), (1, .int (i32 ((m.1 226) - 1))), (3, .int (i32 ((m.1 226) - 1)))]) rfl rfl ⟨rfl, rfl, rfl, trivial⟩ ?_
  exact L48_113 ((((m.1 226) - 1) + 1 : Int) + 1).toNat ((m.1 226) - 1) (mO m110 [] []) (r32 (by omega) (by omega)) Tm110 (fr_m fr_0 rfl rfl) (show (-1) ≤ ((m.1 226) - 1) by omega) (show ((m.1 226) - 1) ≤ 11 by omega) (show 0 ≤ ((m.1 226) - 1) ∧ ((m.1 226) - 1) ≤ ((m.1 226) - 1) by omega) (show SHp ((m.1 226) - 1) ((m.1 226) - 1) (m.2 106) (m110.2 106) by rewrite [(show (m110.2 106) = (m.2 106) from ((fr2 Fm110 106 rfl).trans (fr2 Fm107 106 rfl)))]; first | exact SH_0 rfl | exact SH_s hSH (by omega) (by omega) (Or.inl rfl) (by omega) | exact SH_s hSH (by omega) (by omega) (Or.inr (by decide)) (by omega)) (show ((m.1 226) - 1) + 1 < ((((((m.1 226) - 1) + 1 : Int) + 1).toNat : Nat) : Int) by omega)
