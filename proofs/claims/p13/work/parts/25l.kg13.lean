def fF_pi_clear : List Nat := [232, 233, 234, 235]
def fA_pi_clear : List Nat := [71, 106]
def Q_pi_clear (m : mR) (c : Nat → Option am_C) (N : Nat) : ag_Re af_T → Prop := fun R => (∃ (M : mR), KTy M ∧ fr fF_pi_clear fA_pi_clear m M ∧ ((M.1 232) = 0 ∧ (M.1 233) = 0 ∧ (M.1 234) = 0 ∧ (M.1 235) = 0) ∧ (∀ g, 0 ≤ g → g < 12 → (M.2 106) g = -1) ∧ R = (.inl (none), (khp M c, N), 0, 0))
set_option maxHeartbeats 3000000 in
theorem c_pi_clear (w : wX) (m : mR) (c : Nat → Option am_C) (N D : Nat) (hD : 2 ≤ D) (hT : KTy m) : TC w D 45 [.ref 185] (khp m c, N) (Q_pi_clear m c N) := by
  obtain ⟨D, rfl⟩ : ∃ k, D = k + 1 := ⟨D - 1, by omega⟩
  have f232 : 0 ≤ m.1 232 ∧ m.1 232 ≤ 1000000 := hT.1 232
  have f233 : 0 ≤ m.1 233 ∧ m.1 233 ≤ 1000000 := hT.1 233
  have f234 : 0 ≤ m.1 234 ∧ m.1 234 ≤ 1000000 := hT.1 234
  have f235 : 0 ≤ m.1 235 ∧ m.1 235 ≤ 100000000 := hT.1 235
  refine Tc_of rfl ?_
  rw [show (khp m c, N) = (khp (mO m [] []) c, N) from by rw [mO_nil m]]
  show TT w D pm_45 (0, [(0, .ref 185)], [], (khp (mO m [] []) c, N), 0, 0) (Q_pi_clear m c N)
  refine T_ld 1 (.ref 185) rfl (fun _ => rfl) ?_
  refine T_ld 2 (.int (i32 0)) rfl (fun _ => rfl) ?_
  refine K_pf (l' := [(232, 0)]) 5 0 rfl rfl kd_185 rfl rfl rfl rfl rfl rfl rfl ?_
  refine T_ld 6 (.ref 185) rfl (fun _ => rfl) ?_
  refine T_ld 7 (.int (i32 0)) rfl (fun _ => rfl) ?_
  refine K_pf (l' := [(232, 0), (233, 0)]) 10 0 rfl rfl kd_185 rfl rfl rfl rfl rfl rfl rfl ?_
  refine T_ld 11 (.ref 185) rfl (fun _ => rfl) ?_
  refine T_ld 12 (.int (i32 0)) rfl (fun _ => rfl) ?_
  refine K_pf (l' := [(232, 0), (233, 0), (234, 0)]) 15 0 rfl rfl kd_185 rfl rfl rfl rfl rfl rfl rfl ?_
  refine T_ld 16 (.ref 185) rfl (fun _ => rfl) ?_
  refine T_ld 17 (.int (i32 0)) rfl (fun _ => rfl) ?_
  refine K_pf (l' := [(232, 0), (233, 0), (234, 0), (235, 0)]) 20 0 rfl rfl kd_185 rfl rfl rfl rfl rfl rfl rfl ?_
  refine T_ld 21 (.ref 185) rfl (fun _ => rfl) ?_
  refine K_gf 24 (.ref 188) rfl rfl kd_185 rfl rfl rfl ?_
  refine T_ld 25 (.long (i64 0)) rfl (fun _ => rfl) ?_
  refine T_callx 28 46 [.ref 188, .long (i64 0)] [] rfl (fun _ => rfl) rfl rfl (c_fill_pi_words w (mO m [(232, 0), (233, 0), (234, 0), (235, 0)] []) c N D (by omega) (KTy_mO hT rfl rfl ⟨⟨(by omega : (0 : Int) ≤ 0), (by omega : (0 : Int) ≤ 1000000)⟩, ⟨(by omega : (0 : Int) ≤ 0), (by omega : (0 : Int) ≤ 1000000)⟩, ⟨(by omega : (0 : Int) ≤ 0), (by omega : (0 : Int) ≤ 1000000)⟩, ⟨(by omega : (0 : Int) ≤ 0), (by omega : (0 : Int) ≤ 100000000)⟩, trivial⟩ trivial) 0 ⟨by decide, by decide⟩) (fun rr1 k2 => ?_)
  obtain ⟨m3, Tm3, Fm3, rfl⟩ := k2
  refine Or.inl ⟨_, _, _, _, rfl, ?_⟩
  refine K_nb (st' := []) rfl ?_
  refine T_ld 29 (.int (i32 0)) rfl (fun _ => rfl) ?_
  refine T_sto 30 [(1, .int (i32 0)), (0, .ref 185)] rfl (fun _ => rfl) ?_
  have L30_6 : ∀ (n13 : Nat) (v4 : Int) (m5 : mR), (R32 v4) → KTy m5 → fr [] [106] (mO m3 [] []) m5 → (0 ≤ v4) → (0 ≤ v4 ∧ v4 ≤ 12) → (∀ g, 0 ≤ g → g < v4 → (m5.2 106) g = -1) → 20 - v4 < (n13 : Int) → TT w D pm_45 (30, [(0, .ref 185), (1, .int (i32 v4))], [], (khp (mO m5 [] []) c, N), 0, 0) (Q_pi_clear m c N) := by
    intro n13
    induction n13 with
    | zero =>
      intro v4 m5 q10 Tm5 Fm5 ic7 ic8 ic9 hmu
      obtain ⟨q10a, q10b⟩ := id q10
      have hz := ic9
      exfalso
      omega
    | succ n13 ih =>
      intro v4 m5 q10 Tm5 Fm5 ic7 ic8 ic9 hmu
      obtain ⟨q10a, q10b⟩ := id q10
      have hz := ic9
      have ih14 := ih
      refine T_ld 31 (.int (i32 v4)) rfl (fun _ => rfl) ?_
      refine T_ld 33 (.int (i32 12)) rfl (fun _ => rfl) ?_
      refine T_icmp 49 36 rfl rfl rfl (r32 (by omega) (by omega)) ⟨by decide, by decide⟩ (fun (h15 : (12 : Int) ≤ v4) => ?_) (fun (h15 : ¬ ((12 : Int) ≤ v4)) => ?_)
      · skip
        refine T_ret rfl (fun _ => rfl) ?_
        exact ⟨(mO m5 [] []), Tm5, (fr_m (fr_s Fm5 (fr_m (fr_s Fm3 (fr_m fr_0 rfl rfl) rfl rfl) rfl rfl) rfl rfl) rfl rfl), (show (m5.1 232) = 0 ∧ (m5.1 233) = 0 ∧ (m5.1 234) = 0 ∧ (m5.1 235) = 0 by rewrite [(show (m5.1 232) = 0 from ((fr1 Fm5 232 rfl).trans (fr1 Fm3 232 rfl))), (show (m5.1 233) = 0 from ((fr1 Fm5 233 rfl).trans (fr1 Fm3 233 rfl))), (show (m5.1 234) = 0 from ((fr1 Fm5 234 rfl).trans (fr1 Fm3 234 rfl))), (show (m5.1 235) = 0 from ((fr1 Fm5 235 rfl).trans (fr1 Fm3 235 rfl)))]; omega), (show ∀ g, 0 ≤ g → g < 12 → (m5.2 106) g = -1 by first | (exact fun g a b => hz g a (by omega)) | (exfalso; omega)), rfl⟩
      · skip
        refine T_ld 37 (.ref 185) rfl (fun _ => rfl) ?_
        refine K_gf 40 (.ref 187) rfl rfl kd_185 rfl rfl rfl ?_
        refine T_ld 41 (.int (i32 v4)) rfl (fun _ => rfl) ?_
        refine T_ld 42 .null rfl (fun _ => rfl) ?_
        have G16 : ∀ j, (-1) ≤ (upI (m5.2 106) v4 (-1)) j ∧ (upI (m5.2 106) v4 (-1)) j ≤ 127 := upI_rg (Tm5.2.1 106) ⟨by omega, by omega⟩
        refine K_aasn (a' := [(106, upI (m5.2 106) v4 (-1))]) 43 (m5.2 106) rfl rfl (by omega) (by omega) Tm5 rfl rfl ?_
        refine T_iinc 46 [(1, .int (i32 (v4 + 1))), (0, .ref 185)] rfl rfl (by decide) rfl rfl ?_
        refine T_goto 30 rfl (fun _ => rfl) ?_
        refine Tm_lv (a := [(0, .ref 185), (1, .int (i32 (v4 + 1)))]) rfl rfl ⟨rfl, rfl, trivial⟩ ?_
        exact ih14 (v4 + 1) (mO m5 [] [(106, upI (m5.2 106) v4 (-1))]) (r32 (by omega) (by omega)) (KTy_mO Tm5 rfl rfl trivial ⟨G16, trivial⟩) (fr_m (fr_s Fm5 (fr_m fr_0 rfl rfl) rfl rfl) rfl rfl) (show 0 ≤ (v4 + 1) by omega) (show 0 ≤ (v4 + 1) ∧ (v4 + 1) ≤ 12 by omega) (show ∀ g, 0 ≤ g → g < (v4 + 1) → (upI (m5.2 106) v4 (-1)) g = -1 by first | (intro g a b; omega) | (intro g a b; by_cases e : g = v4; (rw [e, upI_s]); (rw [upI_n e]; exact hz g a (by omega)))) (show 20 - (v4 + 1) < (n13 : Int) by omega)
  refine Tm_lv (a := [(0, .ref 185), (1, .int (i32 0))]) rfl rfl ⟨rfl, rfl, trivial⟩ ?_
  exact L30_6 ((20 - (0 : Int) : Int) + 1).toNat 0 (mO m3 [] []) ⟨by decide, by decide⟩ Tm3 (fr_m fr_0 rfl rfl) (show 0 ≤ (0 : Int) by omega) (show 0 ≤ (0 : Int) ∧ (0 : Int) ≤ 12 by omega) (show ∀ g, 0 ≤ g → g < (0 : Int) → (m3.2 106) g = -1 by rewrite [(show (m3.2 106) = (m.2 106) from (fr2 Fm3 106 rfl))]; first | (intro g a b; omega) | (intro g a b; by_cases e : g = v4; (rw [e, upI_s]); (rw [upI_n e]; exact hz g a (by omega)))) (show 20 - (0 : Int) < ((((20 - (0 : Int) : Int) + 1).toNat : Nat) : Int) by omega)
def fF_pi_cycle : List Nat := [233, 234, 235]
def fA_pi_cycle : List Nat := [25, 71, 78, 85, 86, 87, 88, 89, 90, 92, 94, 98, 99, 100, 101, 102, 103, 104, 105, 106]
def Q_pi_cycle (m : mR) (c : Nat → Option am_C) (N : Nat) : ag_Re af_T → Prop := fun R => (∃ (M : mR), KTy M ∧ fr fF_pi_cycle fA_pi_cycle m M ∧ (PIp (m.1 226) (M.1 233) (m.1 232) (M.2 106) (m.2 91) (M.2 92) (M.2 94)) ∧ (TCp (m.1 219) (M.2 78) (M.2 89) (m.1 223)) ∧ ((M.1 235) = (m.1 235) + 1) ∧ ((M.1 234) ≤ (M.1 235)) ∧ R = (.inl (none), (khp M c, N), 0, 0))
set_option maxHeartbeats 3000000 in
theorem c_pi_cycle (w : wX) (m : mR) (c : Nat → Option am_C) (N D : Nat) (hD : 7 ≤ D) (hT : KTy m) (hPI : PIp (m.1 226) (m.1 233) (m.1 232) (m.2 106) (m.2 91) (m.2 92) (m.2 94)) (p1 : 1 ≤ (m.1 226)) (hNK : NKp (m.2 18) (m.2 19)) (hDE : DEp (m.1 224) (m.2 45) (m.2 46) (m.2 47) (m.2 49)) (hAC : AcP (m.1 223) (m.1 224) (m.2 43) (m.2 44)) (hTL : TLp (m.1 219) (m.2 73) (m.2 83) (m.1 223)) (hTD : LTp (m.1 219) (m.2 74) (m.1 223)) (hTC : TCp (m.1 219) (m.2 78) (m.2 89) (m.1 223)) (hSP : SPp (m.1 225) (m.2 52) (m.2 58) (m.2 55) (m.2 56) (m.1 219) (m.1 224)) (hHB : HBp (m.1 214) (m.2 10)) (hIH : IHp (m.1 215) (m.2 13) (m.1 214)) (hEM : LTp (m.1 218) (m.2 17) (m.1 215)) (p12 : (m.1 235) ≤ 900000) (p13 : (m.1 234) ≤ (m.1 235)) : TC w D 177 [.ref 185] (khp m c, N) (Q_pi_cycle m c N) := by
  obtain ⟨D, rfl⟩ : ∃ k, D = k + 1 := ⟨D - 1, by omega⟩
  have f233 : 0 ≤ m.1 233 ∧ m.1 233 ≤ 1000000 := hT.1 233
  have f234 : 0 ≤ m.1 234 ∧ m.1 234 ≤ 1000000 := hT.1 234
  have f235 : 0 ≤ m.1 235 ∧ m.1 235 ≤ 100000000 := hT.1 235
  have f214 : 0 ≤ m.1 214 ∧ m.1 214 ≤ 12 := hT.1 214
  have f215 : 0 ≤ m.1 215 ∧ m.1 215 ≤ 12 := hT.1 215
  have f218 : 0 ≤ m.1 218 ∧ m.1 218 ≤ 12 := hT.1 218
  have f219 : 0 ≤ m.1 219 ∧ m.1 219 ≤ 8 := hT.1 219
  have f223 : 0 ≤ m.1 223 ∧ m.1 223 ≤ 16 := hT.1 223
  have f224 : 0 ≤ m.1 224 ∧ m.1 224 ≤ 240 := hT.1 224
  have f225 : 0 ≤ m.1 225 ∧ m.1 225 ≤ 48 := hT.1 225
  have f226 : 0 ≤ m.1 226 ∧ m.1 226 ≤ 12 := hT.1 226
  have f232 : 0 ≤ m.1 232 ∧ m.1 232 ≤ 1000000 := hT.1 232
  refine Tc_of rfl ?_
  rw [show (khp m c, N) = (khp (mO m [] []) c, N) from by rw [mO_nil m]]
  show TT w D pm_177 (0, [(0, .ref 185)], [], (khp (mO m [] []) c, N), 0, 0) (Q_pi_cycle m c N)
  have hPb := PI_b hPI
  refine T_ld 1 (.ref 185) rfl (fun _ => rfl) ?_
  refine K_gf 4 (.ref 12) rfl rfl kd_185 rfl rfl rfl ?_
  refine K_gf 7 (.ref 59) rfl rfl kd_12 rfl rfl rfl ?_
  refine K_gf 10 (.int (i32 (m.1 226))) rfl rfl kd_59 rfl rfl rfl ?_
  refine T_ld 11 (.int (i32 1)) rfl (fun _ => rfl) ?_
  refine T_isub 12 rfl rfl ?_
  refine T_sto 13 [(1, .int (i32 ((m.1 226) - 1))), (0, .ref 185)] rfl (fun _ => rfl) ?_
  refine T_ld 14 (.ref 185) rfl (fun _ => rfl) ?_
  refine K_gf 17 (.ref 187) rfl rfl kd_185 rfl rfl rfl ?_
  refine T_ld 18 (.int (i32 ((m.1 226) - 1))) rfl (fun _ => rfl) ?_
  refine K_aaisF 19 (m.2 106) (m.2 107) rfl rfl (by omega) (by omega) hT rfl rfl ?_ (fun h1 h2 ok3 => ?_)
  · skip
    refine T_sto 20 [(2, .null), (1, .int (i32 ((m.1 226) - 1))), (0, .ref 185)] rfl (fun _ => rfl) ?_
    refine T_ld 21 (.null) rfl (fun _ => rfl) ?_
    refine T_pop 46 rfl (fun _ => rfl) ?_
    have hLn : ∀ v, v ≠ (m.2 106) ((m.1 226) - 1) → (m.2 92) v = (m.2 92) v := by first | exact hLv | exact fun v _ => rfl
    refine T_ld 47 (.int (i32 ((m.1 226) - 1))) rfl (fun _ => rfl) ?_
    refine T_sto 48 [(3, .int (i32 ((m.1 226) - 1))), (2, .null), (1, .int (i32 ((m.1 226) - 1))), (0, .ref 185)] rfl (fun _ => rfl) ?_
    have L48_6 : ∀ (n14 : Nat) (v4 : Int) (m5 : mR), (R32 v4) → KTy m5 → fr [] [106] (mO m [] []) m5 → ((-1) ≤ v4) → (v4 ≤ 11) → (0 ≤ v4 ∧ v4 ≤ ((m.1 226) - 1)) → (SHp v4 ((m.1 226) - 1) (m.2 106) (m5.2 106)) → v4 + 1 < (n14 : Int) → TT w D pm_177 (48, [(0, .ref 185), (1, .int (i32 ((m.1 226) - 1))), (3, .int (i32 v4))], [], (khp (mO m5 [] []) c, N), 0, 0) (Q_pi_cycle m c N) := by
      intro n14
      induction n14 with
      | zero =>
        intro v4 m5 q11 Tm5 Fm5 ic7 ic8 ic9 ic10 hmu
        obtain ⟨q11a, q11b⟩ := id q11
        have hSH := ic10
        exfalso
        omega
      | succ n14 ih =>
        intro v4 m5 q11 Tm5 Fm5 ic7 ic8 ic9 ic10 hmu
        obtain ⟨q11a, q11b⟩ := id q11
        have hSH := ic10
        have ih15 := ih
        refine T_ld 49 (.int (i32 v4)) rfl (fun _ => rfl) ?_
        refine T_if 72 52 rfl rfl rfl (r32 (by omega) (by omega)) (fun (h16 : v4 ≤ 0) => ?_) (fun (h16 : ¬ (v4 ≤ 0)) => ?_)
        · skip
          have hSZ := SH_z hSH (show v4 = 0 by omega)
          refine T_ld 73 (.ref 185) rfl (fun _ => rfl) ?_
          refine K_gf 76 (.int (i32 (m.1 233))) rfl rfl kd_185 rfl (kval_c2 (k := 233) (F := fun x => .int (i32 x)) rfl (show (m5.1 233) = (m.1 233) from (fr1 Fm5 233 rfl))) rfl ?_
          refine T_ld 77 (.ref 185) rfl (fun _ => rfl) ?_
          refine K_gf 80 (.int (i32 (m.1 232))) rfl rfl kd_185 rfl (kval_c2 (k := 232) (F := fun x => .int (i32 x)) rfl (show (m5.1 232) = (m.1 232) from (fr1 Fm5 232 rfl))) rfl ?_
          refine T_icmp 99 83 rfl rfl rfl (r32 (by omega) (by omega)) (r32 (by omega) (by omega)) (fun (h17 : (m.1 232) ≤ (m.1 233)) => ?_) (fun (h17 : ¬ ((m.1 232) ≤ (m.1 233))) => ?_)
          · skip
            refine T_ld 100 .null rfl (fun _ => rfl) ?_
            refine T_sto 101 [(3, .null), (0, .ref 185), (1, .int (i32 ((m.1 226) - 1)))] rfl (fun _ => rfl) ?_
            refine T_ld 102 (.ref 185) rfl (fun _ => rfl) ?_
            refine K_gf 105 (.ref 187) rfl rfl kd_185 rfl rfl rfl ?_
            refine T_ld 106 (.int (i32 0)) rfl (fun _ => rfl) ?_
            refine T_ld 107 (.null) rfl (fun _ => rfl) ?_
            have G18 : ∀ j, (-1) ≤ (upI (m5.2 106) 0 (-1)) j ∧ (upI (m5.2 106) 0 (-1)) j ≤ 127 := upI_rg (Tm5.2.1 106) ⟨by omega, by omega⟩
            refine K_aasn (a' := [(106, upI (m5.2 106) 0 (-1))]) 108 (m5.2 106) rfl rfl (by omega) (by omega) Tm5 rfl rfl ?_
            refine T_ld 109 (.null) rfl (fun _ => rfl) ?_
            refine T_pop 130 rfl (fun _ => rfl) ?_
            have hPI : PIp (m.1 226) (m.1 233) (m.1 232) (upI (m5.2 106) 0 (-1)) (m.2 91) (m.2 92) (m.2 94) := by first | exact PI_cy hPI rfl ⟨by omega, by omega⟩ hLn hSZ (Or.inl ⟨by omega, rfl, rfl⟩) | exact PI_cy hPI rfl ⟨by omega, by omega⟩ hLn hSZ (Or.inr ⟨rfl, by omega, by omega, hEn.1, hEn.2⟩)
            refine T_ld 131 (.int (i32 0)) rfl (fun _ => rfl) ?_
            refine T_sto 133 [(4, .int (i32 0)), (3, .null), (0, .ref 185), (1, .int (i32 ((m.1 226) - 1)))] rfl (fun _ => rfl) ?_
            refine K_fl (KTy_mO Tm5 rfl rfl trivial ⟨G18, trivial⟩) (fun m19 Tm19 Fm19 => ?_)
            have L133_22 : ∀ (n29 : Nat) (v20 : Int) (m21 : mR), (R32 v20) → KTy m21 → fr [] [25, 71, 78, 85, 86, 87, 88, 89, 90, 98, 101, 102, 103, 104, 105] (mO m19 [] []) m21 → (0 ≤ v20) → (0 ≤ v20 ∧ v20 ≤ 12) → (TCp (m.1 219) (m21.2 78) (m21.2 89) (m.1 223)) → 20 - v20 < (n29 : Int) → TT w D pm_177 (133, [(0, .ref 185), (1, .int (i32 ((m.1 226) - 1))), (4, .int (i32 v20))], [], (khp (mO m21 [] []) c, N), 0, 0) (Q_pi_cycle m c N) := by
              intro n29
              induction n29 with
              | zero =>
                intro v20 m21 q26 Tm21 Fm21 ic23 ic24 ic25 hmu
                obtain ⟨q26a, q26b⟩ := id q26
                have hTC := ic25
                exfalso
                omega
              | succ n29 ih =>
                intro v20 m21 q26 Tm21 Fm21 ic23 ic24 ic25 hmu
                obtain ⟨q26a, q26b⟩ := id q26
                have hTC := ic25
                have ih30 := ih
                refine T_ld 135 (.int (i32 v20)) rfl (fun _ => rfl) ?_
                refine T_ld 136 (.int (i32 ((m.1 226) - 1))) rfl (fun _ => rfl) ?_
                refine T_icmp 174 139 rfl rfl rfl (r32 (by omega) (by omega)) (r32 (by omega) (by omega)) (fun (h31 : (m.1 226) - 1 < v20) => ?_) (fun (h31 : ¬ ((m.1 226) - 1 < v20)) => ?_)
                · skip
                  refine T_ld 175 (.ref 185) rfl (fun _ => rfl) ?_
                  refine T_ld 176 (.ref 185) rfl (fun _ => rfl) ?_
                  refine K_gf 179 (.int (i32 (m.1 235))) rfl rfl kd_185 rfl (kval_c2 (k := 235) (F := fun x => .int (i32 x)) rfl (show (m21.1 235) = (m.1 235) from ((fr1 Fm21 235 rfl).trans ((fr1 Fm19 235 rfl).trans (fr1 Fm5 235 rfl))))) rfl ?_
                  refine T_ld 180 (.int (i32 1)) rfl (fun _ => rfl) ?_
                  refine T_iadd 181 rfl rfl ?_
                  refine K_pf (l' := [(235, (m.1 235) + 1)]) 184 ((m.1 235) + 1) rfl rfl kd_185 rfl rfl rfl rfl rfl rfl rfl ?_
                  have g32 : 0 ≤ (m.1 235) + 1 ∧ (m.1 235) + 1 ≤ 100000000 := ⟨by omega, by omega⟩
                  refine T_ret rfl (fun _ => rfl) ?_
                  exact ⟨(mO m21 [(235, (m.1 235) + 1)] []), (KTy_mO Tm21 rfl rfl ⟨g32, trivial⟩ trivial), (fr_m (fr_s Fm21 (fr_m (fr_s Fm19 (fr_m (fr_s Fm5 (fr_m fr_0 rfl rfl) rfl rfl) rfl rfl) rfl rfl) rfl rfl) rfl rfl) rfl rfl), (show PIp (m.1 226) (m21.1 233) (m.1 232) (m21.2 106) (m.2 91) (m21.2 92) (m21.2 94) by rewrite [(show (m21.1 233) = (m.1 233) from ((fr1 Fm21 233 rfl).trans ((fr1 Fm19 233 rfl).trans (fr1 Fm5 233 rfl)))), (show (m21.2 106) = (upI (m5.2 106) 0 (-1)) from ((fr2 Fm21 106 rfl).trans (fr2 Fm19 106 rfl))), (show (m21.2 92) = (m.2 92) from ((fr2 Fm21 92 rfl).trans ((fr2 Fm19 92 rfl).trans (fr2 Fm5 92 rfl)))), (show (m21.2 94) = (m.2 94) from ((fr2 Fm21 94 rfl).trans ((fr2 Fm19 94 rfl).trans (fr2 Fm5 94 rfl))))]; first | (exact hPI) | (exfalso; omega)), (show TCp (m.1 219) (m21.2 78) (m21.2 89) (m.1 223) by first | (exact hTC) | (exfalso; omega)), (show ((m.1 235) + 1) = (m.1 235) + 1 by omega), (show (m21.1 234) ≤ ((m.1 235) + 1) by rewrite [(show (m21.1 234) = (m.1 234) from ((fr1 Fm21 234 rfl).trans ((fr1 Fm19 234 rfl).trans (fr1 Fm5 234 rfl))))]; omega), rfl⟩
                · skip
                  refine T_ld 140 (.ref 185) rfl (fun _ => rfl) ?_
                  refine K_gf 143 (.ref 187) rfl rfl kd_185 rfl rfl rfl ?_
                  refine T_ld 145 (.int (i32 v20)) rfl (fun _ => rfl) ?_
                  refine K_aaisF 146 (upI (m5.2 106) 0 (-1)) (m.2 107) rfl rfl (by omega) (by omega) Tm21 (show (m21.2 106) = (upI (m5.2 106) 0 (-1)) from ((fr2 Fm21 106 rfl).trans (fr2 Fm19 106 rfl))) (show (m21.2 107) = (m.2 107) from ((fr2 Fm21 107 rfl).trans ((fr2 Fm19 107 rfl).trans (fr2 Fm5 107 rfl)))) ?_ (fun h33 h34 ok35 => ?_)
                  · skip
                    refine T_sto 148 [(5, .null), (0, .ref 185), (1, .int (i32 ((m.1 226) - 1))), (4, .int (i32 v20))] rfl (fun _ => rfl) ?_
                    refine T_ld 150 (.null) rfl (fun _ => rfl) ?_
                    refine T_pop 168 rfl (fun _ => rfl) ?_
                    refine T_iinc 171 [(4, .int (i32 (v20 + 1))), (5, .null), (0, .ref 185), (1, .int (i32 ((m.1 226) - 1)))] rfl rfl (by decide) rfl rfl ?_
                    refine T_goto 133 rfl (fun _ => rfl) ?_
                    refine Tm_lv (a := [(0, .ref 185), (1, .int (i32 ((m.1 226) - 1))), (4, .int (i32 (v20 + 1)))]) rfl rfl ⟨rfl, rfl, rfl, trivial⟩ ?_
                    exact ih30 (v20 + 1) (mO m21 [] []) (r32 (by omega) (by omega)) Tm21 (fr_m (fr_s Fm21 (fr_m fr_0 rfl rfl) rfl rfl) rfl rfl) (show 0 ≤ (v20 + 1) by omega) (show 0 ≤ (v20 + 1) ∧ (v20 + 1) ≤ 12 by omega) (show TCp (m.1 219) (m21.2 78) (m21.2 89) (m.1 223) by exact hTC) (show 20 - (v20 + 1) < (n29 : Int) by omega)
                  have ok36 : OKr m ((upI (m5.2 106) 0 (-1)) v20) := OKr_c (show (m21.2 107) = (m.2 107) from ((fr2 Fm21 107 rfl).trans ((fr2 Fm19 107 rfl).trans (fr2 Fm5 107 rfl)))).symm (show (m21.2 108) = (m.2 108) from ((fr2 Fm21 108 rfl).trans ((fr2 Fm19 108 rfl).trans (fr2 Fm5 108 rfl)))).symm ok35
                  refine T_sto 148 [(5, .ref (obq (m.2 107) ((upI (m5.2 106) 0 (-1)) v20))), (0, .ref 185), (1, .int (i32 ((m.1 226) - 1))), (4, .int (i32 v20))] rfl (fun _ => rfl) ?_
                  refine T_ld 150 (.ref (obq (m.2 107) ((upI (m5.2 106) 0 (-1)) v20))) rfl (fun _ => rfl) ?_
                  refine T_pop 153 rfl (fun _ => rfl) ?_
                  refine T_ld 155 (.ref (obq (m.2 107) ((upI (m5.2 106) 0 (-1)) v20))) rfl (fun _ => rfl) ?_
                  refine T_ld 156 (.ref 185) rfl (fun _ => rfl) ?_
                  refine K_gf 159 (.ref 12) rfl rfl kd_185 rfl rfl rfl ?_
                  refine T_ld 161 (.int (i32 v20)) rfl (fun _ => rfl) ?_
                  refine T_ld 162 (.ref 185) rfl (fun _ => rfl) ?_
                  refine K_gf 165 (.ref 188) rfl rfl kd_185 rfl rfl rfl ?_
                  refine T_callx 168 186 [.ref (obq (m.2 107) ((upI (m5.2 106) 0 (-1)) v20)), .ref 12, .int (i32 v20), .ref 188] [] rfl (inv_vt (args := [.ref 188, .int (i32 v20), .ref 12]) (obe_c (congrArg (fun f : Int → Int => (f ((upI (m5.2 106) 0 (-1)) v20)).toNat) (show (m21.2 107) = (m.2 107) from ((fr2 Fm21 107 rfl).trans ((fr2 Fm19 107 rfl).trans (fr2 Fm5 107 rfl))))) (khp_o0 _ (OKr_c (show (m21.2 107) = (m.2 107) from ((fr2 Fm21 107 rfl).trans ((fr2 Fm19 107 rfl).trans (fr2 Fm5 107 rfl)))) (show (m21.2 108) = (m.2 108) from ((fr2 Fm21 108 rfl).trans ((fr2 Fm19 108 rfl).trans (fr2 Fm5 108 rfl)))) ok36))) rfl rfl rfl) rfl rfl (TC_cast (fun g9 => [.ref (obq g9 ((upI (m5.2 106) 0 (-1)) v20)), .ref 12, .int (i32 v20), .ref 188]) (show (m21.2 107) = (m.2 107) from ((fr2 Fm21 107 rfl).trans ((fr2 Fm19 107 rfl).trans (fr2 Fm5 107 rfl)))) (c_op_work w (mO m21 [] []) c N D (by omega) Tm21 ((upI (m5.2 106) 0 (-1)) v20) v20 (r32 (by omega) (by omega)) (r32 (by omega) (by omega)) (OKr_c (show (m21.2 107) = (m.2 107) from ((fr2 Fm21 107 rfl).trans ((fr2 Fm19 107 rfl).trans (fr2 Fm5 107 rfl)))) (show (m21.2 108) = (m.2 108) from ((fr2 Fm21 108 rfl).trans ((fr2 Fm19 108 rfl).trans (fr2 Fm5 108 rfl)))) ok36) (show NKp (m21.2 18) (m21.2 19) by rewrite [(show (m21.2 18) = (m.2 18) from ((fr2 Fm21 18 rfl).trans ((fr2 Fm19 18 rfl).trans (fr2 Fm5 18 rfl)))), (show (m21.2 19) = (m.2 19) from ((fr2 Fm21 19 rfl).trans ((fr2 Fm19 19 rfl).trans (fr2 Fm5 19 rfl))))]; exact hNK) (show DEp (m21.1 224) (m21.2 45) (m21.2 46) (m21.2 47) (m21.2 49) by rewrite [(show (m21.1 224) = (m.1 224) from ((fr1 Fm21 224 rfl).trans ((fr1 Fm19 224 rfl).trans (fr1 Fm5 224 rfl)))), (show (m21.2 45) = (m.2 45) from ((fr2 Fm21 45 rfl).trans ((fr2 Fm19 45 rfl).trans (fr2 Fm5 45 rfl)))), (show (m21.2 46) = (m.2 46) from ((fr2 Fm21 46 rfl).trans ((fr2 Fm19 46 rfl).trans (fr2 Fm5 46 rfl)))), (show (m21.2 47) = (m.2 47) from ((fr2 Fm21 47 rfl).trans ((fr2 Fm19 47 rfl).trans (fr2 Fm5 47 rfl)))), (show (m21.2 49) = (m.2 49) from ((fr2 Fm21 49 rfl).trans ((fr2 Fm19 49 rfl).trans (fr2 Fm5 49 rfl))))]; exact hDE) (show AcP (m21.1 223) (m21.1 224) (m21.2 43) (m21.2 44) by rewrite [(show (m21.1 223) = (m.1 223) from ((fr1 Fm21 223 rfl).trans ((fr1 Fm19 223 rfl).trans (fr1 Fm5 223 rfl)))), (show (m21.1 224) = (m.1 224) from ((fr1 Fm21 224 rfl).trans ((fr1 Fm19 224 rfl).trans (fr1 Fm5 224 rfl)))), (show (m21.2 43) = (m.2 43) from ((fr2 Fm21 43 rfl).trans ((fr2 Fm19 43 rfl).trans (fr2 Fm5 43 rfl)))), (show (m21.2 44) = (m.2 44) from ((fr2 Fm21 44 rfl).trans ((fr2 Fm19 44 rfl).trans (fr2 Fm5 44 rfl))))]; exact hAC) (show TLp (m21.1 219) (m21.2 73) (m21.2 83) (m21.1 223) by rewrite [(show (m21.1 219) = (m.1 219) from ((fr1 Fm21 219 rfl).trans ((fr1 Fm19 219 rfl).trans (fr1 Fm5 219 rfl)))), (show (m21.2 73) = (m.2 73) from ((fr2 Fm21 73 rfl).trans ((fr2 Fm19 73 rfl).trans (fr2 Fm5 73 rfl)))), (show (m21.2 83) = (m.2 83) from ((fr2 Fm21 83 rfl).trans ((fr2 Fm19 83 rfl).trans (fr2 Fm5 83 rfl)))), (show (m21.1 223) = (m.1 223) from ((fr1 Fm21 223 rfl).trans ((fr1 Fm19 223 rfl).trans (fr1 Fm5 223 rfl))))]; exact hTL) (show LTp (m21.1 219) (m21.2 74) (m21.1 223) by rewrite [(show (m21.1 219) = (m.1 219) from ((fr1 Fm21 219 rfl).trans ((fr1 Fm19 219 rfl).trans (fr1 Fm5 219 rfl)))), (show (m21.2 74) = (m.2 74) from ((fr2 Fm21 74 rfl).trans ((fr2 Fm19 74 rfl).trans (fr2 Fm5 74 rfl)))), (show (m21.1 223) = (m.1 223) from ((fr1 Fm21 223 rfl).trans ((fr1 Fm19 223 rfl).trans (fr1 Fm5 223 rfl))))]; exact hTD) (show TCp (m21.1 219) (m21.2 78) (m21.2 89) (m21.1 223) by rewrite [(show (m21.1 219) = (m.1 219) from ((fr1 Fm21 219 rfl).trans ((fr1 Fm19 219 rfl).trans (fr1 Fm5 219 rfl)))), (show (m21.1 223) = (m.1 223) from ((fr1 Fm21 223 rfl).trans ((fr1 Fm19 223 rfl).trans (fr1 Fm5 223 rfl))))]; exact hTC) (show SPp (m21.1 225) (m21.2 52) (m21.2 58) (m21.2 55) (m21.2 56) (m21.1 219) (m21.1 224) by rewrite [(show (m21.1 225) = (m.1 225) from ((fr1 Fm21 225 rfl).trans ((fr1 Fm19 225 rfl).trans (fr1 Fm5 225 rfl)))), (show (m21.2 52) = (m.2 52) from ((fr2 Fm21 52 rfl).trans ((fr2 Fm19 52 rfl).trans (fr2 Fm5 52 rfl)))), (show (m21.2 58) = (m.2 58) from ((fr2 Fm21 58 rfl).trans ((fr2 Fm19 58 rfl).trans (fr2 Fm5 58 rfl)))), (show (m21.2 55) = (m.2 55) from ((fr2 Fm21 55 rfl).trans ((fr2 Fm19 55 rfl).trans (fr2 Fm5 55 rfl)))), (show (m21.2 56) = (m.2 56) from ((fr2 Fm21 56 rfl).trans ((fr2 Fm19 56 rfl).trans (fr2 Fm5 56 rfl)))), (show (m21.1 219) = (m.1 219) from ((fr1 Fm21 219 rfl).trans ((fr1 Fm19 219 rfl).trans (fr1 Fm5 219 rfl)))), (show (m21.1 224) = (m.1 224) from ((fr1 Fm21 224 rfl).trans ((fr1 Fm19 224 rfl).trans (fr1 Fm5 224 rfl))))]; exact hSP) (show 0 ≤ v20 ∧ v20 ≤ 11 by omega))) (fun rr37 k38 => ?_)
                  obtain ⟨m39, Tm39, Fm39, h40, rfl⟩ := k38
                  refine Or.inl ⟨_, _, _, _, rfl, ?_⟩
                  refine K_nb (st' := []) rfl ?_
                  replace h40 : TCp (m21.1 219) (m39.2 78) (m39.2 89) (m21.1 223) := h40
                  rewrite [(show (m21.1 219) = (m.1 219) from ((fr1 Fm21 219 rfl).trans ((fr1 Fm19 219 rfl).trans (fr1 Fm5 219 rfl)))), (show (m21.1 223) = (m.1 223) from ((fr1 Fm21 223 rfl).trans ((fr1 Fm19 223 rfl).trans (fr1 Fm5 223 rfl))))] at h40
                  have hTC := h40
                  refine T_iinc 171 [(4, .int (i32 (v20 + 1))), (5, .ref (obq (m.2 107) ((upI (m5.2 106) 0 (-1)) v20))), (0, .ref 185), (1, .int (i32 ((m.1 226) - 1)))] rfl rfl (by decide) rfl rfl ?_
                  refine T_goto 133 rfl (fun _ => rfl) ?_
                  refine Tm_lv (a := [(0, .ref 185), (1, .int (i32 ((m.1 226) - 1))), (4, .int (i32 (v20 + 1)))]) rfl rfl ⟨rfl, rfl, rfl, trivial⟩ ?_
                  exact ih30 (v20 + 1) (mO m39 [] []) (r32 (by omega) (by omega)) Tm39 (fr_m (fr_s Fm39 (fr_m (fr_s Fm21 (fr_m fr_0 rfl rfl) rfl rfl) rfl rfl) rfl rfl) rfl rfl) (show 0 ≤ (v20 + 1) by omega) (show 0 ≤ (v20 + 1) ∧ (v20 + 1) ≤ 12 by omega) (show TCp (m.1 219) (m39.2 78) (m39.2 89) (m.1 223) by exact hTC) (show 20 - (v20 + 1) < (n29 : Int) by omega)
            refine Tm_lv (a := [(0, .ref 185), (1, .int (i32 ((m.1 226) - 1))), (4, .int (i32 0))]) rfl rfl ⟨rfl, rfl, rfl, trivial⟩ ?_
            exact L133_22 ((20 - (0 : Int) : Int) + 1).toNat 0 (mO m19 [] []) ⟨by decide, by decide⟩ Tm19 (fr_m fr_0 rfl rfl) (show 0 ≤ (0 : Int) by omega) (show 0 ≤ (0 : Int) ∧ (0 : Int) ≤ 12 by omega) (show TCp (m.1 219) (m19.2 78) (m19.2 89) (m.1 223) by rewrite [(show (m19.2 78) = (m.2 78) from ((fr2 Fm19 78 rfl).trans (fr2 Fm5 78 rfl))), (show (m19.2 89) = (m.2 89) from ((fr2 Fm19 89 rfl).trans (fr2 Fm5 89 rfl)))]; exact hTC) (show 20 - (0 : Int) < ((((20 - (0 : Int) : Int) + 1).toNat : Nat) : Int) by omega)
          · skip
            refine T_ld 84 (.ref 185) rfl (fun _ => rfl) ?_
            refine K_gf 87 (.ref 186) rfl rfl kd_185 rfl rfl rfl ?_
            refine T_ld 88 (.ref 185) rfl (fun _ => rfl) ?_
            refine K_gf 91 (.int (i32 (m.1 233))) rfl rfl kd_185 rfl (kval_c2 (k := 233) (F := fun x => .int (i32 x)) rfl (show (m5.1 233) = (m.1 233) from (fr1 Fm5 233 rfl))) rfl ?_
            refine T_ld 94 (.int (i32 128)) rfl (fun _ => rfl) ?_
            refine T_irem 95 rfl rfl (by omega) (by omega) (by omega) (by omega) ?_
            refine K_aaopF 96 (m.2 107) rfl rfl (by omega) (by omega) Tm5 (show (m5.2 107) = (m.2 107) from (fr2 Fm5 107 rfl)) (fun h42 => ?_) (fun ok41 => ?_)
            · skip
              refine T_goto 100 rfl (fun _ => rfl) ?_
              refine T_sto 101 [(3, .null), (0, .ref 185), (1, .int (i32 ((m.1 226) - 1)))] rfl (fun _ => rfl) ?_
              refine T_ld 102 (.ref 185) rfl (fun _ => rfl) ?_
              refine K_gf 105 (.ref 187) rfl rfl kd_185 rfl rfl rfl ?_
              refine T_ld 106 (.int (i32 0)) rfl (fun _ => rfl) ?_
              refine T_ld 107 (.null) rfl (fun _ => rfl) ?_
              have G43 : ∀ j, (-1) ≤ (upI (m5.2 106) 0 (-1)) j ∧ (upI (m5.2 106) 0 (-1)) j ≤ 127 := upI_rg (Tm5.2.1 106) ⟨by omega, by omega⟩
              refine K_aasn (a' := [(106, upI (m5.2 106) 0 (-1))]) 108 (m5.2 106) rfl rfl (by omega) (by omega) Tm5 rfl rfl ?_
              refine T_ld 109 (.null) rfl (fun _ => rfl) ?_
              refine T_pop 130 rfl (fun _ => rfl) ?_
              have hPI : PIp (m.1 226) (m.1 233) (m.1 232) (upI (m5.2 106) 0 (-1)) (m.2 91) (m.2 92) (m.2 94) := by first | exact PI_cy hPI rfl ⟨by omega, by omega⟩ hLn hSZ (Or.inl ⟨by omega, rfl, rfl⟩) | exact PI_cy hPI rfl ⟨by omega, by omega⟩ hLn hSZ (Or.inr ⟨rfl, by omega, by omega, hEn.1, hEn.2⟩)
              refine T_ld 131 (.int (i32 0)) rfl (fun _ => rfl) ?_
              refine T_sto 133 [(4, .int (i32 0)), (3, .null), (0, .ref 185), (1, .int (i32 ((m.1 226) - 1)))] rfl (fun _ => rfl) ?_
              refine K_fl (KTy_mO Tm5 rfl rfl trivial ⟨G43, trivial⟩) (fun m44 Tm44 Fm44 => ?_)
              have L133_47 : ∀ (n54 : Nat) (v45 : Int) (m46 : mR), (R32 v45) → KTy m46 → fr [] [25, 71, 78, 85, 86, 87, 88, 89, 90, 98, 101, 102, 103, 104, 105] (mO m44 [] []) m46 → (0 ≤ v45) → (0 ≤ v45 ∧ v45 ≤ 12) → (TCp (m.1 219) (m46.2 78) (m46.2 89) (m.1 223)) → 20 - v45 < (n54 : Int) → TT w D pm_177 (133, [(0, .ref 185), (1, .int (i32 ((m.1 226) - 1))), (4, .int (i32 v45))], [], (khp (mO m46 [] []) c, N), 0, 0) (Q_pi_cycle m c N) := by
                intro n54
                induction n54 with
                | zero =>
                  intro v45 m46 q51 Tm46 Fm46 ic48 ic49 ic50 hmu
                  obtain ⟨q51a, q51b⟩ := id q51
                  have hTC := ic50
                  exfalso
                  omega
                | succ n54 ih =>
                  intro v45 m46 q51 Tm46 Fm46 ic48 ic49 ic50 hmu
                  obtain ⟨q51a, q51b⟩ := id q51
                  have hTC := ic50
                  have ih55 := ih
                  refine T_ld 135 (.int (i32 v45)) rfl (fun _ => rfl) ?_
                  refine T_ld 136 (.int (i32 ((m.1 226) - 1))) rfl (fun _ => rfl) ?_
                  refine T_icmp 174 139 rfl rfl rfl (r32 (by omega) (by omega)) (r32 (by omega) (by omega)) (fun (h56 : (m.1 226) - 1 < v45) => ?_) (fun (h56 : ¬ ((m.1 226) - 1 < v45)) => ?_)
                  · skip
                    refine T_ld 175 (.ref 185) rfl (fun _ => rfl) ?_
                    refine T_ld 176 (.ref 185) rfl (fun _ => rfl) ?_
                    refine K_gf 179 (.int (i32 (m.1 235))) rfl rfl kd_185 rfl (kval_c2 (k := 235) (F := fun x => .int (i32 x)) rfl (show (m46.1 235) = (m.1 235) from ((fr1 Fm46 235 rfl).trans ((fr1 Fm44 235 rfl).trans (fr1 Fm5 235 rfl))))) rfl ?_
                    refine T_ld 180 (.int (i32 1)) rfl (fun _ => rfl) ?_
                    refine T_iadd 181 rfl rfl ?_
                    refine K_pf (l' := [(235, (m.1 235) + 1)]) 184 ((m.1 235) + 1) rfl rfl kd_185 rfl rfl rfl rfl rfl rfl rfl ?_
                    have g57 : 0 ≤ (m.1 235) + 1 ∧ (m.1 235) + 1 ≤ 100000000 := ⟨by omega, by omega⟩
                    refine T_ret rfl (fun _ => rfl) ?_
                    exact ⟨(mO m46 [(235, (m.1 235) + 1)] []), (KTy_mO Tm46 rfl rfl ⟨g57, trivial⟩ trivial), (fr_m (fr_s Fm46 (fr_m (fr_s Fm44 (fr_m (fr_s Fm5 (fr_m fr_0 rfl rfl) rfl rfl) rfl rfl) rfl rfl) rfl rfl) rfl rfl) rfl rfl), (show PIp (m.1 226) (m46.1 233) (m.1 232) (m46.2 106) (m.2 91) (m46.2 92) (m46.2 94) by rewrite [(show (m46.1 233) = (m.1 233) from ((fr1 Fm46 233 rfl).trans ((fr1 Fm44 233 rfl).trans (fr1 Fm5 233 rfl)))), (show (m46.2 106) = (upI (m5.2 106) 0 (-1)) from ((fr2 Fm46 106 rfl).trans (fr2 Fm44 106 rfl))), (show (m46.2 92) = (m.2 92) from ((fr2 Fm46 92 rfl).trans ((fr2 Fm44 92 rfl).trans (fr2 Fm5 92 rfl)))), (show (m46.2 94) = (m.2 94) from ((fr2 Fm46 94 rfl).trans ((fr2 Fm44 94 rfl).trans (fr2 Fm5 94 rfl))))]; first | (exact hPI) | (exfalso; omega)), (show TCp (m.1 219) (m46.2 78) (m46.2 89) (m.1 223) by first | (exact hTC) | (exfalso; omega)), (show ((m.1 235) + 1) = (m.1 235) + 1 by omega), (show (m46.1 234) ≤ ((m.1 235) + 1) by rewrite [(show (m46.1 234) = (m.1 234) from ((fr1 Fm46 234 rfl).trans ((fr1 Fm44 234 rfl).trans (fr1 Fm5 234 rfl))))]; omega), rfl⟩
                  · skip
                    refine T_ld 140 (.ref 185) rfl (fun _ => rfl) ?_
                    refine K_gf 143 (.ref 187) rfl rfl kd_185 rfl rfl rfl ?_
                    refine T_ld 145 (.int (i32 v45)) rfl (fun _ => rfl) ?_
                    refine K_aaisF 146 (upI (m5.2 106) 0 (-1)) (m.2 107) rfl rfl (by omega) (by omega) Tm46 (show (m46.2 106) = (upI (m5.2 106) 0 (-1)) from ((fr2 Fm46 106 rfl).trans (fr2 Fm44 106 rfl))) (show (m46.2 107) = (m.2 107) from ((fr2 Fm46 107 rfl).trans ((fr2 Fm44 107 rfl).trans (fr2 Fm5 107 rfl)))) ?_ (fun h58 h59 ok60 => ?_)
                    · skip
                      refine T_sto 148 [(5, .null), (0, .ref 185), (1, .int (i32 ((m.1 226) - 1))), (4, .int (i32 v45))] rfl (fun _ => rfl) ?_
                      refine T_ld 150 (.null) rfl (fun _ => rfl) ?_
                      refine T_pop 168 rfl (fun _ => rfl) ?_
                      refine T_iinc 171 [(4, .int (i32 (v45 + 1))), (5, .null), (0, .ref 185), (1, .int (i32 ((m.1 226) - 1)))] rfl rfl (by decide) rfl rfl ?_
                      refine T_goto 133 rfl (fun _ => rfl) ?_
                      refine Tm_lv (a := [(0, .ref 185), (1, .int (i32 ((m.1 226) - 1))), (4, .int (i32 (v45 + 1)))]) rfl rfl ⟨rfl, rfl, rfl, trivial⟩ ?_
                      exact ih55 (v45 + 1) (mO m46 [] []) (r32 (by omega) (by omega)) Tm46 (fr_m (fr_s Fm46 (fr_m fr_0 rfl rfl) rfl rfl) rfl rfl) (show 0 ≤ (v45 + 1) by omega) (show 0 ≤ (v45 + 1) ∧ (v45 + 1) ≤ 12 by omega) (show TCp (m.1 219) (m46.2 78) (m46.2 89) (m.1 223) by exact hTC) (show 20 - (v45 + 1) < (n54 : Int) by omega)
                    have ok61 : OKr m ((upI (m5.2 106) 0 (-1)) v45) := OKr_c (show (m46.2 107) = (m.2 107) from ((fr2 Fm46 107 rfl).trans ((fr2 Fm44 107 rfl).trans (fr2 Fm5 107 rfl)))).symm (show (m46.2 108) = (m.2 108) from ((fr2 Fm46 108 rfl).trans ((fr2 Fm44 108 rfl).trans (fr2 Fm5 108 rfl)))).symm ok60
                    refine T_sto 148 [(5, .ref (obq (m.2 107) ((upI (m5.2 106) 0 (-1)) v45))), (0, .ref 185), (1, .int (i32 ((m.1 226) - 1))), (4, .int (i32 v45))] rfl (fun _ => rfl) ?_
                    refine T_ld 150 (.ref (obq (m.2 107) ((upI (m5.2 106) 0 (-1)) v45))) rfl (fun _ => rfl) ?_
                    refine T_pop 153 rfl (fun _ => rfl) ?_
                    refine T_ld 155 (.ref (obq (m.2 107) ((upI (m5.2 106) 0 (-1)) v45))) rfl (fun _ => rfl) ?_
                    refine T_ld 156 (.ref 185) rfl (fun _ => rfl) ?_
                    refine K_gf 159 (.ref 12) rfl rfl kd_185 rfl rfl rfl ?_
                    refine T_ld 161 (.int (i32 v45)) rfl (fun _ => rfl) ?_
                    refine T_ld 162 (.ref 185) rfl (fun _ => rfl) ?_
                    refine K_gf 165 (.ref 188) rfl rfl kd_185 rfl rfl rfl ?_
                    refine T_callx 168 186 [.ref (obq (m.2 107) ((upI (m5.2 106) 0 (-1)) v45)), .ref 12, .int (i32 v45), .ref 188] [] rfl (inv_vt (args := [.ref 188, .int (i32 v45), .ref 12]) (obe_c (congrArg (fun f : Int → Int => (f ((upI (m5.2 106) 0 (-1)) v45)).toNat) (show (m46.2 107) = (m.2 107) from ((fr2 Fm46 107 rfl).trans ((fr2 Fm44 107 rfl).trans (fr2 Fm5 107 rfl))))) (khp_o0 _ (OKr_c (show (m46.2 107) = (m.2 107) from ((fr2 Fm46 107 rfl).trans ((fr2 Fm44 107 rfl).trans (fr2 Fm5 107 rfl)))) (show (m46.2 108) = (m.2 108) from ((fr2 Fm46 108 rfl).trans ((fr2 Fm44 108 rfl).trans (fr2 Fm5 108 rfl)))) ok61))) rfl rfl rfl) rfl rfl (TC_cast (fun g9 => [.ref (obq g9 ((upI (m5.2 106) 0 (-1)) v45)), .ref 12, .int (i32 v45), .ref 188]) (show (m46.2 107) = (m.2 107) from ((fr2 Fm46 107 rfl).trans ((fr2 Fm44 107 rfl).trans (fr2 Fm5 107 rfl)))) (c_op_work w (mO m46 [] []) c N D (by omega) Tm46 ((upI (m5.2 106) 0 (-1)) v45) v45 (r32 (by omega) (by omega)) (r32 (by omega) (by omega)) (OKr_c (show (m46.2 107) = (m.2 107) from ((fr2 Fm46 107 rfl).trans ((fr2 Fm44 107 rfl).trans (fr2 Fm5 107 rfl)))) (show (m46.2 108) = (m.2 108) from ((fr2 Fm46 108 rfl).trans ((fr2 Fm44 108 rfl).trans (fr2 Fm5 108 rfl)))) ok61) (show NKp (m46.2 18) (m46.2 19) by rewrite [(show (m46.2 18) = (m.2 18) from ((fr2 Fm46 18 rfl).trans ((fr2 Fm44 18 rfl).trans (fr2 Fm5 18 rfl)))), (show (m46.2 19) = (m.2 19) from ((fr2 Fm46 19 rfl).trans ((fr2 Fm44 19 rfl).trans (fr2 Fm5 19 rfl))))]; exact hNK) (show DEp (m46.1 224) (m46.2 45) (m46.2 46) (m46.2 47) (m46.2 49) by rewrite [(show (m46.1 224) = (m.1 224) from ((fr1 Fm46 224 rfl).trans ((fr1 Fm44 224 rfl).trans (fr1 Fm5 224 rfl)))), (show (m46.2 45) = (m.2 45) from ((fr2 Fm46 45 rfl).trans ((fr2 Fm44 45 rfl).trans (fr2 Fm5 45 rfl)))), (show (m46.2 46) = (m.2 46) from ((fr2 Fm46 46 rfl).trans ((fr2 Fm44 46 rfl).trans (fr2 Fm5 46 rfl)))), (show (m46.2 47) = (m.2 47) from ((fr2 Fm46 47 rfl).trans ((fr2 Fm44 47 rfl).trans (fr2 Fm5 47 rfl)))), (show (m46.2 49) = (m.2 49) from ((fr2 Fm46 49 rfl).trans ((fr2 Fm44 49 rfl).trans (fr2 Fm5 49 rfl))))]; exact hDE) (show AcP (m46.1 223) (m46.1 224) (m46.2 43) (m46.2 44) by rewrite [(show (m46.1 223) = (m.1 223) from ((fr1 Fm46 223 rfl).trans ((fr1 Fm44 223 rfl).trans (fr1 Fm5 223 rfl)))), (show (m46.1 224) = (m.1 224) from ((fr1 Fm46 224 rfl).trans ((fr1 Fm44 224 rfl).trans (fr1 Fm5 224 rfl)))), (show (m46.2 43) = (m.2 43) from ((fr2 Fm46 43 rfl).trans ((fr2 Fm44 43 rfl).trans (fr2 Fm5 43 rfl)))), (show (m46.2 44) = (m.2 44) from ((fr2 Fm46 44 rfl).trans ((fr2 Fm44 44 rfl).trans (fr2 Fm5 44 rfl))))]; exact hAC) (show TLp (m46.1 219) (m46.2 73) (m46.2 83) (m46.1 223) by rewrite [(show (m46.1 219) = (m.1 219) from ((fr1 Fm46 219 rfl).trans ((fr1 Fm44 219 rfl).trans (fr1 Fm5 219 rfl)))), (show (m46.2 73) = (m.2 73) from ((fr2 Fm46 73 rfl).trans ((fr2 Fm44 73 rfl).trans (fr2 Fm5 73 rfl)))), (show (m46.2 83) = (m.2 83) from ((fr2 Fm46 83 rfl).trans ((fr2 Fm44 83 rfl).trans (fr2 Fm5 83 rfl)))), (show (m46.1 223) = (m.1 223) from ((fr1 Fm46 223 rfl).trans ((fr1 Fm44 223 rfl).trans (fr1 Fm5 223 rfl))))]; exact hTL) (show LTp (m46.1 219) (m46.2 74) (m46.1 223) by rewrite [(show (m46.1 219) = (m.1 219) from ((fr1 Fm46 219 rfl).trans ((fr1 Fm44 219 rfl).trans (fr1 Fm5 219 rfl)))), (show (m46.2 74) = (m.2 74) from ((fr2 Fm46 74 rfl).trans ((fr2 Fm44 74 rfl).trans (fr2 Fm5 74 rfl)))), (show (m46.1 223) = (m.1 223) from ((fr1 Fm46 223 rfl).trans ((fr1 Fm44 223 rfl).trans (fr1 Fm5 223 rfl))))]; exact hTD) (show TCp (m46.1 219) (m46.2 78) (m46.2 89) (m46.1 223) by rewrite [(show (m46.1 219) = (m.1 219) from ((fr1 Fm46 219 rfl).trans ((fr1 Fm44 219 rfl).trans (fr1 Fm5 219 rfl)))), (show (m46.1 223) = (m.1 223) from ((fr1 Fm46 223 rfl).trans ((fr1 Fm44 223 rfl).trans (fr1 Fm5 223 rfl))))]; exact hTC) (show SPp (m46.1 225) (m46.2 52) (m46.2 58) (m46.2 55) (m46.2 56) (m46.1 219) (m46.1 224) by rewrite [(show (m46.1 225) = (m.1 225) from ((fr1 Fm46 225 rfl).trans ((fr1 Fm44 225 rfl).trans (fr1 Fm5 225 rfl)))), (show (m46.2 52) = (m.2 52) from ((fr2 Fm46 52 rfl).trans ((fr2 Fm44 52 rfl).trans (fr2 Fm5 52 rfl)))), (show (m46.2 58) = (m.2 58) from ((fr2 Fm46 58 rfl).trans ((fr2 Fm44 58 rfl).trans (fr2 Fm5 58 rfl)))), (show (m46.2 55) = (m.2 55) from ((fr2 Fm46 55 rfl).trans ((fr2 Fm44 55 rfl).trans (fr2 Fm5 55 rfl)))), (show (m46.2 56) = (m.2 56) from ((fr2 Fm46 56 rfl).trans ((fr2 Fm44 56 rfl).trans (fr2 Fm5 56 rfl)))), (show (m46.1 219) = (m.1 219) from ((fr1 Fm46 219 rfl).trans ((fr1 Fm44 219 rfl).trans (fr1 Fm5 219 rfl)))), (show (m46.1 224) = (m.1 224) from ((fr1 Fm46 224 rfl).trans ((fr1 Fm44 224 rfl).trans (fr1 Fm5 224 rfl))))]; exact hSP) (show 0 ≤ v45 ∧ v45 ≤ 11 by omega))) (fun rr62 k63 => ?_)
                    obtain ⟨m64, Tm64, Fm64, h65, rfl⟩ := k63
                    refine Or.inl ⟨_, _, _, _, rfl, ?_⟩
                    refine K_nb (st' := []) rfl ?_
                    replace h65 : TCp (m46.1 219) (m64.2 78) (m64.2 89) (m46.1 223) := h65
                    rewrite [(show (m46.1 219) = (m.1 219) from ((fr1 Fm46 219 rfl).trans ((fr1 Fm44 219 rfl).trans (fr1 Fm5 219 rfl)))), (show (m46.1 223) = (m.1 223) from ((fr1 Fm46 223 rfl).trans ((fr1 Fm44 223 rfl).trans (fr1 Fm5 223 rfl))))] at h65
                    have hTC := h65
                    refine T_iinc 171 [(4, .int (i32 (v45 + 1))), (5, .ref (obq (m.2 107) ((upI (m5.2 106) 0 (-1)) v45))), (0, .ref 185), (1, .int (i32 ((m.1 226) - 1)))] rfl rfl (by decide) rfl rfl ?_
                    refine T_goto 133 rfl (fun _ => rfl) ?_
                    refine Tm_lv (a := [(0, .ref 185), (1, .int (i32 ((m.1 226) - 1))), (4, .int (i32 (v45 + 1)))]) rfl rfl ⟨rfl, rfl, rfl, trivial⟩ ?_
                    exact ih55 (v45 + 1) (mO m64 [] []) (r32 (by omega) (by omega)) Tm64 (fr_m (fr_s Fm64 (fr_m (fr_s Fm46 (fr_m fr_0 rfl rfl) rfl rfl) rfl rfl) rfl rfl) rfl rfl) (show 0 ≤ (v45 + 1) by omega) (show 0 ≤ (v45 + 1) ∧ (v45 + 1) ≤ 12 by omega) (show TCp (m.1 219) (m64.2 78) (m64.2 89) (m.1 223) by exact hTC) (show 20 - (v45 + 1) < (n54 : Int) by omega)
              refine Tm_lv (a := [(0, .ref 185), (1, .int (i32 ((m.1 226) - 1))), (4, .int (i32 0))]) rfl rfl ⟨rfl, rfl, rfl, trivial⟩ ?_
              exact L133_47 ((20 - (0 : Int) : Int) + 1).toNat 0 (mO m44 [] []) ⟨by decide, by decide⟩ Tm44 (fr_m fr_0 rfl rfl) (show 0 ≤ (0 : Int) by omega) (show 0 ≤ (0 : Int) ∧ (0 : Int) ≤ 12 by omega) (show TCp (m.1 219) (m44.2 78) (m44.2 89) (m.1 223) by rewrite [(show (m44.2 78) = (m.2 78) from ((fr2 Fm44 78 rfl).trans (fr2 Fm5 78 rfl))), (show (m44.2 89) = (m.2 89) from ((fr2 Fm44 89 rfl).trans (fr2 Fm5 89 rfl)))]; exact hTC) (show 20 - (0 : Int) < ((((20 - (0 : Int) : Int) + 1).toNat : Nat) : Int) by omega)
            have ok66 : OKr m ((m.1 233) % 128) := OKr_c (show (m5.2 107) = (m.2 107) from (fr2 Fm5 107 rfl)).symm (show (m5.2 108) = (m.2 108) from (fr2 Fm5 108 rfl)).symm ok41
            refine T_goto 100 rfl (fun _ => rfl) ?_
            refine T_sto 101 [(3, .ref (obq (m.2 107) ((m.1 233) % 128))), (0, .ref 185), (1, .int (i32 ((m.1 226) - 1)))] rfl (fun _ => rfl) ?_
            refine T_ld 102 (.ref 185) rfl (fun _ => rfl) ?_
            refine K_gf 105 (.ref 187) rfl rfl kd_185 rfl rfl rfl ?_
            refine T_ld 106 (.int (i32 0)) rfl (fun _ => rfl) ?_
            refine T_ld 107 (.ref (obq (m.2 107) ((m.1 233) % 128))) rfl (fun _ => rfl) ?_
            have G67 : ∀ j, (-1) ≤ (upI (m5.2 106) 0 ((m.1 233) % 128)) j ∧ (upI (m5.2 106) 0 ((m.1 233) % 128)) j ≤ 127 := upI_rg (Tm5.2.1 106) ⟨by omega, by omega⟩
            refine K_aaso (a' := [(106, upI (m5.2 106) 0 ((m.1 233) % 128))]) 108 (m5.2 106) rfl rfl (by omega) (by omega) Tm5 (OKr_c (show (m5.2 107) = (m.2 107) from (fr2 Fm5 107 rfl)) (show (m5.2 108) = (m.2 108) from (fr2 Fm5 108 rfl)) ok66) (congrArg (fun f : Int → Int => (f ((m.1 233) % 128)).toNat) (show (m5.2 107) = (m.2 107) from (fr2 Fm5 107 rfl))) rfl rfl ?_
            refine T_ld 109 (.ref (obq (m.2 107) ((m.1 233) % 128))) rfl (fun _ => rfl) ?_
            refine T_pop 112 rfl (fun _ => rfl) ?_
            refine T_ld 113 (.ref (obq (m.2 107) ((m.1 233) % 128))) rfl (fun _ => rfl) ?_
            refine T_ld 114 (.ref 185) rfl (fun _ => rfl) ?_
            refine K_gf 117 (.ref 12) rfl rfl kd_185 rfl rfl rfl ?_
            have hEp := PI_en hPI hLn (by omega) (by omega) (by omega)
            refine T_callx 120 180 [.ref (obq (m.2 107) ((m.1 233) % 128)), .ref 12] [] rfl (inv_vt (args := [.ref 12]) (obe_c (congrArg (fun f : Int → Int => (f ((m.1 233) % 128)).toNat) (show (m5.2 107) = (m.2 107) from (fr2 Fm5 107 rfl))) (khp_o0 _ (OKr_c (show (m5.2 107) = (m.2 107) from (fr2 Fm5 107 rfl)) (show (m5.2 108) = (m.2 108) from (fr2 Fm5 108 rfl)) ok66))) rfl rfl rfl) rfl rfl (TC_cast (fun g9 => [.ref (obq g9 ((m.1 233) % 128)), .ref 12]) (show (m5.2 107) = (m.2 107) from (fr2 Fm5 107 rfl)) (c_op_enter w (mO m5 [] [(106, upI (m5.2 106) 0 ((m.1 233) % 128))]) c N D (by omega) (KTy_mO Tm5 rfl rfl trivial ⟨G67, trivial⟩) ((m.1 233) % 128) (r32 (by omega) (by omega)) (OKr_c (show (m5.2 107) = (m.2 107) from (fr2 Fm5 107 rfl)) (show (m5.2 108) = (m.2 108) from (fr2 Fm5 108 rfl)) ok66) (show NKp (m5.2 18) (m5.2 19) by rewrite [(show (m5.2 18) = (m.2 18) from (fr2 Fm5 18 rfl)), (show (m5.2 19) = (m.2 19) from (fr2 Fm5 19 rfl))]; exact hNK) (show (m5.2 91) ((m.1 233) % 128) = 0 → (m5.2 92) ((m.1 233) % 128) ≤ 128 by rewrite [(show (m5.2 91) = (m.2 91) from (fr2 Fm5 91 rfl)), (show (m5.2 92) = (m.2 92) from (fr2 Fm5 92 rfl))]; exact hEp))) (fun rr68 k69 => ?_)
            obtain ⟨m70, Tm70, Fm70, h71, rfl⟩ := k69
            refine Or.inl ⟨_, _, _, _, rfl, ?_⟩
            refine K_nb (st' := []) rfl ?_
            replace h71 : (∀ v, v ≠ ((m.1 233) % 128) → (m70.2 94) v = (m5.2 94) v) ∧ ((m5.2 91) ((m.1 233) % 128) = 0 → (m70.2 94) ((m.1 233) % 128) ≤ (m5.2 92) ((m.1 233) % 128)) := h71
            rewrite [(show (m5.2 94) = (m.2 94) from (fr2 Fm5 94 rfl)), (show (m5.2 91) = (m.2 91) from (fr2 Fm5 91 rfl)), (show (m5.2 92) = (m.2 92) from (fr2 Fm5 92 rfl))] at h71
            have hEn := h71
            refine T_ld 121 (.ref 185) rfl (fun _ => rfl) ?_
            refine T_ld 122 (.ref 185) rfl (fun _ => rfl) ?_
            refine K_gf 125 (.int (i32 (m.1 233))) rfl rfl kd_185 rfl (kval_c2 (k := 233) (F := fun x => .int (i32 x)) rfl (show (m70.1 233) = (m.1 233) from ((fr1 Fm70 233 rfl).trans (fr1 Fm5 233 rfl)))) rfl ?_
            refine T_ld 126 (.int (i32 1)) rfl (fun _ => rfl) ?_
            refine T_iadd 127 rfl rfl ?_
            refine K_pf (l' := [(233, (m.1 233) + 1)]) 130 ((m.1 233) + 1) rfl rfl kd_185 rfl rfl rfl rfl rfl rfl rfl ?_
            have g72 : 0 ≤ (m.1 233) + 1 ∧ (m.1 233) + 1 ≤ 1000000 := ⟨by omega, by omega⟩
            have hPI : PIp (m.1 226) ((m.1 233) + 1) (m.1 232) (upI (m5.2 106) 0 ((m.1 233) % 128)) (m.2 91) (m.2 92) (m70.2 94) := by first | exact PI_cy hPI rfl ⟨by omega, by omega⟩ hLn hSZ (Or.inl ⟨by omega, rfl, rfl⟩) | exact PI_cy hPI rfl ⟨by omega, by omega⟩ hLn hSZ (Or.inr ⟨rfl, by omega, by omega, hEn.1, hEn.2⟩)
            refine T_ld 131 (.int (i32 0)) rfl (fun _ => rfl) ?_
            refine T_sto 133 [(4, .int (i32 0)), (3, .ref (obq (m.2 107) ((m.1 233) % 128))), (0, .ref 185), (1, .int (i32 ((m.1 226) - 1)))] rfl (fun _ => rfl) ?_
            refine K_fl (KTy_mO Tm70 rfl rfl ⟨g72, trivial⟩ trivial) (fun m73 Tm73 Fm73 => ?_)
            have L133_76 : ∀ (n83 : Nat) (v74 : Int) (m75 : mR), (R32 v74) → KTy m75 → fr [] [25, 71, 78, 85, 86, 87, 88, 89, 90, 98, 101, 102, 103, 104, 105] (mO m73 [] []) m75 → (0 ≤ v74) → (0 ≤ v74 ∧ v74 ≤ 12) → (TCp (m.1 219) (m75.2 78) (m75.2 89) (m.1 223)) → 20 - v74 < (n83 : Int) → TT w D pm_177 (133, [(0, .ref 185), (1, .int (i32 ((m.1 226) - 1))), (4, .int (i32 v74))], [], (khp (mO m75 [] []) c, N), 0, 0) (Q_pi_cycle m c N) := by
              intro n83
              induction n83 with
              | zero =>
                intro v74 m75 q80 Tm75 Fm75 ic77 ic78 ic79 hmu
                obtain ⟨q80a, q80b⟩ := id q80
                have hTC := ic79
                exfalso
                omega
              | succ n83 ih =>
                intro v74 m75 q80 Tm75 Fm75 ic77 ic78 ic79 hmu
                obtain ⟨q80a, q80b⟩ := id q80
                have hTC := ic79
                have ih84 := ih
                refine T_ld 135 (.int (i32 v74)) rfl (fun _ => rfl) ?_
                refine T_ld 136 (.int (i32 ((m.1 226) - 1))) rfl (fun _ => rfl) ?_
                refine T_icmp 174 139 rfl rfl rfl (r32 (by omega) (by omega)) (r32 (by omega) (by omega)) (fun (h85 : (m.1 226) - 1 < v74) => ?_) (fun (h85 : ¬ ((m.1 226) - 1 < v74)) => ?_)
                · skip
                  refine T_ld 175 (.ref 185) rfl (fun _ => rfl) ?_
                  refine T_ld 176 (.ref 185) rfl (fun _ => rfl) ?_
                  refine K_gf 179 (.int (i32 (m.1 235))) rfl rfl kd_185 rfl (kval_c2 (k := 235) (F := fun x => .int (i32 x)) rfl (show (m75.1 235) = (m.1 235) from ((fr1 Fm75 235 rfl).trans ((fr1 Fm73 235 rfl).trans ((fr1 Fm70 235 rfl).trans (fr1 Fm5 235 rfl)))))) rfl ?_
                  refine T_ld 180 (.int (i32 1)) rfl (fun _ => rfl) ?_
                  refine T_iadd 181 rfl rfl ?_
                  refine K_pf (l' := [(235, (m.1 235) + 1)]) 184 ((m.1 235) + 1) rfl rfl kd_185 rfl rfl rfl rfl rfl rfl rfl ?_
                  have g86 : 0 ≤ (m.1 235) + 1 ∧ (m.1 235) + 1 ≤ 100000000 := ⟨by omega, by omega⟩
                  refine T_ret rfl (fun _ => rfl) ?_
                  exact ⟨(mO m75 [(235, (m.1 235) + 1)] []), (KTy_mO Tm75 rfl rfl ⟨g86, trivial⟩ trivial), (fr_m (fr_s Fm75 (fr_m (fr_s Fm73 (fr_m (fr_s Fm70 (fr_m (fr_s Fm5 (fr_m fr_0 rfl rfl) rfl rfl) rfl rfl) rfl rfl) rfl rfl) rfl rfl) rfl rfl) rfl rfl) rfl rfl), (show PIp (m.1 226) (m75.1 233) (m.1 232) (m75.2 106) (m.2 91) (m75.2 92) (m75.2 94) by rewrite [(show (m75.1 233) = ((m.1 233) + 1) from ((fr1 Fm75 233 rfl).trans (fr1 Fm73 233 rfl))), (show (m75.2 106) = (upI (m5.2 106) 0 ((m.1 233) % 128)) from ((fr2 Fm75 106 rfl).trans ((fr2 Fm73 106 rfl).trans (fr2 Fm70 106 rfl)))), (show (m75.2 92) = (m.2 92) from ((fr2 Fm75 92 rfl).trans ((fr2 Fm73 92 rfl).trans ((fr2 Fm70 92 rfl).trans (fr2 Fm5 92 rfl))))), (show (m75.2 94) = (m70.2 94) from ((fr2 Fm75 94 rfl).trans (fr2 Fm73 94 rfl)))]; first | (exact hPI) | (exfalso; omega)), (show TCp (m.1 219) (m75.2 78) (m75.2 89) (m.1 223) by first | (exact hTC) | (exfalso; omega)), (show ((m.1 235) + 1) = (m.1 235) + 1 by omega), (show (m75.1 234) ≤ ((m.1 235) + 1) by rewrite [(show (m75.1 234) = (m.1 234) from ((fr1 Fm75 234 rfl).trans ((fr1 Fm73 234 rfl).trans ((fr1 Fm70 234 rfl).trans (fr1 Fm5 234 rfl)))))]; omega), rfl⟩
                · skip
                  refine T_ld 140 (.ref 185) rfl (fun _ => rfl) ?_
                  refine K_gf 143 (.ref 187) rfl rfl kd_185 rfl rfl rfl ?_
                  refine T_ld 145 (.int (i32 v74)) rfl (fun _ => rfl) ?_
                  refine K_aaisF 146 (upI (m5.2 106) 0 ((m.1 233) % 128)) (m.2 107) rfl rfl (by omega) (by omega) Tm75 (show (m75.2 106) = (upI (m5.2 106) 0 ((m.1 233) % 128)) from ((fr2 Fm75 106 rfl).trans ((fr2 Fm73 106 rfl).trans (fr2 Fm70 106 rfl)))) (show (m75.2 107) = (m.2 107) from ((fr2 Fm75 107 rfl).trans ((fr2 Fm73 107 rfl).trans ((fr2 Fm70 107 rfl).trans (fr2 Fm5 107 rfl))))) ?_ (fun h87 h88 ok89 => ?_)
                  · skip
                    refine T_sto 148 [(5, .null), (0, .ref 185), (1, .int (i32 ((m.1 226) - 1))), (4, .int (i32 v74))] rfl (fun _ => rfl) ?_
                    refine T_ld 150 (.null) rfl (fun _ => rfl) ?_
                    refine T_pop 168 rfl (fun _ => rfl) ?_
                    refine T_iinc 171 [(4, .int (i32 (v74 + 1))), (5, .null), (0, .ref 185), (1, .int (i32 ((m.1 226) - 1)))] rfl rfl (by decide) rfl rfl ?_
                    refine T_goto 133 rfl (fun _ => rfl) ?_
                    refine Tm_lv (a := [(0, .ref 185), (1, .int (i32 ((m.1 226) - 1))), (4, .int (i32 (v74 + 1)))]) rfl rfl ⟨rfl, rfl, rfl, trivial⟩ ?_
                    exact ih84 (v74 + 1) (mO m75 [] []) (r32 (by omega) (by omega)) Tm75 (fr_m (fr_s Fm75 (fr_m fr_0 rfl rfl) rfl rfl) rfl rfl) (show 0 ≤ (v74 + 1) by omega) (show 0 ≤ (v74 + 1) ∧ (v74 + 1) ≤ 12 by omega) (show TCp (m.1 219) (m75.2 78) (m75.2 89) (m.1 223) by exact hTC) (show 20 - (v74 + 1) < (n83 : Int) by omega)
                  have ok90 : OKr m ((upI (m5.2 106) 0 ((m.1 233) % 128)) v74) := OKr_c (show (m75.2 107) = (m.2 107) from ((fr2 Fm75 107 rfl).trans ((fr2 Fm73 107 rfl).trans ((fr2 Fm70 107 rfl).trans (fr2 Fm5 107 rfl))))).symm (show (m75.2 108) = (m.2 108) from ((fr2 Fm75 108 rfl).trans ((fr2 Fm73 108 rfl).trans ((fr2 Fm70 108 rfl).trans (fr2 Fm5 108 rfl))))).symm ok89
                  refine T_sto 148 [(5, .ref (obq (m.2 107) ((upI (m5.2 106) 0 ((m.1 233) % 128)) v74))), (0, .ref 185), (1, .int (i32 ((m.1 226) - 1))), (4, .int (i32 v74))] rfl (fun _ => rfl) ?_
                  refine T_ld 150 (.ref (obq (m.2 107) ((upI (m5.2 106) 0 ((m.1 233) % 128)) v74))) rfl (fun _ => rfl) ?_
                  refine T_pop 153 rfl (fun _ => rfl) ?_
                  refine T_ld 155 (.ref (obq (m.2 107) ((upI (m5.2 106) 0 ((m.1 233) % 128)) v74))) rfl (fun _ => rfl) ?_
                  refine T_ld 156 (.ref 185) rfl (fun _ => rfl) ?_
                  refine K_gf 159 (.ref 12) rfl rfl kd_185 rfl rfl rfl ?_
                  refine T_ld 161 (.int (i32 v74)) rfl (fun _ => rfl) ?_
                  refine T_ld 162 (.ref 185) rfl (fun _ => rfl) ?_
                  refine K_gf 165 (.ref 188) rfl rfl kd_185 rfl rfl rfl ?_
                  refine T_callx 168 186 [.ref (obq (m.2 107) ((upI (m5.2 106) 0 ((m.1 233) % 128)) v74)), .ref 12, .int (i32 v74), .ref 188] [] rfl (inv_vt (args := [.ref 188, .int (i32 v74), .ref 12]) (obe_c (congrArg (fun f : Int → Int => (f ((upI (m5.2 106) 0 ((m.1 233) % 128)) v74)).toNat) (show (m75.2 107) = (m.2 107) from ((fr2 Fm75 107 rfl).trans ((fr2 Fm73 107 rfl).trans ((fr2 Fm70 107 rfl).trans (fr2 Fm5 107 rfl)))))) (khp_o0 _ (OKr_c (show (m75.2 107) = (m.2 107) from ((fr2 Fm75 107 rfl).trans ((fr2 Fm73 107 rfl).trans ((fr2 Fm70 107 rfl).trans (fr2 Fm5 107 rfl))))) (show (m75.2 108) = (m.2 108) from ((fr2 Fm75 108 rfl).trans ((fr2 Fm73 108 rfl).trans ((fr2 Fm70 108 rfl).trans (fr2 Fm5 108 rfl))))) ok90))) rfl rfl rfl) rfl rfl (TC_cast (fun g9 => [.ref (obq g9 ((upI (m5.2 106) 0 ((m.1 233) % 128)) v74)), .ref 12, .int (i32 v74), .ref 188]) (show (m75.2 107) = (m.2 107) from ((fr2 Fm75 107 rfl).trans ((fr2 Fm73 107 rfl).trans ((fr2 Fm70 107 rfl).trans (fr2 Fm5 107 rfl))))) (c_op_work w (mO m75 [] []) c N D (by omega) Tm75 ((upI (m5.2 106) 0 ((m.1 233) % 128)) v74) v74 (r32 (by omega) (by omega)) (r32 (by omega) (by omega)) (OKr_c (show (m75.2 107) = (m.2 107) from ((fr2 Fm75 107 rfl).trans ((fr2 Fm73 107 rfl).trans ((fr2 Fm70 107 rfl).trans (fr2 Fm5 107 rfl))))) (show (m75.2 108) = (m.2 108) from ((fr2 Fm75 108 rfl).trans ((fr2 Fm73 108 rfl).trans ((fr2 Fm70 108 rfl).trans (fr2 Fm5 108 rfl))))) ok90) (show NKp (m75.2 18) (m75.2 19) by rewrite [(show (m75.2 18) = (m.2 18) from ((fr2 Fm75 18 rfl).trans ((fr2 Fm73 18 rfl).trans ((fr2 Fm70 18 rfl).trans (fr2 Fm5 18 rfl))))), (show (m75.2 19) = (m.2 19) from ((fr2 Fm75 19 rfl).trans ((fr2 Fm73 19 rfl).trans ((fr2 Fm70 19 rfl).trans (fr2 Fm5 19 rfl)))))]; exact hNK) (show DEp (m75.1 224) (m75.2 45) (m75.2 46) (m75.2 47) (m75.2 49) by rewrite [(show (m75.1 224) = (m.1 224) from ((fr1 Fm75 224 rfl).trans ((fr1 Fm73 224 rfl).trans ((fr1 Fm70 224 rfl).trans (fr1 Fm5 224 rfl))))), (show (m75.2 45) = (m.2 45) from ((fr2 Fm75 45 rfl).trans ((fr2 Fm73 45 rfl).trans ((fr2 Fm70 45 rfl).trans (fr2 Fm5 45 rfl))))), (show (m75.2 46) = (m.2 46) from ((fr2 Fm75 46 rfl).trans ((fr2 Fm73 46 rfl).trans ((fr2 Fm70 46 rfl).trans (fr2 Fm5 46 rfl))))), (show (m75.2 47) = (m.2 47) from ((fr2 Fm75 47 rfl).trans ((fr2 Fm73 47 rfl).trans ((fr2 Fm70 47 rfl).trans (fr2 Fm5 47 rfl))))), (show (m75.2 49) = (m.2 49) from ((fr2 Fm75 49 rfl).trans ((fr2 Fm73 49 rfl).trans ((fr2 Fm70 49 rfl).trans (fr2 Fm5 49 rfl)))))]; exact hDE) (show AcP (m75.1 223) (m75.1 224) (m75.2 43) (m75.2 44) by rewrite [(show (m75.1 223) = (m.1 223) from ((fr1 Fm75 223 rfl).trans ((fr1 Fm73 223 rfl).trans ((fr1 Fm70 223 rfl).trans (fr1 Fm5 223 rfl))))), (show (m75.1 224) = (m.1 224) from ((fr1 Fm75 224 rfl).trans ((fr1 Fm73 224 rfl).trans ((fr1 Fm70 224 rfl).trans (fr1 Fm5 224 rfl))))), (show (m75.2 43) = (m.2 43) from ((fr2 Fm75 43 rfl).trans ((fr2 Fm73 43 rfl).trans ((fr2 Fm70 43 rfl).trans (fr2 Fm5 43 rfl))))), (show (m75.2 44) = (m.2 44) from ((fr2 Fm75 44 rfl).trans ((fr2 Fm73 44 rfl).trans ((fr2 Fm70 44 rfl).trans (fr2 Fm5 44 rfl)))))]; exact hAC) (show TLp (m75.1 219) (m75.2 73) (m75.2 83) (m75.1 223) by rewrite [(show (m75.1 219) = (m.1 219) from ((fr1 Fm75 219 rfl).trans ((fr1 Fm73 219 rfl).trans ((fr1 Fm70 219 rfl).trans (fr1 Fm5 219 rfl))))), (show (m75.2 73) = (m.2 73) from ((fr2 Fm75 73 rfl).trans ((fr2 Fm73 73 rfl).trans ((fr2 Fm70 73 rfl).trans (fr2 Fm5 73 rfl))))), (show (m75.2 83) = (m.2 83) from ((fr2 Fm75 83 rfl).trans ((fr2 Fm73 83 rfl).trans ((fr2 Fm70 83 rfl).trans (fr2 Fm5 83 rfl))))), (show (m75.1 223) = (m.1 223) from ((fr1 Fm75 223 rfl).trans ((fr1 Fm73 223 rfl).trans ((fr1 Fm70 223 rfl).trans (fr1 Fm5 223 rfl)))))]; exact hTL) (show LTp (m75.1 219) (m75.2 74) (m75.1 223) by rewrite [(show (m75.1 219) = (m.1 219) from ((fr1 Fm75 219 rfl).trans ((fr1 Fm73 219 rfl).trans ((fr1 Fm70 219 rfl).trans (fr1 Fm5 219 rfl))))), (show (m75.2 74) = (m.2 74) from ((fr2 Fm75 74 rfl).trans ((fr2 Fm73 74 rfl).trans ((fr2 Fm70 74 rfl).trans (fr2 Fm5 74 rfl))))), (show (m75.1 223) = (m.1 223) from ((fr1 Fm75 223 rfl).trans ((fr1 Fm73 223 rfl).trans ((fr1 Fm70 223 rfl).trans (fr1 Fm5 223 rfl)))))]; exact hTD) (show TCp (m75.1 219) (m75.2 78) (m75.2 89) (m75.1 223) by rewrite [(show (m75.1 219) = (m.1 219) from ((fr1 Fm75 219 rfl).trans ((fr1 Fm73 219 rfl).trans ((fr1 Fm70 219 rfl).trans (fr1 Fm5 219 rfl))))), (show (m75.1 223) = (m.1 223) from ((fr1 Fm75 223 rfl).trans ((fr1 Fm73 223 rfl).trans ((fr1 Fm70 223 rfl).trans (fr1 Fm5 223 rfl)))))]; exact hTC) (show SPp (m75.1 225) (m75.2 52) (m75.2 58) (m75.2 55) (m75.2 56) (m75.1 219) (m75.1 224) by rewrite [(show (m75.1 225) = (m.1 225) from ((fr1 Fm75 225 rfl).trans ((fr1 Fm73 225 rfl).trans ((fr1 Fm70 225 rfl).trans (fr1 Fm5 225 rfl))))), (show (m75.2 52) = (m.2 52) from ((fr2 Fm75 52 rfl).trans ((fr2 Fm73 52 rfl).trans ((fr2 Fm70 52 rfl).trans (fr2 Fm5 52 rfl))))), (show (m75.2 58) = (m.2 58) from ((fr2 Fm75 58 rfl).trans ((fr2 Fm73 58 rfl).trans ((fr2 Fm70 58 rfl).trans (fr2 Fm5 58 rfl))))), (show (m75.2 55) = (m.2 55) from ((fr2 Fm75 55 rfl).trans ((fr2 Fm73 55 rfl).trans ((fr2 Fm70 55 rfl).trans (fr2 Fm5 55 rfl))))), (show (m75.2 56) = (m.2 56) from ((fr2 Fm75 56 rfl).trans ((fr2 Fm73 56 rfl).trans ((fr2 Fm70 56 rfl).trans (fr2 Fm5 56 rfl))))), (show (m75.1 219) = (m.1 219) from ((fr1 Fm75 219 rfl).trans ((fr1 Fm73 219 rfl).trans ((fr1 Fm70 219 rfl).trans (fr1 Fm5 219 rfl))))), (show (m75.1 224) = (m.1 224) from ((fr1 Fm75 224 rfl).trans ((fr1 Fm73 224 rfl).trans ((fr1 Fm70 224 rfl).trans (fr1 Fm5 224 rfl)))))]; exact hSP) (show 0 ≤ v74 ∧ v74 ≤ 11 by omega))) (fun rr91 k92 => ?_)
                  obtain ⟨m93, Tm93, Fm93, h94, rfl⟩ := k92
                  refine Or.inl ⟨_, _, _, _, rfl, ?_⟩
                  refine K_nb (st' := []) rfl ?_
                  replace h94 : TCp (m75.1 219) (m93.2 78) (m93.2 89) (m75.1 223) := h94
                  rewrite [(show (m75.1 219) = (m.1 219) from ((fr1 Fm75 219 rfl).trans ((fr1 Fm73 219 rfl).trans ((fr1 Fm70 219 rfl).trans (fr1 Fm5 219 rfl))))), (show (m75.1 223) = (m.1 223) from ((fr1 Fm75 223 rfl).trans ((fr1 Fm73 223 rfl).trans ((fr1 Fm70 223 rfl).trans (fr1 Fm5 223 rfl)))))] at h94
                  have hTC := h94
                  refine T_iinc 171 [(4, .int (i32 (v74 + 1))), (5, .ref (obq (m.2 107) ((upI (m5.2 106) 0 ((m.1 233) % 128)) v74))), (0, .ref 185), (1, .int (i32 ((m.1 226) - 1)))] rfl rfl (by decide) rfl rfl ?_
                  refine T_goto 133 rfl (fun _ => rfl) ?_
                  refine Tm_lv (a := [(0, .ref 185), (1, .int (i32 ((m.1 226) - 1))), (4, .int (i32 (v74 + 1)))]) rfl rfl ⟨rfl, rfl, rfl, trivial⟩ ?_
                  exact ih84 (v74 + 1) (mO m93 [] []) (r32 (by omega) (by omega)) Tm93 (fr_m (fr_s Fm93 (fr_m (fr_s Fm75 (fr_m fr_0 rfl rfl) rfl rfl) rfl rfl) rfl rfl) rfl rfl) (show 0 ≤ (v74 + 1) by omega) (show 0 ≤ (v74 + 1) ∧ (v74 + 1) ≤ 12 by omega) (show TCp (m.1 219) (m93.2 78) (m93.2 89) (m.1 223) by exact hTC) (show 20 - (v74 + 1) < (n83 : Int) by omega)
            refine Tm_lv (a := [(0, .ref 185), (1, .int (i32 ((m.1 226) - 1))), (4, .int (i32 0))]) rfl rfl ⟨rfl, rfl, rfl, trivial⟩ ?_
            exact L133_76 ((20 - (0 : Int) : Int) + 1).toNat 0 (mO m73 [] []) ⟨by decide, by decide⟩ Tm73 (fr_m fr_0 rfl rfl) (show 0 ≤ (0 : Int) by omega) (show 0 ≤ (0 : Int) ∧ (0 : Int) ≤ 12 by omega) (show TCp (m.1 219) (m73.2 78) (m73.2 89) (m.1 223) by rewrite [(show (m73.2 78) = (m.2 78) from ((fr2 Fm73 78 rfl).trans ((fr2 Fm70 78 rfl).trans (fr2 Fm5 78 rfl)))), (show (m73.2 89) = (m.2 89) from ((fr2 Fm73 89 rfl).trans ((fr2 Fm70 89 rfl).trans (fr2 Fm5 89 rfl))))]; exact hTC) (show 20 - (0 : Int) < ((((20 - (0 : Int) : Int) + 1).toNat : Nat) : Int) by omega)
        · skip
          refine T_ld 53 (.ref 185) rfl (fun _ => rfl) ?_
          refine K_gf 56 (.ref 187) rfl rfl kd_185 rfl rfl rfl ?_
          refine T_ld 57 (.int (i32 v4)) rfl (fun _ => rfl) ?_
          refine T_ld 58 (.ref 185) rfl (fun _ => rfl) ?_
          refine K_gf 61 (.ref 187) rfl rfl kd_185 rfl rfl rfl ?_
          refine T_ld 62 (.int (i32 v4)) rfl (fun _ => rfl) ?_
          refine T_ld 63 (.int (i32 1)) rfl (fun _ => rfl) ?_
          refine T_isub 64 rfl rfl ?_
          refine K_aaisF 65 (m5.2 106) (m.2 107) rfl rfl (by omega) (by omega) Tm5 rfl (show (m5.2 107) = (m.2 107) from (fr2 Fm5 107 rfl)) ?_ (fun h95 h96 ok97 => ?_)
          · skip
            have G98 : ∀ j, (-1) ≤ (upI (m5.2 106) v4 (-1)) j ∧ (upI (m5.2 106) v4 (-1)) j ≤ 127 := upI_rg (Tm5.2.1 106) ⟨by omega, by omega⟩
            refine K_aasn (a' := [(106, upI (m5.2 106) v4 (-1))]) 66 (m5.2 106) rfl rfl (by omega) (by omega) Tm5 rfl rfl ?_
            refine T_iinc 69 [(3, .int (i32 (v4 + (-1)))), (0, .ref 185), (1, .int (i32 ((m.1 226) - 1)))] rfl rfl (by decide) rfl rfl ?_
            refine T_goto 48 rfl (fun _ => rfl) ?_
            refine Tm_lv (a := [(0, .ref 185), (1, .int (i32 ((m.1 226) - 1))), (3, .int (i32 (v4 + (-1))))]) rfl rfl ⟨rfl, rfl, rfl, trivial⟩ ?_
            exact ih15 (v4 + (-1)) (mO m5 [] [(106, upI (m5.2 106) v4 (-1))]) (r32 (by omega) (by omega)) (KTy_mO Tm5 rfl rfl trivial ⟨G98, trivial⟩) (fr_m (fr_s Fm5 (fr_m fr_0 rfl rfl) rfl rfl) rfl rfl) (show (-1) ≤ (v4 + (-1)) by omega) (show (v4 + (-1)) ≤ 11 by omega) (show 0 ≤ (v4 + (-1)) ∧ (v4 + (-1)) ≤ ((m.1 226) - 1) by omega) (show SHp (v4 + (-1)) ((m.1 226) - 1) (m.2 106) (upI (m5.2 106) v4 (-1)) by first | exact SH_0 rfl | exact SH_s hSH (by omega) (by omega) (Or.inl rfl) (by omega) | exact SH_s hSH (by omega) (by omega) (Or.inr (by decide)) (by omega)) (show (v4 + (-1)) + 1 < (n14 : Int) by omega)
          have ok99 : OKr m ((m5.2 106) (v4 - 1)) := OKr_c (show (m5.2 107) = (m.2 107) from (fr2 Fm5 107 rfl)).symm (show (m5.2 108) = (m.2 108) from (fr2 Fm5 108 rfl)).symm ok97
          have G100 : ∀ j, (-1) ≤ (upI (m5.2 106) v4 ((m5.2 106) (v4 - 1))) j ∧ (upI (m5.2 106) v4 ((m5.2 106) (v4 - 1))) j ≤ 127 := upI_rg (Tm5.2.1 106) ⟨by omega, by omega⟩
          refine K_aaso (a' := [(106, upI (m5.2 106) v4 ((m5.2 106) (v4 - 1)))]) 66 (m5.2 106) rfl rfl (by omega) (by omega) Tm5 (OKr_c (show (m5.2 107) = (m.2 107) from (fr2 Fm5 107 rfl)) (show (m5.2 108) = (m.2 108) from (fr2 Fm5 108 rfl)) ok99) (congrArg (fun f : Int → Int => (f ((m5.2 106) (v4 - 1))).toNat) (show (m5.2 107) = (m.2 107) from (fr2 Fm5 107 rfl))) rfl rfl ?_
          refine T_iinc 69 [(3, .int (i32 (v4 + (-1)))), (0, .ref 185), (1, .int (i32 ((m.1 226) - 1)))] rfl rfl (by decide) rfl rfl ?_
          refine T_goto 48 rfl (fun _ => rfl) ?_
          refine Tm_lv (a := [(0, .ref 185), (1, .int (i32 ((m.1 226) - 1))), (3, .int (i32 (v4 + (-1))))]) rfl rfl ⟨rfl, rfl, rfl, trivial⟩ ?_
          exact ih15 (v4 + (-1)) (mO m5 [] [(106, upI (m5.2 106) v4 ((m5.2 106) (v4 - 1)))]) (r32 (by omega) (by omega)) (KTy_mO Tm5 rfl rfl trivial ⟨G100, trivial⟩) (fr_m (fr_s Fm5 (fr_m fr_0 rfl rfl) rfl rfl) rfl rfl) (show (-1) ≤ (v4 + (-1)) by omega) (show (v4 + (-1)) ≤ 11 by omega) (show 0 ≤ (v4 + (-1)) ∧ (v4 + (-1)) ≤ ((m.1 226) - 1) by omega) (show SHp (v4 + (-1)) ((m.1 226) - 1) (m.2 106) (upI (m5.2 106) v4 ((m5.2 106) (v4 - 1))) by first | exact SH_0 rfl | exact SH_s hSH (by omega) (by omega) (Or.inl rfl) (by omega) | exact SH_s hSH (by omega) (by omega) (Or.inr (by decide)) (by omega)) (show (v4 + (-1)) + 1 < (n14 : Int) by omega)
    refine Tm_lv (a := [(0, .ref 185), (1, .int (i32 ((m.1 226) - 1))), (3, .int (i32 ((m.1 226) - 1)))]) rfl rfl ⟨rfl, rfl, rfl, trivial⟩ ?_
    exact L48_6 ((((m.1 226) - 1) + 1 : Int) + 1).toNat ((m.1 226) - 1) (mO m [] []) (r32 (by omega) (by omega)) hT (fr_m fr_0 rfl rfl) (show (-1) ≤ ((m.1 226) - 1) by omega) (show ((m.1 226) - 1) ≤ 11 by omega) (show 0 ≤ ((m.1 226) - 1) ∧ ((m.1 226) - 1) ≤ ((m.1 226) - 1) by omega) (show SHp ((m.1 226) - 1) ((m.1 226) - 1) (m.2 106) (m.2 106) by first | exact SH_0 rfl | exact SH_s hSH (by omega) (by omega) (Or.inl rfl) (by omega) | exact SH_s hSH (by omega) (by omega) (Or.inr (by decide)) (by omega)) (show ((m.1 226) - 1) + 1 < ((((((m.1 226) - 1) + 1 : Int) + 1).toNat : Nat) : Int) by omega)
  have ok101 : OKr m ((m.2 106) ((m.1 226) - 1)) := OKr_c rfl.symm rfl.symm ok3
  refine T_sto 20 [(2, .ref (obq (m.2 107) ((m.2 106) ((m.1 226) - 1)))), (1, .int (i32 ((m.1 226) - 1))), (0, .ref 185)] rfl (fun _ => rfl) ?_
  refine T_ld 21 (.ref (obq (m.2 107) ((m.2 106) ((m.1 226) - 1)))) rfl (fun _ => rfl) ?_
  refine T_pop 24 rfl (fun _ => rfl) ?_
  refine T_ld 25 (.ref (obq (m.2 107) ((m.2 106) ((m.1 226) - 1)))) rfl (fun _ => rfl) ?_
  refine T_ld 26 (.ref 185) rfl (fun _ => rfl) ?_
  refine K_gf 29 (.ref 12) rfl rfl kd_185 rfl rfl rfl ?_
  refine T_ld 30 (.ref 185) rfl (fun _ => rfl) ?_
  refine K_gf 33 (.int (i32 (m.1 235))) rfl rfl kd_185 rfl rfl rfl ?_
  have hLp := PI_lv hPI (g := ((m.1 226) - 1)) (by omega) (by omega) (by omega)
  refine T_callx 36 178 [.ref (obq (m.2 107) ((m.2 106) ((m.1 226) - 1))), .ref 12, .int (i32 (m.1 235))] [] rfl (inv_vt (args := [.int (i32 (m.1 235)), .ref 12]) (obe_c rfl (khp_o0 _ ok101)) rfl rfl rfl) rfl rfl (c_op_leave w (mO m [] []) c N D (by omega) hT ((m.2 106) ((m.1 226) - 1)) (m.1 235) (r32 (by omega) (by omega)) (r32 (by omega) (by omega)) ok101 (show HBp (m.1 214) (m.2 10) by exact hHB) (show IHp (m.1 215) (m.2 13) (m.1 214) by exact hIH) (show LTp (m.1 218) (m.2 17) (m.1 215) by exact hEM) (show 0 ≤ (m.1 235) ∧ (m.1 235) ≤ 100000000 by omega) (show (m.2 91) ((m.2 106) ((m.1 226) - 1)) = 0 → (m.2 92) ((m.2 106) ((m.1 226) - 1)) ≤ 128 ∧ (m.2 94) ((m.2 106) ((m.1 226) - 1)) ≤ (m.2 92) ((m.2 106) ((m.1 226) - 1)) by exact hLp)) (fun rr102 k103 => ?_)
  obtain ⟨m104, Tm104, Fm104, h105, rfl⟩ := k103
  refine Or.inl ⟨_, _, _, _, rfl, ?_⟩
  refine K_nb (st' := []) rfl ?_
  replace h105 : ∀ v, v ≠ ((m.2 106) ((m.1 226) - 1)) → (m104.2 92) v = (m.2 92) v := h105
  have hLv := h105
  refine T_ld 37 (.ref 185) rfl (fun _ => rfl) ?_
  refine T_ld 38 (.ref 185) rfl (fun _ => rfl) ?_
  refine K_gf 41 (.int (i32 (m.1 234))) rfl rfl kd_185 rfl (kval_c2 (k := 234) (F := fun x => .int (i32 x)) rfl (show (m104.1 234) = (m.1 234) from (fr1 Fm104 234 rfl))) rfl ?_
  refine T_ld 42 (.int (i32 1)) rfl (fun _ => rfl) ?_
  refine T_iadd 43 rfl rfl ?_
  refine K_pf (l' := [(234, (m.1 234) + 1)]) 46 ((m.1 234) + 1) rfl rfl kd_185 rfl rfl rfl rfl rfl rfl rfl ?_
  have g106 : 0 ≤ (m.1 234) + 1 ∧ (m.1 234) + 1 ≤ 1000000 := ⟨by omega, by omega⟩
  have hLn : ∀ v, v ≠ (m.2 106) ((m.1 226) - 1) → (m104.2 92) v = (m.2 92) v := by first | exact hLv | exact fun v _ => rfl
  refine T_ld 47 (.int (i32 ((m.1 226) - 1))) rfl (fun _ => rfl) ?_
  refine T_sto 48 [(3, .int (i32 ((m.1 226) - 1))), (2, .ref (obq (m.2 107) ((m.2 106) ((m.1 226) - 1)))), (1, .int (i32 ((m.1 226) - 1))), (0, .ref 185)] rfl (fun _ => rfl) ?_
  refine K_fl (KTy_mO Tm104 rfl rfl ⟨g106, trivial⟩ trivial) (fun m107 Tm107 Fm107 => ?_)
  have L48_110 : ∀ (n118 : Nat) (v108 : Int) (m109 : mR), (R32 v108) → KTy m109 → fr [] [106] (mO m107 [] []) m109 → ((-1) ≤ v108) → (v108 ≤ 11) → (0 ≤ v108 ∧ v108 ≤ ((m.1 226) - 1)) → (SHp v108 ((m.1 226) - 1) (m.2 106) (m109.2 106)) → v108 + 1 < (n118 : Int) → TT w D pm_177 (48, [(0, .ref 185), (1, .int (i32 ((m.1 226) - 1))), (3, .int (i32 v108))], [], (khp (mO m109 [] []) c, N), 0, 0) (Q_pi_cycle m c N) := by
    intro n118
    induction n118 with
    | zero =>
      intro v108 m109 q115 Tm109 Fm109 ic111 ic112 ic113 ic114 hmu
      obtain ⟨q115a, q115b⟩ := id q115
      have hSH := ic114
      exfalso
      omega
    | succ n118 ih =>
      intro v108 m109 q115 Tm109 Fm109 ic111 ic112 ic113 ic114 hmu
      obtain ⟨q115a, q115b⟩ := id q115
      have hSH := ic114
      have ih119 := ih
      refine T_ld 49 (.int (i32 v108)) rfl (fun _ => rfl) ?_
      refine T_if 72 52 rfl rfl rfl (r32 (by omega) (by omega)) (fun (h120 : v108 ≤ 0) => ?_) (fun (h120 : ¬ (v108 ≤ 0)) => ?_)
      · skip
        have hSZ := SH_z hSH (show v108 = 0 by omega)
        refine T_ld 73 (.ref 185) rfl (fun _ => rfl) ?_
        refine K_gf 76 (.int (i32 (m.1 233))) rfl rfl kd_185 rfl (kval_c2 (k := 233) (F := fun x => .int (i32 x)) rfl (show (m109.1 233) = (m.1 233) from ((fr1 Fm109 233 rfl).trans ((fr1 Fm107 233 rfl).trans (fr1 Fm104 233 rfl))))) rfl ?_
        refine T_ld 77 (.ref 185) rfl (fun _ => rfl) ?_
        refine K_gf 80 (.int (i32 (m.1 232))) rfl rfl kd_185 rfl (kval_c2 (k := 232) (F := fun x => .int (i32 x)) rfl (show (m109.1 232) = (m.1 232) from ((fr1 Fm109 232 rfl).trans ((fr1 Fm107 232 rfl).trans (fr1 Fm104 232 rfl))))) rfl ?_
        refine T_icmp 99 83 rfl rfl rfl (r32 (by omega) (by omega)) (r32 (by omega) (by omega)) (fun (h121 : (m.1 232) ≤ (m.1 233)) => ?_) (fun (h121 : ¬ ((m.1 232) ≤ (m.1 233))) => ?_)
        · skip
          refine T_ld 100 .null rfl (fun _ => rfl) ?_
          refine T_sto 101 [(3, .null), (0, .ref 185), (1, .int (i32 ((m.1 226) - 1)))] rfl (fun _ => rfl) ?_
          refine T_ld 102 (.ref 185) rfl (fun _ => rfl) ?_
          refine K_gf 105 (.ref 187) rfl rfl kd_185 rfl rfl rfl ?_
          refine T_ld 106 (.int (i32 0)) rfl (fun _ => rfl) ?_
          refine T_ld 107 (.null) rfl (fun _ => rfl) ?_
          have G122 : ∀ j, (-1) ≤ (upI (m109.2 106) 0 (-1)) j ∧ (upI (m109.2 106) 0 (-1)) j ≤ 127 := upI_rg (Tm109.2.1 106) ⟨by omega, by omega⟩
          refine K_aasn (a' := [(106, upI (m109.2 106) 0 (-1))]) 108 (m109.2 106) rfl rfl (by omega) (by omega) Tm109 rfl rfl ?_
          refine T_ld 109 (.null) rfl (fun _ => rfl) ?_
          refine T_pop 130 rfl (fun _ => rfl) ?_
          have hPI : PIp (m.1 226) (m.1 233) (m.1 232) (upI (m109.2 106) 0 (-1)) (m.2 91) (m104.2 92) (m.2 94) := by first | exact PI_cy hPI rfl ⟨by omega, by omega⟩ hLn hSZ (Or.inl ⟨by omega, rfl, rfl⟩) | exact PI_cy hPI rfl ⟨by omega, by omega⟩ hLn hSZ (Or.inr ⟨rfl, by omega, by omega, hEn.1, hEn.2⟩)
          refine T_ld 131 (.int (i32 0)) rfl (fun _ => rfl) ?_
          refine T_sto 133 [(4, .int (i32 0)), (3, .null), (0, .ref 185), (1, .int (i32 ((m.1 226) - 1)))] rfl (fun _ => rfl) ?_
          refine K_fl (KTy_mO Tm109 rfl rfl trivial ⟨G122, trivial⟩) (fun m123 Tm123 Fm123 => ?_)
          have L133_126 : ∀ (n133 : Nat) (v124 : Int) (m125 : mR), (R32 v124) → KTy m125 → fr [] [25, 71, 78, 85, 86, 87, 88, 89, 90, 98, 101, 102, 103, 104, 105] (mO m123 [] []) m125 → (0 ≤ v124) → (0 ≤ v124 ∧ v124 ≤ 12) → (TCp (m.1 219) (m125.2 78) (m125.2 89) (m.1 223)) → 20 - v124 < (n133 : Int) → TT w D pm_177 (133, [(0, .ref 185), (1, .int (i32 ((m.1 226) - 1))), (4, .int (i32 v124))], [], (khp (mO m125 [] []) c, N), 0, 0) (Q_pi_cycle m c N) := by
            intro n133
            induction n133 with
            | zero =>
              intro v124 m125 q130 Tm125 Fm125 ic127 ic128 ic129 hmu
              obtain ⟨q130a, q130b⟩ := id q130
              have hTC := ic129
              exfalso
              omega
            | succ n133 ih =>
              intro v124 m125 q130 Tm125 Fm125 ic127 ic128 ic129 hmu
              obtain ⟨q130a, q130b⟩ := id q130
              have hTC := ic129
              have ih134 := ih
              refine T_ld 135 (.int (i32 v124)) rfl (fun _ => rfl) ?_
              refine T_ld 136 (.int (i32 ((m.1 226) - 1))) rfl (fun _ => rfl) ?_
              refine T_icmp 174 139 rfl rfl rfl (r32 (by omega) (by omega)) (r32 (by omega) (by omega)) (fun (h135 : (m.1 226) - 1 < v124) => ?_) (fun (h135 : ¬ ((m.1 226) - 1 < v124)) => ?_)
              · skip
                refine T_ld 175 (.ref 185) rfl (fun _ => rfl) ?_
                refine T_ld 176 (.ref 185) rfl (fun _ => rfl) ?_
                refine K_gf 179 (.int (i32 (m.1 235))) rfl rfl kd_185 rfl (kval_c2 (k := 235) (F := fun x => .int (i32 x)) rfl (show (m125.1 235) = (m.1 235) from ((fr1 Fm125 235 rfl).trans ((fr1 Fm123 235 rfl).trans ((fr1 Fm109 235 rfl).trans ((fr1 Fm107 235 rfl).trans (fr1 Fm104 235 rfl))))))) rfl ?_
                refine T_ld 180 (.int (i32 1)) rfl (fun _ => rfl) ?_
                refine T_iadd 181 rfl rfl ?_
                refine K_pf (l' := [(235, (m.1 235) + 1)]) 184 ((m.1 235) + 1) rfl rfl kd_185 rfl rfl rfl rfl rfl rfl rfl ?_
                have g136 : 0 ≤ (m.1 235) + 1 ∧ (m.1 235) + 1 ≤ 100000000 := ⟨by omega, by omega⟩
                refine T_ret rfl (fun _ => rfl) ?_
                exact ⟨(mO m125 [(235, (m.1 235) + 1)] []), (KTy_mO Tm125 rfl rfl ⟨g136, trivial⟩ trivial), (fr_m (fr_s Fm125 (fr_m (fr_s Fm123 (fr_m (fr_s Fm109 (fr_m (fr_s Fm107 (fr_m (fr_s Fm104 (fr_m fr_0 rfl rfl) rfl rfl) rfl rfl) rfl rfl) rfl rfl) rfl rfl) rfl rfl) rfl rfl) rfl rfl) rfl rfl) rfl rfl), (show PIp (m.1 226) (m125.1 233) (m.1 232) (m125.2 106) (m.2 91) (m125.2 92) (m125.2 94) by rewrite [(show (m125.1 233) = (m.1 233) from ((fr1 Fm125 233 rfl).trans ((fr1 Fm123 233 rfl).trans ((fr1 Fm109 233 rfl).trans ((fr1 Fm107 233 rfl).trans (fr1 Fm104 233 rfl)))))), (show (m125.2 106) = (upI (m109.2 106) 0 (-1)) from ((fr2 Fm125 106 rfl).trans (fr2 Fm123 106 rfl))), (show (m125.2 92) = (m104.2 92) from ((fr2 Fm125 92 rfl).trans ((fr2 Fm123 92 rfl).trans ((fr2 Fm109 92 rfl).trans (fr2 Fm107 92 rfl))))), (show (m125.2 94) = (m.2 94) from ((fr2 Fm125 94 rfl).trans ((fr2 Fm123 94 rfl).trans ((fr2 Fm109 94 rfl).trans ((fr2 Fm107 94 rfl).trans (fr2 Fm104 94 rfl))))))]; first | (exact hPI) | (exfalso; omega)), (show TCp (m.1 219) (m125.2 78) (m125.2 89) (m.1 223) by first | (exact hTC) | (exfalso; omega)), (show ((m.1 235) + 1) = (m.1 235) + 1 by omega), (show (m125.1 234) ≤ ((m.1 235) + 1) by rewrite [(show (m125.1 234) = ((m.1 234) + 1) from ((fr1 Fm125 234 rfl).trans ((fr1 Fm123 234 rfl).trans ((fr1 Fm109 234 rfl).trans (fr1 Fm107 234 rfl)))))]; omega), rfl⟩
              · skip
                refine T_ld 140 (.ref 185) rfl (fun _ => rfl) ?_
                refine K_gf 143 (.ref 187) rfl rfl kd_185 rfl rfl rfl ?_
                refine T_ld 145 (.int (i32 v124)) rfl (fun _ => rfl) ?_
                refine K_aaisF 146 (upI (m109.2 106) 0 (-1)) (m.2 107) rfl rfl (by omega) (by omega) Tm125 (show (m125.2 106) = (upI (m109.2 106) 0 (-1)) from ((fr2 Fm125 106 rfl).trans (fr2 Fm123 106 rfl))) (show (m125.2 107) = (m.2 107) from ((fr2 Fm125 107 rfl).trans ((fr2 Fm123 107 rfl).trans ((fr2 Fm109 107 rfl).trans ((fr2 Fm107 107 rfl).trans (fr2 Fm104 107 rfl)))))) ?_ (fun h137 h138 ok139 => ?_)
                · skip
                  refine T_sto 148 [(5, .null), (0, .ref 185), (1, .int (i32 ((m.1 226) - 1))), (4, .int (i32 v124))] rfl (fun _ => rfl) ?_
                  refine T_ld 150 (.null) rfl (fun _ => rfl) ?_
                  refine T_pop 168 rfl (fun _ => rfl) ?_
                  refine T_iinc 171 [(4, .int (i32 (v124 + 1))), (5, .null), (0, .ref 185), (1, .int (i32 ((m.1 226) - 1)))] rfl rfl (by decide) rfl rfl ?_
                  refine T_goto 133 rfl (fun _ => rfl) ?_
                  refine Tm_lv (a := [(0, .ref 185), (1, .int (i32 ((m.1 226) - 1))), (4, .int (i32 (v124 + 1)))]) rfl rfl ⟨rfl, rfl, rfl, trivial⟩ ?_
                  exact ih134 (v124 + 1) (mO m125 [] []) (r32 (by omega) (by omega)) Tm125 (fr_m (fr_s Fm125 (fr_m fr_0 rfl rfl) rfl rfl) rfl rfl) (show 0 ≤ (v124 + 1) by omega) (show 0 ≤ (v124 + 1) ∧ (v124 + 1) ≤ 12 by omega) (show TCp (m.1 219) (m125.2 78) (m125.2 89) (m.1 223) by exact hTC) (show 20 - (v124 + 1) < (n133 : Int) by omega)
                have ok140 : OKr m ((upI (m109.2 106) 0 (-1)) v124) := OKr_c (show (m125.2 107) = (m.2 107) from ((fr2 Fm125 107 rfl).trans ((fr2 Fm123 107 rfl).trans ((fr2 Fm109 107 rfl).trans ((fr2 Fm107 107 rfl).trans (fr2 Fm104 107 rfl)))))).symm (show (m125.2 108) = (m.2 108) from ((fr2 Fm125 108 rfl).trans ((fr2 Fm123 108 rfl).trans ((fr2 Fm109 108 rfl).trans ((fr2 Fm107 108 rfl).trans (fr2 Fm104 108 rfl)))))).symm ok139
                refine T_sto 148 [(5, .ref (obq (m.2 107) ((upI (m109.2 106) 0 (-1)) v124))), (0, .ref 185), (1, .int (i32 ((m.1 226) - 1))), (4, .int (i32 v124))] rfl (fun _ => rfl) ?_
                refine T_ld 150 (.ref (obq (m.2 107) ((upI (m109.2 106) 0 (-1)) v124))) rfl (fun _ => rfl) ?_
                refine T_pop 153 rfl (fun _ => rfl) ?_
                refine T_ld 155 (.ref (obq (m.2 107) ((upI (m109.2 106) 0 (-1)) v124))) rfl (fun _ => rfl) ?_
                refine T_ld 156 (.ref 185) rfl (fun _ => rfl) ?_
                refine K_gf 159 (.ref 12) rfl rfl kd_185 rfl rfl rfl ?_
                refine T_ld 161 (.int (i32 v124)) rfl (fun _ => rfl) ?_
                refine T_ld 162 (.ref 185) rfl (fun _ => rfl) ?_
                refine K_gf 165 (.ref 188) rfl rfl kd_185 rfl rfl rfl ?_
                refine T_callx 168 186 [.ref (obq (m.2 107) ((upI (m109.2 106) 0 (-1)) v124)), .ref 12, .int (i32 v124), .ref 188] [] rfl (inv_vt (args := [.ref 188, .int (i32 v124), .ref 12]) (obe_c (congrArg (fun f : Int → Int => (f ((upI (m109.2 106) 0 (-1)) v124)).toNat) (show (m125.2 107) = (m.2 107) from ((fr2 Fm125 107 rfl).trans ((fr2 Fm123 107 rfl).trans ((fr2 Fm109 107 rfl).trans ((fr2 Fm107 107 rfl).trans (fr2 Fm104 107 rfl))))))) (khp_o0 _ (OKr_c (show (m125.2 107) = (m.2 107) from ((fr2 Fm125 107 rfl).trans ((fr2 Fm123 107 rfl).trans ((fr2 Fm109 107 rfl).trans ((fr2 Fm107 107 rfl).trans (fr2 Fm104 107 rfl)))))) (show (m125.2 108) = (m.2 108) from ((fr2 Fm125 108 rfl).trans ((fr2 Fm123 108 rfl).trans ((fr2 Fm109 108 rfl).trans ((fr2 Fm107 108 rfl).trans (fr2 Fm104 108 rfl)))))) ok140))) rfl rfl rfl) rfl rfl (TC_cast (fun g9 => [.ref (obq g9 ((upI (m109.2 106) 0 (-1)) v124)), .ref 12, .int (i32 v124), .ref 188]) (show (m125.2 107) = (m.2 107) from ((fr2 Fm125 107 rfl).trans ((fr2 Fm123 107 rfl).trans ((fr2 Fm109 107 rfl).trans ((fr2 Fm107 107 rfl).trans (fr2 Fm104 107 rfl)))))) (c_op_work w (mO m125 [] []) c N D (by omega) Tm125 ((upI (m109.2 106) 0 (-1)) v124) v124 (r32 (by omega) (by omega)) (r32 (by omega) (by omega)) (OKr_c (show (m125.2 107) = (m.2 107) from ((fr2 Fm125 107 rfl).trans ((fr2 Fm123 107 rfl).trans ((fr2 Fm109 107 rfl).trans ((fr2 Fm107 107 rfl).trans (fr2 Fm104 107 rfl)))))) (show (m125.2 108) = (m.2 108) from ((fr2 Fm125 108 rfl).trans ((fr2 Fm123 108 rfl).trans ((fr2 Fm109 108 rfl).trans ((fr2 Fm107 108 rfl).trans (fr2 Fm104 108 rfl)))))) ok140) (show NKp (m125.2 18) (m125.2 19) by rewrite [(show (m125.2 18) = (m.2 18) from ((fr2 Fm125 18 rfl).trans ((fr2 Fm123 18 rfl).trans ((fr2 Fm109 18 rfl).trans ((fr2 Fm107 18 rfl).trans (fr2 Fm104 18 rfl)))))), (show (m125.2 19) = (m.2 19) from ((fr2 Fm125 19 rfl).trans ((fr2 Fm123 19 rfl).trans ((fr2 Fm109 19 rfl).trans ((fr2 Fm107 19 rfl).trans (fr2 Fm104 19 rfl))))))]; exact hNK) (show DEp (m125.1 224) (m125.2 45) (m125.2 46) (m125.2 47) (m125.2 49) by rewrite [(show (m125.1 224) = (m.1 224) from ((fr1 Fm125 224 rfl).trans ((fr1 Fm123 224 rfl).trans ((fr1 Fm109 224 rfl).trans ((fr1 Fm107 224 rfl).trans (fr1 Fm104 224 rfl)))))), (show (m125.2 45) = (m.2 45) from ((fr2 Fm125 45 rfl).trans ((fr2 Fm123 45 rfl).trans ((fr2 Fm109 45 rfl).trans ((fr2 Fm107 45 rfl).trans (fr2 Fm104 45 rfl)))))), (show (m125.2 46) = (m.2 46) from ((fr2 Fm125 46 rfl).trans ((fr2 Fm123 46 rfl).trans ((fr2 Fm109 46 rfl).trans ((fr2 Fm107 46 rfl).trans (fr2 Fm104 46 rfl)))))), (show (m125.2 47) = (m.2 47) from ((fr2 Fm125 47 rfl).trans ((fr2 Fm123 47 rfl).trans ((fr2 Fm109 47 rfl).trans ((fr2 Fm107 47 rfl).trans (fr2 Fm104 47 rfl)))))), (show (m125.2 49) = (m.2 49) from ((fr2 Fm125 49 rfl).trans ((fr2 Fm123 49 rfl).trans ((fr2 Fm109 49 rfl).trans ((fr2 Fm107 49 rfl).trans (fr2 Fm104 49 rfl))))))]; exact hDE) (show AcP (m125.1 223) (m125.1 224) (m125.2 43) (m125.2 44) by rewrite [(show (m125.1 223) = (m.1 223) from ((fr1 Fm125 223 rfl).trans ((fr1 Fm123 223 rfl).trans ((fr1 Fm109 223 rfl).trans ((fr1 Fm107 223 rfl).trans (fr1 Fm104 223 rfl)))))), (show (m125.1 224) = (m.1 224) from ((fr1 Fm125 224 rfl).trans ((fr1 Fm123 224 rfl).trans ((fr1 Fm109 224 rfl).trans ((fr1 Fm107 224 rfl).trans (fr1 Fm104 224 rfl)))))), (show (m125.2 43) = (m.2 43) from ((fr2 Fm125 43 rfl).trans ((fr2 Fm123 43 rfl).trans ((fr2 Fm109 43 rfl).trans ((fr2 Fm107 43 rfl).trans (fr2 Fm104 43 rfl)))))), (show (m125.2 44) = (m.2 44) from ((fr2 Fm125 44 rfl).trans ((fr2 Fm123 44 rfl).trans ((fr2 Fm109 44 rfl).trans ((fr2 Fm107 44 rfl).trans (fr2 Fm104 44 rfl))))))]; exact hAC) (show TLp (m125.1 219) (m125.2 73) (m125.2 83) (m125.1 223) by rewrite [(show (m125.1 219) = (m.1 219) from ((fr1 Fm125 219 rfl).trans ((fr1 Fm123 219 rfl).trans ((fr1 Fm109 219 rfl).trans ((fr1 Fm107 219 rfl).trans (fr1 Fm104 219 rfl)))))), (show (m125.2 73) = (m.2 73) from ((fr2 Fm125 73 rfl).trans ((fr2 Fm123 73 rfl).trans ((fr2 Fm109 73 rfl).trans ((fr2 Fm107 73 rfl).trans (fr2 Fm104 73 rfl)))))), (show (m125.2 83) = (m.2 83) from ((fr2 Fm125 83 rfl).trans ((fr2 Fm123 83 rfl).trans ((fr2 Fm109 83 rfl).trans ((fr2 Fm107 83 rfl).trans (fr2 Fm104 83 rfl)))))), (show (m125.1 223) = (m.1 223) from ((fr1 Fm125 223 rfl).trans ((fr1 Fm123 223 rfl).trans ((fr1 Fm109 223 rfl).trans ((fr1 Fm107 223 rfl).trans (fr1 Fm104 223 rfl))))))]; exact hTL) (show LTp (m125.1 219) (m125.2 74) (m125.1 223) by rewrite [(show (m125.1 219) = (m.1 219) from ((fr1 Fm125 219 rfl).trans ((fr1 Fm123 219 rfl).trans ((fr1 Fm109 219 rfl).trans ((fr1 Fm107 219 rfl).trans (fr1 Fm104 219 rfl)))))), (show (m125.2 74) = (m.2 74) from ((fr2 Fm125 74 rfl).trans ((fr2 Fm123 74 rfl).trans ((fr2 Fm109 74 rfl).trans ((fr2 Fm107 74 rfl).trans (fr2 Fm104 74 rfl)))))), (show (m125.1 223) = (m.1 223) from ((fr1 Fm125 223 rfl).trans ((fr1 Fm123 223 rfl).trans ((fr1 Fm109 223 rfl).trans ((fr1 Fm107 223 rfl).trans (fr1 Fm104 223 rfl))))))]; exact hTD) (show TCp (m125.1 219) (m125.2 78) (m125.2 89) (m125.1 223) by rewrite [(show (m125.1 219) = (m.1 219) from ((fr1 Fm125 219 rfl).trans ((fr1 Fm123 219 rfl).trans ((fr1 Fm109 219 rfl).trans ((fr1 Fm107 219 rfl).trans (fr1 Fm104 219 rfl)))))), (show (m125.1 223) = (m.1 223) from ((fr1 Fm125 223 rfl).trans ((fr1 Fm123 223 rfl).trans ((fr1 Fm109 223 rfl).trans ((fr1 Fm107 223 rfl).trans (fr1 Fm104 223 rfl))))))]; exact hTC) (show SPp (m125.1 225) (m125.2 52) (m125.2 58) (m125.2 55) (m125.2 56) (m125.1 219) (m125.1 224) by rewrite [(show (m125.1 225) = (m.1 225) from ((fr1 Fm125 225 rfl).trans ((fr1 Fm123 225 rfl).trans ((fr1 Fm109 225 rfl).trans ((fr1 Fm107 225 rfl).trans (fr1 Fm104 225 rfl)))))), (show (m125.2 52) = (m.2 52) from ((fr2 Fm125 52 rfl).trans ((fr2 Fm123 52 rfl).trans ((fr2 Fm109 52 rfl).trans ((fr2 Fm107 52 rfl).trans (fr2 Fm104 52 rfl)))))), (show (m125.2 58) = (m.2 58) from ((fr2 Fm125 58 rfl).trans ((fr2 Fm123 58 rfl).trans ((fr2 Fm109 58 rfl).trans ((fr2 Fm107 58 rfl).trans (fr2 Fm104 58 rfl)))))), (show (m125.2 55) = (m.2 55) from ((fr2 Fm125 55 rfl).trans ((fr2 Fm123 55 rfl).trans ((fr2 Fm109 55 rfl).trans ((fr2 Fm107 55 rfl).trans (fr2 Fm104 55 rfl)))))), (show (m125.2 56) = (m.2 56) from ((fr2 Fm125 56 rfl).trans ((fr2 Fm123 56 rfl).trans ((fr2 Fm109 56 rfl).trans ((fr2 Fm107 56 rfl).trans (fr2 Fm104 56 rfl)))))), (show (m125.1 219) = (m.1 219) from ((fr1 Fm125 219 rfl).trans ((fr1 Fm123 219 rfl).trans ((fr1 Fm109 219 rfl).trans ((fr1 Fm107 219 rfl).trans (fr1 Fm104 219 rfl)))))), (show (m125.1 224) = (m.1 224) from ((fr1 Fm125 224 rfl).trans ((fr1 Fm123 224 rfl).trans ((fr1 Fm109 224 rfl).trans ((fr1 Fm107 224 rfl).trans (fr1 Fm104 224 rfl))))))]; exact hSP) (show 0 ≤ v124 ∧ v124 ≤ 11 by omega))) (fun rr141 k142 => ?_)
                obtain ⟨m143, Tm143, Fm143, h144, rfl⟩ := k142
                refine Or.inl ⟨_, _, _, _, rfl, ?_⟩
                refine K_nb (st' := []) rfl ?_
                replace h144 : TCp (m125.1 219) (m143.2 78) (m143.2 89) (m125.1 223) := h144
                rewrite [(show (m125.1 219) = (m.1 219) from ((fr1 Fm125 219 rfl).trans ((fr1 Fm123 219 rfl).trans ((fr1 Fm109 219 rfl).trans ((fr1 Fm107 219 rfl).trans (fr1 Fm104 219 rfl)))))), (show (m125.1 223) = (m.1 223) from ((fr1 Fm125 223 rfl).trans ((fr1 Fm123 223 rfl).trans ((fr1 Fm109 223 rfl).trans ((fr1 Fm107 223 rfl).trans (fr1 Fm104 223 rfl))))))] at h144
                have hTC := h144
                refine T_iinc 171 [(4, .int (i32 (v124 + 1))), (5, .ref (obq (m.2 107) ((upI (m109.2 106) 0 (-1)) v124))), (0, .ref 185), (1, .int (i32 ((m.1 226) - 1)))] rfl rfl (by decide) rfl rfl ?_
                refine T_goto 133 rfl (fun _ => rfl) ?_
                refine Tm_lv (a := [(0, .ref 185), (1, .int (i32 ((m.1 226) - 1))), (4, .int (i32 (v124 + 1)))]) rfl rfl ⟨rfl, rfl, rfl, trivial⟩ ?_
                exact ih134 (v124 + 1) (mO m143 [] []) (r32 (by omega) (by omega)) Tm143 (fr_m (fr_s Fm143 (fr_m (fr_s Fm125 (fr_m fr_0 rfl rfl) rfl rfl) rfl rfl) rfl rfl) rfl rfl) (show 0 ≤ (v124 + 1) by omega) (show 0 ≤ (v124 + 1) ∧ (v124 + 1) ≤ 12 by omega) (show TCp (m.1 219) (m143.2 78) (m143.2 89) (m.1 223) by exact hTC) (show 20 - (v124 + 1) < (n133 : Int) by omega)
          refine Tm_lv (a := [(0, .ref 185), (1, .int (i32 ((m.1 226) - 1))), (4, .int (i32 0))]) rfl rfl ⟨rfl, rfl, rfl, trivial⟩ ?_
          exact L133_126 ((20 - (0 : Int) : Int) + 1).toNat 0 (mO m123 [] []) ⟨by decide, by decide⟩ Tm123 (fr_m fr_0 rfl rfl) (show 0 ≤ (0 : Int) by omega) (show 0 ≤ (0 : Int) ∧ (0 : Int) ≤ 12 by omega) (show TCp (m.1 219) (m123.2 78) (m123.2 89) (m.1 223) by rewrite [(show (m123.2 78) = (m.2 78) from ((fr2 Fm123 78 rfl).trans ((fr2 Fm109 78 rfl).trans ((fr2 Fm107 78 rfl).trans (fr2 Fm104 78 rfl))))), (show (m123.2 89) = (m.2 89) from ((fr2 Fm123 89 rfl).trans ((fr2 Fm109 89 rfl).trans ((fr2 Fm107 89 rfl).trans (fr2 Fm104 89 rfl)))))]; exact hTC) (show 20 - (0 : Int) < ((((20 - (0 : Int) : Int) + 1).toNat : Nat) : Int) by omega)
        · skip
          refine T_ld 84 (.ref 185) rfl (fun _ => rfl) ?_
          refine K_gf 87 (.ref 186) rfl rfl kd_185 rfl rfl rfl ?_
          refine T_ld 88 (.ref 185) rfl (fun _ => rfl) ?_
          refine K_gf 91 (.int (i32 (m.1 233))) rfl rfl kd_185 rfl (kval_c2 (k := 233) (F := fun x => .int (i32 x)) rfl (show (m109.1 233) = (m.1 233) from ((fr1 Fm109 233 rfl).trans ((fr1 Fm107 233 rfl).trans (fr1 Fm104 233 rfl))))) rfl ?_
          refine T_ld 94 (.int (i32 128)) rfl (fun _ => rfl) ?_
          refine T_irem 95 rfl rfl (by omega) (by omega) (by omega) (by omega) ?_
          refine K_aaopF 96 (m.2 107) rfl rfl (by omega) (by omega) Tm109 (show (m109.2 107) = (m.2 107) from ((fr2 Fm109 107 rfl).trans ((fr2 Fm107 107 rfl).trans (fr2 Fm104 107 rfl)))) (fun h146 => ?_) (fun ok145 => ?_)
          · skip
            refine T_goto 100 rfl (fun _ => rfl) ?_
            refine T_sto 101 [(3, .null), (0, .ref 185), (1, .int (i32 ((m.1 226) - 1)))] rfl (fun _ => rfl) ?_
            refine T_ld 102 (.ref 185) rfl (fun _ => rfl) ?_
            refine K_gf 105 (.ref 187) rfl rfl kd_185 rfl rfl rfl ?_
            refine T_ld 106 (.int (i32 0)) rfl (fun _ => rfl) ?_
            refine T_ld 107 (.null) rfl (fun _ => rfl) ?_
            have G147 : ∀ j, (-1) ≤ (upI (m109.2 106) 0 (-1)) j ∧ (upI (m109.2 106) 0 (-1)) j ≤ 127 := upI_rg (Tm109.2.1 106) ⟨by omega, by omega⟩
            refine K_aasn (a' := [(106, upI (m109.2 106) 0 (-1))]) 108 (m109.2 106) rfl rfl (by omega) (by omega) Tm109 rfl rfl ?_
            refine T_ld 109 (.null) rfl (fun _ => rfl) ?_
            refine T_pop 130 rfl (fun _ => rfl) ?_
            have hPI : PIp (m.1 226) (m.1 233) (m.1 232) (upI (m109.2 106) 0 (-1)) (m.2 91) (m104.2 92) (m.2 94) := by first | exact PI_cy hPI rfl ⟨by omega, by omega⟩ hLn hSZ (Or.inl ⟨by omega, rfl, rfl⟩) | exact PI_cy hPI rfl ⟨by omega, by omega⟩ hLn hSZ (Or.inr ⟨rfl, by omega, by omega, hEn.1, hEn.2⟩)
            refine T_ld 131 (.int (i32 0)) rfl (fun _ => rfl) ?_
            refine T_sto 133 [(4, .int (i32 0)), (3, .null), (0, .ref 185), (1, .int (i32 ((m.1 226) - 1)))] rfl (fun _ => rfl) ?_
            refine K_fl (KTy_mO Tm109 rfl rfl trivial ⟨G147, trivial⟩) (fun m148 Tm148 Fm148 => ?_)
            have L133_151 : ∀ (n158 : Nat) (v149 : Int) (m150 : mR), (R32 v149) → KTy m150 → fr [] [25, 71, 78, 85, 86, 87, 88, 89, 90, 98, 101, 102, 103, 104, 105] (mO m148 [] []) m150 → (0 ≤ v149) → (0 ≤ v149 ∧ v149 ≤ 12) → (TCp (m.1 219) (m150.2 78) (m150.2 89) (m.1 223)) → 20 - v149 < (n158 : Int) → TT w D pm_177 (133, [(0, .ref 185), (1, .int (i32 ((m.1 226) - 1))), (4, .int (i32 v149))], [], (khp (mO m150 [] []) c, N), 0, 0) (Q_pi_cycle m c N) := by
              intro n158
              induction n158 with
              | zero =>
                intro v149 m150 q155 Tm150 Fm150 ic152 ic153 ic154 hmu
                obtain ⟨q155a, q155b⟩ := id q155
                have hTC := ic154
                exfalso
                omega
              | succ n158 ih =>
                intro v149 m150 q155 Tm150 Fm150 ic152 ic153 ic154 hmu
                obtain ⟨q155a, q155b⟩ := id q155
                have hTC := ic154
                have ih159 := ih
                refine T_ld 135 (.int (i32 v149)) rfl (fun _ => rfl) ?_
                refine T_ld 136 (.int (i32 ((m.1 226) - 1))) rfl (fun _ => rfl) ?_
                refine T_icmp 174 139 rfl rfl rfl (r32 (by omega) (by omega)) (r32 (by omega) (by omega)) (fun (h160 : (m.1 226) - 1 < v149) => ?_) (fun (h160 : ¬ ((m.1 226) - 1 < v149)) => ?_)
                · skip
                  refine T_ld 175 (.ref 185) rfl (fun _ => rfl) ?_
                  refine T_ld 176 (.ref 185) rfl (fun _ => rfl) ?_
                  refine K_gf 179 (.int (i32 (m.1 235))) rfl rfl kd_185 rfl (kval_c2 (k := 235) (F := fun x => .int (i32 x)) rfl (show (m150.1 235) = (m.1 235) from ((fr1 Fm150 235 rfl).trans ((fr1 Fm148 235 rfl).trans ((fr1 Fm109 235 rfl).trans ((fr1 Fm107 235 rfl).trans (fr1 Fm104 235 rfl))))))) rfl ?_
                  refine T_ld 180 (.int (i32 1)) rfl (fun _ => rfl) ?_
                  refine T_iadd 181 rfl rfl ?_
                  refine K_pf (l' := [(235, (m.1 235) + 1)]) 184 ((m.1 235) + 1) rfl rfl kd_185 rfl rfl rfl rfl rfl rfl rfl ?_
                  have g161 : 0 ≤ (m.1 235) + 1 ∧ (m.1 235) + 1 ≤ 100000000 := ⟨by omega, by omega⟩
                  refine T_ret rfl (fun _ => rfl) ?_
                  exact ⟨(mO m150 [(235, (m.1 235) + 1)] []), (KTy_mO Tm150 rfl rfl ⟨g161, trivial⟩ trivial), (fr_m (fr_s Fm150 (fr_m (fr_s Fm148 (fr_m (fr_s Fm109 (fr_m (fr_s Fm107 (fr_m (fr_s Fm104 (fr_m fr_0 rfl rfl) rfl rfl) rfl rfl) rfl rfl) rfl rfl) rfl rfl) rfl rfl) rfl rfl) rfl rfl) rfl rfl) rfl rfl), (show PIp (m.1 226) (m150.1 233) (m.1 232) (m150.2 106) (m.2 91) (m150.2 92) (m150.2 94) by rewrite [(show (m150.1 233) = (m.1 233) from ((fr1 Fm150 233 rfl).trans ((fr1 Fm148 233 rfl).trans ((fr1 Fm109 233 rfl).trans ((fr1 Fm107 233 rfl).trans (fr1 Fm104 233 rfl)))))), (show (m150.2 106) = (upI (m109.2 106) 0 (-1)) from ((fr2 Fm150 106 rfl).trans (fr2 Fm148 106 rfl))), (show (m150.2 92) = (m104.2 92) from ((fr2 Fm150 92 rfl).trans ((fr2 Fm148 92 rfl).trans ((fr2 Fm109 92 rfl).trans (fr2 Fm107 92 rfl))))), (show (m150.2 94) = (m.2 94) from ((fr2 Fm150 94 rfl).trans ((fr2 Fm148 94 rfl).trans ((fr2 Fm109 94 rfl).trans ((fr2 Fm107 94 rfl).trans (fr2 Fm104 94 rfl))))))]; first | (exact hPI) | (exfalso; omega)), (show TCp (m.1 219) (m150.2 78) (m150.2 89) (m.1 223) by first | (exact hTC) | (exfalso; omega)), (show ((m.1 235) + 1) = (m.1 235) + 1 by omega), (show (m150.1 234) ≤ ((m.1 235) + 1) by rewrite [(show (m150.1 234) = ((m.1 234) + 1) from ((fr1 Fm150 234 rfl).trans ((fr1 Fm148 234 rfl).trans ((fr1 Fm109 234 rfl).trans (fr1 Fm107 234 rfl)))))]; omega), rfl⟩
                · skip
                  refine T_ld 140 (.ref 185) rfl (fun _ => rfl) ?_
                  refine K_gf 143 (.ref 187) rfl rfl kd_185 rfl rfl rfl ?_
                  refine T_ld 145 (.int (i32 v149)) rfl (fun _ => rfl) ?_
                  refine K_aaisF 146 (upI (m109.2 106) 0 (-1)) (m.2 107) rfl rfl (by omega) (by omega) Tm150 (show (m150.2 106) = (upI (m109.2 106) 0 (-1)) from ((fr2 Fm150 106 rfl).trans (fr2 Fm148 106 rfl))) (show (m150.2 107) = (m.2 107) from ((fr2 Fm150 107 rfl).trans ((fr2 Fm148 107 rfl).trans ((fr2 Fm109 107 rfl).trans ((fr2 Fm107 107 rfl).trans (fr2 Fm104 107 rfl)))))) ?_ (fun h162 h163 ok164 => ?_)
                  · skip
                    refine T_sto 148 [(5, .null), (0, .ref 185), (1, .int (i32 ((m.1 226) - 1))), (4, .int (i32 v149))] rfl (fun _ => rfl) ?_
                    refine T_ld 150 (.null) rfl (fun _ => rfl) ?_
                    refine T_pop 168 rfl (fun _ => rfl) ?_
                    refine T_iinc 171 [(4, .int (i32 (v149 + 1))), (5, .null), (0, .ref 185), (1, .int (i32 ((m.1 226) - 1)))] rfl rfl (by decide) rfl rfl ?_
                    refine T_goto 133 rfl (fun _ => rfl) ?_
                    refine Tm_lv (a := [(0, .ref 185), (1, .int (i32 ((m.1 226) - 1))), (4, .int (i32 (v149 + 1)))]) rfl rfl ⟨rfl, rfl, rfl, trivial⟩ ?_
                    exact ih159 (v149 + 1) (mO m150 [] []) (r32 (by omega) (by omega)) Tm150 (fr_m (fr_s Fm150 (fr_m fr_0 rfl rfl) rfl rfl) rfl rfl) (show 0 ≤ (v149 + 1) by omega) (show 0 ≤ (v149 + 1) ∧ (v149 + 1) ≤ 12 by omega) (show TCp (m.1 219) (m150.2 78) (m150.2 89) (m.1 223) by exact hTC) (show 20 - (v149 + 1) < (n158 : Int) by omega)
                  have ok165 : OKr m ((upI (m109.2 106) 0 (-1)) v149) := OKr_c (show (m150.2 107) = (m.2 107) from ((fr2 Fm150 107 rfl).trans ((fr2 Fm148 107 rfl).trans ((fr2 Fm109 107 rfl).trans ((fr2 Fm107 107 rfl).trans (fr2 Fm104 107 rfl)))))).symm (show (m150.2 108) = (m.2 108) from ((fr2 Fm150 108 rfl).trans ((fr2 Fm148 108 rfl).trans ((fr2 Fm109 108 rfl).trans ((fr2 Fm107 108 rfl).trans (fr2 Fm104 108 rfl)))))).symm ok164
                  refine T_sto 148 [(5, .ref (obq (m.2 107) ((upI (m109.2 106) 0 (-1)) v149))), (0, .ref 185), (1, .int (i32 ((m.1 226) - 1))), (4, .int (i32 v149))] rfl (fun _ => rfl) ?_
                  refine T_ld 150 (.ref (obq (m.2 107) ((upI (m109.2 106) 0 (-1)) v149))) rfl (fun _ => rfl) ?_
                  refine T_pop 153 rfl (fun _ => rfl) ?_
                  refine T_ld 155 (.ref (obq (m.2 107) ((upI (m109.2 106) 0 (-1)) v149))) rfl (fun _ => rfl) ?_
                  refine T_ld 156 (.ref 185) rfl (fun _ => rfl) ?_
                  refine K_gf 159 (.ref 12) rfl rfl kd_185 rfl rfl rfl ?_
                  refine T_ld 161 (.int (i32 v149)) rfl (fun _ => rfl) ?_
                  refine T_ld 162 (.ref 185) rfl (fun _ => rfl) ?_
                  refine K_gf 165 (.ref 188) rfl rfl kd_185 rfl rfl rfl ?_
                  refine T_callx 168 186 [.ref (obq (m.2 107) ((upI (m109.2 106) 0 (-1)) v149)), .ref 12, .int (i32 v149), .ref 188] [] rfl (inv_vt (args := [.ref 188, .int (i32 v149), .ref 12]) (obe_c (congrArg (fun f : Int → Int => (f ((upI (m109.2 106) 0 (-1)) v149)).toNat) (show (m150.2 107) = (m.2 107) from ((fr2 Fm150 107 rfl).trans ((fr2 Fm148 107 rfl).trans ((fr2 Fm109 107 rfl).trans ((fr2 Fm107 107 rfl).trans (fr2 Fm104 107 rfl))))))) (khp_o0 _ (OKr_c (show (m150.2 107) = (m.2 107) from ((fr2 Fm150 107 rfl).trans ((fr2 Fm148 107 rfl).trans ((fr2 Fm109 107 rfl).trans ((fr2 Fm107 107 rfl).trans (fr2 Fm104 107 rfl)))))) (show (m150.2 108) = (m.2 108) from ((fr2 Fm150 108 rfl).trans ((fr2 Fm148 108 rfl).trans ((fr2 Fm109 108 rfl).trans ((fr2 Fm107 108 rfl).trans (fr2 Fm104 108 rfl)))))) ok165))) rfl rfl rfl) rfl rfl (TC_cast (fun g9 => [.ref (obq g9 ((upI (m109.2 106) 0 (-1)) v149)), .ref 12, .int (i32 v149), .ref 188]) (show (m150.2 107) = (m.2 107) from ((fr2 Fm150 107 rfl).trans ((fr2 Fm148 107 rfl).trans ((fr2 Fm109 107 rfl).trans ((fr2 Fm107 107 rfl).trans (fr2 Fm104 107 rfl)))))) (c_op_work w (mO m150 [] []) c N D (by omega) Tm150 ((upI (m109.2 106) 0 (-1)) v149) v149 (r32 (by omega) (by omega)) (r32 (by omega) (by omega)) (OKr_c (show (m150.2 107) = (m.2 107) from ((fr2 Fm150 107 rfl).trans ((fr2 Fm148 107 rfl).trans ((fr2 Fm109 107 rfl).trans ((fr2 Fm107 107 rfl).trans (fr2 Fm104 107 rfl)))))) (show (m150.2 108) = (m.2 108) from ((fr2 Fm150 108 rfl).trans ((fr2 Fm148 108 rfl).trans ((fr2 Fm109 108 rfl).trans ((fr2 Fm107 108 rfl).trans (fr2 Fm104 108 rfl)))))) ok165) (show NKp (m150.2 18) (m150.2 19) by rewrite [(show (m150.2 18) = (m.2 18) from ((fr2 Fm150 18 rfl).trans ((fr2 Fm148 18 rfl).trans ((fr2 Fm109 18 rfl).trans ((fr2 Fm107 18 rfl).trans (fr2 Fm104 18 rfl)))))), (show (m150.2 19) = (m.2 19) from ((fr2 Fm150 19 rfl).trans ((fr2 Fm148 19 rfl).trans ((fr2 Fm109 19 rfl).trans ((fr2 Fm107 19 rfl).trans (fr2 Fm104 19 rfl))))))]; exact hNK) (show DEp (m150.1 224) (m150.2 45) (m150.2 46) (m150.2 47) (m150.2 49) by rewrite [(show (m150.1 224) = (m.1 224) from ((fr1 Fm150 224 rfl).trans ((fr1 Fm148 224 rfl).trans ((fr1 Fm109 224 rfl).trans ((fr1 Fm107 224 rfl).trans (fr1 Fm104 224 rfl)))))), (show (m150.2 45) = (m.2 45) from ((fr2 Fm150 45 rfl).trans ((fr2 Fm148 45 rfl).trans ((fr2 Fm109 45 rfl).trans ((fr2 Fm107 45 rfl).trans (fr2 Fm104 45 rfl)))))), (show (m150.2 46) = (m.2 46) from ((fr2 Fm150 46 rfl).trans ((fr2 Fm148 46 rfl).trans ((fr2 Fm109 46 rfl).trans ((fr2 Fm107 46 rfl).trans (fr2 Fm104 46 rfl)))))), (show (m150.2 47) = (m.2 47) from ((fr2 Fm150 47 rfl).trans ((fr2 Fm148 47 rfl).trans ((fr2 Fm109 47 rfl).trans ((fr2 Fm107 47 rfl).trans (fr2 Fm104 47 rfl)))))), (show (m150.2 49) = (m.2 49) from ((fr2 Fm150 49 rfl).trans ((fr2 Fm148 49 rfl).trans ((fr2 Fm109 49 rfl).trans ((fr2 Fm107 49 rfl).trans (fr2 Fm104 49 rfl))))))]; exact hDE) (show AcP (m150.1 223) (m150.1 224) (m150.2 43) (m150.2 44) by rewrite [(show (m150.1 223) = (m.1 223) from ((fr1 Fm150 223 rfl).trans ((fr1 Fm148 223 rfl).trans ((fr1 Fm109 223 rfl).trans ((fr1 Fm107 223 rfl).trans (fr1 Fm104 223 rfl)))))), (show (m150.1 224) = (m.1 224) from ((fr1 Fm150 224 rfl).trans ((fr1 Fm148 224 rfl).trans ((fr1 Fm109 224 rfl).trans ((fr1 Fm107 224 rfl).trans (fr1 Fm104 224 rfl)))))), (show (m150.2 43) = (m.2 43) from ((fr2 Fm150 43 rfl).trans ((fr2 Fm148 43 rfl).trans ((fr2 Fm109 43 rfl).trans ((fr2 Fm107 43 rfl).trans (fr2 Fm104 43 rfl)))))), (show (m150.2 44) = (m.2 44) from ((fr2 Fm150 44 rfl).trans ((fr2 Fm148 44 rfl).trans ((fr2 Fm109 44 rfl).trans ((fr2 Fm107 44 rfl).trans (fr2 Fm104 44 rfl))))))]; exact hAC) (show TLp (m150.1 219) (m150.2 73) (m150.2 83) (m150.1 223) by rewrite [(show (m150.1 219) = (m.1 219) from ((fr1 Fm150 219 rfl).trans ((fr1 Fm148 219 rfl).trans ((fr1 Fm109 219 rfl).trans ((fr1 Fm107 219 rfl).trans (fr1 Fm104 219 rfl)))))), (show (m150.2 73) = (m.2 73) from ((fr2 Fm150 73 rfl).trans ((fr2 Fm148 73 rfl).trans ((fr2 Fm109 73 rfl).trans ((fr2 Fm107 73 rfl).trans (fr2 Fm104 73 rfl)))))), (show (m150.2 83) = (m.2 83) from ((fr2 Fm150 83 rfl).trans ((fr2 Fm148 83 rfl).trans ((fr2 Fm109 83 rfl).trans ((fr2 Fm107 83 rfl).trans (fr2 Fm104 83 rfl)))))), (show (m150.1 223) = (m.1 223) from ((fr1 Fm150 223 rfl).trans ((fr1 Fm148 223 rfl).trans ((fr1 Fm109 223 rfl).trans ((fr1 Fm107 223 rfl).trans (fr1 Fm104 223 rfl))))))]; exact hTL) (show LTp (m150.1 219) (m150.2 74) (m150.1 223) by rewrite [(show (m150.1 219) = (m.1 219) from ((fr1 Fm150 219 rfl).trans ((fr1 Fm148 219 rfl).trans ((fr1 Fm109 219 rfl).trans ((fr1 Fm107 219 rfl).trans (fr1 Fm104 219 rfl)))))), (show (m150.2 74) = (m.2 74) from ((fr2 Fm150 74 rfl).trans ((fr2 Fm148 74 rfl).trans ((fr2 Fm109 74 rfl).trans ((fr2 Fm107 74 rfl).trans (fr2 Fm104 74 rfl)))))), (show (m150.1 223) = (m.1 223) from ((fr1 Fm150 223 rfl).trans ((fr1 Fm148 223 rfl).trans ((fr1 Fm109 223 rfl).trans ((fr1 Fm107 223 rfl).trans (fr1 Fm104 223 rfl))))))]; exact hTD) (show TCp (m150.1 219) (m150.2 78) (m150.2 89) (m150.1 223) by rewrite [(show (m150.1 219) = (m.1 219) from ((fr1 Fm150 219 rfl).trans ((fr1 Fm148 219 rfl).trans ((fr1 Fm109 219 rfl).trans ((fr1 Fm107 219 rfl).trans (fr1 Fm104 219 rfl)))))), (show (m150.1 223) = (m.1 223) from ((fr1 Fm150 223 rfl).trans ((fr1 Fm148 223 rfl).trans ((fr1 Fm109 223 rfl).trans ((fr1 Fm107 223 rfl).trans (fr1 Fm104 223 rfl))))))]; exact hTC) (show SPp (m150.1 225) (m150.2 52) (m150.2 58) (m150.2 55) (m150.2 56) (m150.1 219) (m150.1 224) by rewrite [(show (m150.1 225) = (m.1 225) from ((fr1 Fm150 225 rfl).trans ((fr1 Fm148 225 rfl).trans ((fr1 Fm109 225 rfl).trans ((fr1 Fm107 225 rfl).trans (fr1 Fm104 225 rfl)))))), (show (m150.2 52) = (m.2 52) from ((fr2 Fm150 52 rfl).trans ((fr2 Fm148 52 rfl).trans ((fr2 Fm109 52 rfl).trans ((fr2 Fm107 52 rfl).trans (fr2 Fm104 52 rfl)))))), (show (m150.2 58) = (m.2 58) from ((fr2 Fm150 58 rfl).trans ((fr2 Fm148 58 rfl).trans ((fr2 Fm109 58 rfl).trans ((fr2 Fm107 58 rfl).trans (fr2 Fm104 58 rfl)))))), (show (m150.2 55) = (m.2 55) from ((fr2 Fm150 55 rfl).trans ((fr2 Fm148 55 rfl).trans ((fr2 Fm109 55 rfl).trans ((fr2 Fm107 55 rfl).trans (fr2 Fm104 55 rfl)))))), (show (m150.2 56) = (m.2 56) from ((fr2 Fm150 56 rfl).trans ((fr2 Fm148 56 rfl).trans ((fr2 Fm109 56 rfl).trans ((fr2 Fm107 56 rfl).trans (fr2 Fm104 56 rfl)))))), (show (m150.1 219) = (m.1 219) from ((fr1 Fm150 219 rfl).trans ((fr1 Fm148 219 rfl).trans ((fr1 Fm109 219 rfl).trans ((fr1 Fm107 219 rfl).trans (fr1 Fm104 219 rfl)))))), (show (m150.1 224) = (m.1 224) from ((fr1 Fm150 224 rfl).trans ((fr1 Fm148 224 rfl).trans ((fr1 Fm109 224 rfl).trans ((fr1 Fm107 224 rfl).trans (fr1 Fm104 224 rfl))))))]; exact hSP) (show 0 ≤ v149 ∧ v149 ≤ 11 by omega))) (fun rr166 k167 => ?_)
                  obtain ⟨m168, Tm168, Fm168, h169, rfl⟩ := k167
                  refine Or.inl ⟨_, _, _, _, rfl, ?_⟩
                  refine K_nb (st' := []) rfl ?_
                  replace h169 : TCp (m150.1 219) (m168.2 78) (m168.2 89) (m150.1 223) := h169
                  rewrite [(show (m150.1 219) = (m.1 219) from ((fr1 Fm150 219 rfl).trans ((fr1 Fm148 219 rfl).trans ((fr1 Fm109 219 rfl).trans ((fr1 Fm107 219 rfl).trans (fr1 Fm104 219 rfl)))))), (show (m150.1 223) = (m.1 223) from ((fr1 Fm150 223 rfl).trans ((fr1 Fm148 223 rfl).trans ((fr1 Fm109 223 rfl).trans ((fr1 Fm107 223 rfl).trans (fr1 Fm104 223 rfl))))))] at h169
                  have hTC := h169
                  refine T_iinc 171 [(4, .int (i32 (v149 + 1))), (5, .ref (obq (m.2 107) ((upI (m109.2 106) 0 (-1)) v149))), (0, .ref 185), (1, .int (i32 ((m.1 226) - 1)))] rfl rfl (by decide) rfl rfl ?_
                  refine T_goto 133 rfl (fun _ => rfl) ?_
                  refine Tm_lv (a := [(0, .ref 185), (1, .int (i32 ((m.1 226) - 1))), (4, .int (i32 (v149 + 1)))]) rfl rfl ⟨rfl, rfl, rfl, trivial⟩ ?_
                  exact ih159 (v149 + 1) (mO m168 [] []) (r32 (by omega) (by omega)) Tm168 (fr_m (fr_s Fm168 (fr_m (fr_s Fm150 (fr_m fr_0 rfl rfl) rfl rfl) rfl rfl) rfl rfl) rfl rfl) (show 0 ≤ (v149 + 1) by omega) (show 0 ≤ (v149 + 1) ∧ (v149 + 1) ≤ 12 by omega) (show TCp (m.1 219) (m168.2 78) (m168.2 89) (m.1 223) by exact hTC) (show 20 - (v149 + 1) < (n158 : Int) by omega)
            refine Tm_lv (a := [(0, .ref 185), (1, .int (i32 ((m.1 226) - 1))), (4, .int (i32 0))]) rfl rfl ⟨rfl, rfl, rfl, trivial⟩ ?_
            exact L133_151 ((20 - (0 : Int) : Int) + 1).toNat 0 (mO m148 [] []) ⟨by decide, by decide⟩ Tm148 (fr_m fr_0 rfl rfl) (show 0 ≤ (0 : Int) by omega) (show 0 ≤ (0 : Int) ∧ (0 : Int) ≤ 12 by omega) (show TCp (m.1 219) (m148.2 78) (m148.2 89) (m.1 223) by rewrite [(show (m148.2 78) = (m.2 78) from ((fr2 Fm148 78 rfl).trans ((fr2 Fm109 78 rfl).trans ((fr2 Fm107 78 rfl).trans (fr2 Fm104 78 rfl))))), (show (m148.2 89) = (m.2 89) from ((fr2 Fm148 89 rfl).trans ((fr2 Fm109 89 rfl).trans ((fr2 Fm107 89 rfl).trans (fr2 Fm104 89 rfl)))))]; exact hTC) (show 20 - (0 : Int) < ((((20 - (0 : Int) : Int) + 1).toNat : Nat) : Int) by omega)
          have ok170 : OKr m ((m.1 233) % 128) := OKr_c (show (m109.2 107) = (m.2 107) from ((fr2 Fm109 107 rfl).trans ((fr2 Fm107 107 rfl).trans (fr2 Fm104 107 rfl)))).symm (show (m109.2 108) = (m.2 108) from ((fr2 Fm109 108 rfl).trans ((fr2 Fm107 108 rfl).trans (fr2 Fm104 108 rfl)))).symm ok145
          refine T_goto 100 rfl (fun _ => rfl) ?_
          refine T_sto 101 [(3, .ref (obq (m.2 107) ((m.1 233) % 128))), (0, .ref 185), (1, .int (i32 ((m.1 226) - 1)))] rfl (fun _ => rfl) ?_
          refine T_ld 102 (.ref 185) rfl (fun _ => rfl) ?_
          refine K_gf 105 (.ref 187) rfl rfl kd_185 rfl rfl rfl ?_
          refine T_ld 106 (.int (i32 0)) rfl (fun _ => rfl) ?_
          refine T_ld 107 (.ref (obq (m.2 107) ((m.1 233) % 128))) rfl (fun _ => rfl) ?_
          have G171 : ∀ j, (-1) ≤ (upI (m109.2 106) 0 ((m.1 233) % 128)) j ∧ (upI (m109.2 106) 0 ((m.1 233) % 128)) j ≤ 127 := upI_rg (Tm109.2.1 106) ⟨by omega, by omega⟩
          refine K_aaso (a' := [(106, upI (m109.2 106) 0 ((m.1 233) % 128))]) 108 (m109.2 106) rfl rfl (by omega) (by omega) Tm109 (OKr_c (show (m109.2 107) = (m.2 107) from ((fr2 Fm109 107 rfl).trans ((fr2 Fm107 107 rfl).trans (fr2 Fm104 107 rfl)))) (show (m109.2 108) = (m.2 108) from ((fr2 Fm109 108 rfl).trans ((fr2 Fm107 108 rfl).trans (fr2 Fm104 108 rfl)))) ok170) (congrArg (fun f : Int → Int => (f ((m.1 233) % 128)).toNat) (show (m109.2 107) = (m.2 107) from ((fr2 Fm109 107 rfl).trans ((fr2 Fm107 107 rfl).trans (fr2 Fm104 107 rfl))))) rfl rfl ?_
          refine T_ld 109 (.ref (obq (m.2 107) ((m.1 233) % 128))) rfl (fun _ => rfl) ?_
          refine T_pop 112 rfl (fun _ => rfl) ?_
          refine T_ld 113 (.ref (obq (m.2 107) ((m.1 233) % 128))) rfl (fun _ => rfl) ?_
          refine T_ld 114 (.ref 185) rfl (fun _ => rfl) ?_
          refine K_gf 117 (.ref 12) rfl rfl kd_185 rfl rfl rfl ?_
          have hEp := PI_en hPI hLn (by omega) (by omega) (by omega)
          refine T_callx 120 180 [.ref (obq (m.2 107) ((m.1 233) % 128)), .ref 12] [] rfl (inv_vt (args := [.ref 12]) (obe_c (congrArg (fun f : Int → Int => (f ((m.1 233) % 128)).toNat) (show (m109.2 107) = (m.2 107) from ((fr2 Fm109 107 rfl).trans ((fr2 Fm107 107 rfl).trans (fr2 Fm104 107 rfl))))) (khp_o0 _ (OKr_c (show (m109.2 107) = (m.2 107) from ((fr2 Fm109 107 rfl).trans ((fr2 Fm107 107 rfl).trans (fr2 Fm104 107 rfl)))) (show (m109.2 108) = (m.2 108) from ((fr2 Fm109 108 rfl).trans ((fr2 Fm107 108 rfl).trans (fr2 Fm104 108 rfl)))) ok170))) rfl rfl rfl) rfl rfl (TC_cast (fun g9 => [.ref (obq g9 ((m.1 233) % 128)), .ref 12]) (show (m109.2 107) = (m.2 107) from ((fr2 Fm109 107 rfl).trans ((fr2 Fm107 107 rfl).trans (fr2 Fm104 107 rfl)))) (c_op_enter w (mO m109 [] [(106, upI (m109.2 106) 0 ((m.1 233) % 128))]) c N D (by omega) (KTy_mO Tm109 rfl rfl trivial ⟨G171, trivial⟩) ((m.1 233) % 128) (r32 (by omega) (by omega)) (OKr_c (show (m109.2 107) = (m.2 107) from ((fr2 Fm109 107 rfl).trans ((fr2 Fm107 107 rfl).trans (fr2 Fm104 107 rfl)))) (show (m109.2 108) = (m.2 108) from ((fr2 Fm109 108 rfl).trans ((fr2 Fm107 108 rfl).trans (fr2 Fm104 108 rfl)))) ok170) (show NKp (m109.2 18) (m109.2 19) by rewrite [(show (m109.2 18) = (m.2 18) from ((fr2 Fm109 18 rfl).trans ((fr2 Fm107 18 rfl).trans (fr2 Fm104 18 rfl)))), (show (m109.2 19) = (m.2 19) from ((fr2 Fm109 19 rfl).trans ((fr2 Fm107 19 rfl).trans (fr2 Fm104 19 rfl))))]; exact hNK) (show (m109.2 91) ((m.1 233) % 128) = 0 → (m109.2 92) ((m.1 233) % 128) ≤ 128 by rewrite [(show (m109.2 91) = (m.2 91) from ((fr2 Fm109 91 rfl).trans ((fr2 Fm107 91 rfl).trans (fr2 Fm104 91 rfl)))), (show (m109.2 92) = (m104.2 92) from ((fr2 Fm109 92 rfl).trans (fr2 Fm107 92 rfl)))]; exact hEp))) (fun rr172 k173 => ?_)
          obtain ⟨m174, Tm174, Fm174, h175, rfl⟩ := k173
          refine Or.inl ⟨_, _, _, _, rfl, ?_⟩
          refine K_nb (st' := []) rfl ?_
          replace h175 : (∀ v, v ≠ ((m.1 233) % 128) → (m174.2 94) v = (m109.2 94) v) ∧ ((m109.2 91) ((m.1 233) % 128) = 0 → (m174.2 94) ((m.1 233) % 128) ≤ (m109.2 92) ((m.1 233) % 128)) := h175
          rewrite [(show (m109.2 94) = (m.2 94) from ((fr2 Fm109 94 rfl).trans ((fr2 Fm107 94 rfl).trans (fr2 Fm104 94 rfl)))), (show (m109.2 91) = (m.2 91) from ((fr2 Fm109 91 rfl).trans ((fr2 Fm107 91 rfl).trans (fr2 Fm104 91 rfl)))), (show (m109.2 92) = (m104.2 92) from ((fr2 Fm109 92 rfl).trans (fr2 Fm107 92 rfl)))] at h175
          have hEn := h175
          refine T_ld 121 (.ref 185) rfl (fun _ => rfl) ?_
          refine T_ld 122 (.ref 185) rfl (fun _ => rfl) ?_
          refine K_gf 125 (.int (i32 (m.1 233))) rfl rfl kd_185 rfl (kval_c2 (k := 233) (F := fun x => .int (i32 x)) rfl (show (m174.1 233) = (m.1 233) from ((fr1 Fm174 233 rfl).trans ((fr1 Fm109 233 rfl).trans ((fr1 Fm107 233 rfl).trans (fr1 Fm104 233 rfl)))))) rfl ?_
          refine T_ld 126 (.int (i32 1)) rfl (fun _ => rfl) ?_
          refine T_iadd 127 rfl rfl ?_
          refine K_pf (l' := [(233, (m.1 233) + 1)]) 130 ((m.1 233) + 1) rfl rfl kd_185 rfl rfl rfl rfl rfl rfl rfl ?_
          have g176 : 0 ≤ (m.1 233) + 1 ∧ (m.1 233) + 1 ≤ 1000000 := ⟨by omega, by omega⟩
          have hPI : PIp (m.1 226) ((m.1 233) + 1) (m.1 232) (upI (m109.2 106) 0 ((m.1 233) % 128)) (m.2 91) (m104.2 92) (m174.2 94) := by first | exact PI_cy hPI rfl ⟨by omega, by omega⟩ hLn hSZ (Or.inl ⟨by omega, rfl, rfl⟩) | exact PI_cy hPI rfl ⟨by omega, by omega⟩ hLn hSZ (Or.inr ⟨rfl, by omega, by omega, hEn.1, hEn.2⟩)
          refine T_ld 131 (.int (i32 0)) rfl (fun _ => rfl) ?_
          refine T_sto 133 [(4, .int (i32 0)), (3, .ref (obq (m.2 107) ((m.1 233) % 128))), (0, .ref 185), (1, .int (i32 ((m.1 226) - 1)))] rfl (fun _ => rfl) ?_
          refine K_fl (KTy_mO Tm174 rfl rfl ⟨g176, trivial⟩ trivial) (fun m177 Tm177 Fm177 => ?_)
          have L133_180 : ∀ (n187 : Nat) (v178 : Int) (m179 : mR), (R32 v178) → KTy m179 → fr [] [25, 71, 78, 85, 86, 87, 88, 89, 90, 98, 101, 102, 103, 104, 105] (mO m177 [] []) m179 → (0 ≤ v178) → (0 ≤ v178 ∧ v178 ≤ 12) → (TCp (m.1 219) (m179.2 78) (m179.2 89) (m.1 223)) → 20 - v178 < (n187 : Int) → TT w D pm_177 (133, [(0, .ref 185), (1, .int (i32 ((m.1 226) - 1))), (4, .int (i32 v178))], [], (khp (mO m179 [] []) c, N), 0, 0) (Q_pi_cycle m c N) := by
            intro n187
            induction n187 with
            | zero =>
              intro v178 m179 q184 Tm179 Fm179 ic181 ic182 ic183 hmu
              obtain ⟨q184a, q184b⟩ := id q184
              have hTC := ic183
              exfalso
              omega
            | succ n187 ih =>
              intro v178 m179 q184 Tm179 Fm179 ic181 ic182 ic183 hmu
              obtain ⟨q184a, q184b⟩ := id q184
              have hTC := ic183
              have ih188 := ih
              refine T_ld 135 (.int (i32 v178)) rfl (fun _ => rfl) ?_
              refine T_ld 136 (.int (i32 ((m.1 226) - 1))) rfl (fun _ => rfl) ?_
              refine T_icmp 174 139 rfl rfl rfl (r32 (by omega) (by omega)) (r32 (by omega) (by omega)) (fun (h189 : (m.1 226) - 1 < v178) => ?_) (fun (h189 : ¬ ((m.1 226) - 1 < v178)) => ?_)
              · skip
                refine T_ld 175 (.ref 185) rfl (fun _ => rfl) ?_
                refine T_ld 176 (.ref 185) rfl (fun _ => rfl) ?_
                refine K_gf 179 (.int (i32 (m.1 235))) rfl rfl kd_185 rfl (kval_c2 (k := 235) (F := fun x => .int (i32 x)) rfl (show (m179.1 235) = (m.1 235) from ((fr1 Fm179 235 rfl).trans ((fr1 Fm177 235 rfl).trans ((fr1 Fm174 235 rfl).trans ((fr1 Fm109 235 rfl).trans ((fr1 Fm107 235 rfl).trans (fr1 Fm104 235 rfl)))))))) rfl ?_
                refine T_ld 180 (.int (i32 1)) rfl (fun _ => rfl) ?_
                refine T_iadd 181 rfl rfl ?_
                refine K_pf (l' := [(235, (m.1 235) + 1)]) 184 ((m.1 235) + 1) rfl rfl kd_185 rfl rfl rfl rfl rfl rfl rfl ?_
                have g190 : 0 ≤ (m.1 235) + 1 ∧ (m.1 235) + 1 ≤ 100000000 := ⟨by omega, by omega⟩
                refine T_ret rfl (fun _ => rfl) ?_
                exact ⟨(mO m179 [(235, (m.1 235) + 1)] []), (KTy_mO Tm179 rfl rfl ⟨g190, trivial⟩ trivial), (fr_m (fr_s Fm179 (fr_m (fr_s Fm177 (fr_m (fr_s Fm174 (fr_m (fr_s Fm109 (fr_m (fr_s Fm107 (fr_m (fr_s Fm104 (fr_m fr_0 rfl rfl) rfl rfl) rfl rfl) rfl rfl) rfl rfl) rfl rfl) rfl rfl) rfl rfl) rfl rfl) rfl rfl) rfl rfl) rfl rfl) rfl rfl), (show PIp (m.1 226) (m179.1 233) (m.1 232) (m179.2 106) (m.2 91) (m179.2 92) (m179.2 94) by rewrite [(show (m179.1 233) = ((m.1 233) + 1) from ((fr1 Fm179 233 rfl).trans (fr1 Fm177 233 rfl))), (show (m179.2 106) = (upI (m109.2 106) 0 ((m.1 233) % 128)) from ((fr2 Fm179 106 rfl).trans ((fr2 Fm177 106 rfl).trans (fr2 Fm174 106 rfl)))), (show (m179.2 92) = (m104.2 92) from ((fr2 Fm179 92 rfl).trans ((fr2 Fm177 92 rfl).trans ((fr2 Fm174 92 rfl).trans ((fr2 Fm109 92 rfl).trans (fr2 Fm107 92 rfl)))))), (show (m179.2 94) = (m174.2 94) from ((fr2 Fm179 94 rfl).trans (fr2 Fm177 94 rfl)))]; first | (exact hPI) | (exfalso; omega)), (show TCp (m.1 219) (m179.2 78) (m179.2 89) (m.1 223) by first | (exact hTC) | (exfalso; omega)), (show ((m.1 235) + 1) = (m.1 235) + 1 by omega), (show (m179.1 234) ≤ ((m.1 235) + 1) by rewrite [(show (m179.1 234) = ((m.1 234) + 1) from ((fr1 Fm179 234 rfl).trans ((fr1 Fm177 234 rfl).trans ((fr1 Fm174 234 rfl).trans ((fr1 Fm109 234 rfl).trans (fr1 Fm107 234 rfl))))))]; omega), rfl⟩
              · skip
                refine T_ld 140 (.ref 185) rfl (fun _ => rfl) ?_
                refine K_gf 143 (.ref 187) rfl rfl kd_185 rfl rfl rfl ?_
                refine T_ld 145 (.int (i32 v178)) rfl (fun _ => rfl) ?_
                refine K_aaisF 146 (upI (m109.2 106) 0 ((m.1 233) % 128)) (m.2 107) rfl rfl (by omega) (by omega) Tm179 (show (m179.2 106) = (upI (m109.2 106) 0 ((m.1 233) % 128)) from ((fr2 Fm179 106 rfl).trans ((fr2 Fm177 106 rfl).trans (fr2 Fm174 106 rfl)))) (show (m179.2 107) = (m.2 107) from ((fr2 Fm179 107 rfl).trans ((fr2 Fm177 107 rfl).trans ((fr2 Fm174 107 rfl).trans ((fr2 Fm109 107 rfl).trans ((fr2 Fm107 107 rfl).trans (fr2 Fm104 107 rfl))))))) ?_ (fun h191 h192 ok193 => ?_)
                · skip
                  refine T_sto 148 [(5, .null), (0, .ref 185), (1, .int (i32 ((m.1 226) - 1))), (4, .int (i32 v178))] rfl (fun _ => rfl) ?_
                  refine T_ld 150 (.null) rfl (fun _ => rfl) ?_
                  refine T_pop 168 rfl (fun _ => rfl) ?_
                  refine T_iinc 171 [(4, .int (i32 (v178 + 1))), (5, .null), (0, .ref 185), (1, .int (i32 ((m.1 226) - 1)))] rfl rfl (by decide) rfl rfl ?_
                  refine T_goto 133 rfl (fun _ => rfl) ?_
                  refine Tm_lv (a := [(0, .ref 185), (1, .int (i32 ((m.1 226) - 1))), (4, .int (i32 (v178 + 1)))]) rfl rfl ⟨rfl, rfl, rfl, trivial⟩ ?_
                  exact ih188 (v178 + 1) (mO m179 [] []) (r32 (by omega) (by omega)) Tm179 (fr_m (fr_s Fm179 (fr_m fr_0 rfl rfl) rfl rfl) rfl rfl) (show 0 ≤ (v178 + 1) by omega) (show 0 ≤ (v178 + 1) ∧ (v178 + 1) ≤ 12 by omega) (show TCp (m.1 219) (m179.2 78) (m179.2 89) (m.1 223) by exact hTC) (show 20 - (v178 + 1) < (n187 : Int) by omega)
                have ok194 : OKr m ((upI (m109.2 106) 0 ((m.1 233) % 128)) v178) := OKr_c (show (m179.2 107) = (m.2 107) from ((fr2 Fm179 107 rfl).trans ((fr2 Fm177 107 rfl).trans ((fr2 Fm174 107 rfl).trans ((fr2 Fm109 107 rfl).trans ((fr2 Fm107 107 rfl).trans (fr2 Fm104 107 rfl))))))).symm (show (m179.2 108) = (m.2 108) from ((fr2 Fm179 108 rfl).trans ((fr2 Fm177 108 rfl).trans ((fr2 Fm174 108 rfl).trans ((fr2 Fm109 108 rfl).trans ((fr2 Fm107 108 rfl).trans (fr2 Fm104 108 rfl))))))).symm ok193
                refine T_sto 148 [(5, .ref (obq (m.2 107) ((upI (m109.2 106) 0 ((m.1 233) % 128)) v178))), (0, .ref 185), (1, .int (i32 ((m.1 226) - 1))), (4, .int (i32 v178))] rfl (fun _ => rfl) ?_
                refine T_ld 150 (.ref (obq (m.2 107) ((upI (m109.2 106) 0 ((m.1 233) % 128)) v178))) rfl (fun _ => rfl) ?_
                refine T_pop 153 rfl (fun _ => rfl) ?_
                refine T_ld 155 (.ref (obq (m.2 107) ((upI (m109.2 106) 0 ((m.1 233) % 128)) v178))) rfl (fun _ => rfl) ?_
                refine T_ld 156 (.ref 185) rfl (fun _ => rfl) ?_
                refine K_gf 159 (.ref 12) rfl rfl kd_185 rfl rfl rfl ?_
                refine T_ld 161 (.int (i32 v178)) rfl (fun _ => rfl) ?_
                refine T_ld 162 (.ref 185) rfl (fun _ => rfl) ?_
                refine K_gf 165 (.ref 188) rfl rfl kd_185 rfl rfl rfl ?_
                refine T_callx 168 186 [.ref (obq (m.2 107) ((upI (m109.2 106) 0 ((m.1 233) % 128)) v178)), .ref 12, .int (i32 v178), .ref 188] [] rfl (inv_vt (args := [.ref 188, .int (i32 v178), .ref 12]) (obe_c (congrArg (fun f : Int → Int => (f ((upI (m109.2 106) 0 ((m.1 233) % 128)) v178)).toNat) (show (m179.2 107) = (m.2 107) from ((fr2 Fm179 107 rfl).trans ((fr2 Fm177 107 rfl).trans ((fr2 Fm174 107 rfl).trans ((fr2 Fm109 107 rfl).trans ((fr2 Fm107 107 rfl).trans (fr2 Fm104 107 rfl)))))))) (khp_o0 _ (OKr_c (show (m179.2 107) = (m.2 107) from ((fr2 Fm179 107 rfl).trans ((fr2 Fm177 107 rfl).trans ((fr2 Fm174 107 rfl).trans ((fr2 Fm109 107 rfl).trans ((fr2 Fm107 107 rfl).trans (fr2 Fm104 107 rfl))))))) (show (m179.2 108) = (m.2 108) from ((fr2 Fm179 108 rfl).trans ((fr2 Fm177 108 rfl).trans ((fr2 Fm174 108 rfl).trans ((fr2 Fm109 108 rfl).trans ((fr2 Fm107 108 rfl).trans (fr2 Fm104 108 rfl))))))) ok194))) rfl rfl rfl) rfl rfl (TC_cast (fun g9 => [.ref (obq g9 ((upI (m109.2 106) 0 ((m.1 233) % 128)) v178)), .ref 12, .int (i32 v178), .ref 188]) (show (m179.2 107) = (m.2 107) from ((fr2 Fm179 107 rfl).trans ((fr2 Fm177 107 rfl).trans ((fr2 Fm174 107 rfl).trans ((fr2 Fm109 107 rfl).trans ((fr2 Fm107 107 rfl).trans (fr2 Fm104 107 rfl))))))) (c_op_work w (mO m179 [] []) c N D (by omega) Tm179 ((upI (m109.2 106) 0 ((m.1 233) % 128)) v178) v178 (r32 (by omega) (by omega)) (r32 (by omega) (by omega)) (OKr_c (show (m179.2 107) = (m.2 107) from ((fr2 Fm179 107 rfl).trans ((fr2 Fm177 107 rfl).trans ((fr2 Fm174 107 rfl).trans ((fr2 Fm109 107 rfl).trans ((fr2 Fm107 107 rfl).trans (fr2 Fm104 107 rfl))))))) (show (m179.2 108) = (m.2 108) from ((fr2 Fm179 108 rfl).trans ((fr2 Fm177 108 rfl).trans ((fr2 Fm174 108 rfl).trans ((fr2 Fm109 108 rfl).trans ((fr2 Fm107 108 rfl).trans (fr2 Fm104 108 rfl))))))) ok194) (show NKp (m179.2 18) (m179.2 19) by rewrite [(show (m179.2 18) = (m.2 18) from ((fr2 Fm179 18 rfl).trans ((fr2 Fm177 18 rfl).trans ((fr2 Fm174 18 rfl).trans ((fr2 Fm109 18 rfl).trans ((fr2 Fm107 18 rfl).trans (fr2 Fm104 18 rfl))))))), (show (m179.2 19) = (m.2 19) from ((fr2 Fm179 19 rfl).trans ((fr2 Fm177 19 rfl).trans ((fr2 Fm174 19 rfl).trans ((fr2 Fm109 19 rfl).trans ((fr2 Fm107 19 rfl).trans (fr2 Fm104 19 rfl)))))))]; exact hNK) (show DEp (m179.1 224) (m179.2 45) (m179.2 46) (m179.2 47) (m179.2 49) by rewrite [(show (m179.1 224) = (m.1 224) from ((fr1 Fm179 224 rfl).trans ((fr1 Fm177 224 rfl).trans ((fr1 Fm174 224 rfl).trans ((fr1 Fm109 224 rfl).trans ((fr1 Fm107 224 rfl).trans (fr1 Fm104 224 rfl))))))), (show (m179.2 45) = (m.2 45) from ((fr2 Fm179 45 rfl).trans ((fr2 Fm177 45 rfl).trans ((fr2 Fm174 45 rfl).trans ((fr2 Fm109 45 rfl).trans ((fr2 Fm107 45 rfl).trans (fr2 Fm104 45 rfl))))))), (show (m179.2 46) = (m.2 46) from ((fr2 Fm179 46 rfl).trans ((fr2 Fm177 46 rfl).trans ((fr2 Fm174 46 rfl).trans ((fr2 Fm109 46 rfl).trans ((fr2 Fm107 46 rfl).trans (fr2 Fm104 46 rfl))))))), (show (m179.2 47) = (m.2 47) from ((fr2 Fm179 47 rfl).trans ((fr2 Fm177 47 rfl).trans ((fr2 Fm174 47 rfl).trans ((fr2 Fm109 47 rfl).trans ((fr2 Fm107 47 rfl).trans (fr2 Fm104 47 rfl))))))), (show (m179.2 49) = (m.2 49) from ((fr2 Fm179 49 rfl).trans ((fr2 Fm177 49 rfl).trans ((fr2 Fm174 49 rfl).trans ((fr2 Fm109 49 rfl).trans ((fr2 Fm107 49 rfl).trans (fr2 Fm104 49 rfl)))))))]; exact hDE) (show AcP (m179.1 223) (m179.1 224) (m179.2 43) (m179.2 44) by rewrite [(show (m179.1 223) = (m.1 223) from ((fr1 Fm179 223 rfl).trans ((fr1 Fm177 223 rfl).trans ((fr1 Fm174 223 rfl).trans ((fr1 Fm109 223 rfl).trans ((fr1 Fm107 223 rfl).trans (fr1 Fm104 223 rfl))))))), (show (m179.1 224) = (m.1 224) from ((fr1 Fm179 224 rfl).trans ((fr1 Fm177 224 rfl).trans ((fr1 Fm174 224 rfl).trans ((fr1 Fm109 224 rfl).trans ((fr1 Fm107 224 rfl).trans (fr1 Fm104 224 rfl))))))), (show (m179.2 43) = (m.2 43) from ((fr2 Fm179 43 rfl).trans ((fr2 Fm177 43 rfl).trans ((fr2 Fm174 43 rfl).trans ((fr2 Fm109 43 rfl).trans ((fr2 Fm107 43 rfl).trans (fr2 Fm104 43 rfl))))))), (show (m179.2 44) = (m.2 44) from ((fr2 Fm179 44 rfl).trans ((fr2 Fm177 44 rfl).trans ((fr2 Fm174 44 rfl).trans ((fr2 Fm109 44 rfl).trans ((fr2 Fm107 44 rfl).trans (fr2 Fm104 44 rfl)))))))]; exact hAC) (show TLp (m179.1 219) (m179.2 73) (m179.2 83) (m179.1 223) by rewrite [(show (m179.1 219) = (m.1 219) from ((fr1 Fm179 219 rfl).trans ((fr1 Fm177 219 rfl).trans ((fr1 Fm174 219 rfl).trans ((fr1 Fm109 219 rfl).trans ((fr1 Fm107 219 rfl).trans (fr1 Fm104 219 rfl))))))), (show (m179.2 73) = (m.2 73) from ((fr2 Fm179 73 rfl).trans ((fr2 Fm177 73 rfl).trans ((fr2 Fm174 73 rfl).trans ((fr2 Fm109 73 rfl).trans ((fr2 Fm107 73 rfl).trans (fr2 Fm104 73 rfl))))))), (show (m179.2 83) = (m.2 83) from ((fr2 Fm179 83 rfl).trans ((fr2 Fm177 83 rfl).trans ((fr2 Fm174 83 rfl).trans ((fr2 Fm109 83 rfl).trans ((fr2 Fm107 83 rfl).trans (fr2 Fm104 83 rfl))))))), (show (m179.1 223) = (m.1 223) from ((fr1 Fm179 223 rfl).trans ((fr1 Fm177 223 rfl).trans ((fr1 Fm174 223 rfl).trans ((fr1 Fm109 223 rfl).trans ((fr1 Fm107 223 rfl).trans (fr1 Fm104 223 rfl)))))))]; exact hTL) (show LTp (m179.1 219) (m179.2 74) (m179.1 223) by rewrite [(show (m179.1 219) = (m.1 219) from ((fr1 Fm179 219 rfl).trans ((fr1 Fm177 219 rfl).trans ((fr1 Fm174 219 rfl).trans ((fr1 Fm109 219 rfl).trans ((fr1 Fm107 219 rfl).trans (fr1 Fm104 219 rfl))))))), (show (m179.2 74) = (m.2 74) from ((fr2 Fm179 74 rfl).trans ((fr2 Fm177 74 rfl).trans ((fr2 Fm174 74 rfl).trans ((fr2 Fm109 74 rfl).trans ((fr2 Fm107 74 rfl).trans (fr2 Fm104 74 rfl))))))), (show (m179.1 223) = (m.1 223) from ((fr1 Fm179 223 rfl).trans ((fr1 Fm177 223 rfl).trans ((fr1 Fm174 223 rfl).trans ((fr1 Fm109 223 rfl).trans ((fr1 Fm107 223 rfl).trans (fr1 Fm104 223 rfl)))))))]; exact hTD) (show TCp (m179.1 219) (m179.2 78) (m179.2 89) (m179.1 223) by rewrite [(show (m179.1 219) = (m.1 219) from ((fr1 Fm179 219 rfl).trans ((fr1 Fm177 219 rfl).trans ((fr1 Fm174 219 rfl).trans ((fr1 Fm109 219 rfl).trans ((fr1 Fm107 219 rfl).trans (fr1 Fm104 219 rfl))))))), (show (m179.1 223) = (m.1 223) from ((fr1 Fm179 223 rfl).trans ((fr1 Fm177 223 rfl).trans ((fr1 Fm174 223 rfl).trans ((fr1 Fm109 223 rfl).trans ((fr1 Fm107 223 rfl).trans (fr1 Fm104 223 rfl)))))))]; exact hTC) (show SPp (m179.1 225) (m179.2 52) (m179.2 58) (m179.2 55) (m179.2 56) (m179.1 219) (m179.1 224) by rewrite [(show (m179.1 225) = (m.1 225) from ((fr1 Fm179 225 rfl).trans ((fr1 Fm177 225 rfl).trans ((fr1 Fm174 225 rfl).trans ((fr1 Fm109 225 rfl).trans ((fr1 Fm107 225 rfl).trans (fr1 Fm104 225 rfl))))))), (show (m179.2 52) = (m.2 52) from ((fr2 Fm179 52 rfl).trans ((fr2 Fm177 52 rfl).trans ((fr2 Fm174 52 rfl).trans ((fr2 Fm109 52 rfl).trans ((fr2 Fm107 52 rfl).trans (fr2 Fm104 52 rfl))))))), (show (m179.2 58) = (m.2 58) from ((fr2 Fm179 58 rfl).trans ((fr2 Fm177 58 rfl).trans ((fr2 Fm174 58 rfl).trans ((fr2 Fm109 58 rfl).trans ((fr2 Fm107 58 rfl).trans (fr2 Fm104 58 rfl))))))), (show (m179.2 55) = (m.2 55) from ((fr2 Fm179 55 rfl).trans ((fr2 Fm177 55 rfl).trans ((fr2 Fm174 55 rfl).trans ((fr2 Fm109 55 rfl).trans ((fr2 Fm107 55 rfl).trans (fr2 Fm104 55 rfl))))))), (show (m179.2 56) = (m.2 56) from ((fr2 Fm179 56 rfl).trans ((fr2 Fm177 56 rfl).trans ((fr2 Fm174 56 rfl).trans ((fr2 Fm109 56 rfl).trans ((fr2 Fm107 56 rfl).trans (fr2 Fm104 56 rfl))))))), (show (m179.1 219) = (m.1 219) from ((fr1 Fm179 219 rfl).trans ((fr1 Fm177 219 rfl).trans ((fr1 Fm174 219 rfl).trans ((fr1 Fm109 219 rfl).trans ((fr1 Fm107 219 rfl).trans (fr1 Fm104 219 rfl))))))), (show (m179.1 224) = (m.1 224) from ((fr1 Fm179 224 rfl).trans ((fr1 Fm177 224 rfl).trans ((fr1 Fm174 224 rfl).trans ((fr1 Fm109 224 rfl).trans ((fr1 Fm107 224 rfl).trans (fr1 Fm104 224 rfl)))))))]; exact hSP) (show 0 ≤ v178 ∧ v178 ≤ 11 by omega))) (fun rr195 k196 => ?_)
                obtain ⟨m197, Tm197, Fm197, h198, rfl⟩ := k196
                refine Or.inl ⟨_, _, _, _, rfl, ?_⟩
                refine K_nb (st' := []) rfl ?_
                replace h198 : TCp (m179.1 219) (m197.2 78) (m197.2 89) (m179.1 223) := h198
                rewrite [(show (m179.1 219) = (m.1 219) from ((fr1 Fm179 219 rfl).trans ((fr1 Fm177 219 rfl).trans ((fr1 Fm174 219 rfl).trans ((fr1 Fm109 219 rfl).trans ((fr1 Fm107 219 rfl).trans (fr1 Fm104 219 rfl))))))), (show (m179.1 223) = (m.1 223) from ((fr1 Fm179 223 rfl).trans ((fr1 Fm177 223 rfl).trans ((fr1 Fm174 223 rfl).trans ((fr1 Fm109 223 rfl).trans ((fr1 Fm107 223 rfl).trans (fr1 Fm104 223 rfl)))))))] at h198
                have hTC := h198
                refine T_iinc 171 [(4, .int (i32 (v178 + 1))), (5, .ref (obq (m.2 107) ((upI (m109.2 106) 0 ((m.1 233) % 128)) v178))), (0, .ref 185), (1, .int (i32 ((m.1 226) - 1)))] rfl rfl (by decide) rfl rfl ?_
                refine T_goto 133 rfl (fun _ => rfl) ?_
                refine Tm_lv (a := [(0, .ref 185), (1, .int (i32 ((m.1 226) - 1))), (4, .int (i32 (v178 + 1)))]) rfl rfl ⟨rfl, rfl, rfl, trivial⟩ ?_
                exact ih188 (v178 + 1) (mO m197 [] []) (r32 (by omega) (by omega)) Tm197 (fr_m (fr_s Fm197 (fr_m (fr_s Fm179 (fr_m fr_0 rfl rfl) rfl rfl) rfl rfl) rfl rfl) rfl rfl) (show 0 ≤ (v178 + 1) by omega) (show 0 ≤ (v178 + 1) ∧ (v178 + 1) ≤ 12 by omega) (show TCp (m.1 219) (m197.2 78) (m197.2 89) (m.1 223) by exact hTC) (show 20 - (v178 + 1) < (n187 : Int) by omega)
          refine Tm_lv (a := [(0, .ref 185), (1, .int (i32 ((m.1 226) - 1))), (4, .int (i32 0))]) rfl rfl ⟨rfl, rfl, rfl, trivial⟩ ?_
          exact L133_180 ((20 - (0 : Int) : Int) + 1).toNat 0 (mO m177 [] []) ⟨by decide, by decide⟩ Tm177 (fr_m fr_0 rfl rfl) (show 0 ≤ (0 : Int) by omega) (show 0 ≤ (0 : Int) ∧ (0 : Int) ≤ 12 by omega) (show TCp (m.1 219) (m177.2 78) (m177.2 89) (m.1 223) by rewrite [(show (m177.2 78) = (m.2 78) from ((fr2 Fm177 78 rfl).trans ((fr2 Fm174 78 rfl).trans ((fr2 Fm109 78 rfl).trans ((fr2 Fm107 78 rfl).trans (fr2 Fm104 78 rfl)))))), (show (m177.2 89) = (m.2 89) from ((fr2 Fm177 89 rfl).trans ((fr2 Fm174 89 rfl).trans ((fr2 Fm109 89 rfl).trans ((fr2 Fm107 89 rfl).trans (fr2 Fm104 89 rfl))))))]; exact hTC) (show 20 - (0 : Int) < ((((20 - (0 : Int) : Int) + 1).toNat : Nat) : Int) by omega)
      · skip
        refine T_ld 53 (.ref 185) rfl (fun _ => rfl) ?_
        refine K_gf 56 (.ref 187) rfl rfl kd_185 rfl rfl rfl ?_
        refine T_ld 57 (.int (i32 v108)) rfl (fun _ => rfl) ?_
        refine T_ld 58 (.ref 185) rfl (fun _ => rfl) ?_
        refine K_gf 61 (.ref 187) rfl rfl kd_185 rfl rfl rfl ?_
        refine T_ld 62 (.int (i32 v108)) rfl (fun _ => rfl) ?_
        refine T_ld 63 (.int (i32 1)) rfl (fun _ => rfl) ?_
        refine T_isub 64 rfl rfl ?_
        refine K_aaisF 65 (m109.2 106) (m.2 107) rfl rfl (by omega) (by omega) Tm109 rfl (show (m109.2 107) = (m.2 107) from ((fr2 Fm109 107 rfl).trans ((fr2 Fm107 107 rfl).trans (fr2 Fm104 107 rfl)))) ?_ (fun h199 h200 ok201 => ?_)
        · skip
          have G202 : ∀ j, (-1) ≤ (upI (m109.2 106) v108 (-1)) j ∧ (upI (m109.2 106) v108 (-1)) j ≤ 127 := upI_rg (Tm109.2.1 106) ⟨by omega, by omega⟩
          refine K_aasn (a' := [(106, upI (m109.2 106) v108 (-1))]) 66 (m109.2 106) rfl rfl (by omega) (by omega) Tm109 rfl rfl ?_
          refine T_iinc 69 [(3, .int (i32 (v108 + (-1)))), (0, .ref 185), (1, .int (i32 ((m.1 226) - 1)))] rfl rfl (by decide) rfl rfl ?_
          refine T_goto 48 rfl (fun _ => rfl) ?_
          refine Tm_lv (a := [(0, .ref 185), (1, .int (i32 ((m.1 226) - 1))), (3, .int (i32 (v108 + (-1))))]) rfl rfl ⟨rfl, rfl, rfl, trivial⟩ ?_
          exact ih119 (v108 + (-1)) (mO m109 [] [(106, upI (m109.2 106) v108 (-1))]) (r32 (by omega) (by omega)) (KTy_mO Tm109 rfl rfl trivial ⟨G202, trivial⟩) (fr_m (fr_s Fm109 (fr_m fr_0 rfl rfl) rfl rfl) rfl rfl) (show (-1) ≤ (v108 + (-1)) by omega) (show (v108 + (-1)) ≤ 11 by omega) (show 0 ≤ (v108 + (-1)) ∧ (v108 + (-1)) ≤ ((m.1 226) - 1) by omega) (show SHp (v108 + (-1)) ((m.1 226) - 1) (m.2 106) (upI (m109.2 106) v108 (-1)) by first | exact SH_0 rfl | exact SH_s hSH (by omega) (by omega) (Or.inl rfl) (by omega) | exact SH_s hSH (by omega) (by omega) (Or.inr (by decide)) (by omega)) (show (v108 + (-1)) + 1 < (n118 : Int) by omega)
        have ok203 : OKr m ((m109.2 106) (v108 - 1)) := OKr_c (show (m109.2 107) = (m.2 107) from ((fr2 Fm109 107 rfl).trans ((fr2 Fm107 107 rfl).trans (fr2 Fm104 107 rfl)))).symm (show (m109.2 108) = (m.2 108) from ((fr2 Fm109 108 rfl).trans ((fr2 Fm107 108 rfl).trans (fr2 Fm104 108 rfl)))).symm ok201
        have G204 : ∀ j, (-1) ≤ (upI (m109.2 106) v108 ((m109.2 106) (v108 - 1))) j ∧ (upI (m109.2 106) v108 ((m109.2 106) (v108 - 1))) j ≤ 127 := upI_rg (Tm109.2.1 106) ⟨by omega, by omega⟩
        refine K_aaso (a' := [(106, upI (m109.2 106) v108 ((m109.2 106) (v108 - 1)))]) 66 (m109.2 106) rfl rfl (by omega) (by omega) Tm109 (OKr_c (show (m109.2 107) = (m.2 107) from ((fr2 Fm109 107 rfl).trans ((fr2 Fm107 107 rfl).trans (fr2 Fm104 107 rfl)))) (show (m109.2 108) = (m.2 108) from ((fr2 Fm109 108 rfl).trans ((fr2 Fm107 108 rfl).trans (fr2 Fm104 108 rfl)))) ok203) (congrArg (fun f : Int → Int => (f ((m109.2 106) (v108 - 1))).toNat) (show (m109.2 107) = (m.2 107) from ((fr2 Fm109 107 rfl).trans ((fr2 Fm107 107 rfl).trans (fr2 Fm104 107 rfl))))) rfl rfl ?_
        refine T_iinc 69 [(3, .int (i32 (v108 + (-1)))), (0, .ref 185), (1, .int (i32 ((m.1 226) - 1)))] rfl rfl (by decide) rfl rfl ?_
        refine T_goto 48 rfl (fun _ => rfl) ?_
        refine Tm_lv (a := [(0, .ref 185), (1, .int (i32 ((m.1 226) - 1))), (3, .int (i32 (v108 + (-1))))]) rfl rfl ⟨rfl, rfl, rfl, trivial⟩ ?_
        exact ih119 (v108 + (-1)) (mO m109 [] [(106, upI (m109.2 106) v108 ((m109.2 106) (v108 - 1)))]) (r32 (by omega) (by omega)) (KTy_mO Tm109 rfl rfl trivial ⟨G204, trivial⟩) (fr_m (fr_s Fm109 (fr_m fr_0 rfl rfl) rfl rfl) rfl rfl) (show (-1) ≤ (v108 + (-1)) by omega) (show (v108 + (-1)) ≤ 11 by omega) (show 0 ≤ (v108 + (-1)) ∧ (v108 + (-1)) ≤ ((m.1 226) - 1) by omega) (show SHp (v108 + (-1)) ((m.1 226) - 1) (m.2 106) (upI (m109.2 106) v108 ((m109.2 106) (v108 - 1))) by first | exact SH_0 rfl | exact SH_s hSH (by omega) (by omega) (Or.inl rfl) (by omega) | exact SH_s hSH (by omega) (by omega) (Or.inr (by decide)) (by omega)) (show (v108 + (-1)) + 1 < (n118 : Int) by omega)
  refine Tm_lv (a := [(0, .ref 185), (1, .int (i32 ((m.1 226) - 1))), (3, .int (i32 ((m.1 226) - 1)))]) rfl rfl ⟨rfl, rfl, rfl, trivial⟩ ?_
  exact L48_110 ((((m.1 226) - 1) + 1 : Int) + 1).toNat ((m.1 226) - 1) (mO m107 [] []) (r32 (by omega) (by omega)) Tm107 (fr_m fr_0 rfl rfl) (show (-1) ≤ ((m.1 226) - 1) by omega) (show ((m.1 226) - 1) ≤ 11 by omega) (show 0 ≤ ((m.1 226) - 1) ∧ ((m.1 226) - 1) ≤ ((m.1 226) - 1) by omega) (show SHp ((m.1 226) - 1) ((m.1 226) - 1) (m.2 106) (m107.2 106) by rewrite [(show (m107.2 106) = (m.2 106) from ((fr2 Fm107 106 rfl).trans (fr2 Fm104 106 rfl)))]; first | exact SH_0 rfl | exact SH_s hSH (by omega) (by omega) (Or.inl rfl) (by omega) | exact SH_s hSH (by omega) (by omega) (Or.inr (by decide)) (by omega)) (show ((m.1 226) - 1) + 1 < ((((((m.1 226) - 1) + 1 : Int) + 1).toNat : Nat) : Int) by omega)
