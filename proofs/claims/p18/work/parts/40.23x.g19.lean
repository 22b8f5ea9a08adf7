def fF_writePacket : List Nat := []
def fA_writePacket : List Nat := [165, 166, 168]
def Q_writePacket (m : mR) (c : Nat → Option am_C) (N : Nat) (a : Int) : ag_Re af_T → Prop := fun R => ∃ (M : mR), Ty M ∧ fr fF_writePacket fA_writePacket m M ∧ R = (.inl (none), (mhp M c, N), 0, 0)
set_option maxHeartbeats 3000000 in
theorem c_writePacket (w : wX) (m : mR) (c : Nat → Option am_C) (N D : Nat) (hD : 1 ≤ D) (hT : Ty m) (a : Int) (qa : R32 a) (p0 : 0 ≤ a ∧ a ≤ 127) (hHB0 : HBi (m.2 29) (m.2 30) (m.2 33)) (pHO : ∀ g, 0 ≤ g → g < (m.1 19) → (m.2 30) g ≤ 512) (pIN : ∀ k, 0 ≤ k → k < (m.1 20) → (m.2 34) k < (m.1 19)) (hEM : ∀ j, 0 ≤ j → j < (m.1 125) → (m.2 124) j < (m.1 20)) : TC w D 340 [.ref 189, .int (i32 a)] (mhp m c, N) (Q_writePacket m c N a) := by
  obtain ⟨D, rfl⟩ : ∃ k, D = k + 1 := ⟨D - 1, by omega⟩
  obtain ⟨qaa, qab⟩ := id qa
  have hHB := hHB0
  have f176 : 0 ≤ m.1 176 ∧ m.1 176 ≤ 128 := hT.1 176
  have f125 : 0 ≤ m.1 125 ∧ m.1 125 ≤ 12 := hT.1 125
  have f19 : 0 ≤ m.1 19 ∧ m.1 19 ≤ 12 := hT.1 19
  have f20 : 0 ≤ m.1 20 ∧ m.1 20 ≤ 12 := hT.1 20
  refine Tc_of rfl ?_
  show TT w D pm_340 (0, [(0, .ref 189), (1, .int (i32 a))], [], (mhp (mO m [] []) c, N), 0, 0) (Q_writePacket m c N a)
  refine T_ld 1 (.int (i32 0)) rfl (fun _ => rfl) ?_
  refine T_sto 2 [(2, .int (i32 0)), (0, .ref 189), (1, .int (i32 a))] rfl (fun _ => rfl) ?_
  refine T_ld 5 (.int (i32 896)) rfl (fun _ => rfl) ?_
  refine T_ld 6 (.int (i32 a)) rfl (fun _ => rfl) ?_
  refine T_imul 7 rfl rfl ?_
  refine T_sto 8 [(3, .int (i32 (896 * a))), (2, .int (i32 0)), (0, .ref 189), (1, .int (i32 a))] rfl (fun _ => rfl) ?_
  refine T_ld 9 (.int (i32 0)) rfl (fun _ => rfl) ?_
  refine T_sto 11 [(4, .int (i32 0)), (3, .int (i32 (896 * a))), (2, .int (i32 0)), (0, .ref 189), (1, .int (i32 a))] rfl (fun _ => rfl) ?_
  have L11_3 : ∀ (n9 : Nat) (v1 : Int) (m2 : mR), (R32 v1) → Ty m2 → fr [] [168] (mO m [] []) m2 → (0 ≤ v1) → (v1 ≤ 896) → 896 - v1 < (n9 : Int) → TT w D pm_340 (11, [(0, .ref 189), (1, .int (i32 a)), (2, .int (i32 0)), (3, .int (i32 (896 * a))), (4, .int (i32 v1))], [], (mhp (mO m2 [] []) c, N), 0, 0) (Q_writePacket m c N a) := by
    intro n9
    induction n9 with
    | zero =>
      intro v1 m2 q6 Tm2 Fm2 ic4 ic5 hmu
      obtain ⟨q6a, q6b⟩ := id q6
      exfalso
      omega
    | succ n9 ih =>
      intro v1 m2 q6 Tm2 Fm2 ic4 ic5 hmu
      obtain ⟨q6a, q6b⟩ := id q6
      have ih10 := ih
      refine T_ld 13 (.int (i32 v1)) rfl (fun _ => rfl) ?_
      refine T_ld 16 (.int (i32 896)) rfl (fun _ => rfl) ?_
      refine T_icmp 35 19 rfl rfl rfl (r32 (by omega) (by omega)) ⟨by decide, by decide⟩ (fun (h11 : (896 : Int) ≤ v1) => ?_) (fun (h11 : ¬ ((896 : Int) ≤ v1)) => ?_)
      · skip
        refine T_ld 36 (.int (i32 0)) rfl (fun _ => rfl) ?_
        refine T_sto 38 [(4, .int (i32 0)), (0, .ref 189), (1, .int (i32 a)), (2, .int (i32 0)), (3, .int (i32 (896 * a)))] rfl (fun _ => rfl) ?_
        have L38_15 : ∀ (n24 : Nat) (v12 : Int) (v13 : Int) (m14 : mR), (R32 v12) → (R32 v13) → Ty m14 → fr [] [168] (mO m2 [] []) m14 → (0 ≤ v12) → (0 ≤ v13) → (v13 ≤ (m.1 125)) → (0 ≤ v12 ∧ v12 ≤ 512 * v13) → (m.1 125) - v13 < (n24 : Int) → TT w D pm_340 (38, [(0, .ref 189), (1, .int (i32 a)), (2, .int (i32 v12)), (3, .int (i32 (896 * a))), (4, .int (i32 v13))], [], (mhp (mO m14 [] []) c, N), 0, 0) (Q_writePacket m c N a) := by
          intro n24
          induction n24 with
          | zero =>
            intro v12 v13 m14 q20 q21 Tm14 Fm14 ic16 ic17 ic18 ic19 hmu
            obtain ⟨q20a, q20b⟩ := id q20
            obtain ⟨q21a, q21b⟩ := id q21
            exfalso
            omega
          | succ n24 ih =>
            intro v12 v13 m14 q20 q21 Tm14 Fm14 ic16 ic17 ic18 ic19 hmu
            obtain ⟨q20a, q20b⟩ := id q20
            obtain ⟨q21a, q21b⟩ := id q21
            have ih25 := ih
            refine T_ld 40 (.int (i32 v13)) rfl (fun _ => rfl) ?_
            refine T_gf 44 (.int (i32 (m.1 125))) rfl rfl rfl rfl (mfv_c (F := fun x => .int (i32 x)) rfl (show (m14.1 125) = (m.1 125) from ((fr1 Fm14 125 rfl).trans (fr1 Fm2 125 rfl)))) rfl ?_
            refine T_icmp 183 47 rfl rfl rfl (r32 (by omega) (by omega)) (r32 (by omega) (by omega)) (fun (h26 : (m.1 125) ≤ v13) => ?_) (fun (h26 : ¬ ((m.1 125) ≤ v13)) => ?_)
            · skip
              refine T_ld 184 (.int (i32 v12)) rfl (fun _ => rfl) ?_
              refine T_ld 186 (.int (i32 8)) rfl (fun _ => rfl) ?_
              refine T_idiv 187 rfl rfl (by omega) (by omega) (by omega) (by omega) ?_
              refine T_sto 189 [(4, .int (i32 (v12 / 8))), (0, .ref 189), (1, .int (i32 a)), (2, .int (i32 v12)), (3, .int (i32 (896 * a)))] rfl (fun _ => rfl) ?_
              refine T_gf 193 (.int (i32 (m.1 176))) rfl rfl rfl rfl (mfv_c (F := fun x => .int (i32 x)) rfl (show (m14.1 176) = (m.1 176) from ((fr1 Fm14 176 rfl).trans (fr1 Fm2 176 rfl)))) rfl ?_
              refine T_sto 195 [(5, .int (i32 (m.1 176))), (4, .int (i32 (v12 / 8))), (0, .ref 189), (1, .int (i32 a)), (2, .int (i32 v12)), (3, .int (i32 (896 * a)))] rfl (fun _ => rfl) ?_
              have L195_30 : ∀ (n40 : Nat) (v27 : Int) (v28 : Int) (m29 : mR), (R32 v27) → (R32 v28) → Ty m29 → fr [] [168] (mO m14 [] []) m29 → (0 ≤ v27) → (0 ≤ v28) → (v28 ≤ 128) → (0 ≤ v28 ∧ v28 ≤ 128 ∧ (m.1 176) ≤ v28) → (0 ≤ v27 ∧ v27 ≤ 768 + (v28 - (m.1 176))) → 200 - v28 < (n40 : Int) → TT w D pm_340 (195, [(0, .ref 189), (1, .int (i32 a)), (2, .int (i32 v12)), (3, .int (i32 (896 * a))), (4, .int (i32 v27)), (5, .int (i32 v28))], [], (mhp (mO m29 [] []) c, N), 0, 0) (Q_writePacket m c N a) := by
                intro n40
                induction n40 with
                | zero =>
                  intro v27 v28 m29 q36 q37 Tm29 Fm29 ic31 ic32 ic33 ic34 ic35 hmu
                  obtain ⟨q36a, q36b⟩ := id q36
                  obtain ⟨q37a, q37b⟩ := id q37
                  exfalso
                  omega
                | succ n40 ih =>
                  intro v27 v28 m29 q36 q37 Tm29 Fm29 ic31 ic32 ic33 ic34 ic35 hmu
                  obtain ⟨q36a, q36b⟩ := id q36
                  obtain ⟨q37a, q37b⟩ := id q37
                  have ih41 := ih
                  refine T_ld 197 (.int (i32 v28)) rfl (fun _ => rfl) ?_
                  refine T_gf 201 (.ref 303) rfl rfl rfl rfl rfl rfl ?_
                  refine T_ld 202 (.int (i32 0)) rfl (fun _ => rfl) ?_
                  refine T_iald 203 154 (m.2 154) rfl rfl rfl (by omega) (show 0 < (41 : Int) by omega) (show (m29.2 154) = (m.2 154) from ((fr2 Fm29 154 rfl).trans ((fr2 Fm14 154 rfl).trans (fr2 Fm2 154 rfl)))) ?_
                  have e42 : 0 ≤ m.2 154 0 ∧ m.2 154 0 ≤ 128 := hT.2.1 154 0
                  refine T_icmp 231 206 rfl rfl rfl (r32 (by omega) (by omega)) (r32 (by omega) (by omega)) (fun (h43 : (m.2 154) 0 ≤ v28) => ?_) (fun (h43 : ¬ ((m.2 154) 0 ≤ v28)) => ?_)
                  · skip
                    refine T_gf 235 (.ref 314) rfl rfl rfl rfl rfl rfl ?_
                    refine T_ld 236 (.int (i32 a)) rfl (fun _ => rfl) ?_
                    refine T_gf 240 (.ref 321) rfl rfl rfl rfl rfl rfl ?_
                    refine T_ld 241 (.int (i32 2)) rfl (fun _ => rfl) ?_
                    refine T_lald 242 172 (m.2 172) rfl rfl rfl (by omega) (show 2 < (16 : Int) by omega) (show (m29.2 172) = (m.2 172) from ((fr2 Fm29 172 rfl).trans ((fr2 Fm14 172 rfl).trans (fr2 Fm2 172 rfl)))) ?_
                    have e44 : (-9223372036854775808) ≤ m.2 172 2 ∧ m.2 172 2 ≤ 9223372036854775807 := hT.2.1 172 2
                    refine T_l2i 243 rfl rfl ?_
                    refine T_inm (fun z45 h46 => ?_)
                    obtain ⟨h46a, h46b⟩ := h46
                    have G47 : ∀ j, (-2147483648) ≤ (upI (m.2 165) a z45) j ∧ (upI (m.2 165) a z45) j ≤ 2147483647 := upI_rg (hT.2.1 165) ⟨by omega, by omega⟩
                    refine T_iast (a' := [(165, upI (m.2 165) a z45)]) 244 165 (m.2 165) rfl rfl rfl (by omega) (show a < (128 : Int) by omega) (show (m29.2 165) = (m.2 165) from ((fr2 Fm29 165 rfl).trans ((fr2 Fm14 165 rfl).trans (fr2 Fm2 165 rfl)))) rfl ?_
                    refine T_gf 248 (.ref 315) rfl rfl rfl rfl rfl rfl ?_
                    refine T_ld 249 (.int (i32 a)) rfl (fun _ => rfl) ?_
                    refine T_ld 251 (.int (i32 v27)) rfl (fun _ => rfl) ?_
                    have G48 : ∀ j, (-1) ≤ (upI (m.2 166) a v27) j ∧ (upI (m.2 166) a v27) j ≤ 896 := upI_rg (hT.2.1 166) ⟨by omega, by omega⟩
                    refine T_iast (a' := [(165, upI (m.2 165) a z45), (166, upI (m.2 166) a v27)]) 252 166 (m.2 166) rfl rfl rfl (by omega) (show a < (128 : Int) by omega) (show (m29.2 166) = (m.2 166) from ((fr2 Fm29 166 rfl).trans ((fr2 Fm14 166 rfl).trans (fr2 Fm2 166 rfl)))) rfl ?_
                    refine T_ret rfl (fun _ => rfl) ?_
                    exact ⟨(mO m29 [] [(165, upI (m.2 165) a z45), (166, upI (m.2 166) a v27)]), (Ty_mO Tm29 rfl rfl trivial ⟨G47, G48, trivial⟩), (fr_m (fr_s Fm29 (fr_m (fr_s Fm14 (fr_m (fr_s Fm2 (fr_m fr_0 rfl rfl) rfl rfl) rfl rfl) rfl rfl) rfl rfl) rfl rfl) rfl rfl), rfl⟩
                  · skip
                    refine T_gf 210 (.ref 317) rfl rfl rfl rfl rfl rfl ?_
                    refine T_ld 211 (.int (i32 (896 * a))) rfl (fun _ => rfl) ?_
                    refine T_ld 213 (.int (i32 v27)) rfl (fun _ => rfl) ?_
                    refine T_iadd 214 rfl rfl ?_
                    refine T_gf 218 (.ref 308) rfl rfl rfl rfl rfl rfl ?_
                    refine T_ld 220 (.int (i32 v28)) rfl (fun _ => rfl) ?_
                    refine T_iald 221 159 (m.2 159) rfl rfl rfl (by omega) (show v28 < (5248 : Int) by omega) (show (m29.2 159) = (m.2 159) from ((fr2 Fm29 159 rfl).trans ((fr2 Fm14 159 rfl).trans (fr2 Fm2 159 rfl)))) ?_
                    have e49 : 0 ≤ m.2 159 v28 ∧ m.2 159 v28 ≤ 255 := hT.2.1 159 v28
                    have G50 : ∀ j, (-2147483648) ≤ (upI (m29.2 168) ((896 * a) + v27) ((m.2 159) v28)) j ∧ (upI (m29.2 168) ((896 * a) + v27) ((m.2 159) v28)) j ≤ 2147483647 := upI_rg (Tm29.2.1 168) ⟨by omega, by omega⟩
                    refine T_iast (a' := [(168, upI (m29.2 168) ((896 * a) + v27) ((m.2 159) v28))]) 222 168 (m29.2 168) rfl rfl rfl (by omega) (show ((896 * a) + v27) < (114688 : Int) by omega) rfl rfl ?_
                    refine T_iinc 225 [(4, .int (i32 (v27 + 1))), (0, .ref 189), (1, .int (i32 a)), (2, .int (i32 v12)), (3, .int (i32 (896 * a))), (5, .int (i32 v28))] rfl rfl (by decide) rfl rfl ?_
                    refine T_iinc 228 [(5, .int (i32 (v28 + 1))), (4, .int (i32 (v27 + 1))), (0, .ref 189), (1, .int (i32 a)), (2, .int (i32 v12)), (3, .int (i32 (896 * a)))] rfl rfl (by decide) rfl rfl ?_
                    refine T_goto 195 rfl (fun _ => rfl) ?_
                    refine Tm_lv (a := [(0, .ref 189), (1, .int (i32 a)), (2, .int (i32 v12)), (3, .int (i32 (896 * a))), (4, .int (i32 (v27 + 1))), (5, .int (i32 (v28 + 1)))]) rfl rfl ⟨rfl, rfl, rfl, rfl, rfl, rfl, trivial⟩ ?_
                    exact ih41 (v27 + 1) (v28 + 1) (mO m29 [] [(168, upI (m29.2 168) ((896 * a) + v27) ((m.2 159) v28))]) (r32 (by omega) (by omega)) (r32 (by omega) (by omega)) (Ty_mO Tm29 rfl rfl trivial ⟨G50, trivial⟩) (fr_m (fr_s Fm29 (fr_m fr_0 rfl rfl) rfl rfl) rfl rfl) (show 0 ≤ (v27 + 1) by omega) (show 0 ≤ (v28 + 1) by omega) (show (v28 + 1) ≤ 128 by omega) (show 0 ≤ (v28 + 1) ∧ (v28 + 1) ≤ 128 ∧ (m.1 176) ≤ (v28 + 1) by omega) (show 0 ≤ (v27 + 1) ∧ (v27 + 1) ≤ 768 + ((v28 + 1) - (m.1 176)) by omega) (show 200 - (v28 + 1) < (n40 : Int) by omega)
              refine Tm_lv (a := [(0, .ref 189), (1, .int (i32 a)), (2, .int (i32 v12)), (3, .int (i32 (896 * a))), (4, .int (i32 (v12 / 8))), (5, .int (i32 (m.1 176)))]) rfl rfl ⟨rfl, rfl, rfl, rfl, rfl, rfl, trivial⟩ ?_
              exact L195_30 ((200 - (m.1 176) : Int) + 1).toNat (v12 / 8) (m.1 176) (mO m14 [] []) (r32 (by omega) (by omega)) (r32 (by omega) (by omega)) Tm14 (fr_m fr_0 rfl rfl) (show 0 ≤ (v12 / 8) by omega) (show 0 ≤ (m.1 176) by omega) (show (m.1 176) ≤ 128 by omega) (show 0 ≤ (m.1 176) ∧ (m.1 176) ≤ 128 ∧ (m.1 176) ≤ (m.1 176) by omega) (show 0 ≤ (v12 / 8) ∧ (v12 / 8) ≤ 768 + ((m.1 176) - (m.1 176)) by omega) (show 200 - (m.1 176) < ((((200 - (m.1 176) : Int) + 1).toNat : Nat) : Int) by omega)
            · skip
              have he1 := hEM v13 (by omega) (by omega)
              refine T_gf 51 (.ref 283) rfl rfl rfl rfl rfl rfl ?_
              refine T_ld 53 (.int (i32 v13)) rfl (fun _ => rfl) ?_
              refine T_iald 54 124 (m.2 124) rfl rfl rfl (by omega) (show v13 < (12 : Int) by omega) (show (m14.2 124) = (m.2 124) from ((fr2 Fm14 124 rfl).trans (fr2 Fm2 124 rfl))) ?_
              have e51 : 0 ≤ m.2 124 v13 ∧ m.2 124 v13 ≤ 11 := hT.2.1 124 v13
              refine T_sto 56 [(5, .int (i32 ((m.2 124) v13))), (0, .ref 189), (1, .int (i32 a)), (2, .int (i32 v12)), (3, .int (i32 (896 * a))), (4, .int (i32 v13))] rfl (fun _ => rfl) ?_
              refine T_gf 60 (.ref 204) rfl rfl rfl rfl rfl rfl ?_
              refine T_ld 62 (.int (i32 ((m.2 124) v13))) rfl (fun _ => rfl) ?_
              refine T_iald 63 34 (m.2 34) rfl rfl rfl (by omega) (show ((m.2 124) v13) < (12 : Int) by omega) (show (m14.2 34) = (m.2 34) from ((fr2 Fm14 34 rfl).trans (fr2 Fm2 34 rfl))) ?_
              have e52 : 0 ≤ m.2 34 ((m.2 124) v13) ∧ m.2 34 ((m.2 124) v13) ≤ 11 := hT.2.1 34 ((m.2 124) v13)
              refine T_sto 65 [(6, .int (i32 ((m.2 34) ((m.2 124) v13)))), (5, .int (i32 ((m.2 124) v13))), (0, .ref 189), (1, .int (i32 a)), (2, .int (i32 v12)), (3, .int (i32 (896 * a))), (4, .int (i32 v13))] rfl (fun _ => rfl) ?_
              have he2 := pIN ((m.2 124) v13) (by omega) (by omega)
              have he3 := pHO ((m.2 34) ((m.2 124) v13)) (by omega) (by omega)
              have he4 := hHB0 ((m.2 34) ((m.2 124) v13)) (by omega) (by omega)
              have hz0 := sm_0 (m.2 33) (16 * ((m.2 34) ((m.2 124) v13)))
              refine T_ld 66 (.int (i32 0)) rfl (fun _ => rfl) ?_
              refine T_sto 68 [(7, .int (i32 0)), (6, .int (i32 ((m.2 34) ((m.2 124) v13)))), (5, .int (i32 ((m.2 124) v13))), (0, .ref 189), (1, .int (i32 a)), (2, .int (i32 v12)), (3, .int (i32 (896 * a))), (4, .int (i32 v13))] rfl (fun _ => rfl) ?_
              have e66 : 0 ≤ m.2 29 ((m.2 34) ((m.2 124) v13)) ∧ m.2 29 ((m.2 34) ((m.2 124) v13)) ≤ 16 := hT.2.1 29 ((m.2 34) ((m.2 124) v13))
              have L68_56 : ∀ (n65 : Nat) (v53 : Int) (v54 : Int) (m55 : mR), (R32 v53) → (R32 v54) → Ty m55 → fr [] [168] (mO m14 [] []) m55 → (0 ≤ v53) → (0 ≤ v54) → (v54 ≤ (m.2 29) ((m.2 34) ((m.2 124) v13))) → (0 ≤ v53 ∧ v53 ≤ 512 * v13 + sm (m.2 33) (16 * ((m.2 34) ((m.2 124) v13))) v54) → ((m.2 29) ((m.2 34) ((m.2 124) v13))) - v54 < (n65 : Int) → TT w D pm_340 (68, [(0, .ref 189), (1, .int (i32 a)), (2, .int (i32 v53)), (3, .int (i32 (896 * a))), (4, .int (i32 v13)), (5, .int (i32 ((m.2 124) v13))), (6, .int (i32 ((m.2 34) ((m.2 124) v13)))), (7, .int (i32 v54))], [], (mhp (mO m55 [] []) c, N), 0, 0) (Q_writePacket m c N a) := by
                intro n65
                induction n65 with
                | zero =>
                  intro v53 v54 m55 q61 q62 Tm55 Fm55 ic57 ic58 ic59 ic60 hmu
                  obtain ⟨q61a, q61b⟩ := id q61
                  obtain ⟨q62a, q62b⟩ := id q62
                  exfalso
                  omega
                | succ n65 ih =>
                  intro v53 v54 m55 q61 q62 Tm55 Fm55 ic57 ic58 ic59 ic60 hmu
                  obtain ⟨q61a, q61b⟩ := id q61
                  obtain ⟨q62a, q62b⟩ := id q62
                  have ih67 := ih
                  refine T_ld 70 (.int (i32 v54)) rfl (fun _ => rfl) ?_
                  refine T_gf 74 (.ref 199) rfl rfl rfl rfl rfl rfl ?_
                  refine T_ld 76 (.int (i32 ((m.2 34) ((m.2 124) v13)))) rfl (fun _ => rfl) ?_
                  refine T_iald 77 29 (m.2 29) rfl rfl rfl (by omega) (show ((m.2 34) ((m.2 124) v13)) < (12 : Int) by omega) (show (m55.2 29) = (m.2 29) from ((fr2 Fm55 29 rfl).trans ((fr2 Fm14 29 rfl).trans (fr2 Fm2 29 rfl)))) ?_
                  have e68 : 0 ≤ m.2 29 ((m.2 34) ((m.2 124) v13)) ∧ m.2 29 ((m.2 34) ((m.2 124) v13)) ≤ 16 := hT.2.1 29 ((m.2 34) ((m.2 124) v13))
                  refine T_icmp 177 80 rfl rfl rfl (r32 (by omega) (by omega)) (r32 (by omega) (by omega)) (fun (h69 : (m.2 29) ((m.2 34) ((m.2 124) v13)) ≤ v54) => ?_) (fun (h69 : ¬ ((m.2 29) ((m.2 34) ((m.2 124) v13)) ≤ v54)) => ?_)
                  · skip
                    have hs3 := sm_mo (f := (m.2 33)) (hT.2.1 33) (a := 16 * ((m.2 34) ((m.2 124) v13))) (k := v54) (n := (m.2 29) ((m.2 34) ((m.2 124) v13))) (by omega) (by omega)
                    refine T_iinc 180 [(4, .int (i32 (v13 + 1))), (0, .ref 189), (1, .int (i32 a)), (2, .int (i32 v53)), (3, .int (i32 (896 * a))), (5, .int (i32 ((m.2 124) v13))), (6, .int (i32 ((m.2 34) ((m.2 124) v13)))), (7, .int (i32 v54))] rfl rfl (by decide) rfl rfl ?_
                    refine T_goto 38 rfl (fun _ => rfl) ?_
                    refine Tm_lv (a := [(0, .ref 189), (1, .int (i32 a)), (2, .int (i32 v53)), (3, .int (i32 (896 * a))), (4, .int (i32 (v13 + 1)))]) rfl rfl ⟨rfl, rfl, rfl, rfl, rfl, trivial⟩ ?_
                    exact ih25 v53 (v13 + 1) (mO m55 [] []) (r32 (by omega) (by omega)) (r32 (by omega) (by omega)) Tm55 (fr_m (fr_s Fm55 (fr_m (fr_s Fm14 (fr_m fr_0 rfl rfl) rfl rfl) rfl rfl) rfl rfl) rfl rfl) (show 0 ≤ v53 by omega) (show 0 ≤ (v13 + 1) by omega) (show (v13 + 1) ≤ (m.1 125) by omega) (show 0 ≤ v53 ∧ v53 ≤ 512 * (v13 + 1) by omega) (show (m.1 125) - (v13 + 1) < (n24 : Int) by omega)
                  · skip
                    refine T_gf 84 (.ref 324) rfl rfl rfl rfl rfl rfl ?_
                    refine T_ld 86 (.int (i32 ((m.2 124) v13))) rfl (fun _ => rfl) ?_
                    refine T_bald 87 175 (m.2 175) rfl rfl rfl (by omega) (show ((m.2 124) v13) < (12 : Int) by omega) (show (m55.2 175) = (m.2 175) from ((fr2 Fm55 175 rfl).trans ((fr2 Fm14 175 rfl).trans (fr2 Fm2 175 rfl)))) ?_
                    have e70 : 0 ≤ m.2 175 ((m.2 124) v13) ∧ m.2 175 ((m.2 124) v13) ≤ 1 := hT.2.1 175 ((m.2 124) v13)
                    refine T_if 177 90 rfl rfl rfl (r32 (by omega) (by omega)) (fun (h71 : (m.2 175) ((m.2 124) v13) = 0) => ?_) (fun (h71 : ¬ ((m.2 175) ((m.2 124) v13) = 0)) => ?_)
                    · skip
                      have hs3 := sm_mo (f := (m.2 33)) (hT.2.1 33) (a := 16 * ((m.2 34) ((m.2 124) v13))) (k := v54) (n := (m.2 29) ((m.2 34) ((m.2 124) v13))) (by omega) (by omega)
                      refine T_iinc 180 [(4, .int (i32 (v13 + 1))), (0, .ref 189), (1, .int (i32 a)), (2, .int (i32 v53)), (3, .int (i32 (896 * a))), (5, .int (i32 ((m.2 124) v13))), (6, .int (i32 ((m.2 34) ((m.2 124) v13)))), (7, .int (i32 v54))] rfl rfl (by decide) rfl rfl ?_
                      refine T_goto 38 rfl (fun _ => rfl) ?_
                      refine Tm_lv (a := [(0, .ref 189), (1, .int (i32 a)), (2, .int (i32 v53)), (3, .int (i32 (896 * a))), (4, .int (i32 (v13 + 1)))]) rfl rfl ⟨rfl, rfl, rfl, rfl, rfl, trivial⟩ ?_
                      exact ih25 v53 (v13 + 1) (mO m55 [] []) (r32 (by omega) (by omega)) (r32 (by omega) (by omega)) Tm55 (fr_m (fr_s Fm55 (fr_m (fr_s Fm14 (fr_m fr_0 rfl rfl) rfl rfl) rfl rfl) rfl rfl) rfl rfl) (show 0 ≤ v53 by omega) (show 0 ≤ (v13 + 1) by omega) (show (v13 + 1) ≤ (m.1 125) by omega) (show 0 ≤ v53 ∧ v53 ≤ 512 * (v13 + 1) by omega) (show (m.1 125) - (v13 + 1) < (n24 : Int) by omega)
                    · skip
                      have hs := sm_s (m.2 33) (16 * ((m.2 34) ((m.2 124) v13))) v54 (by omega)
                      have hs2 := sm_mo (f := (m.2 33)) (hT.2.1 33) (a := 16 * ((m.2 34) ((m.2 124) v13))) (k := v54 + 1) (n := (m.2 29) ((m.2 34) ((m.2 124) v13))) (by omega) (by omega)
                      refine T_gf 94 (.ref 203) rfl rfl rfl rfl rfl rfl ?_
                      refine T_ld 96 (.int (i32 16)) rfl (fun _ => rfl) ?_
                      refine T_ld 98 (.int (i32 ((m.2 34) ((m.2 124) v13)))) rfl (fun _ => rfl) ?_
                      refine T_imul 99 rfl rfl ?_
                      refine T_ld 101 (.int (i32 v54)) rfl (fun _ => rfl) ?_
                      refine T_iadd 102 rfl rfl ?_
                      refine T_iald 103 33 (m.2 33) rfl rfl rfl (by omega) (show ((16 * ((m.2 34) ((m.2 124) v13))) + v54) < (192 : Int) by omega) (show (m55.2 33) = (m.2 33) from ((fr2 Fm55 33 rfl).trans ((fr2 Fm14 33 rfl).trans (fr2 Fm2 33 rfl)))) ?_
                      have e72 : 0 ≤ m.2 33 ((16 * ((m.2 34) ((m.2 124) v13))) + v54) ∧ m.2 33 ((16 * ((m.2 34) ((m.2 124) v13))) + v54) ≤ 64 := hT.2.1 33 ((16 * ((m.2 34) ((m.2 124) v13))) + v54)
                      refine T_ld 104 (.int (i32 1)) rfl (fun _ => rfl) ?_
                      refine T_isub 105 rfl rfl ?_
                      refine T_sto 107 [(8, .int (i32 (((m.2 33) ((16 * ((m.2 34) ((m.2 124) v13))) + v54)) - 1))), (0, .ref 189), (1, .int (i32 a)), (2, .int (i32 v53)), (3, .int (i32 (896 * a))), (4, .int (i32 v13)), (5, .int (i32 ((m.2 124) v13))), (6, .int (i32 ((m.2 34) ((m.2 124) v13)))), (7, .int (i32 v54))] rfl (fun _ => rfl) ?_
                      have L107_76 : ∀ (n85 : Nat) (v73 : Int) (v74 : Int) (m75 : mR), (R32 v73) → (R32 v74) → Ty m75 → fr [] [168] (mO m55 [] []) m75 → (0 ≤ v73) → ((-1) ≤ v74) → (v74 ≤ 63) → (0 ≤ v73 ∧ v73 + v74 + 1 ≤ 512 * v13 + sm (m.2 33) (16 * ((m.2 34) ((m.2 124) v13))) (v54 + 1)) → v74 + 1 < (n85 : Int) → TT w D pm_340 (107, [(0, .ref 189), (1, .int (i32 a)), (2, .int (i32 v73)), (3, .int (i32 (896 * a))), (4, .int (i32 v13)), (5, .int (i32 ((m.2 124) v13))), (6, .int (i32 ((m.2 34) ((m.2 124) v13)))), (7, .int (i32 v54)), (8, .int (i32 v74))], [], (mhp (mO m75 [] []) c, N), 0, 0) (Q_writePacket m c N a) := by
                        intro n85
                        induction n85 with
                        | zero =>
                          intro v73 v74 m75 q81 q82 Tm75 Fm75 ic77 ic78 ic79 ic80 hmu
                          obtain ⟨q81a, q81b⟩ := id q81
                          obtain ⟨q82a, q82b⟩ := id q82
                          exfalso
                          omega
                        | succ n85 ih =>
                          intro v73 v74 m75 q81 q82 Tm75 Fm75 ic77 ic78 ic79 ic80 hmu
                          obtain ⟨q81a, q81b⟩ := id q81
                          obtain ⟨q82a, q82b⟩ := id q82
                          have ih86 := ih
                          refine T_ld 109 (.int (i32 v74)) rfl (fun _ => rfl) ?_
                          refine T_if 171 112 rfl rfl rfl (r32 (by omega) (by omega)) (fun (h87 : v74 < 0) => ?_) (fun (h87 : ¬ (v74 < 0)) => ?_)
                          · skip
                            refine T_iinc 174 [(7, .int (i32 (v54 + 1))), (0, .ref 189), (1, .int (i32 a)), (2, .int (i32 v73)), (3, .int (i32 (896 * a))), (4, .int (i32 v13)), (5, .int (i32 ((m.2 124) v13))), (6, .int (i32 ((m.2 34) ((m.2 124) v13)))), (8, .int (i32 v74))] rfl rfl (by decide) rfl rfl ?_
                            refine T_goto 68 rfl (fun _ => rfl) ?_
                            refine Tm_lv (a := [(0, .ref 189), (1, .int (i32 a)), (2, .int (i32 v73)), (3, .int (i32 (896 * a))), (4, .int (i32 v13)), (5, .int (i32 ((m.2 124) v13))), (6, .int (i32 ((m.2 34) ((m.2 124) v13)))), (7, .int (i32 (v54 + 1)))]) rfl rfl ⟨rfl, rfl, rfl, rfl, rfl, rfl, rfl, rfl, trivial⟩ ?_
                            exact ih67 v73 (v54 + 1) (mO m75 [] []) (r32 (by omega) (by omega)) (r32 (by omega) (by omega)) Tm75 (fr_m (fr_s Fm75 (fr_m (fr_s Fm55 (fr_m fr_0 rfl rfl) rfl rfl) rfl rfl) rfl rfl) rfl rfl) (show 0 ≤ v73 by omega) (show 0 ≤ (v54 + 1) by omega) (show (v54 + 1) ≤ (m.2 29) ((m.2 34) ((m.2 124) v13)) by omega) (show 0 ≤ v73 ∧ v73 ≤ 512 * v13 + sm (m.2 33) (16 * ((m.2 34) ((m.2 124) v13))) (v54 + 1) by omega) (show ((m.2 29) ((m.2 34) ((m.2 124) v13))) - (v54 + 1) < (n65 : Int) by omega)
                          · skip
                            refine T_ld 113 (.int (i32 (896 * a))) rfl (fun _ => rfl) ?_
                            refine T_ld 114 (.int (i32 v73)) rfl (fun _ => rfl) ?_
                            refine T_ld 116 (.int (i32 8)) rfl (fun _ => rfl) ?_
                            refine T_idiv 117 rfl rfl (by omega) (by omega) (by omega) (by omega) ?_
                            refine T_iadd 118 rfl rfl ?_
                            refine T_sto 120 [(9, .int (i32 ((896 * a) + (v73 / 8)))), (0, .ref 189), (1, .int (i32 a)), (2, .int (i32 v73)), (3, .int (i32 (896 * a))), (4, .int (i32 v13)), (5, .int (i32 ((m.2 124) v13))), (6, .int (i32 ((m.2 34) ((m.2 124) v13)))), (7, .int (i32 v54)), (8, .int (i32 v74))] rfl (fun _ => rfl) ?_
                            refine T_gf 124 (.ref 317) rfl rfl rfl rfl rfl rfl ?_
                            refine T_ld 126 (.int (i32 ((896 * a) + (v73 / 8)))) rfl (fun _ => rfl) ?_
                            refine T_gf 130 (.ref 317) rfl rfl rfl rfl rfl rfl ?_
                            refine T_ld 132 (.int (i32 ((896 * a) + (v73 / 8)))) rfl (fun _ => rfl) ?_
                            refine T_iald 133 168 (m75.2 168) rfl rfl rfl (by omega) (show ((896 * a) + (v73 / 8)) < (114688 : Int) by omega) rfl ?_
                            have e88 : (-2147483648) ≤ (m75.2 168) ((896 * a) + (v73 / 8)) ∧ (m75.2 168) ((896 * a) + (v73 / 8)) ≤ 2147483647 := (Tm75.2.1 168) ((896 * a) + (v73 / 8))
                            refine T_gf 137 (.ref 320) rfl rfl rfl rfl rfl rfl ?_
                            refine T_ld 139 (.int (i32 16)) rfl (fun _ => rfl) ?_
                            refine T_ld 141 (.int (i32 ((m.2 124) v13))) rfl (fun _ => rfl) ?_
                            refine T_imul 142 rfl rfl ?_
                            refine T_ld 144 (.int (i32 v54)) rfl (fun _ => rfl) ?_
                            refine T_iadd 145 rfl rfl ?_
                            refine T_lald 146 171 (m.2 171) rfl rfl rfl (by omega) (show ((16 * ((m.2 124) v13)) + v54) < (192 : Int) by omega) (show (m75.2 171) = (m.2 171) from ((fr2 Fm75 171 rfl).trans ((fr2 Fm55 171 rfl).trans ((fr2 Fm14 171 rfl).trans (fr2 Fm2 171 rfl))))) ?_
                            have e89 : (-9223372036854775808) ≤ m.2 171 ((16 * ((m.2 124) v13)) + v54) ∧ m.2 171 ((16 * ((m.2 124) v13)) + v54) ≤ 9223372036854775807 := hT.2.1 171 ((16 * ((m.2 124) v13)) + v54)
                            refine T_ld 148 (.int (i32 v74)) rfl (fun _ => rfl) ?_
                            refine T_lhv 149 _ rfl (fun _ => rfl) (fun z90 h91 => ?_)
                            obtain ⟨h91a, h91b⟩ := h91
                            refine T_ld 150 (.long (i64 1)) rfl (fun _ => rfl) ?_
                            refine T_land 151 rfl rfl (by decide) (by decide) (fun z92 h93 => ?_)
                            refine T_l2i 152 rfl rfl ?_
                            refine T_inm (fun z94 h95 => ?_)
                            obtain ⟨h95a, h95b⟩ := h95
                            refine T_ld 154 (.int (i32 7)) rfl (fun _ => rfl) ?_
                            refine T_ld 155 (.int (i32 v73)) rfl (fun _ => rfl) ?_
                            refine T_ld 157 (.int (i32 8)) rfl (fun _ => rfl) ?_
                            refine T_irem 158 rfl rfl (by omega) (by omega) (by omega) (by omega) ?_
                            refine T_isub 159 rfl rfl ?_
                            refine T_hv 160 _ rfl (fun _ => rfl) (fun z96 h97 => ?_)
                            obtain ⟨h97a, h97b⟩ := h97
                            refine T_hv 161 _ rfl (fun _ => rfl) (fun z98 h99 => ?_)
                            obtain ⟨h99a, h99b⟩ := h99
                            have G100 : ∀ j, (-2147483648) ≤ (upI (m75.2 168) ((896 * a) + (v73 / 8)) z98) j ∧ (upI (m75.2 168) ((896 * a) + (v73 / 8)) z98) j ≤ 2147483647 := upI_rg (Tm75.2.1 168) ⟨by omega, by omega⟩
                            refine T_iast (a' := [(168, upI (m75.2 168) ((896 * a) + (v73 / 8)) z98)]) 162 168 (m75.2 168) rfl rfl rfl (by omega) (show ((896 * a) + (v73 / 8)) < (114688 : Int) by omega) rfl rfl ?_
                            refine T_iinc 165 [(2, .int (i32 (v73 + 1))), (9, .int (i32 ((896 * a) + (v73 / 8)))), (0, .ref 189), (1, .int (i32 a)), (3, .int (i32 (896 * a))), (4, .int (i32 v13)), (5, .int (i32 ((m.2 124) v13))), (6, .int (i32 ((m.2 34) ((m.2 124) v13)))), (7, .int (i32 v54)), (8, .int (i32 v74))] rfl rfl (by decide) rfl rfl ?_
                            refine T_iinc 168 [(8, .int (i32 (v74 + (-1)))), (2, .int (i32 (v73 + 1))), (9, .int (i32 ((896 * a) + (v73 / 8)))), (0, .ref 189), (1, .int (i32 a)), (3, .int (i32 (896 * a))), (4, .int (i32 v13)), (5, .int (i32 ((m.2 124) v13))), (6, .int (i32 ((m.2 34) ((m.2 124) v13)))), (7, .int (i32 v54))] rfl rfl (by decide) rfl rfl ?_
                            refine T_goto 107 rfl (fun _ => rfl) ?_
                            refine Tm_lv (a := [(0, .ref 189), (1, .int (i32 a)), (2, .int (i32 (v73 + 1))), (3, .int (i32 (896 * a))), (4, .int (i32 v13)), (5, .int (i32 ((m.2 124) v13))), (6, .int (i32 ((m.2 34) ((m.2 124) v13)))), (7, .int (i32 v54)), (8, .int (i32 (v74 + (-1))))]) rfl rfl ⟨rfl, rfl, rfl, rfl, rfl, rfl, rfl, rfl, rfl, trivial⟩ ?_
                            exact ih86 (v73 + 1) (v74 + (-1)) (mO m75 [] [(168, upI (m75.2 168) ((896 * a) + (v73 / 8)) z98)]) (r32 (by omega) (by omega)) (r32 (by omega) (by omega)) (Ty_mO Tm75 rfl rfl trivial ⟨G100, trivial⟩) (fr_m (fr_s Fm75 (fr_m fr_0 rfl rfl) rfl rfl) rfl rfl) (show 0 ≤ (v73 + 1) by omega) (show (-1) ≤ (v74 + (-1)) by omega) (show (v74 + (-1)) ≤ 63 by omega) (show 0 ≤ (v73 + 1) ∧ (v73 + 1) + (v74 + (-1)) + 1 ≤ 512 * v13 + sm (m.2 33) (16 * ((m.2 34) ((m.2 124) v13))) (v54 + 1) by omega) (show (v74 + (-1)) + 1 < (n85 : Int) by omega)
                      refine Tm_lv (a := [(0, .ref 189), (1, .int (i32 a)), (2, .int (i32 v53)), (3, .int (i32 (896 * a))), (4, .int (i32 v13)), (5, .int (i32 ((m.2 124) v13))), (6, .int (i32 ((m.2 34) ((m.2 124) v13)))), (7, .int (i32 v54)), (8, .int (i32 (((m.2 33) ((16 * ((m.2 34) ((m.2 124) v13))) + v54)) - 1)))]) rfl rfl ⟨rfl, rfl, rfl, rfl, rfl, rfl, rfl, rfl, rfl, trivial⟩ ?_
                      exact L107_76 (((((m.2 33) ((16 * ((m.2 34) ((m.2 124) v13))) + v54)) - 1) + 1 : Int) + 1).toNat v53 (((m.2 33) ((16 * ((m.2 34) ((m.2 124) v13))) + v54)) - 1) (mO m55 [] []) (r32 (by omega) (by omega)) (r32 (by omega) (by omega)) Tm55 (fr_m fr_0 rfl rfl) (show 0 ≤ v53 by omega) (show (-1) ≤ (((m.2 33) ((16 * ((m.2 34) ((m.2 124) v13))) + v54)) - 1) by omega) (show (((m.2 33) ((16 * ((m.2 34) ((m.2 124) v13))) + v54)) - 1) ≤ 63 by omega) (show 0 ≤ v53 ∧ v53 + (((m.2 33) ((16 * ((m.2 34) ((m.2 124) v13))) + v54)) - 1) + 1 ≤ 512 * v13 + sm (m.2 33) (16 * ((m.2 34) ((m.2 124) v13))) (v54 + 1) by omega) (show (((m.2 33) ((16 * ((m.2 34) ((m.2 124) v13))) + v54)) - 1) + 1 < (((((((m.2 33) ((16 * ((m.2 34) ((m.2 124) v13))) + v54)) - 1) + 1 : Int) + 1).toNat : Nat) : Int) by omega)
              refine Tm_lv (a := [(0, .ref 189), (1, .int (i32 a)), (2, .int (i32 v12)), (3, .int (i32 (896 * a))), (4, .int (i32 v13)), (5, .int (i32 ((m.2 124) v13))), (6, .int (i32 ((m.2 34) ((m.2 124) v13)))), (7, .int (i32 0))]) rfl rfl ⟨rfl, rfl, rfl, rfl, rfl, rfl, rfl, rfl, trivial⟩ ?_
              exact L68_56 ((((m.2 29) ((m.2 34) ((m.2 124) v13))) - (0 : Int) : Int) + 1).toNat v12 0 (mO m14 [] []) (r32 (by omega) (by omega)) ⟨by decide, by decide⟩ Tm14 (fr_m fr_0 rfl rfl) (show 0 ≤ v12 by omega) (show 0 ≤ (0 : Int) by omega) (show (0 : Int) ≤ (m.2 29) ((m.2 34) ((m.2 124) v13)) by omega) (show 0 ≤ v12 ∧ v12 ≤ 512 * v13 + sm (m.2 33) (16 * ((m.2 34) ((m.2 124) v13))) (0 : Int) by omega) (show ((m.2 29) ((m.2 34) ((m.2 124) v13))) - (0 : Int) < ((((((m.2 29) ((m.2 34) ((m.2 124) v13))) - (0 : Int) : Int) + 1).toNat : Nat) : Int) by omega)
        refine Tm_lv (a := [(0, .ref 189), (1, .int (i32 a)), (2, .int (i32 0)), (3, .int (i32 (896 * a))), (4, .int (i32 0))]) rfl rfl ⟨rfl, rfl, rfl, rfl, rfl, trivial⟩ ?_
        exact L38_15 (((m.1 125) - (0 : Int) : Int) + 1).toNat 0 0 (mO m2 [] []) ⟨by decide, by decide⟩ ⟨by decide, by decide⟩ Tm2 (fr_m fr_0 rfl rfl) (show 0 ≤ (0 : Int) by omega) (show 0 ≤ (0 : Int) by omega) (show (0 : Int) ≤ (m.1 125) by omega) (show 0 ≤ (0 : Int) ∧ (0 : Int) ≤ 512 * (0 : Int) by omega) (show (m.1 125) - (0 : Int) < (((((m.1 125) - (0 : Int) : Int) + 1).toNat : Nat) : Int) by omega)
      · skip
        refine T_gf 23 (.ref 317) rfl rfl rfl rfl rfl rfl ?_
        refine T_ld 24 (.int (i32 (896 * a))) rfl (fun _ => rfl) ?_
        refine T_ld 26 (.int (i32 v1)) rfl (fun _ => rfl) ?_
        refine T_iadd 27 rfl rfl ?_
        refine T_ld 28 (.int (i32 0)) rfl (fun _ => rfl) ?_
        have G101 : ∀ j, (-2147483648) ≤ (upI (m2.2 168) ((896 * a) + v1) 0) j ∧ (upI (m2.2 168) ((896 * a) + v1) 0) j ≤ 2147483647 := upI_rg (Tm2.2.1 168) ⟨by omega, by omega⟩
        refine T_iast (a' := [(168, upI (m2.2 168) ((896 * a) + v1) 0)]) 29 168 (m2.2 168) rfl rfl rfl (by omega) (show ((896 * a) + v1) < (114688 : Int) by omega) rfl rfl ?_
        refine T_iinc 32 [(4, .int (i32 (v1 + 1))), (0, .ref 189), (1, .int (i32 a)), (2, .int (i32 0)), (3, .int (i32 (896 * a)))] rfl rfl (by decide) rfl rfl ?_
        refine T_goto 11 rfl (fun _ => rfl) ?_
        refine Tm_lv (a := [(0, .ref 189), (1, .int (i32 a)), (2, .int (i32 0)), (3, .int (i32 (896 * a))), (4, .int (i32 (v1 + 1)))]) rfl rfl ⟨rfl, rfl, rfl, rfl, rfl, trivial⟩ ?_
        exact ih10 (v1 + 1) (mO m2 [] [(168, upI (m2.2 168) ((896 * a) + v1) 0)]) (r32 (by omega) (by omega)) (Ty_mO Tm2 rfl rfl trivial ⟨G101, trivial⟩) (fr_m (fr_s Fm2 (fr_m fr_0 rfl rfl) rfl rfl) rfl rfl) (show 0 ≤ (v1 + 1) by omega) (show (v1 + 1) ≤ 896 by omega) (show 896 - (v1 + 1) < (n9 : Int) by omega)
  refine Tm_lv (a := [(0, .ref 189), (1, .int (i32 a)), (2, .int (i32 0)), (3, .int (i32 (896 * a))), (4, .int (i32 0))]) rfl rfl ⟨rfl, rfl, rfl, rfl, rfl, trivial⟩ ?_
  exact L11_3 ((896 - (0 : Int) : Int) + 1).toNat 0 (mO m [] []) ⟨by decide, by decide⟩ hT (fr_m fr_0 rfl rfl) (show 0 ≤ (0 : Int) by omega) (show (0 : Int) ≤ 896 by omega) (show 896 - (0 : Int) < ((((896 - (0 : Int) : Int) + 1).toNat : Nat) : Int) by omega)
def fF_moveDown : List Nat := []
def fA_moveDown : List Nat := [153, 154, 155, 156, 157, 158, 159, 160, 161, 162]
def Q_moveDown (m : mR) (c : Nat → Option am_C) (N : Nat) (k : Int) : ag_Re af_T → Prop := fun R => ∃ (M : mR), Ty M ∧ fr fF_moveDown fA_moveDown m M ∧ ((M.2 153) = upI (m.2 153) k ((m.2 153) (k + 1))) ∧ ((M.2 156) = upI (m.2 156) k ((m.2 156) (k + 1))) ∧ R = (.inl (none), (mhp M c, N), 0, 0)
set_option maxHeartbeats 3000000 in
theorem c_moveDown (w : wX) (m : mR) (c : Nat → Option am_C) (N D : Nat) (hD : 1 ≤ D) (hT : Ty m) (k : Int) (qk : R32 k) (p0 : 0 ≤ k ∧ k ≤ 39) : TC w D 341 [.ref 189, .int (i32 k)] (mhp m c, N) (Q_moveDown m c N k) := by
  obtain ⟨D, rfl⟩ : ∃ k, D = k + 1 := ⟨D - 1, by omega⟩
  obtain ⟨qka, qkb⟩ := id qk
  refine Tc_of rfl ?_
  show TT w D pm_341 (0, [(0, .ref 189), (1, .int (i32 k))], [], (mhp (mO m [] []) c, N), 0, 0) (Q_moveDown m c N k)
  refine T_gf 4 (.ref 302) rfl rfl rfl rfl rfl rfl ?_
  refine T_ld 5 (.int (i32 k)) rfl (fun _ => rfl) ?_
  refine T_gf 9 (.ref 302) rfl rfl rfl rfl rfl rfl ?_
  refine T_ld 10 (.int (i32 k)) rfl (fun _ => rfl) ?_
  refine T_ld 11 (.int (i32 1)) rfl (fun _ => rfl) ?_
  refine T_iadd 12 rfl rfl ?_
  refine T_iald 13 153 (m.2 153) rfl rfl rfl (by omega) (show (k + 1) < (41 : Int) by omega) rfl ?_
  have e1 : 0 ≤ (m.2 153) (k + 1) ∧ (m.2 153) (k + 1) ≤ 3 := (hT.2.1 153) (k + 1)
  have G2 : ∀ j, 0 ≤ (upI (m.2 153) k ((m.2 153) (k + 1))) j ∧ (upI (m.2 153) k ((m.2 153) (k + 1))) j ≤ 3 := upI_rg (hT.2.1 153) ⟨by omega, by omega⟩
  refine T_iast (a' := [(153, upI (m.2 153) k ((m.2 153) (k + 1)))]) 14 153 (m.2 153) rfl rfl rfl (by omega) (show k < (41 : Int) by omega) rfl rfl ?_
  refine T_gf 18 (.ref 303) rfl rfl rfl rfl rfl rfl ?_
  refine T_ld 19 (.int (i32 k)) rfl (fun _ => rfl) ?_
  refine T_gf 23 (.ref 303) rfl rfl rfl rfl rfl rfl ?_
  refine T_ld 24 (.int (i32 k)) rfl (fun _ => rfl) ?_
  refine T_ld 25 (.int (i32 1)) rfl (fun _ => rfl) ?_
  refine T_iadd 26 rfl rfl ?_
  refine T_iald 27 154 (m.2 154) rfl rfl rfl (by omega) (show (k + 1) < (41 : Int) by omega) rfl ?_
  have e3 : 0 ≤ (m.2 154) (k + 1) ∧ (m.2 154) (k + 1) ≤ 128 := (hT.2.1 154) (k + 1)
  have G4 : ∀ j, 0 ≤ (upI (m.2 154) k ((m.2 154) (k + 1))) j ∧ (upI (m.2 154) k ((m.2 154) (k + 1))) j ≤ 128 := upI_rg (hT.2.1 154) ⟨by omega, by omega⟩
  refine T_iast (a' := [(153, upI (m.2 153) k ((m.2 153) (k + 1))), (154, upI (m.2 154) k ((m.2 154) (k + 1)))]) 28 154 (m.2 154) rfl rfl rfl (by omega) (show k < (41 : Int) by omega) rfl rfl ?_
  refine T_gf 32 (.ref 304) rfl rfl rfl rfl rfl rfl ?_
  refine T_ld 33 (.int (i32 k)) rfl (fun _ => rfl) ?_
  refine T_gf 37 (.ref 304) rfl rfl rfl rfl rfl rfl ?_
  refine T_ld 38 (.int (i32 k)) rfl (fun _ => rfl) ?_
  refine T_ld 39 (.int (i32 1)) rfl (fun _ => rfl) ?_
  refine T_iadd 40 rfl rfl ?_
  refine T_iald 41 155 (m.2 155) rfl rfl rfl (by omega) (show (k + 1) < (41 : Int) by omega) rfl ?_
  have e5 : (-2147483648) ≤ (m.2 155) (k + 1) ∧ (m.2 155) (k + 1) ≤ 2147483647 := (hT.2.1 155) (k + 1)
  have G6 : ∀ j, (-2147483648) ≤ (upI (m.2 155) k ((m.2 155) (k + 1))) j ∧ (upI (m.2 155) k ((m.2 155) (k + 1))) j ≤ 2147483647 := upI_rg (hT.2.1 155) ⟨by omega, by omega⟩
  refine T_iast (a' := [(153, upI (m.2 153) k ((m.2 153) (k + 1))), (154, upI (m.2 154) k ((m.2 154) (k + 1))), (155, upI (m.2 155) k ((m.2 155) (k + 1)))]) 42 155 (m.2 155) rfl rfl rfl (by omega) (show k < (41 : Int) by omega) rfl rfl ?_
  refine T_ld 45 (.int (i32 128)) rfl (fun _ => rfl) ?_
  refine T_ld 46 (.int (i32 k)) rfl (fun _ => rfl) ?_
  refine T_imul 47 rfl rfl ?_
  refine T_sto 48 [(2, .int (i32 (128 * k))), (0, .ref 189), (1, .int (i32 k))] rfl (fun _ => rfl) ?_
  refine T_fl (Ty_mO hT rfl rfl trivial ⟨G2, G4, G6, trivial⟩) (fun m7 Tm7 Fm7 => ?_)
  have L48_10 : ∀ (n16 : Nat) (v8 : Int) (m9 : mR), (R32 v8) → Ty m9 → fr [] [159] (mO m7 [] []) m9 → (0 ≤ v8) → (v8 ≤ (128 * k) + 128) → ((128 * k) + 128) - v8 < (n16 : Int) → TT w D pm_341 (48, [(0, .ref 189), (1, .int (i32 k)), (2, .int (i32 v8))], [], (mhp (mO m9 [] []) c, N), 0, 0) (Q_moveDown m c N k) := by
    intro n16
    induction n16 with
    | zero =>
      intro v8 m9 q13 Tm9 Fm9 ic11 ic12 hmu
      obtain ⟨q13a, q13b⟩ := id q13
      exfalso
      omega
    | succ n16 ih =>
      intro v8 m9 q13 Tm9 Fm9 ic11 ic12 hmu
      obtain ⟨q13a, q13b⟩ := id q13
      have ih17 := ih
      refine T_ld 49 (.int (i32 v8)) rfl (fun _ => rfl) ?_
      refine T_ld 52 (.int (i32 128)) rfl (fun _ => rfl) ?_
      refine T_ld 53 (.int (i32 k)) rfl (fun _ => rfl) ?_
      refine T_imul 54 rfl rfl ?_
      refine T_ld 57 (.int (i32 128)) rfl (fun _ => rfl) ?_
      refine T_iadd 58 rfl rfl ?_
      refine T_icmp 83 61 rfl rfl rfl (r32 (by omega) (by omega)) (r32 (by omega) (by omega)) (fun (h18 : (128 * k) + 128 ≤ v8) => ?_) (fun (h18 : ¬ ((128 * k) + 128 ≤ v8)) => ?_)
      · skip
        refine T_gf 87 (.ref 305) rfl rfl rfl rfl rfl rfl ?_
        refine T_ld 88 (.int (i32 k)) rfl (fun _ => rfl) ?_
        refine T_gf 92 (.ref 305) rfl rfl rfl rfl rfl rfl ?_
        refine T_ld 93 (.int (i32 k)) rfl (fun _ => rfl) ?_
        refine T_ld 94 (.int (i32 1)) rfl (fun _ => rfl) ?_
        refine T_iadd 95 rfl rfl ?_
        refine T_iald 96 156 (m.2 156) rfl rfl rfl (by omega) (show (k + 1) < (41 : Int) by omega) (show (m9.2 156) = (m.2 156) from ((fr2 Fm9 156 rfl).trans (fr2 Fm7 156 rfl))) ?_
        have e19 : 0 ≤ (m.2 156) (k + 1) ∧ (m.2 156) (k + 1) ≤ 7 := (hT.2.1 156) (k + 1)
        have G20 : ∀ j, 0 ≤ (upI (m.2 156) k ((m.2 156) (k + 1))) j ∧ (upI (m.2 156) k ((m.2 156) (k + 1))) j ≤ 7 := upI_rg (hT.2.1 156) ⟨by omega, by omega⟩
        refine T_iast (a' := [(156, upI (m.2 156) k ((m.2 156) (k + 1)))]) 97 156 (m.2 156) rfl rfl rfl (by omega) (show k < (41 : Int) by omega) (show (m9.2 156) = (m.2 156) from ((fr2 Fm9 156 rfl).trans (fr2 Fm7 156 rfl))) rfl ?_
        refine T_gf 101 (.ref 306) rfl rfl rfl rfl rfl rfl ?_
        refine T_ld 102 (.int (i32 k)) rfl (fun _ => rfl) ?_
        refine T_gf 106 (.ref 306) rfl rfl rfl rfl rfl rfl ?_
        refine T_ld 107 (.int (i32 k)) rfl (fun _ => rfl) ?_
        refine T_ld 108 (.int (i32 1)) rfl (fun _ => rfl) ?_
        refine T_iadd 109 rfl rfl ?_
        refine T_iald 110 157 (m.2 157) rfl rfl rfl (by omega) (show (k + 1) < (41 : Int) by omega) (show (m9.2 157) = (m.2 157) from ((fr2 Fm9 157 rfl).trans (fr2 Fm7 157 rfl))) ?_
        have e21 : (-2147483648) ≤ (m.2 157) (k + 1) ∧ (m.2 157) (k + 1) ≤ 2147483647 := (hT.2.1 157) (k + 1)
        have G22 : ∀ j, (-2147483648) ≤ (upI (m.2 157) k ((m.2 157) (k + 1))) j ∧ (upI (m.2 157) k ((m.2 157) (k + 1))) j ≤ 2147483647 := upI_rg (hT.2.1 157) ⟨by omega, by omega⟩
        refine T_iast (a' := [(156, upI (m.2 156) k ((m.2 156) (k + 1))), (157, upI (m.2 157) k ((m.2 157) (k + 1)))]) 111 157 (m.2 157) rfl rfl rfl (by omega) (show k < (41 : Int) by omega) (show (m9.2 157) = (m.2 157) from ((fr2 Fm9 157 rfl).trans (fr2 Fm7 157 rfl))) rfl ?_
        refine T_gf 115 (.ref 307) rfl rfl rfl rfl rfl rfl ?_
        refine T_ld 116 (.int (i32 k)) rfl (fun _ => rfl) ?_
        refine T_gf 120 (.ref 307) rfl rfl rfl rfl rfl rfl ?_
        refine T_ld 121 (.int (i32 k)) rfl (fun _ => rfl) ?_
        refine T_ld 122 (.int (i32 1)) rfl (fun _ => rfl) ?_
        refine T_iadd 123 rfl rfl ?_
        refine T_iald 124 158 (m.2 158) rfl rfl rfl (by omega) (show (k + 1) < (41 : Int) by omega) (show (m9.2 158) = (m.2 158) from ((fr2 Fm9 158 rfl).trans (fr2 Fm7 158 rfl))) ?_
        have e23 : (-2147483648) ≤ (m.2 158) (k + 1) ∧ (m.2 158) (k + 1) ≤ 2147483647 := (hT.2.1 158) (k + 1)
        have G24 : ∀ j, (-2147483648) ≤ (upI (m.2 158) k ((m.2 158) (k + 1))) j ∧ (upI (m.2 158) k ((m.2 158) (k + 1))) j ≤ 2147483647 := upI_rg (hT.2.1 158) ⟨by omega, by omega⟩
        refine T_iast (a' := [(156, upI (m.2 156) k ((m.2 156) (k + 1))), (157, upI (m.2 157) k ((m.2 157) (k + 1))), (158, upI (m.2 158) k ((m.2 158) (k + 1)))]) 125 158 (m.2 158) rfl rfl rfl (by omega) (show k < (41 : Int) by omega) (show (m9.2 158) = (m.2 158) from ((fr2 Fm9 158 rfl).trans (fr2 Fm7 158 rfl))) rfl ?_
        refine T_ld 126 (.int (i32 4)) rfl (fun _ => rfl) ?_
        refine T_ld 127 (.int (i32 k)) rfl (fun _ => rfl) ?_
        refine T_imul 128 rfl rfl ?_
        refine T_sto 129 [(2, .int (i32 (4 * k))), (0, .ref 189), (1, .int (i32 k))] rfl (fun _ => rfl) ?_
        refine T_fl (Ty_mO Tm9 rfl rfl trivial ⟨G20, G22, G24, trivial⟩) (fun m25 Tm25 Fm25 => ?_)
        have L129_28 : ∀ (n34 : Nat) (v26 : Int) (m27 : mR), (R32 v26) → Ty m27 → fr [] [160, 161, 162] (mO m25 [] []) m27 → (0 ≤ v26) → (v26 ≤ (4 * k) + 4) → ((4 * k) + 4) - v26 < (n34 : Int) → TT w D pm_341 (129, [(0, .ref 189), (1, .int (i32 k)), (2, .int (i32 v26))], [], (mhp (mO m27 [] []) c, N), 0, 0) (Q_moveDown m c N k) := by
          intro n34
          induction n34 with
          | zero =>
            intro v26 m27 q31 Tm27 Fm27 ic29 ic30 hmu
            obtain ⟨q31a, q31b⟩ := id q31
            exfalso
            omega
          | succ n34 ih =>
            intro v26 m27 q31 Tm27 Fm27 ic29 ic30 hmu
            obtain ⟨q31a, q31b⟩ := id q31
            have ih35 := ih
            refine T_ld 130 (.int (i32 v26)) rfl (fun _ => rfl) ?_
            refine T_ld 131 (.int (i32 4)) rfl (fun _ => rfl) ?_
            refine T_ld 132 (.int (i32 k)) rfl (fun _ => rfl) ?_
            refine T_imul 133 rfl rfl ?_
            refine T_ld 134 (.int (i32 4)) rfl (fun _ => rfl) ?_
            refine T_iadd 135 rfl rfl ?_
            refine T_icmp 186 138 rfl rfl rfl (r32 (by omega) (by omega)) (r32 (by omega) (by omega)) (fun (h36 : (4 * k) + 4 ≤ v26) => ?_) (fun (h36 : ¬ ((4 * k) + 4 ≤ v26)) => ?_)
            · skip
              refine T_ret rfl (fun _ => rfl) ?_
              exact ⟨(mO m27 [] []), Tm27, (fr_m (fr_s Fm27 (fr_m (fr_s Fm25 (fr_m (fr_s Fm9 (fr_m (fr_s Fm7 (fr_m fr_0 rfl rfl) rfl rfl) rfl rfl) rfl rfl) rfl rfl) rfl rfl) rfl rfl) rfl rfl) rfl rfl), (show (m27.2 153) = upI (m.2 153) k ((m.2 153) (k + 1)) by rewrite [(show (m27.2 153) = (upI (m.2 153) k ((m.2 153) (k + 1))) from ((fr2 Fm27 153 rfl).trans ((fr2 Fm25 153 rfl).trans ((fr2 Fm9 153 rfl).trans (fr2 Fm7 153 rfl)))))]; rfl), (show (m27.2 156) = upI (m.2 156) k ((m.2 156) (k + 1)) by rewrite [(show (m27.2 156) = (upI (m.2 156) k ((m.2 156) (k + 1))) from ((fr2 Fm27 156 rfl).trans (fr2 Fm25 156 rfl)))]; rfl), rfl⟩
            · skip
              refine T_gf 142 (.ref 309) rfl rfl rfl rfl rfl rfl ?_
              refine T_ld 143 (.int (i32 v26)) rfl (fun _ => rfl) ?_
              refine T_gf 147 (.ref 309) rfl rfl rfl rfl rfl rfl ?_
              refine T_ld 148 (.int (i32 v26)) rfl (fun _ => rfl) ?_
              refine T_ld 149 (.int (i32 4)) rfl (fun _ => rfl) ?_
              refine T_iadd 150 rfl rfl ?_
              refine T_lald 151 160 (m27.2 160) rfl rfl rfl (by omega) (show (v26 + 4) < (164 : Int) by omega) rfl ?_
              have e37 : (-9223372036854775808) ≤ (m27.2 160) (v26 + 4) ∧ (m27.2 160) (v26 + 4) ≤ 9223372036854775807 := (Tm27.2.1 160) (v26 + 4)
              have G38 : ∀ j, (-9223372036854775808) ≤ (upI (m27.2 160) v26 ((m27.2 160) (v26 + 4))) j ∧ (upI (m27.2 160) v26 ((m27.2 160) (v26 + 4))) j ≤ 9223372036854775807 := upI_rg (Tm27.2.1 160) ⟨by omega, by omega⟩
              refine T_last (a' := [(160, upI (m27.2 160) v26 ((m27.2 160) (v26 + 4)))]) 152 160 (m27.2 160) rfl rfl rfl (by omega) (show v26 < (164 : Int) by omega) rfl rfl ?_
              refine T_gf 156 (.ref 310) rfl rfl rfl rfl rfl rfl ?_
              refine T_ld 157 (.int (i32 v26)) rfl (fun _ => rfl) ?_
              refine T_gf 161 (.ref 310) rfl rfl rfl rfl rfl rfl ?_
              refine T_ld 162 (.int (i32 v26)) rfl (fun _ => rfl) ?_
              refine T_ld 163 (.int (i32 4)) rfl (fun _ => rfl) ?_
              refine T_iadd 164 rfl rfl ?_
              refine T_lald 165 161 (m27.2 161) rfl rfl rfl (by omega) (show (v26 + 4) < (164 : Int) by omega) rfl ?_
              have e39 : (-9223372036854775808) ≤ (m27.2 161) (v26 + 4) ∧ (m27.2 161) (v26 + 4) ≤ 9223372036854775807 := (Tm27.2.1 161) (v26 + 4)
              have G40 : ∀ j, (-9223372036854775808) ≤ (upI (m27.2 161) v26 ((m27.2 161) (v26 + 4))) j ∧ (upI (m27.2 161) v26 ((m27.2 161) (v26 + 4))) j ≤ 9223372036854775807 := upI_rg (Tm27.2.1 161) ⟨by omega, by omega⟩
              refine T_last (a' := [(160, upI (m27.2 160) v26 ((m27.2 160) (v26 + 4))), (161, upI (m27.2 161) v26 ((m27.2 161) (v26 + 4)))]) 166 161 (m27.2 161) rfl rfl rfl (by omega) (show v26 < (164 : Int) by omega) rfl rfl ?_
              refine T_gf 170 (.ref 311) rfl rfl rfl rfl rfl rfl ?_
              refine T_ld 171 (.int (i32 v26)) rfl (fun _ => rfl) ?_
              refine T_gf 175 (.ref 311) rfl rfl rfl rfl rfl rfl ?_
              refine T_ld 176 (.int (i32 v26)) rfl (fun _ => rfl) ?_
              refine T_ld 177 (.int (i32 4)) rfl (fun _ => rfl) ?_
              refine T_iadd 178 rfl rfl ?_
              refine T_lald 179 162 (m27.2 162) rfl rfl rfl (by omega) (show (v26 + 4) < (164 : Int) by omega) rfl ?_
              have e41 : (-9223372036854775808) ≤ (m27.2 162) (v26 + 4) ∧ (m27.2 162) (v26 + 4) ≤ 9223372036854775807 := (Tm27.2.1 162) (v26 + 4)
              have G42 : ∀ j, (-9223372036854775808) ≤ (upI (m27.2 162) v26 ((m27.2 162) (v26 + 4))) j ∧ (upI (m27.2 162) v26 ((m27.2 162) (v26 + 4))) j ≤ 9223372036854775807 := upI_rg (Tm27.2.1 162) ⟨by omega, by omega⟩
              refine T_last (a' := [(160, upI (m27.2 160) v26 ((m27.2 160) (v26 + 4))), (161, upI (m27.2 161) v26 ((m27.2 161) (v26 + 4))), (162, upI (m27.2 162) v26 ((m27.2 162) (v26 + 4)))]) 180 162 (m27.2 162) rfl rfl rfl (by omega) (show v26 < (164 : Int) by omega) rfl rfl ?_
              refine T_iinc 183 [(2, .int (i32 (v26 + 1))), (0, .ref 189), (1, .int (i32 k))] rfl rfl (by decide) rfl rfl ?_
              refine T_goto 129 rfl (fun _ => rfl) ?_
              refine Tm_lv (a := [(0, .ref 189), (1, .int (i32 k)), (2, .int (i32 (v26 + 1)))]) rfl rfl ⟨rfl, rfl, rfl, trivial⟩ ?_
              exact ih35 (v26 + 1) (mO m27 [] [(160, upI (m27.2 160) v26 ((m27.2 160) (v26 + 4))), (161, upI (m27.2 161) v26 ((m27.2 161) (v26 + 4))), (162, upI (m27.2 162) v26 ((m27.2 162) (v26 + 4)))]) (r32 (by omega) (by omega)) (Ty_mO Tm27 rfl rfl trivial ⟨G38, G40, G42, trivial⟩) (fr_m (fr_s Fm27 (fr_m fr_0 rfl rfl) rfl rfl) rfl rfl) (show 0 ≤ (v26 + 1) by omega) (show (v26 + 1) ≤ (4 * k) + 4 by omega) (show ((4 * k) + 4) - (v26 + 1) < (n34 : Int) by omega)
        refine Tm_lv (a := [(0, .ref 189), (1, .int (i32 k)), (2, .int (i32 (4 * k)))]) rfl rfl ⟨rfl, rfl, rfl, trivial⟩ ?_
        exact L129_28 ((((4 * k) + 4) - (4 * k) : Int) + 1).toNat (4 * k) (mO m25 [] []) (r32 (by omega) (by omega)) Tm25 (fr_m fr_0 rfl rfl) (show 0 ≤ (4 * k) by omega) (show (4 * k) ≤ (4 * k) + 4 by omega) (show ((4 * k) + 4) - (4 * k) < ((((((4 * k) + 4) - (4 * k) : Int) + 1).toNat : Nat) : Int) by omega)
      · skip
        refine T_gf 65 (.ref 308) rfl rfl rfl rfl rfl rfl ?_
        refine T_ld 66 (.int (i32 v8)) rfl (fun _ => rfl) ?_
        refine T_gf 70 (.ref 308) rfl rfl rfl rfl rfl rfl ?_
        refine T_ld 71 (.int (i32 v8)) rfl (fun _ => rfl) ?_
        refine T_ld 74 (.int (i32 128)) rfl (fun _ => rfl) ?_
        refine T_iadd 75 rfl rfl ?_
        refine T_iald 76 159 (m9.2 159) rfl rfl rfl (by omega) (show (v8 + 128) < (5248 : Int) by omega) rfl ?_
        have e43 : 0 ≤ (m9.2 159) (v8 + 128) ∧ (m9.2 159) (v8 + 128) ≤ 255 := (Tm9.2.1 159) (v8 + 128)
        have G44 : ∀ j, 0 ≤ (upI (m9.2 159) v8 ((m9.2 159) (v8 + 128))) j ∧ (upI (m9.2 159) v8 ((m9.2 159) (v8 + 128))) j ≤ 255 := upI_rg (Tm9.2.1 159) ⟨by omega, by omega⟩
        refine T_iast (a' := [(159, upI (m9.2 159) v8 ((m9.2 159) (v8 + 128)))]) 77 159 (m9.2 159) rfl rfl rfl (by omega) (show v8 < (5248 : Int) by omega) rfl rfl ?_
        refine T_iinc 80 [(2, .int (i32 (v8 + 1))), (0, .ref 189), (1, .int (i32 k))] rfl rfl (by decide) rfl rfl ?_
        refine T_goto 48 rfl (fun _ => rfl) ?_
        refine Tm_lv (a := [(0, .ref 189), (1, .int (i32 k)), (2, .int (i32 (v8 + 1)))]) rfl rfl ⟨rfl, rfl, rfl, trivial⟩ ?_
        exact ih17 (v8 + 1) (mO m9 [] [(159, upI (m9.2 159) v8 ((m9.2 159) (v8 + 128)))]) (r32 (by omega) (by omega)) (Ty_mO Tm9 rfl rfl trivial ⟨G44, trivial⟩) (fr_m (fr_s Fm9 (fr_m fr_0 rfl rfl) rfl rfl) rfl rfl) (show 0 ≤ (v8 + 1) by omega) (show (v8 + 1) ≤ (128 * k) + 128 by omega) (show ((128 * k) + 128) - (v8 + 1) < (n16 : Int) by omega)
  refine Tm_lv (a := [(0, .ref 189), (1, .int (i32 k)), (2, .int (i32 (128 * k)))]) rfl rfl ⟨rfl, rfl, rfl, trivial⟩ ?_
  exact L48_10 ((((128 * k) + 128) - (128 * k) : Int) + 1).toNat (128 * k) (mO m7 [] []) (r32 (by omega) (by omega)) Tm7 (fr_m fr_0 rfl rfl) (show 0 ≤ (128 * k) by omega) (show (128 * k) ≤ (128 * k) + 128 by omega) (show ((128 * k) + 128) - (128 * k) < ((((((128 * k) + 128) - (128 * k) : Int) + 1).toNat : Nat) : Int) by omega)
def fF_doFirst : List Nat := [149, 150, 176, 177]
def fA_doFirst : List Nat := [138, 139, 140, 141, 142, 143, 144, 153, 154, 155, 156, 157, 158, 159, 160, 161, 162, 163, 164, 165, 166, 167, 168, 169, 170, 171, 172, 173, 174, 175, 178]
def Q_doFirst (m : mR) (c : Nat → Option am_C) (N : Nat) : ag_Re af_T → Prop := fun R => ∃ (M : mR), Ty M ∧ fr fF_doFirst fA_doFirst m M ∧ (EMp (m.1 26) (M.2 139) (m.2 58) (m.2 54)) ∧ (EAp (m.1 25) (M.2 139) (M.2 141)) ∧ (∀ k, 0 ≤ k → k < (M.1 149) → 0 < (M.2 153) k → (M.2 156) k < (m.1 26)) ∧ ((M.1 150) = (m.1 150) + 1) ∧ ((M.1 149) = (m.1 149) - 1) ∧ R = (.inl (none), (mhp M c, N), 0, 0)
set_option maxHeartbeats 3000000 in
theorem c_doFirst (w : wX) (m : mR) (c : Nat → Option am_C) (N D : Nat) (hD : 8 ≤ D) (hT : Ty m) (hCN : CN (m.2 65) (m.2 67) (m.1 28)) (pSO : SOp (m.2 38) (m.1 23) (m.1 24)) (pSt : StP (m.2 65) (m.1 28) (m.1 23) (m.1 24) (m.2 42) (m.2 95) (m.2 96) (m.2 44) (m.2 45)) (pTd : TdP (m.2 65) (m.1 28) (m.1 22) (m.1 99) (m.2 101) (m.2 103) (m.2 105) (m.2 106) (m.2 107) (m.2 108)) (pAc : AcP (m.1 25) (m.1 99) (m.2 109) (m.2 50)) (pTb : TbP (m.2 65) (m.1 28) (m.1 25) (m.1 26) (m.2 51) (m.2 110) (m.2 111) (m.2 57) (m.2 53) (m.2 114) (m.2 58) (m.2 54)) (pIN : ∀ k, 0 ≤ k → k < (m.1 20) → (m.2 34) k < (m.1 19)) (pHO : ∀ g, 0 ≤ g → g < (m.1 19) → (m.2 30) g ≤ 512) (pAR : ∀ k, 0 ≤ k → k < (m.1 22) → 1 ≤ (m.2 93) k ∧ 1 ≤ (m.2 36) k) (pSp : SpP (m.2 65) (m.1 28) (m.1 99) (m.1 26) (m.1 27) (m.2 60) (m.2 61) (m.2 120) (m.2 121) (m.2 122) (m.2 63)) (hEM : ∀ j, 0 ≤ j → j < (m.1 125) → (m.2 124) j < (m.1 20)) (hNA : ∀ q, 0 ≤ q → q < (m.1 24) → 0 < (m.2 41) q ∨ NR (m.2 44) (m.2 38) (m.2 42) (m.2 45) (m.2 41) (m.1 24) q) (hHB0 : HBi (m.2 29) (m.2 30) (m.2 33)) (hEMp : EMp (m.1 26) (m.2 139) (m.2 58) (m.2 54)) (hEAp : EAp (m.1 25) (m.2 139) (m.2 141)) (hLT : ∀ k, 0 ≤ k → k < (m.1 149) → 0 < (m.2 153) k → (m.2 156) k < (m.1 26)) (p16 : 1 ≤ (m.1 149)) (p17 : (m.1 150) + (m.1 149) = (m.1 148)) : TC w D 313 [.ref 189] (mhp m c, N) (Q_doFirst m c N) := by
  obtain ⟨D, rfl⟩ : ∃ k, D = k + 1 := ⟨D - 1, by omega⟩
  have hHB := hHB0
  have f149 : 0 ≤ m.1 149 ∧ m.1 149 ≤ 40 := hT.1 149
  have f150 : 0 ≤ m.1 150 ∧ m.1 150 ≤ 1000000 := hT.1 150
  have f177 : 0 ≤ m.1 177 ∧ m.1 177 ≤ 1 := hT.1 177
  have f25 : 0 ≤ m.1 25 ∧ m.1 25 ≤ 16 := hT.1 25
  have f22 : 0 ≤ m.1 22 ∧ m.1 22 ≤ 8 := hT.1 22
  have f148 : 0 ≤ m.1 148 ∧ m.1 148 ≤ 1000000 := hT.1 148
  have f24 : 0 ≤ m.1 24 ∧ m.1 24 ≤ 16 := hT.1 24
  have f125 : 0 ≤ m.1 125 ∧ m.1 125 ≤ 12 := hT.1 125
  have f19 : 0 ≤ m.1 19 ∧ m.1 19 ≤ 12 := hT.1 19
  have f20 : 0 ≤ m.1 20 ∧ m.1 20 ≤ 12 := hT.1 20
  have f28 : 0 ≤ m.1 28 ∧ m.1 28 ≤ 800 := hT.1 28
  have f23 : 0 ≤ m.1 23 ∧ m.1 23 ≤ 16 := hT.1 23
  have f27 : 0 ≤ m.1 27 ∧ m.1 27 ≤ 48 := hT.1 27
  have f26 : 0 ≤ m.1 26 ∧ m.1 26 ≤ 8 := hT.1 26
  have f99 : 0 ≤ m.1 99 ∧ m.1 99 ≤ 240 := hT.1 99
  have f152 : 0 ≤ m.1 152 ∧ m.1 152 ≤ 100000000 := hT.1 152
  refine Tc_of rfl ?_
  show TT w D pm_313 (0, [(0, .ref 189)], [], (mhp (mO m [] []) c, N), 0, 0) (Q_doFirst m c N)
  refine T_gf 4 (.int (i32 (m.1 150))) rfl rfl rfl rfl rfl rfl ?_
  refine T_ld 7 (.int (i32 128)) rfl (fun _ => rfl) ?_
  refine T_irem 8 rfl rfl (by omega) (by omega) (by omega) (by omega) ?_
  refine T_sto 9 [(1, .int (i32 ((m.1 150) % 128))), (0, .ref 189)] rfl (fun _ => rfl) ?_
  refine T_gf 13 (.ref 302) rfl rfl rfl rfl rfl rfl ?_
  refine T_ld 14 (.int (i32 0)) rfl (fun _ => rfl) ?_
  refine T_iald 15 153 (m.2 153) rfl rfl rfl (by omega) (show 0 < (41 : Int) by omega) rfl ?_
  have e1 : 0 ≤ (m.2 153) 0 ∧ (m.2 153) 0 ≤ 3 := (hT.2.1 153) 0
  refine T_sto 16 [(2, .int (i32 ((m.2 153) 0))), (1, .int (i32 ((m.1 150) % 128))), (0, .ref 189)] rfl (fun _ => rfl) ?_
  refine T_gf 20 (.ref 312) rfl rfl rfl rfl rfl rfl ?_
  refine T_ld 21 (.int (i32 ((m.1 150) % 128))) rfl (fun _ => rfl) ?_
  refine T_ld 22 (.int (i32 ((m.2 153) 0))) rfl (fun _ => rfl) ?_
  have G2 : ∀ j, 0 ≤ (upI (m.2 163) ((m.1 150) % 128) ((m.2 153) 0)) j ∧ (upI (m.2 163) ((m.1 150) % 128) ((m.2 153) 0)) j ≤ 3 := upI_rg (hT.2.1 163) ⟨by omega, by omega⟩
  refine T_iast (a' := [(163, upI (m.2 163) ((m.1 150) % 128) ((m.2 153) 0))]) 23 163 (m.2 163) rfl rfl rfl (by omega) (show ((m.1 150) % 128) < (128 : Int) by omega) rfl rfl ?_
  refine T_gf 27 (.ref 316) rfl rfl rfl rfl rfl rfl ?_
  refine T_ld 28 (.int (i32 ((m.1 150) % 128))) rfl (fun _ => rfl) ?_
  refine T_gf 32 (.int (i32 (m.1 152))) rfl rfl rfl rfl rfl rfl ?_
  have G3 : ∀ j, 0 ≤ (upI (m.2 167) ((m.1 150) % 128) (m.1 152)) j ∧ (upI (m.2 167) ((m.1 150) % 128) (m.1 152)) j ≤ 100000000 := upI_rg (hT.2.1 167) ⟨by omega, by omega⟩
  refine T_iast (a' := [(163, upI (m.2 163) ((m.1 150) % 128) ((m.2 153) 0)), (167, upI (m.2 167) ((m.1 150) % 128) (m.1 152))]) 33 167 (m.2 167) rfl rfl rfl (by omega) (show ((m.1 150) % 128) < (128 : Int) by omega) rfl rfl ?_
  refine T_gf 37 (.ref 314) rfl rfl rfl rfl rfl rfl ?_
  refine T_ld 38 (.int (i32 ((m.1 150) % 128))) rfl (fun _ => rfl) ?_
  refine T_ld 39 (.int (i32 (-1))) rfl (fun _ => rfl) ?_
  have G4 : ∀ j, (-2147483648) ≤ (upI (m.2 165) ((m.1 150) % 128) (-1)) j ∧ (upI (m.2 165) ((m.1 150) % 128) (-1)) j ≤ 2147483647 := upI_rg (hT.2.1 165) ⟨by omega, by omega⟩
  refine T_iast (a' := [(163, upI (m.2 163) ((m.1 150) % 128) ((m.2 153) 0)), (165, upI (m.2 165) ((m.1 150) % 128) (-1)), (167, upI (m.2 167) ((m.1 150) % 128) (m.1 152))]) 40 165 (m.2 165) rfl rfl rfl (by omega) (show ((m.1 150) % 128) < (128 : Int) by omega) rfl rfl ?_
  refine T_gf 44 (.ref 315) rfl rfl rfl rfl rfl rfl ?_
  refine T_ld 45 (.int (i32 ((m.1 150) % 128))) rfl (fun _ => rfl) ?_
  refine T_ld 46 (.int (i32 (-1))) rfl (fun _ => rfl) ?_
  have G5 : ∀ j, (-1) ≤ (upI (m.2 166) ((m.1 150) % 128) (-1)) j ∧ (upI (m.2 166) ((m.1 150) % 128) (-1)) j ≤ 896 := upI_rg (hT.2.1 166) ⟨by omega, by omega⟩
  refine T_iast (a' := [(163, upI (m.2 163) ((m.1 150) % 128) ((m.2 153) 0)), (165, upI (m.2 165) ((m.1 150) % 128) (-1)), (166, upI (m.2 166) ((m.1 150) % 128) (-1)), (167, upI (m.2 167) ((m.1 150) % 128) (m.1 152))]) 47 166 (m.2 166) rfl rfl rfl (by omega) (show ((m.1 150) % 128) < (128 : Int) by omega) rfl rfl ?_
  refine T_ld 48 (.int (i32 0)) rfl (fun _ => rfl) ?_
  refine T_sto 49 [(3, .int (i32 0)), (2, .int (i32 ((m.2 153) 0))), (1, .int (i32 ((m.1 150) % 128))), (0, .ref 189)] rfl (fun _ => rfl) ?_
  refine T_fl (Ty_mO hT rfl rfl trivial ⟨G2, G4, G5, G3, trivial⟩) (fun m6 Tm6 Fm6 => ?_)
  have L49_9 : ∀ (n15 : Nat) (v7 : Int) (m8 : mR), (R32 v7) → Ty m8 → fr [] [169] (mO m6 [] []) m8 → (0 ≤ v7) → (v7 ≤ 48) → 48 - v7 < (n15 : Int) → TT w D pm_313 (49, [(0, .ref 189), (1, .int (i32 ((m.1 150) % 128))), (2, .int (i32 ((m.2 153) 0))), (3, .int (i32 v7))], [], (mhp (mO m8 [] []) c, N), 0, 0) (Q_doFirst m c N) := by
    intro n15
    induction n15 with
    | zero =>
      intro v7 m8 q12 Tm8 Fm8 ic10 ic11 hmu
      obtain ⟨q12a, q12b⟩ := id q12
      exfalso
      omega
    | succ n15 ih =>
      intro v7 m8 q12 Tm8 Fm8 ic10 ic11 hmu
      obtain ⟨q12a, q12b⟩ := id q12
      have ih16 := ih
      refine T_ld 50 (.int (i32 v7)) rfl (fun _ => rfl) ?_
      refine T_ld 52 (.int (i32 48)) rfl (fun _ => rfl) ?_
      refine T_icmp 73 55 rfl rfl rfl (r32 (by omega) (by omega)) ⟨by decide, by decide⟩ (fun (h17 : (48 : Int) ≤ v7) => ?_) (fun (h17 : ¬ ((48 : Int) ≤ v7)) => ?_)
      · skip
        have J214_20 : ∀ (v18 : Int) (m19 : mR), (R32 v18) → Ty m19 → fr [176, 177] [138, 139, 140, 141, 142, 143, 144, 164, 165, 166, 168, 169, 170, 171, 172, 173, 174, 175, 178] (mO m8 [] []) m19 → (EMp (m.1 26) (m19.2 139) (m.2 58) (m.2 54)) → (EAp (m.1 25) (m19.2 139) (m19.2 141)) → TT w D pm_313 (214, [(0, .ref 189), (1, .int (i32 ((m.1 150) % 128))), (2, .int (i32 ((m.2 153) 0))), (3, .int (i32 v18))], [], (mhp (mO m19 [] []) c, N), 0, 0) (Q_doFirst m c N) := by
          intro v18 m19 q23 Tm19 Fm19 ic21 ic22
          obtain ⟨q23a, q23b⟩ := id q23
          have q24_177 : 0 ≤ m19.1 177 ∧ m19.1 177 ≤ 1 := Tm19.1 177
          have hEMp := ic21
          have hEAp := ic22
          refine T_ld 215 (.ref 189) rfl (fun _ => rfl) ?_
          refine T_ld 216 (.ref 189) rfl (fun _ => rfl) ?_
          refine T_gf1 219 (.int (i32 (m.1 150))) rfl rfl (mfv_c (F := fun x => .int (i32 x)) rfl (show (m19.1 150) = (m.1 150) from ((fr1 Fm19 150 rfl).trans ((fr1 Fm8 150 rfl).trans (fr1 Fm6 150 rfl))))) rfl ?_
          refine T_ld 220 (.int (i32 1)) rfl (fun _ => rfl) ?_
          refine T_iadd 221 rfl rfl ?_
          refine T_pf (l' := [(150, (m.1 150) + 1)]) 224 ((m.1 150) + 1) rfl rfl rfl rfl rfl rfl ?_
          have g27 : 0 ≤ (m.1 150) + 1 ∧ (m.1 150) + 1 ≤ 1000000 := ⟨by omega, by omega⟩
          refine T_ld 225 (.ref 189) rfl (fun _ => rfl) ?_
          refine T_ld 226 (.ref 189) rfl (fun _ => rfl) ?_
          refine T_gf1 229 (.int (i32 (m.1 149))) rfl rfl (mfv_c (F := fun x => .int (i32 x)) rfl (show (m19.1 149) = (m.1 149) from ((fr1 Fm19 149 rfl).trans ((fr1 Fm8 149 rfl).trans (fr1 Fm6 149 rfl))))) rfl ?_
          refine T_ld 230 (.int (i32 1)) rfl (fun _ => rfl) ?_
          refine T_isub 231 rfl rfl ?_
          refine T_pf (l' := [(149, (m.1 149) - 1), (150, (m.1 150) + 1)]) 234 ((m.1 149) - 1) rfl rfl rfl rfl rfl rfl ?_
          have g28 : 0 ≤ (m.1 149) - 1 ∧ (m.1 149) - 1 ≤ 40 := ⟨by omega, by omega⟩
          refine T_ld 235 (.int (i32 0)) rfl (fun _ => rfl) ?_
          refine T_sto 236 [(3, .int (i32 0)), (0, .ref 189), (1, .int (i32 ((m.1 150) % 128))), (2, .int (i32 ((m.2 153) 0)))] rfl (fun _ => rfl) ?_
          refine T_fl (Ty_mO Tm19 rfl rfl ⟨g28, g27, trivial⟩ trivial) (fun m29 Tm29 Fm29 => ?_)
          have L236_32 : ∀ (n39 : Nat) (v30 : Int) (m31 : mR), (R32 v30) → Ty m31 → fr [] [153, 154, 155, 156, 157, 158, 159, 160, 161, 162] (mO m29 [] []) m31 → (0 ≤ v30) → (v30 ≤ (m.1 149) - 1) → (∀ j, 0 ≤ j → j < ((m.1 149) - 1) + 1 → 0 < (m31.2 153) j → (m31.2 156) j < (m.1 26)) → ((m.1 149) - 1) - v30 < (n39 : Int) → TT w D pm_313 (236, [(0, .ref 189), (1, .int (i32 ((m.1 150) % 128))), (2, .int (i32 ((m.2 153) 0))), (3, .int (i32 v30))], [], (mhp (mO m31 [] []) c, N), 0, 0) (Q_doFirst m c N) := by
            intro n39
            induction n39 with
            | zero =>
              intro v30 m31 q36 Tm31 Fm31 ic33 ic34 ic35 hmu
              obtain ⟨q36a, q36b⟩ := id q36
              have hLT2 := ic35
              exfalso
              omega
            | succ n39 ih =>
              intro v30 m31 q36 Tm31 Fm31 ic33 ic34 ic35 hmu
              obtain ⟨q36a, q36b⟩ := id q36
              have hLT2 := ic35
              have ih40 := ih
              refine T_ld 237 (.int (i32 v30)) rfl (fun _ => rfl) ?_
              refine T_gf 241 (.int (i32 ((m.1 149) - 1))) rfl rfl rfl rfl (mfv_c (F := fun x => .int (i32 x)) rfl (show (m31.1 149) = ((m.1 149) - 1) from ((fr1 Fm31 149 rfl).trans (fr1 Fm29 149 rfl)))) rfl ?_
              refine T_icmp 255 244 rfl rfl rfl (r32 (by omega) (by omega)) (r32 (by omega) (by omega)) (fun (h41 : (m.1 149) - 1 ≤ v30) => ?_) (fun (h41 : ¬ ((m.1 149) - 1 ≤ v30)) => ?_)
              · skip
                refine T_ret rfl (fun _ => rfl) ?_
                exact ⟨(mO m31 [] []), Tm31, (fr_m (fr_s Fm31 (fr_m (fr_s Fm29 (fr_m (fr_s Fm19 (fr_m (fr_s Fm8 (fr_m (fr_s Fm6 (fr_m fr_0 rfl rfl) rfl rfl) rfl rfl) rfl rfl) rfl rfl) rfl rfl) rfl rfl) rfl rfl) rfl rfl) rfl rfl) rfl rfl), (show EMp (m.1 26) (m31.2 139) (m.2 58) (m.2 54) by rewrite [(show (m31.2 139) = (m19.2 139) from ((fr2 Fm31 139 rfl).trans (fr2 Fm29 139 rfl)))]; first | (exact hEMp) | (exfalso; omega)), (show EAp (m.1 25) (m31.2 139) (m31.2 141) by rewrite [(show (m31.2 139) = (m19.2 139) from ((fr2 Fm31 139 rfl).trans (fr2 Fm29 139 rfl))), (show (m31.2 141) = (m19.2 141) from ((fr2 Fm31 141 rfl).trans (fr2 Fm29 141 rfl)))]; first | (exact hEAp) | (exfalso; omega)), (show ∀ k, 0 ≤ k → k < (m31.1 149) → 0 < (m31.2 153) k → (m31.2 156) k < (m.1 26) by rewrite [(show (m31.1 149) = ((m.1 149) - 1) from ((fr1 Fm31 149 rfl).trans (fr1 Fm29 149 rfl)))]; first | (exact fun k a b c => hLT2 k a (by omega) c) | (exfalso; omega)), (show (m31.1 150) = (m.1 150) + 1 by rewrite [(show (m31.1 150) = ((m.1 150) + 1) from ((fr1 Fm31 150 rfl).trans (fr1 Fm29 150 rfl)))]; omega), (show (m31.1 149) = (m.1 149) - 1 by rewrite [(show (m31.1 149) = ((m.1 149) - 1) from ((fr1 Fm31 149 rfl).trans (fr1 Fm29 149 rfl)))]; omega), rfl⟩
              · skip
                refine T_ld 245 (.ref 189) rfl (fun _ => rfl) ?_
                refine T_ld 246 (.int (i32 v30)) rfl (fun _ => rfl) ?_
                refine T_call 249 341 [.ref 189, .int (i32 v30)] [] rfl (fun _ => rfl) rfl (c_moveDown w (mO m31 [] []) c N D (by omega) Tm31 v30 (r32 (by omega) (by omega)) (show 0 ≤ v30 ∧ v30 ≤ 39 by omega)) (fun rr42 k43 => ?_)
                obtain ⟨m44, Tm44, Fm44, h45, h46, rfl⟩ := k43
                refine ⟨_, _, rfl, ?_⟩
                refine T_nb (st' := []) rfl ?_
                replace h45 : (m44.2 153) = upI (m31.2 153) v30 ((m31.2 153) (v30 + 1)) := h45
                have hMk := h45
                replace h46 : (m44.2 156) = upI (m31.2 156) v30 ((m31.2 156) (v30 + 1)) := h46
                have hMt := h46
                refine T_iinc 252 [(3, .int (i32 (v30 + 1))), (0, .ref 189), (1, .int (i32 ((m.1 150) % 128))), (2, .int (i32 ((m.2 153) 0)))] rfl rfl (by decide) rfl rfl ?_
                refine T_goto 236 rfl (fun _ => rfl) ?_
                refine Tm_lv (a := [(0, .ref 189), (1, .int (i32 ((m.1 150) % 128))), (2, .int (i32 ((m.2 153) 0))), (3, .int (i32 (v30 + 1)))]) rfl rfl ⟨rfl, rfl, rfl, rfl, trivial⟩ ?_
                exact ih40 (v30 + 1) (mO m44 [] []) (r32 (by omega) (by omega)) Tm44 (fr_m (fr_s Fm44 (fr_m (fr_s Fm31 (fr_m fr_0 rfl rfl) rfl rfl) rfl rfl) rfl rfl) rfl rfl) (show 0 ≤ (v30 + 1) by omega) (show (v30 + 1) ≤ (m.1 149) - 1 by omega) (show ∀ j, 0 ≤ j → j < ((m.1 149) - 1) + 1 → 0 < (m44.2 153) j → (m44.2 156) j < (m.1 26) by first | exact fun j a b c => hLT j a (by omega) c | (intro j a b c; rw [hMk] at c; rw [hMt]; by_cases e : j = v30; (rw [e, upI_s] at c; rw [e, upI_s]; exact hLT2 (v30 + 1) (by omega) (by omega) c); (rw [upI_n e] at c; rw [upI_n e]; exact hLT2 j a b c))) (show ((m.1 149) - 1) - (v30 + 1) < (n39 : Int) by omega)
          refine Tm_lv (a := [(0, .ref 189), (1, .int (i32 ((m.1 150) % 128))), (2, .int (i32 ((m.2 153) 0))), (3, .int (i32 0))]) rfl rfl ⟨rfl, rfl, rfl, rfl, trivial⟩ ?_
          exact L236_32 ((((m.1 149) - 1) - (0 : Int) : Int) + 1).toNat 0 (mO m29 [] []) ⟨by decide, by decide⟩ Tm29 (fr_m fr_0 rfl rfl) (show 0 ≤ (0 : Int) by omega) (show (0 : Int) ≤ (m.1 149) - 1 by omega) (show ∀ j, 0 ≤ j → j < ((m.1 149) - 1) + 1 → 0 < (m29.2 153) j → (m29.2 156) j < (m.1 26) by rewrite [(show (m29.2 153) = (m.2 153) from ((fr2 Fm29 153 rfl).trans ((fr2 Fm19 153 rfl).trans ((fr2 Fm8 153 rfl).trans (fr2 Fm6 153 rfl))))), (show (m29.2 156) = (m.2 156) from ((fr2 Fm29 156 rfl).trans ((fr2 Fm19 156 rfl).trans ((fr2 Fm8 156 rfl).trans (fr2 Fm6 156 rfl)))))]; first | exact fun j a b c => hLT j a (by omega) c | (intro j a b c; rw [hMk] at c; rw [hMt]; by_cases e : j = v30; (rw [e, upI_s] at c; rw [e, upI_s]; exact hLT2 (v30 + 1) (by omega) (by omega) c); (rw [upI_n e] at c; rw [upI_n e]; exact hLT2 j a b c))) (show ((m.1 149) - 1) - (0 : Int) < ((((((m.1 149) - 1) - (0 : Int) : Int) + 1).toNat : Nat) : Int) by omega)
        refine T_ld 74 (.int (i32 ((m.2 153) 0))) rfl (fun _ => rfl) ?_
        refine T_if 158 77 rfl rfl rfl (r32 (by omega) (by omega)) (fun (h47 : (m.2 153) 0 ≤ 0) => ?_) (fun (h47 : ¬ ((m.2 153) 0 ≤ 0)) => ?_)
        · skip
          refine T_ld 159 (.ref 189) rfl (fun _ => rfl) ?_
          refine T_call 162 325 [.ref 189] [] rfl (fun _ => rfl) rfl (c_readPacket w (mO m8 [] []) c N D (by omega) Tm8 (show CN (m8.2 65) (m8.2 67) (m8.1 28) by rewrite [(show (m8.2 65) = (m.2 65) from ((fr2 Fm8 65 rfl).trans (fr2 Fm6 65 rfl))), (show (m8.2 67) = (m.2 67) from ((fr2 Fm8 67 rfl).trans (fr2 Fm6 67 rfl))), (show (m8.1 28) = (m.1 28) from ((fr1 Fm8 28 rfl).trans (fr1 Fm6 28 rfl)))]; exact hCN) (show StP (m8.2 65) (m8.1 28) (m8.1 23) (m8.1 24) (m8.2 42) (m8.2 95) (m8.2 96) (m8.2 44) (m8.2 45) by rewrite [(show (m8.2 65) = (m.2 65) from ((fr2 Fm8 65 rfl).trans (fr2 Fm6 65 rfl))), (show (m8.1 28) = (m.1 28) from ((fr1 Fm8 28 rfl).trans (fr1 Fm6 28 rfl))), (show (m8.1 23) = (m.1 23) from ((fr1 Fm8 23 rfl).trans (fr1 Fm6 23 rfl))), (show (m8.1 24) = (m.1 24) from ((fr1 Fm8 24 rfl).trans (fr1 Fm6 24 rfl))), (show (m8.2 42) = (m.2 42) from ((fr2 Fm8 42 rfl).trans (fr2 Fm6 42 rfl))), (show (m8.2 95) = (m.2 95) from ((fr2 Fm8 95 rfl).trans (fr2 Fm6 95 rfl))), (show (m8.2 96) = (m.2 96) from ((fr2 Fm8 96 rfl).trans (fr2 Fm6 96 rfl))), (show (m8.2 44) = (m.2 44) from ((fr2 Fm8 44 rfl).trans (fr2 Fm6 44 rfl))), (show (m8.2 45) = (m.2 45) from ((fr2 Fm8 45 rfl).trans (fr2 Fm6 45 rfl)))]; exact pSt) (show SOp (m8.2 38) (m8.1 23) (m8.1 24) by rewrite [(show (m8.2 38) = (m.2 38) from ((fr2 Fm8 38 rfl).trans (fr2 Fm6 38 rfl))), (show (m8.1 23) = (m.1 23) from ((fr1 Fm8 23 rfl).trans (fr1 Fm6 23 rfl))), (show (m8.1 24) = (m.1 24) from ((fr1 Fm8 24 rfl).trans (fr1 Fm6 24 rfl)))]; exact pSO) (show ∀ q, 0 ≤ q → q < (m8.1 24) → 0 < (m8.2 41) q ∨ NR (m8.2 44) (m8.2 38) (m8.2 42) (m8.2 45) (m8.2 41) (m8.1 24) q by rewrite [(show (m8.1 24) = (m.1 24) from ((fr1 Fm8 24 rfl).trans (fr1 Fm6 24 rfl))), (show (m8.2 41) = (m.2 41) from ((fr2 Fm8 41 rfl).trans (fr2 Fm6 41 rfl))), (show (m8.2 44) = (m.2 44) from ((fr2 Fm8 44 rfl).trans (fr2 Fm6 44 rfl))), (show (m8.2 38) = (m.2 38) from ((fr2 Fm8 38 rfl).trans (fr2 Fm6 38 rfl))), (show (m8.2 42) = (m.2 42) from ((fr2 Fm8 42 rfl).trans (fr2 Fm6 42 rfl))), (show (m8.2 45) = (m.2 45) from ((fr2 Fm8 45 rfl).trans (fr2 Fm6 45 rfl)))]; exact hNA)) (fun rr48 k49 => ?_)
          obtain ⟨m50, rp, Tm50, Fm50, g51, rfl⟩ := k49
          refine ⟨_, _, rfl, ?_⟩
          refine T_nb (st' := [.int (i32 rp)]) rfl ?_
          obtain ⟨g51a, g51b⟩ := g51
          have g52 : 0 ≤ m50.1 177 ∧ m50.1 177 ≤ 1 := Tm50.1 177
          refine T_sto 163 [(3, .int (i32 rp)), (0, .ref 189), (1, .int (i32 ((m.1 150) % 128))), (2, .int (i32 ((m.2 153) 0)))] rfl (fun _ => rfl) ?_
          refine T_ld 164 (.int (i32 rp)) rfl (fun _ => rfl) ?_
          refine T_if 172 167 rfl rfl rfl (r32 (by omega) (by omega)) (fun (h53 : rp = 0) => ?_) (fun (h53 : ¬ (rp = 0)) => ?_)
          · skip
            refine T_gf 176 (.ref 313) rfl rfl rfl rfl rfl rfl ?_
            refine T_ld 177 (.int (i32 ((m.1 150) % 128))) rfl (fun _ => rfl) ?_
            refine T_ld 178 (.int (i32 rp)) rfl (fun _ => rfl) ?_
            refine T_if 185 181 rfl rfl rfl (r32 (by omega) (by omega)) (fun (h54 : rp ≠ 0) => by exfalso; omega) (fun (h54 : ¬ (rp ≠ 0)) => ?_)
            refine T_ld 182 (.int (i32 2)) rfl (fun _ => rfl) ?_
            refine T_goto 197 rfl (fun _ => rfl) ?_
            have G55 : ∀ j, 0 ≤ (upI (m.2 164) ((m.1 150) % 128) 2) j ∧ (upI (m.2 164) ((m.1 150) % 128) 2) j ≤ 2 := upI_rg (hT.2.1 164) ⟨by omega, by omega⟩
            refine T_iast (a' := [(164, upI (m.2 164) ((m.1 150) % 128) 2)]) 198 164 (m.2 164) rfl rfl rfl (by omega) (show ((m.1 150) % 128) < (128 : Int) by omega) (show (m50.2 164) = (m.2 164) from ((fr2 Fm50 164 rfl).trans ((fr2 Fm8 164 rfl).trans (fr2 Fm6 164 rfl)))) rfl ?_
            refine T_ld 199 (.int (i32 rp)) rfl (fun _ => rfl) ?_
            refine T_if 214 202 rfl rfl rfl (r32 (by omega) (by omega)) (fun (h56 : rp = 0) => ?_) (fun (h56 : ¬ (rp = 0)) => by exfalso; omega)
            refine Tm_lv (a := [(0, .ref 189), (1, .int (i32 ((m.1 150) % 128))), (2, .int (i32 ((m.2 153) 0))), (3, .int (i32 rp))]) rfl rfl ⟨rfl, rfl, rfl, rfl, trivial⟩ ?_
            exact J214_20 rp (mO m50 [] [(164, upI (m.2 164) ((m.1 150) % 128) 2)]) (r32 (by omega) (by omega)) (Ty_mO Tm50 rfl rfl trivial ⟨G55, trivial⟩) (fr_m (fr_s Fm50 (fr_m fr_0 rfl rfl) rfl rfl) rfl rfl) (show EMp (m.1 26) (m50.2 139) (m.2 58) (m.2 54) by rewrite [(show (m50.2 139) = (m.2 139) from ((fr2 Fm50 139 rfl).trans ((fr2 Fm8 139 rfl).trans (fr2 Fm6 139 rfl))))]; exact hEMp) (show EAp (m.1 25) (m50.2 139) (m50.2 141) by rewrite [(show (m50.2 139) = (m.2 139) from ((fr2 Fm50 139 rfl).trans ((fr2 Fm8 139 rfl).trans (fr2 Fm6 139 rfl)))), (show (m50.2 141) = (m.2 141) from ((fr2 Fm50 141 rfl).trans ((fr2 Fm8 141 rfl).trans (fr2 Fm6 141 rfl))))]; exact hEAp)
          · skip
            refine T_ld 168 (.ref 189) rfl (fun _ => rfl) ?_
            refine T_ld 169 (.int (i32 ((m.1 150) % 128))) rfl (fun _ => rfl) ?_
            refine T_call 172 331 [.ref 189, .int (i32 ((m.1 150) % 128))] [] rfl (fun _ => rfl) rfl (c_goThrough w (mO m50 [] []) c N D (by omega) Tm50 ((m.1 150) % 128) (r32 (by omega) (by omega)) (show 0 ≤ ((m.1 150) % 128) ∧ ((m.1 150) % 128) ≤ 127 by omega) (show CN (m50.2 65) (m50.2 67) (m50.1 28) by rewrite [(show (m50.2 65) = (m.2 65) from ((fr2 Fm50 65 rfl).trans ((fr2 Fm8 65 rfl).trans (fr2 Fm6 65 rfl)))), (show (m50.2 67) = (m.2 67) from ((fr2 Fm50 67 rfl).trans ((fr2 Fm8 67 rfl).trans (fr2 Fm6 67 rfl)))), (show (m50.1 28) = (m.1 28) from ((fr1 Fm50 28 rfl).trans ((fr1 Fm8 28 rfl).trans (fr1 Fm6 28 rfl))))]; exact hCN) (show TdP (m50.2 65) (m50.1 28) (m50.1 22) (m50.1 99) (m50.2 101) (m50.2 103) (m50.2 105) (m50.2 106) (m50.2 107) (m50.2 108) by rewrite [(show (m50.2 65) = (m.2 65) from ((fr2 Fm50 65 rfl).trans ((fr2 Fm8 65 rfl).trans (fr2 Fm6 65 rfl)))), (show (m50.1 28) = (m.1 28) from ((fr1 Fm50 28 rfl).trans ((fr1 Fm8 28 rfl).trans (fr1 Fm6 28 rfl)))), (show (m50.1 22) = (m.1 22) from ((fr1 Fm50 22 rfl).trans ((fr1 Fm8 22 rfl).trans (fr1 Fm6 22 rfl)))), (show (m50.1 99) = (m.1 99) from ((fr1 Fm50 99 rfl).trans ((fr1 Fm8 99 rfl).trans (fr1 Fm6 99 rfl)))), (show (m50.2 101) = (m.2 101) from ((fr2 Fm50 101 rfl).trans ((fr2 Fm8 101 rfl).trans (fr2 Fm6 101 rfl)))), (show (m50.2 103) = (m.2 103) from ((fr2 Fm50 103 rfl).trans ((fr2 Fm8 103 rfl).trans (fr2 Fm6 103 rfl)))), (show (m50.2 105) = (m.2 105) from ((fr2 Fm50 105 rfl).trans ((fr2 Fm8 105 rfl).trans (fr2 Fm6 105 rfl)))), (show (m50.2 106) = (m.2 106) from ((fr2 Fm50 106 rfl).trans ((fr2 Fm8 106 rfl).trans (fr2 Fm6 106 rfl)))), (show (m50.2 107) = (m.2 107) from ((fr2 Fm50 107 rfl).trans ((fr2 Fm8 107 rfl).trans (fr2 Fm6 107 rfl)))), (show (m50.2 108) = (m.2 108) from ((fr2 Fm50 108 rfl).trans ((fr2 Fm8 108 rfl).trans (fr2 Fm6 108 rfl))))]; exact pTd) (show AcP (m50.1 25) (m50.1 99) (m50.2 109) (m50.2 50) by rewrite [(show (m50.1 25) = (m.1 25) from ((fr1 Fm50 25 rfl).trans ((fr1 Fm8 25 rfl).trans (fr1 Fm6 25 rfl)))), (show (m50.1 99) = (m.1 99) from ((fr1 Fm50 99 rfl).trans ((fr1 Fm8 99 rfl).trans (fr1 Fm6 99 rfl)))), (show (m50.2 109) = (m.2 109) from ((fr2 Fm50 109 rfl).trans ((fr2 Fm8 109 rfl).trans (fr2 Fm6 109 rfl)))), (show (m50.2 50) = (m.2 50) from ((fr2 Fm50 50 rfl).trans ((fr2 Fm8 50 rfl).trans (fr2 Fm6 50 rfl))))]; exact pAc) (show TbP (m50.2 65) (m50.1 28) (m50.1 25) (m50.1 26) (m50.2 51) (m50.2 110) (m50.2 111) (m50.2 57) (m50.2 53) (m50.2 114) (m50.2 58) (m50.2 54) by rewrite [(show (m50.2 65) = (m.2 65) from ((fr2 Fm50 65 rfl).trans ((fr2 Fm8 65 rfl).trans (fr2 Fm6 65 rfl)))), (show (m50.1 28) = (m.1 28) from ((fr1 Fm50 28 rfl).trans ((fr1 Fm8 28 rfl).trans (fr1 Fm6 28 rfl)))), (show (m50.1 25) = (m.1 25) from ((fr1 Fm50 25 rfl).trans ((fr1 Fm8 25 rfl).trans (fr1 Fm6 25 rfl)))), (show (m50.1 26) = (m.1 26) from ((fr1 Fm50 26 rfl).trans ((fr1 Fm8 26 rfl).trans (fr1 Fm6 26 rfl)))), (show (m50.2 51) = (m.2 51) from ((fr2 Fm50 51 rfl).trans ((fr2 Fm8 51 rfl).trans (fr2 Fm6 51 rfl)))), (show (m50.2 110) = (m.2 110) from ((fr2 Fm50 110 rfl).trans ((fr2 Fm8 110 rfl).trans (fr2 Fm6 110 rfl)))), (show (m50.2 111) = (m.2 111) from ((fr2 Fm50 111 rfl).trans ((fr2 Fm8 111 rfl).trans (fr2 Fm6 111 rfl)))), (show (m50.2 57) = (m.2 57) from ((fr2 Fm50 57 rfl).trans ((fr2 Fm8 57 rfl).trans (fr2 Fm6 57 rfl)))), (show (m50.2 53) = (m.2 53) from ((fr2 Fm50 53 rfl).trans ((fr2 Fm8 53 rfl).trans (fr2 Fm6 53 rfl)))), (show (m50.2 114) = (m.2 114) from ((fr2 Fm50 114 rfl).trans ((fr2 Fm8 114 rfl).trans (fr2 Fm6 114 rfl)))), (show (m50.2 58) = (m.2 58) from ((fr2 Fm50 58 rfl).trans ((fr2 Fm8 58 rfl).trans (fr2 Fm6 58 rfl)))), (show (m50.2 54) = (m.2 54) from ((fr2 Fm50 54 rfl).trans ((fr2 Fm8 54 rfl).trans (fr2 Fm6 54 rfl))))]; exact pTb) (show SpP (m50.2 65) (m50.1 28) (m50.1 99) (m50.1 26) (m50.1 27) (m50.2 60) (m50.2 61) (m50.2 120) (m50.2 121) (m50.2 122) (m50.2 63) by rewrite [(show (m50.2 65) = (m.2 65) from ((fr2 Fm50 65 rfl).trans ((fr2 Fm8 65 rfl).trans (fr2 Fm6 65 rfl)))), (show (m50.1 28) = (m.1 28) from ((fr1 Fm50 28 rfl).trans ((fr1 Fm8 28 rfl).trans (fr1 Fm6 28 rfl)))), (show (m50.1 99) = (m.1 99) from ((fr1 Fm50 99 rfl).trans ((fr1 Fm8 99 rfl).trans (fr1 Fm6 99 rfl)))), (show (m50.1 26) = (m.1 26) from ((fr1 Fm50 26 rfl).trans ((fr1 Fm8 26 rfl).trans (fr1 Fm6 26 rfl)))), (show (m50.1 27) = (m.1 27) from ((fr1 Fm50 27 rfl).trans ((fr1 Fm8 27 rfl).trans (fr1 Fm6 27 rfl)))), (show (m50.2 60) = (m.2 60) from ((fr2 Fm50 60 rfl).trans ((fr2 Fm8 60 rfl).trans (fr2 Fm6 60 rfl)))), (show (m50.2 61) = (m.2 61) from ((fr2 Fm50 61 rfl).trans ((fr2 Fm8 61 rfl).trans (fr2 Fm6 61 rfl)))), (show (m50.2 120) = (m.2 120) from ((fr2 Fm50 120 rfl).trans ((fr2 Fm8 120 rfl).trans (fr2 Fm6 120 rfl)))), (show (m50.2 121) = (m.2 121) from ((fr2 Fm50 121 rfl).trans ((fr2 Fm8 121 rfl).trans (fr2 Fm6 121 rfl)))), (show (m50.2 122) = (m.2 122) from ((fr2 Fm50 122 rfl).trans ((fr2 Fm8 122 rfl).trans (fr2 Fm6 122 rfl)))), (show (m50.2 63) = (m.2 63) from ((fr2 Fm50 63 rfl).trans ((fr2 Fm8 63 rfl).trans (fr2 Fm6 63 rfl))))]; exact pSp) (show ∀ k, 0 ≤ k → k < (m50.1 22) → 1 ≤ (m50.2 93) k ∧ 1 ≤ (m50.2 36) k by rewrite [(show (m50.1 22) = (m.1 22) from ((fr1 Fm50 22 rfl).trans ((fr1 Fm8 22 rfl).trans (fr1 Fm6 22 rfl)))), (show (m50.2 93) = (m.2 93) from ((fr2 Fm50 93 rfl).trans ((fr2 Fm8 93 rfl).trans (fr2 Fm6 93 rfl)))), (show (m50.2 36) = (m.2 36) from ((fr2 Fm50 36 rfl).trans ((fr2 Fm8 36 rfl).trans (fr2 Fm6 36 rfl))))]; exact pAR) (show EAp (m50.1 25) (m50.2 139) (m50.2 141) by rewrite [(show (m50.1 25) = (m.1 25) from ((fr1 Fm50 25 rfl).trans ((fr1 Fm8 25 rfl).trans (fr1 Fm6 25 rfl)))), (show (m50.2 139) = (m.2 139) from ((fr2 Fm50 139 rfl).trans ((fr2 Fm8 139 rfl).trans (fr2 Fm6 139 rfl)))), (show (m50.2 141) = (m.2 141) from ((fr2 Fm50 141 rfl).trans ((fr2 Fm8 141 rfl).trans (fr2 Fm6 141 rfl))))]; exact hEAp)) (fun rr57 k58 => ?_)
            obtain ⟨m59, Tm59, Fm59, rfl⟩ := k58
            refine ⟨_, _, rfl, ?_⟩
            refine T_nb (st' := []) rfl ?_
            have g60 : 0 ≤ m59.1 177 ∧ m59.1 177 ≤ 1 := Tm59.1 177
            refine T_gf 176 (.ref 313) rfl rfl rfl rfl rfl rfl ?_
            refine T_ld 177 (.int (i32 ((m.1 150) % 128))) rfl (fun _ => rfl) ?_
            refine T_ld 178 (.int (i32 rp)) rfl (fun _ => rfl) ?_
            refine T_if 185 181 rfl rfl rfl (r32 (by omega) (by omega)) (fun (h61 : rp ≠ 0) => ?_) (fun (h61 : ¬ (rp ≠ 0)) => by exfalso; omega)
            refine T_gf 189 (.int (i32 (m59.1 177))) rfl rfl rfl rfl rfl rfl ?_
            refine T_if 196 192 rfl rfl rfl (r32 (by omega) (by omega)) (fun (h62 : (m59.1 177) = 0) => ?_) (fun (h62 : ¬ ((m59.1 177) = 0)) => ?_)
            · skip
              refine T_ld 197 (.int (i32 0)) rfl (fun _ => rfl) ?_
              have G63 : ∀ j, 0 ≤ (upI (m.2 164) ((m.1 150) % 128) 0) j ∧ (upI (m.2 164) ((m.1 150) % 128) 0) j ≤ 2 := upI_rg (hT.2.1 164) ⟨by omega, by omega⟩
              refine T_iast (a' := [(164, upI (m.2 164) ((m.1 150) % 128) 0)]) 198 164 (m.2 164) rfl rfl rfl (by omega) (show ((m.1 150) % 128) < (128 : Int) by omega) (show (m59.2 164) = (m.2 164) from ((fr2 Fm59 164 rfl).trans ((fr2 Fm50 164 rfl).trans ((fr2 Fm8 164 rfl).trans (fr2 Fm6 164 rfl))))) rfl ?_
              refine T_ld 199 (.int (i32 rp)) rfl (fun _ => rfl) ?_
              refine T_if 214 202 rfl rfl rfl (r32 (by omega) (by omega)) (fun (h64 : rp = 0) => by exfalso; omega) (fun (h64 : ¬ (rp = 0)) => ?_)
              refine T_gf 206 (.int (i32 (m59.1 177))) rfl rfl rfl rfl rfl rfl ?_
              refine T_if 214 209 rfl rfl rfl (r32 (by omega) (by omega)) (fun (h65 : (m59.1 177) ≠ 0) => by exfalso; omega) (fun (h65 : ¬ ((m59.1 177) ≠ 0)) => ?_)
              refine T_ld 210 (.ref 189) rfl (fun _ => rfl) ?_
              refine T_ld 211 (.int (i32 ((m.1 150) % 128))) rfl (fun _ => rfl) ?_
              refine T_call 214 340 [.ref 189, .int (i32 ((m.1 150) % 128))] [] rfl (fun _ => rfl) rfl (c_writePacket w (mO m59 [] [(164, upI (m.2 164) ((m.1 150) % 128) 0)]) c N D (by omega) (Ty_mO Tm59 rfl rfl trivial ⟨G63, trivial⟩) ((m.1 150) % 128) (r32 (by omega) (by omega)) (show 0 ≤ ((m.1 150) % 128) ∧ ((m.1 150) % 128) ≤ 127 by omega) (show HBi (m59.2 29) (m59.2 30) (m59.2 33) by rewrite [(show (m59.2 29) = (m.2 29) from ((fr2 Fm59 29 rfl).trans ((fr2 Fm50 29 rfl).trans ((fr2 Fm8 29 rfl).trans (fr2 Fm6 29 rfl))))), (show (m59.2 30) = (m.2 30) from ((fr2 Fm59 30 rfl).trans ((fr2 Fm50 30 rfl).trans ((fr2 Fm8 30 rfl).trans (fr2 Fm6 30 rfl))))), (show (m59.2 33) = (m.2 33) from ((fr2 Fm59 33 rfl).trans ((fr2 Fm50 33 rfl).trans ((fr2 Fm8 33 rfl).trans (fr2 Fm6 33 rfl)))))]; exact hHB) (show ∀ g, 0 ≤ g → g < (m59.1 19) → (m59.2 30) g ≤ 512 by rewrite [(show (m59.1 19) = (m.1 19) from ((fr1 Fm59 19 rfl).trans ((fr1 Fm50 19 rfl).trans ((fr1 Fm8 19 rfl).trans (fr1 Fm6 19 rfl))))), (show (m59.2 30) = (m.2 30) from ((fr2 Fm59 30 rfl).trans ((fr2 Fm50 30 rfl).trans ((fr2 Fm8 30 rfl).trans (fr2 Fm6 30 rfl)))))]; exact pHO) (show ∀ k, 0 ≤ k → k < (m59.1 20) → (m59.2 34) k < (m59.1 19) by rewrite [(show (m59.1 20) = (m.1 20) from ((fr1 Fm59 20 rfl).trans ((fr1 Fm50 20 rfl).trans ((fr1 Fm8 20 rfl).trans (fr1 Fm6 20 rfl))))), (show (m59.2 34) = (m.2 34) from ((fr2 Fm59 34 rfl).trans ((fr2 Fm50 34 rfl).trans ((fr2 Fm8 34 rfl).trans (fr2 Fm6 34 rfl))))), (show (m59.1 19) = (m.1 19) from ((fr1 Fm59 19 rfl).trans ((fr1 Fm50 19 rfl).trans ((fr1 Fm8 19 rfl).trans (fr1 Fm6 19 rfl)))))]; exact pIN) (show ∀ j, 0 ≤ j → j < (m59.1 125) → (m59.2 124) j < (m59.1 20) by rewrite [(show (m59.1 125) = (m.1 125) from ((fr1 Fm59 125 rfl).trans ((fr1 Fm50 125 rfl).trans ((fr1 Fm8 125 rfl).trans (fr1 Fm6 125 rfl))))), (show (m59.2 124) = (m.2 124) from ((fr2 Fm59 124 rfl).trans ((fr2 Fm50 124 rfl).trans ((fr2 Fm8 124 rfl).trans (fr2 Fm6 124 rfl))))), (show (m59.1 20) = (m.1 20) from ((fr1 Fm59 20 rfl).trans ((fr1 Fm50 20 rfl).trans ((fr1 Fm8 20 rfl).trans (fr1 Fm6 20 rfl)))))]; exact hEM)) (fun rr66 k67 => ?_)
              obtain ⟨m68, Tm68, Fm68, rfl⟩ := k67
              refine ⟨_, _, rfl, ?_⟩
              refine T_nb (st' := []) rfl ?_
              refine Tm_lv (a := [(0, .ref 189), (1, .int (i32 ((m.1 150) % 128))), (2, .int (i32 ((m.2 153) 0))), (3, .int (i32 rp))]) rfl rfl ⟨rfl, rfl, rfl, rfl, trivial⟩ ?_
              exact J214_20 rp (mO m68 [] []) (r32 (by omega) (by omega)) Tm68 (fr_m (fr_s Fm68 (fr_m (fr_s Fm59 (fr_m (fr_s Fm50 (fr_m fr_0 rfl rfl) rfl rfl) rfl rfl) rfl rfl) rfl rfl) rfl rfl) rfl rfl) (show EMp (m.1 26) (m68.2 139) (m.2 58) (m.2 54) by rewrite [(show (m68.2 139) = (m.2 139) from ((fr2 Fm68 139 rfl).trans ((fr2 Fm59 139 rfl).trans ((fr2 Fm50 139 rfl).trans ((fr2 Fm8 139 rfl).trans (fr2 Fm6 139 rfl))))))]; exact hEMp) (show EAp (m.1 25) (m68.2 139) (m68.2 141) by rewrite [(show (m68.2 139) = (m.2 139) from ((fr2 Fm68 139 rfl).trans ((fr2 Fm59 139 rfl).trans ((fr2 Fm50 139 rfl).trans ((fr2 Fm8 139 rfl).trans (fr2 Fm6 139 rfl)))))), (show (m68.2 141) = (m.2 141) from ((fr2 Fm68 141 rfl).trans ((fr2 Fm59 141 rfl).trans ((fr2 Fm50 141 rfl).trans ((fr2 Fm8 141 rfl).trans (fr2 Fm6 141 rfl))))))]; exact hEAp)
            · skip
              refine T_ld 193 (.int (i32 1)) rfl (fun _ => rfl) ?_
              refine T_goto 197 rfl (fun _ => rfl) ?_
              have G69 : ∀ j, 0 ≤ (upI (m.2 164) ((m.1 150) % 128) 1) j ∧ (upI (m.2 164) ((m.1 150) % 128) 1) j ≤ 2 := upI_rg (hT.2.1 164) ⟨by omega, by omega⟩
              refine T_iast (a' := [(164, upI (m.2 164) ((m.1 150) % 128) 1)]) 198 164 (m.2 164) rfl rfl rfl (by omega) (show ((m.1 150) % 128) < (128 : Int) by omega) (show (m59.2 164) = (m.2 164) from ((fr2 Fm59 164 rfl).trans ((fr2 Fm50 164 rfl).trans ((fr2 Fm8 164 rfl).trans (fr2 Fm6 164 rfl))))) rfl ?_
              refine T_ld 199 (.int (i32 rp)) rfl (fun _ => rfl) ?_
              refine T_if 214 202 rfl rfl rfl (r32 (by omega) (by omega)) (fun (h70 : rp = 0) => by exfalso; omega) (fun (h70 : ¬ (rp = 0)) => ?_)
              refine T_gf 206 (.int (i32 (m59.1 177))) rfl rfl rfl rfl rfl rfl ?_
              refine T_if 214 209 rfl rfl rfl (r32 (by omega) (by omega)) (fun (h71 : (m59.1 177) ≠ 0) => ?_) (fun (h71 : ¬ ((m59.1 177) ≠ 0)) => by exfalso; omega)
              refine Tm_lv (a := [(0, .ref 189), (1, .int (i32 ((m.1 150) % 128))), (2, .int (i32 ((m.2 153) 0))), (3, .int (i32 rp))]) rfl rfl ⟨rfl, rfl, rfl, rfl, trivial⟩ ?_
              exact J214_20 rp (mO m59 [] [(164, upI (m.2 164) ((m.1 150) % 128) 1)]) (r32 (by omega) (by omega)) (Ty_mO Tm59 rfl rfl trivial ⟨G69, trivial⟩) (fr_m (fr_s Fm59 (fr_m (fr_s Fm50 (fr_m fr_0 rfl rfl) rfl rfl) rfl rfl) rfl rfl) rfl rfl) (show EMp (m.1 26) (m59.2 139) (m.2 58) (m.2 54) by rewrite [(show (m59.2 139) = (m.2 139) from ((fr2 Fm59 139 rfl).trans ((fr2 Fm50 139 rfl).trans ((fr2 Fm8 139 rfl).trans (fr2 Fm6 139 rfl)))))]; exact hEMp) (show EAp (m.1 25) (m59.2 139) (m59.2 141) by rewrite [(show (m59.2 139) = (m.2 139) from ((fr2 Fm59 139 rfl).trans ((fr2 Fm50 139 rfl).trans ((fr2 Fm8 139 rfl).trans (fr2 Fm6 139 rfl))))), (show (m59.2 141) = (m.2 141) from ((fr2 Fm59 141 rfl).trans ((fr2 Fm50 141 rfl).trans ((fr2 Fm8 141 rfl).trans (fr2 Fm6 141 rfl)))))]; exact hEAp)
        · skip
          refine T_gf 81 (.ref 305) rfl rfl rfl rfl rfl rfl ?_
          refine T_ld 82 (.int (i32 0)) rfl (fun _ => rfl) ?_
          refine T_iald 83 156 (m.2 156) rfl rfl rfl (by omega) (show 0 < (41 : Int) by omega) (show (m8.2 156) = (m.2 156) from ((fr2 Fm8 156 rfl).trans (fr2 Fm6 156 rfl))) ?_
          have e72 : 0 ≤ (m.2 156) 0 ∧ (m.2 156) 0 ≤ 7 := (hT.2.1 156) 0
          refine T_sto 84 [(3, .int (i32 ((m.2 156) 0))), (0, .ref 189), (1, .int (i32 ((m.1 150) % 128))), (2, .int (i32 ((m.2 153) 0)))] rfl (fun _ => rfl) ?_
          have ht0 := hLT 0 (by omega) (by omega) (by omega)
          refine T_ld 85 (.ref 189) rfl (fun _ => rfl) ?_
          refine T_ld 86 (.int (i32 ((m.2 156) 0))) rfl (fun _ => rfl) ?_
          refine T_call 89 314 [.ref 189, .int (i32 ((m.2 156) 0))] [] rfl (fun _ => rfl) rfl (c_areMasks w (mO m8 [] []) c N D (by omega) Tm8 ((m.2 156) 0) (r32 (by omega) (by omega)) (show 0 ≤ ((m.2 156) 0) ∧ ((m.2 156) 0) ≤ 7 by omega)) (fun rr73 k74 => ?_)
          obtain ⟨x75, g76, rfl⟩ := k74
          refine ⟨_, _, rfl, ?_⟩
          refine T_ns (st' := [.int (i32 x75)]) rfl ?_
          obtain ⟨g76a, g76b⟩ := g76
          refine T_if 136 92 rfl rfl rfl (r32 (by omega) (by omega)) (fun (h77 : x75 = 0) => ?_) (fun (h77 : ¬ (x75 = 0)) => ?_)
          · skip
            refine T_ld 137 (.int (i32 0)) rfl (fun _ => rfl) ?_
            refine T_sto 139 [(4, .int (i32 0)), (3, .int (i32 ((m.2 156) 0))), (0, .ref 189), (1, .int (i32 ((m.1 150) % 128))), (2, .int (i32 ((m.2 153) 0)))] rfl (fun _ => rfl) ?_
            refine T_gf 143 (.ref 313) rfl rfl rfl rfl rfl rfl ?_
            refine T_ld 144 (.int (i32 ((m.1 150) % 128))) rfl (fun _ => rfl) ?_
            refine T_ld 146 (.int (i32 0)) rfl (fun _ => rfl) ?_
            refine T_if 153 149 rfl rfl rfl ⟨by decide, by decide⟩ (fun _ => ?_) (fun h78 => absurd (show (0 : Int) = 0 by decide) h78)
            refine T_ld 154 (.int (i32 1)) rfl (fun _ => rfl) ?_
            have G79 : ∀ j, 0 ≤ (upI (m.2 164) ((m.1 150) % 128) 1) j ∧ (upI (m.2 164) ((m.1 150) % 128) 1) j ≤ 2 := upI_rg (hT.2.1 164) ⟨by omega, by omega⟩
            refine T_iast (a' := [(164, upI (m.2 164) ((m.1 150) % 128) 1)]) 155 164 (m.2 164) rfl rfl rfl (by omega) (show ((m.1 150) % 128) < (128 : Int) by omega) (show (m8.2 164) = (m.2 164) from ((fr2 Fm8 164 rfl).trans (fr2 Fm6 164 rfl))) rfl ?_
            refine T_goto 214 rfl (fun _ => rfl) ?_
            refine Tm_lv (a := [(0, .ref 189), (1, .int (i32 ((m.1 150) % 128))), (2, .int (i32 ((m.2 153) 0))), (3, .int (i32 ((m.2 156) 0)))]) rfl rfl ⟨rfl, rfl, rfl, rfl, trivial⟩ ?_
            exact J214_20 ((m.2 156) 0) (mO m8 [] [(164, upI (m.2 164) ((m.1 150) % 128) 1)]) (r32 (by omega) (by omega)) (Ty_mO Tm8 rfl rfl trivial ⟨G79, trivial⟩) (fr_m fr_0 rfl rfl) (show EMp (m.1 26) (m8.2 139) (m.2 58) (m.2 54) by rewrite [(show (m8.2 139) = (m.2 139) from ((fr2 Fm8 139 rfl).trans (fr2 Fm6 139 rfl)))]; exact hEMp) (show EAp (m.1 25) (m8.2 139) (m8.2 141) by rewrite [(show (m8.2 139) = (m.2 139) from ((fr2 Fm8 139 rfl).trans (fr2 Fm6 139 rfl))), (show (m8.2 141) = (m.2 141) from ((fr2 Fm8 141 rfl).trans (fr2 Fm6 141 rfl)))]; exact hEAp)
          · skip
            refine T_ld 93 (.int (i32 ((m.2 153) 0))) rfl (fun _ => rfl) ?_
            refine T_ld 94 (.int (i32 1)) rfl (fun _ => rfl) ?_
            refine T_icmp 108 97 rfl rfl rfl (r32 (by omega) (by omega)) ⟨by decide, by decide⟩ (fun (h80 : (m.2 153) 0 ≠ 1) => ?_) (fun (h80 : ¬ ((m.2 153) 0 ≠ 1)) => ?_)
            · skip
              refine T_ld 109 (.int (i32 ((m.2 153) 0))) rfl (fun _ => rfl) ?_
              refine T_ld 110 (.int (i32 2)) rfl (fun _ => rfl) ?_
              refine T_icmp 124 113 rfl rfl rfl (r32 (by omega) (by omega)) ⟨by decide, by decide⟩ (fun (h81 : (m.2 153) 0 ≠ 2) => ?_) (fun (h81 : ¬ ((m.2 153) 0 ≠ 2)) => ?_)
              · skip
                refine T_ld 125 (.ref 189) rfl (fun _ => rfl) ?_
                refine T_ld 126 (.int (i32 ((m.2 156) 0))) rfl (fun _ => rfl) ?_
                refine T_call 129 324 [.ref 189, .int (i32 ((m.2 156) 0))] [] rfl (fun _ => rfl) rfl (c_entryGoes w (mO m8 [] []) c N D (by omega) Tm8 ((m.2 156) 0) (r32 (by omega) (by omega)) (show 0 ≤ ((m.2 156) 0) ∧ ((m.2 156) 0) ≤ 7 by omega) (show ((m.2 156) 0) < (m8.1 26) by rewrite [(show (m8.1 26) = (m.1 26) from ((fr1 Fm8 26 rfl).trans (fr1 Fm6 26 rfl)))]; omega) (show TbP (m8.2 65) (m8.1 28) (m8.1 25) (m8.1 26) (m8.2 51) (m8.2 110) (m8.2 111) (m8.2 57) (m8.2 53) (m8.2 114) (m8.2 58) (m8.2 54) by rewrite [(show (m8.2 65) = (m.2 65) from ((fr2 Fm8 65 rfl).trans (fr2 Fm6 65 rfl))), (show (m8.1 28) = (m.1 28) from ((fr1 Fm8 28 rfl).trans (fr1 Fm6 28 rfl))), (show (m8.1 25) = (m.1 25) from ((fr1 Fm8 25 rfl).trans (fr1 Fm6 25 rfl))), (show (m8.1 26) = (m.1 26) from ((fr1 Fm8 26 rfl).trans (fr1 Fm6 26 rfl))), (show (m8.2 51) = (m.2 51) from ((fr2 Fm8 51 rfl).trans (fr2 Fm6 51 rfl))), (show (m8.2 110) = (m.2 110) from ((fr2 Fm8 110 rfl).trans (fr2 Fm6 110 rfl))), (show (m8.2 111) = (m.2 111) from ((fr2 Fm8 111 rfl).trans (fr2 Fm6 111 rfl))), (show (m8.2 57) = (m.2 57) from ((fr2 Fm8 57 rfl).trans (fr2 Fm6 57 rfl))), (show (m8.2 53) = (m.2 53) from ((fr2 Fm8 53 rfl).trans (fr2 Fm6 53 rfl))), (show (m8.2 114) = (m.2 114) from ((fr2 Fm8 114 rfl).trans (fr2 Fm6 114 rfl))), (show (m8.2 58) = (m.2 58) from ((fr2 Fm8 58 rfl).trans (fr2 Fm6 58 rfl))), (show (m8.2 54) = (m.2 54) from ((fr2 Fm8 54 rfl).trans (fr2 Fm6 54 rfl)))]; exact pTb) (show EMp (m8.1 26) (m8.2 139) (m8.2 58) (m8.2 54) by rewrite [(show (m8.1 26) = (m.1 26) from ((fr1 Fm8 26 rfl).trans (fr1 Fm6 26 rfl))), (show (m8.2 139) = (m.2 139) from ((fr2 Fm8 139 rfl).trans (fr2 Fm6 139 rfl))), (show (m8.2 58) = (m.2 58) from ((fr2 Fm8 58 rfl).trans (fr2 Fm6 58 rfl))), (show (m8.2 54) = (m.2 54) from ((fr2 Fm8 54 rfl).trans (fr2 Fm6 54 rfl)))]; exact hEMp) (show EAp (m8.1 25) (m8.2 139) (m8.2 141) by rewrite [(show (m8.1 25) = (m.1 25) from ((fr1 Fm8 25 rfl).trans (fr1 Fm6 25 rfl))), (show (m8.2 139) = (m.2 139) from ((fr2 Fm8 139 rfl).trans (fr2 Fm6 139 rfl))), (show (m8.2 141) = (m.2 141) from ((fr2 Fm8 141 rfl).trans (fr2 Fm6 141 rfl)))]; exact hEAp)) (fun rr82 k83 => ?_)
                obtain ⟨m84, x85, Tm84, Fm84, g86, h87, h88, rfl⟩ := k83
                refine ⟨_, _, rfl, ?_⟩
                refine T_nb (st' := [.int (i32 x85)]) rfl ?_
                obtain ⟨g86a, g86b⟩ := g86
                replace h87 : EMp (m8.1 26) (m84.2 139) (m8.2 58) (m8.2 54) := h87
                rewrite [(show (m8.1 26) = (m.1 26) from ((fr1 Fm8 26 rfl).trans (fr1 Fm6 26 rfl))), (show (m8.2 58) = (m.2 58) from ((fr2 Fm8 58 rfl).trans (fr2 Fm6 58 rfl))), (show (m8.2 54) = (m.2 54) from ((fr2 Fm8 54 rfl).trans (fr2 Fm6 54 rfl)))] at h87
                have hEMp := h87
                replace h88 : EAp (m8.1 25) (m84.2 139) (m84.2 141) := h88
                rewrite [(show (m8.1 25) = (m.1 25) from ((fr1 Fm8 25 rfl).trans (fr1 Fm6 25 rfl)))] at h88
                have hEAp := h88
                refine T_if 136 132 rfl rfl rfl (r32 (by omega) (by omega)) (fun (h89 : x85 = 0) => ?_) (fun (h89 : ¬ (x85 = 0)) => ?_)
                · skip
                  refine T_ld 137 (.int (i32 0)) rfl (fun _ => rfl) ?_
                  refine T_sto 139 [(4, .int (i32 0)), (3, .int (i32 ((m.2 156) 0))), (0, .ref 189), (1, .int (i32 ((m.1 150) % 128))), (2, .int (i32 ((m.2 153) 0)))] rfl (fun _ => rfl) ?_
                  refine T_gf 143 (.ref 313) rfl rfl rfl rfl rfl rfl ?_
                  refine T_ld 144 (.int (i32 ((m.1 150) % 128))) rfl (fun _ => rfl) ?_
                  refine T_ld 146 (.int (i32 0)) rfl (fun _ => rfl) ?_
                  refine T_if 153 149 rfl rfl rfl ⟨by decide, by decide⟩ (fun _ => ?_) (fun h90 => absurd (show (0 : Int) = 0 by decide) h90)
                  refine T_ld 154 (.int (i32 1)) rfl (fun _ => rfl) ?_
                  have G91 : ∀ j, 0 ≤ (upI (m.2 164) ((m.1 150) % 128) 1) j ∧ (upI (m.2 164) ((m.1 150) % 128) 1) j ≤ 2 := upI_rg (hT.2.1 164) ⟨by omega, by omega⟩
                  refine T_iast (a' := [(164, upI (m.2 164) ((m.1 150) % 128) 1)]) 155 164 (m.2 164) rfl rfl rfl (by omega) (show ((m.1 150) % 128) < (128 : Int) by omega) (show (m84.2 164) = (m.2 164) from ((fr2 Fm84 164 rfl).trans ((fr2 Fm8 164 rfl).trans (fr2 Fm6 164 rfl)))) rfl ?_
                  refine T_goto 214 rfl (fun _ => rfl) ?_
                  refine Tm_lv (a := [(0, .ref 189), (1, .int (i32 ((m.1 150) % 128))), (2, .int (i32 ((m.2 153) 0))), (3, .int (i32 ((m.2 156) 0)))]) rfl rfl ⟨rfl, rfl, rfl, rfl, trivial⟩ ?_
                  exact J214_20 ((m.2 156) 0) (mO m84 [] [(164, upI (m.2 164) ((m.1 150) % 128) 1)]) (r32 (by omega) (by omega)) (Ty_mO Tm84 rfl rfl trivial ⟨G91, trivial⟩) (fr_m (fr_s Fm84 (fr_m fr_0 rfl rfl) rfl rfl) rfl rfl) (show EMp (m.1 26) (m84.2 139) (m.2 58) (m.2 54) by exact hEMp) (show EAp (m.1 25) (m84.2 139) (m84.2 141) by exact hEAp)
                · skip
                  refine T_ld 133 (.int (i32 1)) rfl (fun _ => rfl) ?_
                  refine T_goto 137 rfl (fun _ => rfl) ?_
                  refine T_sto 139 [(4, .int (i32 1)), (3, .int (i32 ((m.2 156) 0))), (0, .ref 189), (1, .int (i32 ((m.1 150) % 128))), (2, .int (i32 ((m.2 153) 0)))] rfl (fun _ => rfl) ?_
                  refine T_gf 143 (.ref 313) rfl rfl rfl rfl rfl rfl ?_
                  refine T_ld 144 (.int (i32 ((m.1 150) % 128))) rfl (fun _ => rfl) ?_
                  refine T_ld 146 (.int (i32 1)) rfl (fun _ => rfl) ?_
                  refine T_if 153 149 rfl rfl rfl ⟨by decide, by decide⟩ (fun h92 => absurd (show (1 : Int) = 0 from h92) (by decide)) (fun _ => ?_)
                  refine T_ld 150 (.int (i32 0)) rfl (fun _ => rfl) ?_
                  refine T_goto 154 rfl (fun _ => rfl) ?_
                  have G93 : ∀ j, 0 ≤ (upI (m.2 164) ((m.1 150) % 128) 0) j ∧ (upI (m.2 164) ((m.1 150) % 128) 0) j ≤ 2 := upI_rg (hT.2.1 164) ⟨by omega, by omega⟩
                  refine T_iast (a' := [(164, upI (m.2 164) ((m.1 150) % 128) 0)]) 155 164 (m.2 164) rfl rfl rfl (by omega) (show ((m.1 150) % 128) < (128 : Int) by omega) (show (m84.2 164) = (m.2 164) from ((fr2 Fm84 164 rfl).trans ((fr2 Fm8 164 rfl).trans (fr2 Fm6 164 rfl)))) rfl ?_
                  refine T_goto 214 rfl (fun _ => rfl) ?_
                  refine Tm_lv (a := [(0, .ref 189), (1, .int (i32 ((m.1 150) % 128))), (2, .int (i32 ((m.2 153) 0))), (3, .int (i32 ((m.2 156) 0)))]) rfl rfl ⟨rfl, rfl, rfl, rfl, trivial⟩ ?_
                  exact J214_20 ((m.2 156) 0) (mO m84 [] [(164, upI (m.2 164) ((m.1 150) % 128) 0)]) (r32 (by omega) (by omega)) (Ty_mO Tm84 rfl rfl trivial ⟨G93, trivial⟩) (fr_m (fr_s Fm84 (fr_m fr_0 rfl rfl) rfl rfl) rfl rfl) (show EMp (m.1 26) (m84.2 139) (m.2 58) (m.2 54) by exact hEMp) (show EAp (m.1 25) (m84.2 139) (m84.2 141) by exact hEAp)
              · skip
                refine T_ld 114 (.ref 189) rfl (fun _ => rfl) ?_
                refine T_ld 115 (.int (i32 ((m.2 156) 0))) rfl (fun _ => rfl) ?_
                refine T_call 118 323 [.ref 189, .int (i32 ((m.2 156) 0))] [] rfl (fun _ => rfl) rfl (c_entryChanges w (mO m8 [] []) c N D (by omega) Tm8 ((m.2 156) 0) (r32 (by omega) (by omega)) (show 0 ≤ ((m.2 156) 0) ∧ ((m.2 156) 0) ≤ 7 by omega) (show ((m.2 156) 0) < (m8.1 26) by rewrite [(show (m8.1 26) = (m.1 26) from ((fr1 Fm8 26 rfl).trans (fr1 Fm6 26 rfl)))]; omega) (show TbP (m8.2 65) (m8.1 28) (m8.1 25) (m8.1 26) (m8.2 51) (m8.2 110) (m8.2 111) (m8.2 57) (m8.2 53) (m8.2 114) (m8.2 58) (m8.2 54) by rewrite [(show (m8.2 65) = (m.2 65) from ((fr2 Fm8 65 rfl).trans (fr2 Fm6 65 rfl))), (show (m8.1 28) = (m.1 28) from ((fr1 Fm8 28 rfl).trans (fr1 Fm6 28 rfl))), (show (m8.1 25) = (m.1 25) from ((fr1 Fm8 25 rfl).trans (fr1 Fm6 25 rfl))), (show (m8.1 26) = (m.1 26) from ((fr1 Fm8 26 rfl).trans (fr1 Fm6 26 rfl))), (show (m8.2 51) = (m.2 51) from ((fr2 Fm8 51 rfl).trans (fr2 Fm6 51 rfl))), (show (m8.2 110) = (m.2 110) from ((fr2 Fm8 110 rfl).trans (fr2 Fm6 110 rfl))), (show (m8.2 111) = (m.2 111) from ((fr2 Fm8 111 rfl).trans (fr2 Fm6 111 rfl))), (show (m8.2 57) = (m.2 57) from ((fr2 Fm8 57 rfl).trans (fr2 Fm6 57 rfl))), (show (m8.2 53) = (m.2 53) from ((fr2 Fm8 53 rfl).trans (fr2 Fm6 53 rfl))), (show (m8.2 114) = (m.2 114) from ((fr2 Fm8 114 rfl).trans (fr2 Fm6 114 rfl))), (show (m8.2 58) = (m.2 58) from ((fr2 Fm8 58 rfl).trans (fr2 Fm6 58 rfl))), (show (m8.2 54) = (m.2 54) from ((fr2 Fm8 54 rfl).trans (fr2 Fm6 54 rfl)))]; exact pTb) (show EMp (m8.1 26) (m8.2 139) (m8.2 58) (m8.2 54) by rewrite [(show (m8.1 26) = (m.1 26) from ((fr1 Fm8 26 rfl).trans (fr1 Fm6 26 rfl))), (show (m8.2 139) = (m.2 139) from ((fr2 Fm8 139 rfl).trans (fr2 Fm6 139 rfl))), (show (m8.2 58) = (m.2 58) from ((fr2 Fm8 58 rfl).trans (fr2 Fm6 58 rfl))), (show (m8.2 54) = (m.2 54) from ((fr2 Fm8 54 rfl).trans (fr2 Fm6 54 rfl)))]; exact hEMp) (show EAp (m8.1 25) (m8.2 139) (m8.2 141) by rewrite [(show (m8.1 25) = (m.1 25) from ((fr1 Fm8 25 rfl).trans (fr1 Fm6 25 rfl))), (show (m8.2 139) = (m.2 139) from ((fr2 Fm8 139 rfl).trans (fr2 Fm6 139 rfl))), (show (m8.2 141) = (m.2 141) from ((fr2 Fm8 141 rfl).trans (fr2 Fm6 141 rfl)))]; exact hEAp)) (fun rr94 k95 => ?_)
                obtain ⟨m96, x97, Tm96, Fm96, g98, h99, h100, rfl⟩ := k95
                refine ⟨_, _, rfl, ?_⟩
                refine T_nb (st' := [.int (i32 x97)]) rfl ?_
                obtain ⟨g98a, g98b⟩ := g98
                replace h99 : EMp (m8.1 26) (m8.2 139) (m8.2 58) (m8.2 54) := h99
                rewrite [(show (m8.1 26) = (m.1 26) from ((fr1 Fm8 26 rfl).trans (fr1 Fm6 26 rfl))), (show (m8.2 139) = (m.2 139) from ((fr2 Fm8 139 rfl).trans (fr2 Fm6 139 rfl))), (show (m8.2 58) = (m.2 58) from ((fr2 Fm8 58 rfl).trans (fr2 Fm6 58 rfl))), (show (m8.2 54) = (m.2 54) from ((fr2 Fm8 54 rfl).trans (fr2 Fm6 54 rfl)))] at h99
                have hEMp := h99
                replace h100 : EAp (m8.1 25) (m8.2 139) (m96.2 141) := h100
                rewrite [(show (m8.1 25) = (m.1 25) from ((fr1 Fm8 25 rfl).trans (fr1 Fm6 25 rfl))), (show (m8.2 139) = (m.2 139) from ((fr2 Fm8 139 rfl).trans (fr2 Fm6 139 rfl)))] at h100
                have hEAp := h100
                refine T_if 136 121 rfl rfl rfl (r32 (by omega) (by omega)) (fun (h101 : x97 = 0) => ?_) (fun (h101 : ¬ (x97 = 0)) => ?_)
                · skip
                  refine T_ld 137 (.int (i32 0)) rfl (fun _ => rfl) ?_
                  refine T_sto 139 [(4, .int (i32 0)), (3, .int (i32 ((m.2 156) 0))), (0, .ref 189), (1, .int (i32 ((m.1 150) % 128))), (2, .int (i32 ((m.2 153) 0)))] rfl (fun _ => rfl) ?_
                  refine T_gf 143 (.ref 313) rfl rfl rfl rfl rfl rfl ?_
                  refine T_ld 144 (.int (i32 ((m.1 150) % 128))) rfl (fun _ => rfl) ?_
                  refine T_ld 146 (.int (i32 0)) rfl (fun _ => rfl) ?_
                  refine T_if 153 149 rfl rfl rfl ⟨by decide, by decide⟩ (fun _ => ?_) (fun h102 => absurd (show (0 : Int) = 0 by decide) h102)
                  refine T_ld 154 (.int (i32 1)) rfl (fun _ => rfl) ?_
                  have G103 : ∀ j, 0 ≤ (upI (m.2 164) ((m.1 150) % 128) 1) j ∧ (upI (m.2 164) ((m.1 150) % 128) 1) j ≤ 2 := upI_rg (hT.2.1 164) ⟨by omega, by omega⟩
                  refine T_iast (a' := [(164, upI (m.2 164) ((m.1 150) % 128) 1)]) 155 164 (m.2 164) rfl rfl rfl (by omega) (show ((m.1 150) % 128) < (128 : Int) by omega) (show (m96.2 164) = (m.2 164) from ((fr2 Fm96 164 rfl).trans ((fr2 Fm8 164 rfl).trans (fr2 Fm6 164 rfl)))) rfl ?_
                  refine T_goto 214 rfl (fun _ => rfl) ?_
                  refine Tm_lv (a := [(0, .ref 189), (1, .int (i32 ((m.1 150) % 128))), (2, .int (i32 ((m.2 153) 0))), (3, .int (i32 ((m.2 156) 0)))]) rfl rfl ⟨rfl, rfl, rfl, rfl, trivial⟩ ?_
                  exact J214_20 ((m.2 156) 0) (mO m96 [] [(164, upI (m.2 164) ((m.1 150) % 128) 1)]) (r32 (by omega) (by omega)) (Ty_mO Tm96 rfl rfl trivial ⟨G103, trivial⟩) (fr_m (fr_s Fm96 (fr_m fr_0 rfl rfl) rfl rfl) rfl rfl) (show EMp (m.1 26) (m96.2 139) (m.2 58) (m.2 54) by rewrite [(show (m96.2 139) = (m.2 139) from ((fr2 Fm96 139 rfl).trans ((fr2 Fm8 139 rfl).trans (fr2 Fm6 139 rfl))))]; exact hEMp) (show EAp (m.1 25) (m96.2 139) (m96.2 141) by rewrite [(show (m96.2 139) = (m.2 139) from ((fr2 Fm96 139 rfl).trans ((fr2 Fm8 139 rfl).trans (fr2 Fm6 139 rfl))))]; exact hEAp)
                · skip
                  refine T_goto 132 rfl (fun _ => rfl) ?_
                  refine T_ld 133 (.int (i32 1)) rfl (fun _ => rfl) ?_
                  refine T_goto 137 rfl (fun _ => rfl) ?_
                  refine T_sto 139 [(4, .int (i32 1)), (3, .int (i32 ((m.2 156) 0))), (0, .ref 189), (1, .int (i32 ((m.1 150) % 128))), (2, .int (i32 ((m.2 153) 0)))] rfl (fun _ => rfl) ?_
                  refine T_gf 143 (.ref 313) rfl rfl rfl rfl rfl rfl ?_
                  refine T_ld 144 (.int (i32 ((m.1 150) % 128))) rfl (fun _ => rfl) ?_
                  refine T_ld 146 (.int (i32 1)) rfl (fun _ => rfl) ?_
                  refine T_if 153 149 rfl rfl rfl ⟨by decide, by decide⟩ (fun h104 => absurd (show (1 : Int) = 0 from h104) (by decide)) (fun _ => ?_)
                  refine T_ld 150 (.int (i32 0)) rfl (fun _ => rfl) ?_
                  refine T_goto 154 rfl (fun _ => rfl) ?_
                  have G105 : ∀ j, 0 ≤ (upI (m.2 164) ((m.1 150) % 128) 0) j ∧ (upI (m.2 164) ((m.1 150) % 128) 0) j ≤ 2 := upI_rg (hT.2.1 164) ⟨by omega, by omega⟩
                  refine T_iast (a' := [(164, upI (m.2 164) ((m.1 150) % 128) 0)]) 155 164 (m.2 164) rfl rfl rfl (by omega) (show ((m.1 150) % 128) < (128 : Int) by omega) (show (m96.2 164) = (m.2 164) from ((fr2 Fm96 164 rfl).trans ((fr2 Fm8 164 rfl).trans (fr2 Fm6 164 rfl)))) rfl ?_
                  refine T_goto 214 rfl (fun _ => rfl) ?_
                  refine Tm_lv (a := [(0, .ref 189), (1, .int (i32 ((m.1 150) % 128))), (2, .int (i32 ((m.2 153) 0))), (3, .int (i32 ((m.2 156) 0)))]) rfl rfl ⟨rfl, rfl, rfl, rfl, trivial⟩ ?_
                  exact J214_20 ((m.2 156) 0) (mO m96 [] [(164, upI (m.2 164) ((m.1 150) % 128) 0)]) (r32 (by omega) (by omega)) (Ty_mO Tm96 rfl rfl trivial ⟨G105, trivial⟩) (fr_m (fr_s Fm96 (fr_m fr_0 rfl rfl) rfl rfl) rfl rfl) (show EMp (m.1 26) (m96.2 139) (m.2 58) (m.2 54) by rewrite [(show (m96.2 139) = (m.2 139) from ((fr2 Fm96 139 rfl).trans ((fr2 Fm8 139 rfl).trans (fr2 Fm6 139 rfl))))]; exact hEMp) (show EAp (m.1 25) (m96.2 139) (m96.2 141) by rewrite [(show (m96.2 139) = (m.2 139) from ((fr2 Fm96 139 rfl).trans ((fr2 Fm8 139 rfl).trans (fr2 Fm6 139 rfl))))]; exact hEAp)
            · skip
              refine T_ld 98 (.ref 189) rfl (fun _ => rfl) ?_
              refine T_ld 99 (.int (i32 ((m.2 156) 0))) rfl (fun _ => rfl) ?_
              refine T_call 102 316 [.ref 189, .int (i32 ((m.2 156) 0))] [] rfl (fun _ => rfl) rfl (c_entryComes w (mO m8 [] []) c N D (by omega) Tm8 ((m.2 156) 0) (r32 (by omega) (by omega)) (show 0 ≤ ((m.2 156) 0) ∧ ((m.2 156) 0) ≤ 7 by omega) (show ((m.2 156) 0) < (m8.1 26) by rewrite [(show (m8.1 26) = (m.1 26) from ((fr1 Fm8 26 rfl).trans (fr1 Fm6 26 rfl)))]; omega) (show TbP (m8.2 65) (m8.1 28) (m8.1 25) (m8.1 26) (m8.2 51) (m8.2 110) (m8.2 111) (m8.2 57) (m8.2 53) (m8.2 114) (m8.2 58) (m8.2 54) by rewrite [(show (m8.2 65) = (m.2 65) from ((fr2 Fm8 65 rfl).trans (fr2 Fm6 65 rfl))), (show (m8.1 28) = (m.1 28) from ((fr1 Fm8 28 rfl).trans (fr1 Fm6 28 rfl))), (show (m8.1 25) = (m.1 25) from ((fr1 Fm8 25 rfl).trans (fr1 Fm6 25 rfl))), (show (m8.1 26) = (m.1 26) from ((fr1 Fm8 26 rfl).trans (fr1 Fm6 26 rfl))), (show (m8.2 51) = (m.2 51) from ((fr2 Fm8 51 rfl).trans (fr2 Fm6 51 rfl))), (show (m8.2 110) = (m.2 110) from ((fr2 Fm8 110 rfl).trans (fr2 Fm6 110 rfl))), (show (m8.2 111) = (m.2 111) from ((fr2 Fm8 111 rfl).trans (fr2 Fm6 111 rfl))), (show (m8.2 57) = (m.2 57) from ((fr2 Fm8 57 rfl).trans (fr2 Fm6 57 rfl))), (show (m8.2 53) = (m.2 53) from ((fr2 Fm8 53 rfl).trans (fr2 Fm6 53 rfl))), (show (m8.2 114) = (m.2 114) from ((fr2 Fm8 114 rfl).trans (fr2 Fm6 114 rfl))), (show (m8.2 58) = (m.2 58) from ((fr2 Fm8 58 rfl).trans (fr2 Fm6 58 rfl))), (show (m8.2 54) = (m.2 54) from ((fr2 Fm8 54 rfl).trans (fr2 Fm6 54 rfl)))]; exact pTb) (show EMp (m8.1 26) (m8.2 139) (m8.2 58) (m8.2 54) by rewrite [(show (m8.1 26) = (m.1 26) from ((fr1 Fm8 26 rfl).trans (fr1 Fm6 26 rfl))), (show (m8.2 139) = (m.2 139) from ((fr2 Fm8 139 rfl).trans (fr2 Fm6 139 rfl))), (show (m8.2 58) = (m.2 58) from ((fr2 Fm8 58 rfl).trans (fr2 Fm6 58 rfl))), (show (m8.2 54) = (m.2 54) from ((fr2 Fm8 54 rfl).trans (fr2 Fm6 54 rfl)))]; exact hEMp) (show EAp (m8.1 25) (m8.2 139) (m8.2 141) by rewrite [(show (m8.1 25) = (m.1 25) from ((fr1 Fm8 25 rfl).trans (fr1 Fm6 25 rfl))), (show (m8.2 139) = (m.2 139) from ((fr2 Fm8 139 rfl).trans (fr2 Fm6 139 rfl))), (show (m8.2 141) = (m.2 141) from ((fr2 Fm8 141 rfl).trans (fr2 Fm6 141 rfl)))]; exact hEAp)) (fun rr106 k107 => ?_)
              obtain ⟨m108, x109, Tm108, Fm108, g110, h111, h112, rfl⟩ := k107
              refine ⟨_, _, rfl, ?_⟩
              refine T_nb (st' := [.int (i32 x109)]) rfl ?_
              obtain ⟨g110a, g110b⟩ := g110
              replace h111 : EMp (m8.1 26) (m108.2 139) (m8.2 58) (m8.2 54) := h111
              rewrite [(show (m8.1 26) = (m.1 26) from ((fr1 Fm8 26 rfl).trans (fr1 Fm6 26 rfl))), (show (m8.2 58) = (m.2 58) from ((fr2 Fm8 58 rfl).trans (fr2 Fm6 58 rfl))), (show (m8.2 54) = (m.2 54) from ((fr2 Fm8 54 rfl).trans (fr2 Fm6 54 rfl)))] at h111
              have hEMp := h111
              replace h112 : EAp (m8.1 25) (m108.2 139) (m108.2 141) := h112
              rewrite [(show (m8.1 25) = (m.1 25) from ((fr1 Fm8 25 rfl).trans (fr1 Fm6 25 rfl)))] at h112
              have hEAp := h112
              refine T_if 136 105 rfl rfl rfl (r32 (by omega) (by omega)) (fun (h113 : x109 = 0) => ?_) (fun (h113 : ¬ (x109 = 0)) => ?_)
              · skip
                refine T_ld 137 (.int (i32 0)) rfl (fun _ => rfl) ?_
                refine T_sto 139 [(4, .int (i32 0)), (3, .int (i32 ((m.2 156) 0))), (0, .ref 189), (1, .int (i32 ((m.1 150) % 128))), (2, .int (i32 ((m.2 153) 0)))] rfl (fun _ => rfl) ?_
                refine T_gf 143 (.ref 313) rfl rfl rfl rfl rfl rfl ?_
                refine T_ld 144 (.int (i32 ((m.1 150) % 128))) rfl (fun _ => rfl) ?_
                refine T_ld 146 (.int (i32 0)) rfl (fun _ => rfl) ?_
                refine T_if 153 149 rfl rfl rfl ⟨by decide, by decide⟩ (fun _ => ?_) (fun h114 => absurd (show (0 : Int) = 0 by decide) h114)
                refine T_ld 154 (.int (i32 1)) rfl (fun _ => rfl) ?_
                have G115 : ∀ j, 0 ≤ (upI (m.2 164) ((m.1 150) % 128) 1) j ∧ (upI (m.2 164) ((m.1 150) % 128) 1) j ≤ 2 := upI_rg (hT.2.1 164) ⟨by omega, by omega⟩
                refine T_iast (a' := [(164, upI (m.2 164) ((m.1 150) % 128) 1)]) 155 164 (m.2 164) rfl rfl rfl (by omega) (show ((m.1 150) % 128) < (128 : Int) by omega) (show (m108.2 164) = (m.2 164) from ((fr2 Fm108 164 rfl).trans ((fr2 Fm8 164 rfl).trans (fr2 Fm6 164 rfl)))) rfl ?_
                refine T_goto 214 rfl (fun _ => rfl) ?_
                refine Tm_lv (a := [(0, .ref 189), (1, .int (i32 ((m.1 150) % 128))), (2, .int (i32 ((m.2 153) 0))), (3, .int (i32 ((m.2 156) 0)))]) rfl rfl ⟨rfl, rfl, rfl, rfl, trivial⟩ ?_
                exact J214_20 ((m.2 156) 0) (mO m108 [] [(164, upI (m.2 164) ((m.1 150) % 128) 1)]) (r32 (by omega) (by omega)) (Ty_mO Tm108 rfl rfl trivial ⟨G115, trivial⟩) (fr_m (fr_s Fm108 (fr_m fr_0 rfl rfl) rfl rfl) rfl rfl) (show EMp (m.1 26) (m108.2 139) (m.2 58) (m.2 54) by exact hEMp) (show EAp (m.1 25) (m108.2 139) (m108.2 141) by exact hEAp)
              · skip
                refine T_goto 132 rfl (fun _ => rfl) ?_
                refine T_ld 133 (.int (i32 1)) rfl (fun _ => rfl) ?_
                refine T_goto 137 rfl (fun _ => rfl) ?_
                refine T_sto 139 [(4, .int (i32 1)), (3, .int (i32 ((m.2 156) 0))), (0, .ref 189), (1, .int (i32 ((m.1 150) % 128))), (2, .int (i32 ((m.2 153) 0)))] rfl (fun _ => rfl) ?_
                refine T_gf 143 (.ref 313) rfl rfl rfl rfl rfl rfl ?_
                refine T_ld 144 (.int (i32 ((m.1 150) % 128))) rfl (fun _ => rfl) ?_
                refine T_ld 146 (.int (i32 1)) rfl (fun _ => rfl) ?_
                refine T_if 153 149 rfl rfl rfl ⟨by decide, by decide⟩ (fun h116 => absurd (show (1 : Int) = 0 from h116) (by decide)) (fun _ => ?_)
                refine T_ld 150 (.int (i32 0)) rfl (fun _ => rfl) ?_
                refine T_goto 154 rfl (fun _ => rfl) ?_
                have G117 : ∀ j, 0 ≤ (upI (m.2 164) ((m.1 150) % 128) 0) j ∧ (upI (m.2 164) ((m.1 150) % 128) 0) j ≤ 2 := upI_rg (hT.2.1 164) ⟨by omega, by omega⟩
                refine T_iast (a' := [(164, upI (m.2 164) ((m.1 150) % 128) 0)]) 155 164 (m.2 164) rfl rfl rfl (by omega) (show ((m.1 150) % 128) < (128 : Int) by omega) (show (m108.2 164) = (m.2 164) from ((fr2 Fm108 164 rfl).trans ((fr2 Fm8 164 rfl).trans (fr2 Fm6 164 rfl)))) rfl ?_
                refine T_goto 214 rfl (fun _ => rfl) ?_
                refine Tm_lv (a := [(0, .ref 189), (1, .int (i32 ((m.1 150) % 128))), (2, .int (i32 ((m.2 153) 0))), (3, .int (i32 ((m.2 156) 0)))]) rfl rfl ⟨rfl, rfl, rfl, rfl, trivial⟩ ?_
                exact J214_20 ((m.2 156) 0) (mO m108 [] [(164, upI (m.2 164) ((m.1 150) % 128) 0)]) (r32 (by omega) (by omega)) (Ty_mO Tm108 rfl rfl trivial ⟨G117, trivial⟩) (fr_m (fr_s Fm108 (fr_m fr_0 rfl rfl) rfl rfl) rfl rfl) (show EMp (m.1 26) (m108.2 139) (m.2 58) (m.2 54) by exact hEMp) (show EAp (m.1 25) (m108.2 139) (m108.2 141) by exact hEAp)
      · skip
        refine T_gf 59 (.ref 318) rfl rfl rfl rfl rfl rfl ?_
        refine T_ld 61 (.int (i32 48)) rfl (fun _ => rfl) ?_
        refine T_ld 62 (.int (i32 ((m.1 150) % 128))) rfl (fun _ => rfl) ?_
        refine T_imul 63 rfl rfl ?_
        refine T_ld 64 (.int (i32 v7)) rfl (fun _ => rfl) ?_
        refine T_iadd 65 rfl rfl ?_
        refine T_ld 66 (.int (i32 (-1))) rfl (fun _ => rfl) ?_
        have G118 : ∀ j, (-2147483648) ≤ (upI (m8.2 169) ((48 * ((m.1 150) % 128)) + v7) (-1)) j ∧ (upI (m8.2 169) ((48 * ((m.1 150) % 128)) + v7) (-1)) j ≤ 2147483647 := upI_rg (Tm8.2.1 169) ⟨by omega, by omega⟩
        refine T_iast (a' := [(169, upI (m8.2 169) ((48 * ((m.1 150) % 128)) + v7) (-1))]) 67 169 (m8.2 169) rfl rfl rfl (by omega) (show ((48 * ((m.1 150) % 128)) + v7) < (6144 : Int) by omega) rfl rfl ?_
        refine T_iinc 70 [(3, .int (i32 (v7 + 1))), (0, .ref 189), (1, .int (i32 ((m.1 150) % 128))), (2, .int (i32 ((m.2 153) 0)))] rfl rfl (by decide) rfl rfl ?_
        refine T_goto 49 rfl (fun _ => rfl) ?_
        refine Tm_lv (a := [(0, .ref 189), (1, .int (i32 ((m.1 150) % 128))), (2, .int (i32 ((m.2 153) 0))), (3, .int (i32 (v7 + 1)))]) rfl rfl ⟨rfl, rfl, rfl, rfl, trivial⟩ ?_
        exact ih16 (v7 + 1) (mO m8 [] [(169, upI (m8.2 169) ((48 * ((m.1 150) % 128)) + v7) (-1))]) (r32 (by omega) (by omega)) (Ty_mO Tm8 rfl rfl trivial ⟨G118, trivial⟩) (fr_m (fr_s Fm8 (fr_m fr_0 rfl rfl) rfl rfl) rfl rfl) (show 0 ≤ (v7 + 1) by omega) (show (v7 + 1) ≤ 48 by omega) (show 48 - (v7 + 1) < (n15 : Int) by omega)
  refine Tm_lv (a := [(0, .ref 189), (1, .int (i32 ((m.1 150) % 128))), (2, .int (i32 ((m.2 153) 0))), (3, .int (i32 0))]) rfl rfl ⟨rfl, rfl, rfl, rfl, trivial⟩ ?_
  exact L49_9 ((48 - (0 : Int) : Int) + 1).toNat 0 (mO m6 [] []) ⟨by decide, by decide⟩ Tm6 (fr_m fr_0 rfl rfl) (show 0 ≤ (0 : Int) by omega) (show (0 : Int) ≤ 48 by omega) (show 48 - (0 : Int) < ((((48 - (0 : Int) : Int) + 1).toNat : Nat) : Int) by omega)
def fF_run : List Nat := [1, 149, 150, 151, 152, 176, 177]
def fA_run : List Nat := [138, 139, 140, 141, 142, 143, 144, 153, 154, 155, 156, 157, 158, 159, 160, 161, 162, 163, 164, 165, 166, 167, 168, 169, 170, 171, 172, 173, 174, 175, 178]
def Q_run (m : mR) (c : Nat → Option am_C) (N : Nat) (n : Int) : ag_Re af_T → Prop := fun R => ∃ (M : mR) (r : Int), Ty M ∧ fr fF_run fA_run m M ∧ ((-2147483648) ≤ r ∧ r ≤ 2147483647) ∧ (EMp (m.1 26) (M.2 139) (m.2 58) (m.2 54)) ∧ (EAp (m.1 25) (M.2 139) (M.2 141)) ∧ (∀ k, 0 ≤ k → k < (M.1 149) → 0 < (M.2 153) k → (M.2 156) k < (m.1 26)) ∧ ((M.1 150) + (M.1 149) = (m.1 148)) ∧ ((M.1 151) ≤ (M.1 150)) ∧ ((M.1 152) ≤ (m.1 152) + 100) ∧ (((M.1 1) = 0 ∧ (m.1 128) = 1 ∧ 0 ≤ n ∧ n ≤ 100 ∧ (M.1 152) = (m.1 152) + n ∧ (((M.1 150) = (m.1 150) + n ∧ n ≤ (m.1 149)) ∨ ((M.1 149) = 0 ∧ (m.1 149) ≤ n))) ∨ ((M.1 1) = 1 ∧ (m.1 128) = 0 ∧ (M.1 150) = (m.1 150) ∧ (M.1 152) = (m.1 152)) ∨ ((M.1 1) = 2 ∧ (m.1 128) = 1 ∧ (n < 0 ∨ 100 < n) ∧ (M.1 150) = (m.1 150) ∧ (M.1 152) = (m.1 152))) ∧ R = (.inl (some (.int (i32 r))), (mhp M c, N), 0, 0)
set_option maxHeartbeats 3000000 in
theorem c_run (w : wX) (m : mR) (c : Nat → Option am_C) (N D : Nat) (hD : 9 ≤ D) (hT : Ty m) (n : Int) (qn : R32 n) (wCN : (m.1 127) = 1 → CN (m.2 65) (m.2 67) (m.1 28)) (wSO : (m.1 127) = 1 → SOp (m.2 38) (m.1 23) (m.1 24)) (wSt : (m.1 127) = 1 → StP (m.2 65) (m.1 28) (m.1 23) (m.1 24) (m.2 42) (m.2 95) (m.2 96) (m.2 44) (m.2 45)) (wTd : (m.1 127) = 1 → TdP (m.2 65) (m.1 28) (m.1 22) (m.1 99) (m.2 101) (m.2 103) (m.2 105) (m.2 106) (m.2 107) (m.2 108)) (wAc : (m.1 127) = 1 → AcP (m.1 25) (m.1 99) (m.2 109) (m.2 50)) (wTb : (m.1 127) = 1 → TbP (m.2 65) (m.1 28) (m.1 25) (m.1 26) (m.2 51) (m.2 110) (m.2 111) (m.2 57) (m.2 53) (m.2 114) (m.2 58) (m.2 54)) (wIN : (m.1 127) = 1 → ∀ k, 0 ≤ k → k < (m.1 20) → (m.2 34) k < (m.1 19)) (wHO : (m.1 127) = 1 → ∀ g, 0 ≤ g → g < (m.1 19) → (m.2 30) g ≤ 512) (wAR : (m.1 127) = 1 → ∀ k, 0 ≤ k → k < (m.1 22) → 1 ≤ (m.2 93) k ∧ 1 ≤ (m.2 36) k) (wSp : (m.1 127) = 1 → SpP (m.2 65) (m.1 28) (m.1 99) (m.1 26) (m.1 27) (m.2 60) (m.2 61) (m.2 120) (m.2 121) (m.2 122) (m.2 63)) (wEM : (m.1 127) = 1 → ∀ j, 0 ≤ j → j < (m.1 125) → (m.2 124) j < (m.1 20)) (wNA : (m.1 127) = 1 → ∀ q, 0 ≤ q → q < (m.1 24) → 0 < (m.2 41) q ∨ NR (m.2 44) (m.2 38) (m.2 42) (m.2 45) (m.2 41) (m.1 24) q) (p12 : (m.1 128) = 1 → (m.1 127) = 1) (p13 : (m.1 127) = 0 ∨ (m.1 127) = 1) (hHB0 : HBi (m.2 29) (m.2 30) (m.2 33)) (hEMp : EMp (m.1 26) (m.2 139) (m.2 58) (m.2 54)) (hEAp : EAp (m.1 25) (m.2 139) (m.2 141)) (hLT : ∀ k, 0 ≤ k → k < (m.1 149) → 0 < (m.2 153) k → (m.2 156) k < (m.1 26)) (p18 : (m.1 150) + (m.1 149) = (m.1 148)) (p19 : (m.1 151) ≤ (m.1 150)) (p20 : (m.1 152) ≤ 99999800) : TC w D 312 [.ref 189, .int (i32 n)] (mhp m c, N) (Q_run m c N n) := by
  obtain ⟨D, rfl⟩ : ∃ k, D = k + 1 := ⟨D - 1, by omega⟩
  obtain ⟨qna, qnb⟩ := id qn
  have hHB := hHB0
  have f1 : 0 ≤ m.1 1 ∧ m.1 1 ≤ 3 := hT.1 1
  have f149 : 0 ≤ m.1 149 ∧ m.1 149 ≤ 40 := hT.1 149
  have f150 : 0 ≤ m.1 150 ∧ m.1 150 ≤ 1000000 := hT.1 150
  have f151 : 0 ≤ m.1 151 ∧ m.1 151 ≤ 1000000 := hT.1 151
  have f152 : 0 ≤ m.1 152 ∧ m.1 152 ≤ 100000000 := hT.1 152
  have f25 : 0 ≤ m.1 25 ∧ m.1 25 ≤ 16 := hT.1 25
  have f22 : 0 ≤ m.1 22 ∧ m.1 22 ≤ 8 := hT.1 22
  have f148 : 0 ≤ m.1 148 ∧ m.1 148 ≤ 1000000 := hT.1 148
  have f24 : 0 ≤ m.1 24 ∧ m.1 24 ≤ 16 := hT.1 24
  have f125 : 0 ≤ m.1 125 ∧ m.1 125 ≤ 12 := hT.1 125
  have f19 : 0 ≤ m.1 19 ∧ m.1 19 ≤ 12 := hT.1 19
  have f20 : 0 ≤ m.1 20 ∧ m.1 20 ≤ 12 := hT.1 20
  have f128 : 0 ≤ m.1 128 ∧ m.1 128 ≤ 1 := hT.1 128
  have f127 : 0 ≤ m.1 127 ∧ m.1 127 ≤ 1 := hT.1 127
  have f28 : 0 ≤ m.1 28 ∧ m.1 28 ≤ 800 := hT.1 28
  have f23 : 0 ≤ m.1 23 ∧ m.1 23 ≤ 16 := hT.1 23
  have f27 : 0 ≤ m.1 27 ∧ m.1 27 ≤ 48 := hT.1 27
  have f26 : 0 ≤ m.1 26 ∧ m.1 26 ≤ 8 := hT.1 26
  have f99 : 0 ≤ m.1 99 ∧ m.1 99 ≤ 240 := hT.1 99
  have f129 : 0 ≤ m.1 129 ∧ m.1 129 ≤ 12 := hT.1 129
  refine Tc_of rfl ?_
  show TT w D pm_312 (0, [(0, .ref 189), (1, .int (i32 n))], [], (mhp (mO m [] []) c, N), 0, 0) (Q_run m c N n)
  refine T_ld 1 (.ref 189) rfl (fun _ => rfl) ?_
  refine T_gf 5 (.int (i32 (m.1 128))) rfl rfl rfl rfl rfl rfl ?_
  refine T_if 12 8 rfl rfl rfl (r32 (by omega) (by omega)) (fun (h1 : (m.1 128) ≠ 0) => ?_) (fun (h1 : ¬ ((m.1 128) ≠ 0)) => ?_)
  · skip
    refine T_ld 13 (.int (i32 n)) rfl (fun _ => rfl) ?_
    refine T_if 22 16 rfl rfl rfl (r32 (by omega) (by omega)) (fun (h2 : n < 0) => ?_) (fun (h2 : ¬ (n < 0)) => ?_)
    · skip
      refine T_ld 23 (.int (i32 2)) rfl (fun _ => rfl) ?_
      refine T_goto 27 rfl (fun _ => rfl) ?_
      refine T_pf (l' := [(1, 2)]) 30 2 rfl rfl rfl rfl rfl rfl ?_
      refine T_gf 34 (.int (i32 2)) rfl rfl rfl rfl rfl rfl ?_
      refine T_if 39 37 rfl rfl rfl ⟨by decide, by decide⟩ (fun h3 => absurd (show (2 : Int) ≤ 0 from h3) (by decide)) (fun _ => ?_)
      refine T_ld 38 (.int (i32 0)) rfl (fun _ => rfl) ?_
      refine T_ret rfl (fun _ => rfl) ?_
      exact ⟨(mO m [(1, 2)] []), 0, (Ty_mO hT rfl rfl ⟨⟨(by omega : (0 : Int) ≤ 2), (by omega : (2 : Int) ≤ 3)⟩, trivial⟩ trivial), (fr_m fr_0 rfl rfl), ⟨by omega, by omega⟩, (show EMp (m.1 26) (m.2 139) (m.2 58) (m.2 54) by first | (exact hEMp) | (exfalso; omega)), (show EAp (m.1 25) (m.2 139) (m.2 141) by first | (exact hEAp) | (exfalso; omega)), (show ∀ k, 0 ≤ k → k < (m.1 149) → 0 < (m.2 153) k → (m.2 156) k < (m.1 26) by first | (exact hLT) | (exfalso; omega)), (show (m.1 150) + (m.1 149) = (m.1 148) by omega), (show (m.1 151) ≤ (m.1 150) by omega), (show (m.1 152) ≤ (m.1 152) + 100 by omega), (show ((2 : Int) = 0 ∧ (m.1 128) = 1 ∧ 0 ≤ n ∧ n ≤ 100 ∧ (m.1 152) = (m.1 152) + n ∧ (((m.1 150) = (m.1 150) + n ∧ n ≤ (m.1 149)) ∨ ((m.1 149) = 0 ∧ (m.1 149) ≤ n))) ∨ ((2 : Int) = 1 ∧ (m.1 128) = 0 ∧ (m.1 150) = (m.1 150) ∧ (m.1 152) = (m.1 152)) ∨ ((2 : Int) = 2 ∧ (m.1 128) = 1 ∧ (n < 0 ∨ 100 < n) ∧ (m.1 150) = (m.1 150) ∧ (m.1 152) = (m.1 152)) by omega), rfl⟩
    · skip
      refine T_ld 17 (.int (i32 n)) rfl (fun _ => rfl) ?_
      refine T_ld 19 (.int (i32 100)) rfl (fun _ => rfl) ?_
      refine T_icmp 26 22 rfl rfl rfl (r32 (by omega) (by omega)) ⟨by decide, by decide⟩ (fun (h4 : n ≤ 100) => ?_) (fun (h4 : ¬ (n ≤ 100)) => ?_)
      · skip
        refine T_ld 27 (.int (i32 0)) rfl (fun _ => rfl) ?_
        refine T_pf (l' := [(1, 0)]) 30 0 rfl rfl rfl rfl rfl rfl ?_
        refine T_gf 34 (.int (i32 0)) rfl rfl rfl rfl rfl rfl ?_
        refine T_if 39 37 rfl rfl rfl ⟨by decide, by decide⟩ (fun _ => ?_) (fun h5 => absurd (show (0 : Int) ≤ 0 by decide) h5)
        have hCN := wCN (by omega)
        have pSO := wSO (by omega)
        have pSt := wSt (by omega)
        have pTd := wTd (by omega)
        have pAc := wAc (by omega)
        have pTb := wTb (by omega)
        have pIN := wIN (by omega)
        have pHO := wHO (by omega)
        have pAR := wAR (by omega)
        have pSp := wSp (by omega)
        have hEM := wEM (by omega)
        have hNA := wNA (by omega)
        refine T_gf 43 (.int (i32 (m.1 151))) rfl rfl rfl rfl rfl rfl ?_
        refine T_sto 44 [(2, .int (i32 (m.1 151))), (0, .ref 189), (1, .int (i32 n))] rfl (fun _ => rfl) ?_
        refine T_ld 45 (.int (i32 0)) rfl (fun _ => rfl) ?_
        refine T_sto 46 [(3, .int (i32 0)), (2, .int (i32 (m.1 151))), (0, .ref 189), (1, .int (i32 n))] rfl (fun _ => rfl) ?_
        refine T_fl (Ty_mO hT rfl rfl ⟨⟨(by omega : (0 : Int) ≤ 0), (by omega : (0 : Int) ≤ 3)⟩, trivial⟩ trivial) (fun m6 Tm6 Fm6 => ?_)
        have L46_9 : ∀ (n22 : Nat) (v7 : Int) (m8 : mR), (R32 v7) → Ty m8 → fr [149, 150, 151, 152, 176, 177] [138, 139, 140, 141, 142, 143, 144, 153, 154, 155, 156, 157, 158, 159, 160, 161, 162, 163, 164, 165, 166, 167, 168, 169, 170, 171, 172, 173, 174, 175, 178] (mO m6 [] []) m8 → (0 ≤ v7) → (v7 ≤ n) → (EMp (m.1 26) (m8.2 139) (m.2 58) (m.2 54)) → (EAp (m.1 25) (m8.2 139) (m8.2 141)) → (∀ k, 0 ≤ k → k < (m8.1 149) → 0 < (m8.2 153) k → (m8.2 156) k < (m.1 26)) → ((m8.1 150) + (m8.1 149) = (m.1 148)) → ((m8.1 151) ≤ (m8.1 150)) → ((m8.1 152) = (m.1 152) + v7) → (((m8.1 150) = (m.1 150) + v7 ∧ 0 ≤ (m8.1 149)) ∨ ((m8.1 149) = 0 ∧ (m.1 149) ≤ v7)) → n - v7 < (n22 : Int) → TT w D pm_312 (46, [(0, .ref 189), (1, .int (i32 n)), (2, .int (i32 (m.1 151))), (3, .int (i32 v7))], [], (mhp (mO m8 [] []) c, N), 0, 0) (Q_run m c N n) := by
          intro n22
          induction n22 with
          | zero =>
            intro v7 m8 q19 Tm8 Fm8 ic10 ic11 ic12 ic13 ic14 ic15 ic16 ic17 ic18 hmu
            obtain ⟨q19a, q19b⟩ := id q19
            have q20_149 : 0 ≤ m8.1 149 ∧ m8.1 149 ≤ 40 := Tm8.1 149
            have q20_150 : 0 ≤ m8.1 150 ∧ m8.1 150 ≤ 1000000 := Tm8.1 150
            have q20_151 : 0 ≤ m8.1 151 ∧ m8.1 151 ≤ 1000000 := Tm8.1 151
            have q20_152 : 0 ≤ m8.1 152 ∧ m8.1 152 ≤ 100000000 := Tm8.1 152
            have hEMp := ic12
            have hEAp := ic13
            have hLT := ic14
            exfalso
            omega
          | succ n22 ih =>
            intro v7 m8 q19 Tm8 Fm8 ic10 ic11 ic12 ic13 ic14 ic15 ic16 ic17 ic18 hmu
            obtain ⟨q19a, q19b⟩ := id q19
            have q20_149 : 0 ≤ m8.1 149 ∧ m8.1 149 ≤ 40 := Tm8.1 149
            have q20_150 : 0 ≤ m8.1 150 ∧ m8.1 150 ≤ 1000000 := Tm8.1 150
            have q20_151 : 0 ≤ m8.1 151 ∧ m8.1 151 ≤ 1000000 := Tm8.1 151
            have q20_152 : 0 ≤ m8.1 152 ∧ m8.1 152 ≤ 100000000 := Tm8.1 152
            have hEMp := ic12
            have hEAp := ic13
            have hLT := ic14
            have ih23 := ih
            refine T_ld 47 (.int (i32 v7)) rfl (fun _ => rfl) ?_
            refine T_ld 48 (.int (i32 n)) rfl (fun _ => rfl) ?_
            refine T_icmp 124 51 rfl rfl rfl (r32 (by omega) (by omega)) (r32 (by omega) (by omega)) (fun (h24 : n ≤ v7) => ?_) (fun (h24 : ¬ (n ≤ v7)) => ?_)
            · skip
              refine T_gf 128 (.int (i32 (m8.1 151))) rfl rfl rfl rfl rfl rfl ?_
              refine T_ld 129 (.int (i32 (m.1 151))) rfl (fun _ => rfl) ?_
              refine T_isub 130 rfl rfl ?_
              refine T_ret rfl (fun _ => rfl) ?_
              exact ⟨(mO m8 [] []), (m8.1 151) - (m.1 151), Tm8, (fr_m (fr_s Fm8 (fr_m (fr_s Fm6 (fr_m fr_0 rfl rfl) rfl rfl) rfl rfl) rfl rfl) rfl rfl), ⟨by omega, by omega⟩, (show EMp (m.1 26) (m8.2 139) (m.2 58) (m.2 54) by first | (exact hEMp) | (exfalso; omega)), (show EAp (m.1 25) (m8.2 139) (m8.2 141) by first | (exact hEAp) | (exfalso; omega)), (show ∀ k, 0 ≤ k → k < (m8.1 149) → 0 < (m8.2 153) k → (m8.2 156) k < (m.1 26) by first | (exact hLT) | (exfalso; omega)), (show (m8.1 150) + (m8.1 149) = (m.1 148) by omega), (show (m8.1 151) ≤ (m8.1 150) by omega), (show (m8.1 152) ≤ (m.1 152) + 100 by omega), (show ((m8.1 1) = 0 ∧ (m.1 128) = 1 ∧ 0 ≤ n ∧ n ≤ 100 ∧ (m8.1 152) = (m.1 152) + n ∧ (((m8.1 150) = (m.1 150) + n ∧ n ≤ (m.1 149)) ∨ ((m8.1 149) = 0 ∧ (m.1 149) ≤ n))) ∨ ((m8.1 1) = 1 ∧ (m.1 128) = 0 ∧ (m8.1 150) = (m.1 150) ∧ (m8.1 152) = (m.1 152)) ∨ ((m8.1 1) = 2 ∧ (m.1 128) = 1 ∧ (n < 0 ∨ 100 < n) ∧ (m8.1 150) = (m.1 150) ∧ (m8.1 152) = (m.1 152)) by rewrite [(show (m8.1 1) = 0 from ((fr1 Fm8 1 rfl).trans (fr1 Fm6 1 rfl)))]; omega), rfl⟩
            · skip
              refine T_gf 55 (.int (i32 (m8.1 151))) rfl rfl rfl rfl rfl rfl ?_
              refine T_gf 59 (.int (i32 (m8.1 150))) rfl rfl rfl rfl rfl rfl ?_
              refine T_icmp 97 62 rfl rfl rfl (r32 (by omega) (by omega)) (r32 (by omega) (by omega)) (fun (h25 : (m8.1 150) ≤ (m8.1 151)) => ?_) (fun (h25 : ¬ ((m8.1 150) ≤ (m8.1 151))) => ?_)
              · skip
                refine T_gf 101 (.int (i32 (m8.1 149))) rfl rfl rfl rfl rfl rfl ?_
                refine T_if 108 104 rfl rfl rfl (r32 (by omega) (by omega)) (fun (h26 : (m8.1 149) ≤ 0) => ?_) (fun (h26 : ¬ ((m8.1 149) ≤ 0)) => ?_)
                · skip
                  refine T_ld 109 (.ref 189) rfl (fun _ => rfl) ?_
                  refine T_ld 110 (.ref 189) rfl (fun _ => rfl) ?_
                  refine T_gf1 113 (.int (i32 (m8.1 152))) rfl rfl rfl rfl ?_
                  refine T_ld 114 (.int (i32 1)) rfl (fun _ => rfl) ?_
                  refine T_iadd 115 rfl rfl ?_
                  refine T_pf (l' := [(152, (m8.1 152) + 1)]) 118 ((m8.1 152) + 1) rfl rfl rfl rfl rfl rfl ?_
                  have g27 : 0 ≤ (m8.1 152) + 1 ∧ (m8.1 152) + 1 ≤ 100000000 := ⟨by omega, by omega⟩
                  refine T_iinc 121 [(3, .int (i32 (v7 + 1))), (0, .ref 189), (1, .int (i32 n)), (2, .int (i32 (m.1 151)))] rfl rfl (by decide) rfl rfl ?_
                  refine T_goto 46 rfl (fun _ => rfl) ?_
                  refine Tm_lv (a := [(0, .ref 189), (1, .int (i32 n)), (2, .int (i32 (m.1 151))), (3, .int (i32 (v7 + 1)))]) rfl rfl ⟨rfl, rfl, rfl, rfl, trivial⟩ ?_
                  exact ih23 (v7 + 1) (mO m8 [(152, (m8.1 152) + 1)] []) (r32 (by omega) (by omega)) (Ty_mO Tm8 rfl rfl ⟨g27, trivial⟩ trivial) (fr_m (fr_s Fm8 (fr_m fr_0 rfl rfl) rfl rfl) rfl rfl) (show 0 ≤ (v7 + 1) by omega) (show (v7 + 1) ≤ n by omega) (show EMp (m.1 26) (m8.2 139) (m.2 58) (m.2 54) by exact hEMp) (show EAp (m.1 25) (m8.2 139) (m8.2 141) by exact hEAp) (show ∀ k, 0 ≤ k → k < (m8.1 149) → 0 < (m8.2 153) k → (m8.2 156) k < (m.1 26) by exact hLT) (show (m8.1 150) + (m8.1 149) = (m.1 148) by omega) (show (m8.1 151) ≤ (m8.1 150) by omega) (show ((m8.1 152) + 1) = (m.1 152) + (v7 + 1) by omega) (show ((m8.1 150) = (m.1 150) + (v7 + 1) ∧ 0 ≤ (m8.1 149)) ∨ ((m8.1 149) = 0 ∧ (m.1 149) ≤ (v7 + 1)) by omega) (show n - (v7 + 1) < (n22 : Int) by omega)
                · skip
                  refine T_ld 105 (.ref 189) rfl (fun _ => rfl) ?_
                  refine T_call 108 313 [.ref 189] [] rfl (fun _ => rfl) rfl (c_doFirst w (mO m8 [] []) c N D (by omega) Tm8 (show CN (m8.2 65) (m8.2 67) (m8.1 28) by rewrite [(show (m8.2 65) = (m.2 65) from ((fr2 Fm8 65 rfl).trans (fr2 Fm6 65 rfl))), (show (m8.2 67) = (m.2 67) from ((fr2 Fm8 67 rfl).trans (fr2 Fm6 67 rfl))), (show (m8.1 28) = (m.1 28) from ((fr1 Fm8 28 rfl).trans (fr1 Fm6 28 rfl)))]; exact hCN) (show SOp (m8.2 38) (m8.1 23) (m8.1 24) by rewrite [(show (m8.2 38) = (m.2 38) from ((fr2 Fm8 38 rfl).trans (fr2 Fm6 38 rfl))), (show (m8.1 23) = (m.1 23) from ((fr1 Fm8 23 rfl).trans (fr1 Fm6 23 rfl))), (show (m8.1 24) = (m.1 24) from ((fr1 Fm8 24 rfl).trans (fr1 Fm6 24 rfl)))]; exact pSO) (show StP (m8.2 65) (m8.1 28) (m8.1 23) (m8.1 24) (m8.2 42) (m8.2 95) (m8.2 96) (m8.2 44) (m8.2 45) by rewrite [(show (m8.2 65) = (m.2 65) from ((fr2 Fm8 65 rfl).trans (fr2 Fm6 65 rfl))), (show (m8.1 28) = (m.1 28) from ((fr1 Fm8 28 rfl).trans (fr1 Fm6 28 rfl))), (show (m8.1 23) = (m.1 23) from ((fr1 Fm8 23 rfl).trans (fr1 Fm6 23 rfl))), (show (m8.1 24) = (m.1 24) from ((fr1 Fm8 24 rfl).trans (fr1 Fm6 24 rfl))), (show (m8.2 42) = (m.2 42) from ((fr2 Fm8 42 rfl).trans (fr2 Fm6 42 rfl))), (show (m8.2 95) = (m.2 95) from ((fr2 Fm8 95 rfl).trans (fr2 Fm6 95 rfl))), (show (m8.2 96) = (m.2 96) from ((fr2 Fm8 96 rfl).trans (fr2 Fm6 96 rfl))), (show (m8.2 44) = (m.2 44) from ((fr2 Fm8 44 rfl).trans (fr2 Fm6 44 rfl))), (show (m8.2 45) = (m.2 45) from ((fr2 Fm8 45 rfl).trans (fr2 Fm6 45 rfl)))]; exact pSt) (show TdP (m8.2 65) (m8.1 28) (m8.1 22) (m8.1 99) (m8.2 101) (m8.2 103) (m8.2 105) (m8.2 106) (m8.2 107) (m8.2 108) by rewrite [(show (m8.2 65) = (m.2 65) from ((fr2 Fm8 65 rfl).trans (fr2 Fm6 65 rfl))), (show (m8.1 28) = (m.1 28) from ((fr1 Fm8 28 rfl).trans (fr1 Fm6 28 rfl))), (show (m8.1 22) = (m.1 22) from ((fr1 Fm8 22 rfl).trans (fr1 Fm6 22 rfl))), (show (m8.1 99) = (m.1 99) from ((fr1 Fm8 99 rfl).trans (fr1 Fm6 99 rfl))), (show (m8.2 101) = (m.2 101) from ((fr2 Fm8 101 rfl).trans (fr2 Fm6 101 rfl))), (show (m8.2 103) = (m.2 103) from ((fr2 Fm8 103 rfl).trans (fr2 Fm6 103 rfl))), (show (m8.2 105) = (m.2 105) from ((fr2 Fm8 105 rfl).trans (fr2 Fm6 105 rfl))), (show (m8.2 106) = (m.2 106) from ((fr2 Fm8 106 rfl).trans (fr2 Fm6 106 rfl))), (show (m8.2 107) = (m.2 107) from ((fr2 Fm8 107 rfl).trans (fr2 Fm6 107 rfl))), (show (m8.2 108) = (m.2 108) from ((fr2 Fm8 108 rfl).trans (fr2 Fm6 108 rfl)))]; exact pTd) (show AcP (m8.1 25) (m8.1 99) (m8.2 109) (m8.2 50) by rewrite [(show (m8.1 25) = (m.1 25) from ((fr1 Fm8 25 rfl).trans (fr1 Fm6 25 rfl))), (show (m8.1 99) = (m.1 99) from ((fr1 Fm8 99 rfl).trans (fr1 Fm6 99 rfl))), (show (m8.2 109) = (m.2 109) from ((fr2 Fm8 109 rfl).trans (fr2 Fm6 109 rfl))), (show (m8.2 50) = (m.2 50) from ((fr2 Fm8 50 rfl).trans (fr2 Fm6 50 rfl)))]; exact pAc) (show TbP (m8.2 65) (m8.1 28) (m8.1 25) (m8.1 26) (m8.2 51) (m8.2 110) (m8.2 111) (m8.2 57) (m8.2 53) (m8.2 114) (m8.2 58) (m8.2 54) by rewrite [(show (m8.2 65) = (m.2 65) from ((fr2 Fm8 65 rfl).trans (fr2 Fm6 65 rfl))), (show (m8.1 28) = (m.1 28) from ((fr1 Fm8 28 rfl).trans (fr1 Fm6 28 rfl))), (show (m8.1 25) = (m.1 25) from ((fr1 Fm8 25 rfl).trans (fr1 Fm6 25 rfl))), (show (m8.1 26) = (m.1 26) from ((fr1 Fm8 26 rfl).trans (fr1 Fm6 26 rfl))), (show (m8.2 51) = (m.2 51) from ((fr2 Fm8 51 rfl).trans (fr2 Fm6 51 rfl))), (show (m8.2 110) = (m.2 110) from ((fr2 Fm8 110 rfl).trans (fr2 Fm6 110 rfl))), (show (m8.2 111) = (m.2 111) from ((fr2 Fm8 111 rfl).trans (fr2 Fm6 111 rfl))), (show (m8.2 57) = (m.2 57) from ((fr2 Fm8 57 rfl).trans (fr2 Fm6 57 rfl))), (show (m8.2 53) = (m.2 53) from ((fr2 Fm8 53 rfl).trans (fr2 Fm6 53 rfl))), (show (m8.2 114) = (m.2 114) from ((fr2 Fm8 114 rfl).trans (fr2 Fm6 114 rfl))), (show (m8.2 58) = (m.2 58) from ((fr2 Fm8 58 rfl).trans (fr2 Fm6 58 rfl))), (show (m8.2 54) = (m.2 54) from ((fr2 Fm8 54 rfl).trans (fr2 Fm6 54 rfl)))]; exact pTb) (show ∀ k, 0 ≤ k → k < (m8.1 20) → (m8.2 34) k < (m8.1 19) by rewrite [(show (m8.1 20) = (m.1 20) from ((fr1 Fm8 20 rfl).trans (fr1 Fm6 20 rfl))), (show (m8.2 34) = (m.2 34) from ((fr2 Fm8 34 rfl).trans (fr2 Fm6 34 rfl))), (show (m8.1 19) = (m.1 19) from ((fr1 Fm8 19 rfl).trans (fr1 Fm6 19 rfl)))]; exact pIN) (show ∀ g, 0 ≤ g → g < (m8.1 19) → (m8.2 30) g ≤ 512 by rewrite [(show (m8.1 19) = (m.1 19) from ((fr1 Fm8 19 rfl).trans (fr1 Fm6 19 rfl))), (show (m8.2 30) = (m.2 30) from ((fr2 Fm8 30 rfl).trans (fr2 Fm6 30 rfl)))]; exact pHO) (show ∀ k, 0 ≤ k → k < (m8.1 22) → 1 ≤ (m8.2 93) k ∧ 1 ≤ (m8.2 36) k by rewrite [(show (m8.1 22) = (m.1 22) from ((fr1 Fm8 22 rfl).trans (fr1 Fm6 22 rfl))), (show (m8.2 93) = (m.2 93) from ((fr2 Fm8 93 rfl).trans (fr2 Fm6 93 rfl))), (show (m8.2 36) = (m.2 36) from ((fr2 Fm8 36 rfl).trans (fr2 Fm6 36 rfl)))]; exact pAR) (show SpP (m8.2 65) (m8.1 28) (m8.1 99) (m8.1 26) (m8.1 27) (m8.2 60) (m8.2 61) (m8.2 120) (m8.2 121) (m8.2 122) (m8.2 63) by rewrite [(show (m8.2 65) = (m.2 65) from ((fr2 Fm8 65 rfl).trans (fr2 Fm6 65 rfl))), (show (m8.1 28) = (m.1 28) from ((fr1 Fm8 28 rfl).trans (fr1 Fm6 28 rfl))), (show (m8.1 99) = (m.1 99) from ((fr1 Fm8 99 rfl).trans (fr1 Fm6 99 rfl))), (show (m8.1 26) = (m.1 26) from ((fr1 Fm8 26 rfl).trans (fr1 Fm6 26 rfl))), (show (m8.1 27) = (m.1 27) from ((fr1 Fm8 27 rfl).trans (fr1 Fm6 27 rfl))), (show (m8.2 60) = (m.2 60) from ((fr2 Fm8 60 rfl).trans (fr2 Fm6 60 rfl))), (show (m8.2 61) = (m.2 61) from ((fr2 Fm8 61 rfl).trans (fr2 Fm6 61 rfl))), (show (m8.2 120) = (m.2 120) from ((fr2 Fm8 120 rfl).trans (fr2 Fm6 120 rfl))), (show (m8.2 121) = (m.2 121) from ((fr2 Fm8 121 rfl).trans (fr2 Fm6 121 rfl))), (show (m8.2 122) = (m.2 122) from ((fr2 Fm8 122 rfl).trans (fr2 Fm6 122 rfl))), (show (m8.2 63) = (m.2 63) from ((fr2 Fm8 63 rfl).trans (fr2 Fm6 63 rfl)))]; exact pSp) (show ∀ j, 0 ≤ j → j < (m8.1 125) → (m8.2 124) j < (m8.1 20) by rewrite [(show (m8.1 125) = (m.1 125) from ((fr1 Fm8 125 rfl).trans (fr1 Fm6 125 rfl))), (show (m8.2 124) = (m.2 124) from ((fr2 Fm8 124 rfl).trans (fr2 Fm6 124 rfl))), (show (m8.1 20) = (m.1 20) from ((fr1 Fm8 20 rfl).trans (fr1 Fm6 20 rfl)))]; exact hEM) (show ∀ q, 0 ≤ q → q < (m8.1 24) → 0 < (m8.2 41) q ∨ NR (m8.2 44) (m8.2 38) (m8.2 42) (m8.2 45) (m8.2 41) (m8.1 24) q by rewrite [(show (m8.1 24) = (m.1 24) from ((fr1 Fm8 24 rfl).trans (fr1 Fm6 24 rfl))), (show (m8.2 41) = (m.2 41) from ((fr2 Fm8 41 rfl).trans (fr2 Fm6 41 rfl))), (show (m8.2 44) = (m.2 44) from ((fr2 Fm8 44 rfl).trans (fr2 Fm6 44 rfl))), (show (m8.2 38) = (m.2 38) from ((fr2 Fm8 38 rfl).trans (fr2 Fm6 38 rfl))), (show (m8.2 42) = (m.2 42) from ((fr2 Fm8 42 rfl).trans (fr2 Fm6 42 rfl))), (show (m8.2 45) = (m.2 45) from ((fr2 Fm8 45 rfl).trans (fr2 Fm6 45 rfl)))]; exact hNA) (show HBi (m8.2 29) (m8.2 30) (m8.2 33) by rewrite [(show (m8.2 29) = (m.2 29) from ((fr2 Fm8 29 rfl).trans (fr2 Fm6 29 rfl))), (show (m8.2 30) = (m.2 30) from ((fr2 Fm8 30 rfl).trans (fr2 Fm6 30 rfl))), (show (m8.2 33) = (m.2 33) from ((fr2 Fm8 33 rfl).trans (fr2 Fm6 33 rfl)))]; exact hHB) (show EMp (m8.1 26) (m8.2 139) (m8.2 58) (m8.2 54) by rewrite [(show (m8.1 26) = (m.1 26) from ((fr1 Fm8 26 rfl).trans (fr1 Fm6 26 rfl))), (show (m8.2 58) = (m.2 58) from ((fr2 Fm8 58 rfl).trans (fr2 Fm6 58 rfl))), (show (m8.2 54) = (m.2 54) from ((fr2 Fm8 54 rfl).trans (fr2 Fm6 54 rfl)))]; exact hEMp) (show EAp (m8.1 25) (m8.2 139) (m8.2 141) by rewrite [(show (m8.1 25) = (m.1 25) from ((fr1 Fm8 25 rfl).trans (fr1 Fm6 25 rfl)))]; exact hEAp) (show ∀ k, 0 ≤ k → k < (m8.1 149) → 0 < (m8.2 153) k → (m8.2 156) k < (m8.1 26) by rewrite [(show (m8.1 26) = (m.1 26) from ((fr1 Fm8 26 rfl).trans (fr1 Fm6 26 rfl)))]; exact hLT) (show 1 ≤ (m8.1 149) by omega) (show (m8.1 150) + (m8.1 149) = (m8.1 148) by rewrite [(show (m8.1 148) = (m.1 148) from ((fr1 Fm8 148 rfl).trans (fr1 Fm6 148 rfl)))]; omega)) (fun rr28 k29 => ?_)
                  obtain ⟨m30, Tm30, Fm30, h31, h32, h33, h34, h35, rfl⟩ := k29
                  refine ⟨_, _, rfl, ?_⟩
                  refine T_nb (st' := []) rfl ?_
                  have g36 : 0 ≤ m30.1 149 ∧ m30.1 149 ≤ 40 := Tm30.1 149
                  have g37 : 0 ≤ m30.1 150 ∧ m30.1 150 ≤ 1000000 := Tm30.1 150
                  replace h31 : EMp (m8.1 26) (m30.2 139) (m8.2 58) (m8.2 54) := h31
                  rewrite [(show (m8.1 26) = (m.1 26) from ((fr1 Fm8 26 rfl).trans (fr1 Fm6 26 rfl))), (show (m8.2 58) = (m.2 58) from ((fr2 Fm8 58 rfl).trans (fr2 Fm6 58 rfl))), (show (m8.2 54) = (m.2 54) from ((fr2 Fm8 54 rfl).trans (fr2 Fm6 54 rfl)))] at h31
                  have hEMp := h31
                  replace h32 : EAp (m8.1 25) (m30.2 139) (m30.2 141) := h32
                  rewrite [(show (m8.1 25) = (m.1 25) from ((fr1 Fm8 25 rfl).trans (fr1 Fm6 25 rfl)))] at h32
                  have hEAp := h32
                  replace h33 : ∀ k, 0 ≤ k → k < (m30.1 149) → 0 < (m30.2 153) k → (m30.2 156) k < (m8.1 26) := h33
                  rewrite [(show (m8.1 26) = (m.1 26) from ((fr1 Fm8 26 rfl).trans (fr1 Fm6 26 rfl)))] at h33
                  have hLT := h33
                  replace h34 : (m30.1 150) = (m8.1 150) + 1 := h34
                  replace h35 : (m30.1 149) = (m8.1 149) - 1 := h35
                  refine T_ld 109 (.ref 189) rfl (fun _ => rfl) ?_
                  refine T_ld 110 (.ref 189) rfl (fun _ => rfl) ?_
                  refine T_gf1 113 (.int (i32 (m8.1 152))) rfl rfl (mfv_c (F := fun x => .int (i32 x)) rfl (show (m30.1 152) = (m8.1 152) from (fr1 Fm30 152 rfl))) rfl ?_
                  refine T_ld 114 (.int (i32 1)) rfl (fun _ => rfl) ?_
                  refine T_iadd 115 rfl rfl ?_
                  refine T_pf (l' := [(152, (m8.1 152) + 1)]) 118 ((m8.1 152) + 1) rfl rfl rfl rfl rfl rfl ?_
                  have g38 : 0 ≤ (m8.1 152) + 1 ∧ (m8.1 152) + 1 ≤ 100000000 := ⟨by omega, by omega⟩
                  refine T_iinc 121 [(3, .int (i32 (v7 + 1))), (0, .ref 189), (1, .int (i32 n)), (2, .int (i32 (m.1 151)))] rfl rfl (by decide) rfl rfl ?_
                  refine T_goto 46 rfl (fun _ => rfl) ?_
                  refine Tm_lv (a := [(0, .ref 189), (1, .int (i32 n)), (2, .int (i32 (m.1 151))), (3, .int (i32 (v7 + 1)))]) rfl rfl ⟨rfl, rfl, rfl, rfl, trivial⟩ ?_
                  exact ih23 (v7 + 1) (mO m30 [(152, (m8.1 152) + 1)] []) (r32 (by omega) (by omega)) (Ty_mO Tm30 rfl rfl ⟨g38, trivial⟩ trivial) (fr_m (fr_s Fm30 (fr_m (fr_s Fm8 (fr_m fr_0 rfl rfl) rfl rfl) rfl rfl) rfl rfl) rfl rfl) (show 0 ≤ (v7 + 1) by omega) (show (v7 + 1) ≤ n by omega) (show EMp (m.1 26) (m30.2 139) (m.2 58) (m.2 54) by exact hEMp) (show EAp (m.1 25) (m30.2 139) (m30.2 141) by exact hEAp) (show ∀ k, 0 ≤ k → k < (m30.1 149) → 0 < (m30.2 153) k → (m30.2 156) k < (m.1 26) by exact hLT) (show (m30.1 150) + (m30.1 149) = (m.1 148) by omega) (show (m30.1 151) ≤ (m30.1 150) by rewrite [(show (m30.1 151) = (m8.1 151) from (fr1 Fm30 151 rfl))]; omega) (show ((m8.1 152) + 1) = (m.1 152) + (v7 + 1) by omega) (show ((m30.1 150) = (m.1 150) + (v7 + 1) ∧ 0 ≤ (m30.1 149)) ∨ ((m30.1 149) = 0 ∧ (m.1 149) ≤ (v7 + 1)) by omega) (show n - (v7 + 1) < (n22 : Int) by omega)
              · skip
                refine T_gf 66 (.ref 316) rfl rfl rfl rfl rfl rfl ?_
                refine T_gf 70 (.int (i32 (m8.1 151))) rfl rfl rfl rfl rfl rfl ?_
                refine T_ld 73 (.int (i32 128)) rfl (fun _ => rfl) ?_
                refine T_irem 74 rfl rfl (by omega) (by omega) (by omega) (by omega) ?_
                refine T_iald 75 167 (m8.2 167) rfl rfl rfl (by omega) (show ((m8.1 151) % 128) < (128 : Int) by omega) rfl ?_
                have e39 : 0 ≤ (m8.2 167) ((m8.1 151) % 128) ∧ (m8.2 167) ((m8.1 151) % 128) ≤ 100000000 := (Tm8.2.1 167) ((m8.1 151) % 128)
                refine T_gf 79 (.int (i32 (m.1 129))) rfl rfl rfl rfl (mfv_c (F := fun x => .int (i32 x)) rfl (show (m8.1 129) = (m.1 129) from ((fr1 Fm8 129 rfl).trans (fr1 Fm6 129 rfl)))) rfl ?_
                refine T_iadd 80 rfl rfl ?_
                refine T_gf 84 (.int (i32 (m8.1 152))) rfl rfl rfl rfl rfl rfl ?_
                refine T_icmp 97 87 rfl rfl rfl (r32 (by omega) (by omega)) (r32 (by omega) (by omega)) (fun (h40 : ((m8.2 167) ((m8.1 151) % 128)) + (m.1 129) ≠ (m8.1 152)) => ?_) (fun (h40 : ¬ (((m8.2 167) ((m8.1 151) % 128)) + (m.1 129) ≠ (m8.1 152))) => ?_)
                · skip
                  refine T_gf 101 (.int (i32 (m8.1 149))) rfl rfl rfl rfl rfl rfl ?_
                  refine T_if 108 104 rfl rfl rfl (r32 (by omega) (by omega)) (fun (h41 : (m8.1 149) ≤ 0) => ?_) (fun (h41 : ¬ ((m8.1 149) ≤ 0)) => ?_)
                  · skip
                    refine T_ld 109 (.ref 189) rfl (fun _ => rfl) ?_
                    refine T_ld 110 (.ref 189) rfl (fun _ => rfl) ?_
                    refine T_gf1 113 (.int (i32 (m8.1 152))) rfl rfl rfl rfl ?_
                    refine T_ld 114 (.int (i32 1)) rfl (fun _ => rfl) ?_
                    refine T_iadd 115 rfl rfl ?_
                    refine T_pf (l' := [(152, (m8.1 152) + 1)]) 118 ((m8.1 152) + 1) rfl rfl rfl rfl rfl rfl ?_
                    have g42 : 0 ≤ (m8.1 152) + 1 ∧ (m8.1 152) + 1 ≤ 100000000 := ⟨by omega, by omega⟩
                    refine T_iinc 121 [(3, .int (i32 (v7 + 1))), (0, .ref 189), (1, .int (i32 n)), (2, .int (i32 (m.1 151)))] rfl rfl (by decide) rfl rfl ?_
                    refine T_goto 46 rfl (fun _ => rfl) ?_
                    refine Tm_lv (a := [(0, .ref 189), (1, .int (i32 n)), (2, .int (i32 (m.1 151))), (3, .int (i32 (v7 + 1)))]) rfl rfl ⟨rfl, rfl, rfl, rfl, trivial⟩ ?_
                    exact ih23 (v7 + 1) (mO m8 [(152, (m8.1 152) + 1)] []) (r32 (by omega) (by omega)) (Ty_mO Tm8 rfl rfl ⟨g42, trivial⟩ trivial) (fr_m (fr_s Fm8 (fr_m fr_0 rfl rfl) rfl rfl) rfl rfl) (show 0 ≤ (v7 + 1) by omega) (show (v7 + 1) ≤ n by omega) (show EMp (m.1 26) (m8.2 139) (m.2 58) (m.2 54) by exact hEMp) (show EAp (m.1 25) (m8.2 139) (m8.2 141) by exact hEAp) (show ∀ k, 0 ≤ k → k < (m8.1 149) → 0 < (m8.2 153) k → (m8.2 156) k < (m.1 26) by exact hLT) (show (m8.1 150) + (m8.1 149) = (m.1 148) by omega) (show (m8.1 151) ≤ (m8.1 150) by omega) (show ((m8.1 152) + 1) = (m.1 152) + (v7 + 1) by omega) (show ((m8.1 150) = (m.1 150) + (v7 + 1) ∧ 0 ≤ (m8.1 149)) ∨ ((m8.1 149) = 0 ∧ (m.1 149) ≤ (v7 + 1)) by omega) (show n - (v7 + 1) < (n22 : Int) by omega)
                  · skip
                    refine T_ld 105 (.ref 189) rfl (fun _ => rfl) ?_
                    refine T_call 108 313 [.ref 189] [] rfl (fun _ => rfl) rfl (c_doFirst w (mO m8 [] []) c N D (by omega) Tm8 (show CN (m8.2 65) (m8.2 67) (m8.1 28) by rewrite [(show (m8.2 65) = (m.2 65) from ((fr2 Fm8 65 rfl).trans (fr2 Fm6 65 rfl))), (show (m8.2 67) = (m.2 67) from ((fr2 Fm8 67 rfl).trans (fr2 Fm6 67 rfl))), (show (m8.1 28) = (m.1 28) from ((fr1 Fm8 28 rfl).trans (fr1 Fm6 28 rfl)))]; exact hCN) (show SOp (m8.2 38) (m8.1 23) (m8.1 24) by rewrite [(show (m8.2 38) = (m.2 38) from ((fr2 Fm8 38 rfl).trans (fr2 Fm6 38 rfl))), (show (m8.1 23) = (m.1 23) from ((fr1 Fm8 23 rfl).trans (fr1 Fm6 23 rfl))), (show (m8.1 24) = (m.1 24) from ((fr1 Fm8 24 rfl).trans (fr1 Fm6 24 rfl)))]; exact pSO) (show StP (m8.2 65) (m8.1 28) (m8.1 23) (m8.1 24) (m8.2 42) (m8.2 95) (m8.2 96) (m8.2 44) (m8.2 45) by rewrite [(show (m8.2 65) = (m.2 65) from ((fr2 Fm8 65 rfl).trans (fr2 Fm6 65 rfl))), (show (m8.1 28) = (m.1 28) from ((fr1 Fm8 28 rfl).trans (fr1 Fm6 28 rfl))), (show (m8.1 23) = (m.1 23) from ((fr1 Fm8 23 rfl).trans (fr1 Fm6 23 rfl))), (show (m8.1 24) = (m.1 24) from ((fr1 Fm8 24 rfl).trans (fr1 Fm6 24 rfl))), (show (m8.2 42) = (m.2 42) from ((fr2 Fm8 42 rfl).trans (fr2 Fm6 42 rfl))), (show (m8.2 95) = (m.2 95) from ((fr2 Fm8 95 rfl).trans (fr2 Fm6 95 rfl))), (show (m8.2 96) = (m.2 96) from ((fr2 Fm8 96 rfl).trans (fr2 Fm6 96 rfl))), (show (m8.2 44) = (m.2 44) from ((fr2 Fm8 44 rfl).trans (fr2 Fm6 44 rfl))), (show (m8.2 45) = (m.2 45) from ((fr2 Fm8 45 rfl).trans (fr2 Fm6 45 rfl)))]; exact pSt) (show TdP (m8.2 65) (m8.1 28) (m8.1 22) (m8.1 99) (m8.2 101) (m8.2 103) (m8.2 105) (m8.2 106) (m8.2 107) (m8.2 108) by rewrite [(show (m8.2 65) = (m.2 65) from ((fr2 Fm8 65 rfl).trans (fr2 Fm6 65 rfl))), (show (m8.1 28) = (m.1 28) from ((fr1 Fm8 28 rfl).trans (fr1 Fm6 28 rfl))), (show (m8.1 22) = (m.1 22) from ((fr1 Fm8 22 rfl).trans (fr1 Fm6 22 rfl))), (show (m8.1 99) = (m.1 99) from ((fr1 Fm8 99 rfl).trans (fr1 Fm6 99 rfl))), (show (m8.2 101) = (m.2 101) from ((fr2 Fm8 101 rfl).trans (fr2 Fm6 101 rfl))), (show (m8.2 103) = (m.2 103) from ((fr2 Fm8 103 rfl).trans (fr2 Fm6 103 rfl))), (show (m8.2 105) = (m.2 105) from ((fr2 Fm8 105 rfl).trans (fr2 Fm6 105 rfl))), (show (m8.2 106) = (m.2 106) from ((fr2 Fm8 106 rfl).trans (fr2 Fm6 106 rfl))), (show (m8.2 107) = (m.2 107) from ((fr2 Fm8 107 rfl).trans (fr2 Fm6 107 rfl))), (show (m8.2 108) = (m.2 108) from ((fr2 Fm8 108 rfl).trans (fr2 Fm6 108 rfl)))]; exact pTd) (show AcP (m8.1 25) (m8.1 99) (m8.2 109) (m8.2 50) by rewrite [(show (m8.1 25) = (m.1 25) from ((fr1 Fm8 25 rfl).trans (fr1 Fm6 25 rfl))), (show (m8.1 99) = (m.1 99) from ((fr1 Fm8 99 rfl).trans (fr1 Fm6 99 rfl))), (show (m8.2 109) = (m.2 109) from ((fr2 Fm8 109 rfl).trans (fr2 Fm6 109 rfl))), (show (m8.2 50) = (m.2 50) from ((fr2 Fm8 50 rfl).trans (fr2 Fm6 50 rfl)))]; exact pAc) (show TbP (m8.2 65) (m8.1 28) (m8.1 25) (m8.1 26) (m8.2 51) (m8.2 110) (m8.2 111) (m8.2 57) (m8.2 53) (m8.2 114) (m8.2 58) (m8.2 54) by rewrite [(show (m8.2 65) = (m.2 65) from ((fr2 Fm8 65 rfl).trans (fr2 Fm6 65 rfl))), (show (m8.1 28) = (m.1 28) from ((fr1 Fm8 28 rfl).trans (fr1 Fm6 28 rfl))), (show (m8.1 25) = (m.1 25) from ((fr1 Fm8 25 rfl).trans (fr1 Fm6 25 rfl))), (show (m8.1 26) = (m.1 26) from ((fr1 Fm8 26 rfl).trans (fr1 Fm6 26 rfl))), (show (m8.2 51) = (m.2 51) from ((fr2 Fm8 51 rfl).trans (fr2 Fm6 51 rfl))), (show (m8.2 110) = (m.2 110) from ((fr2 Fm8 110 rfl).trans (fr2 Fm6 110 rfl))), (show (m8.2 111) = (m.2 111) from ((fr2 Fm8 111 rfl).trans (fr2 Fm6 111 rfl))), (show (m8.2 57) = (m.2 57) from ((fr2 Fm8 57 rfl).trans (fr2 Fm6 57 rfl))), (show (m8.2 53) = (m.2 53) from ((fr2 Fm8 53 rfl).trans (fr2 Fm6 53 rfl))), (show (m8.2 114) = (m.2 114) from ((fr2 Fm8 114 rfl).trans (fr2 Fm6 114 rfl))), (show (m8.2 58) = (m.2 58) from ((fr2 Fm8 58 rfl).trans (fr2 Fm6 58 rfl))), (show (m8.2 54) = (m.2 54) from ((fr2 Fm8 54 rfl).trans (fr2 Fm6 54 rfl)))]; exact pTb) (show ∀ k, 0 ≤ k → k < (m8.1 20) → (m8.2 34) k < (m8.1 19) by rewrite [(show (m8.1 20) = (m.1 20) from ((fr1 Fm8 20 rfl).trans (fr1 Fm6 20 rfl))), (show (m8.2 34) = (m.2 34) from ((fr2 Fm8 34 rfl).trans (fr2 Fm6 34 rfl))), (show (m8.1 19) = (m.1 19) from ((fr1 Fm8 19 rfl).trans (fr1 Fm6 19 rfl)))]; exact pIN) (show ∀ g, 0 ≤ g → g < (m8.1 19) → (m8.2 30) g ≤ 512 by rewrite [(show (m8.1 19) = (m.1 19) from ((fr1 Fm8 19 rfl).trans (fr1 Fm6 19 rfl))), (show (m8.2 30) = (m.2 30) from ((fr2 Fm8 30 rfl).trans (fr2 Fm6 30 rfl)))]; exact pHO) (show ∀ k, 0 ≤ k → k < (m8.1 22) → 1 ≤ (m8.2 93) k ∧ 1 ≤ (m8.2 36) k by rewrite [(show (m8.1 22) = (m.1 22) from ((fr1 Fm8 22 rfl).trans (fr1 Fm6 22 rfl))), (show (m8.2 93) = (m.2 93) from ((fr2 Fm8 93 rfl).trans (fr2 Fm6 93 rfl))), (show (m8.2 36) = (m.2 36) from ((fr2 Fm8 36 rfl).trans (fr2 Fm6 36 rfl)))]; exact pAR) (show SpP (m8.2 65) (m8.1 28) (m8.1 99) (m8.1 26) (m8.1 27) (m8.2 60) (m8.2 61) (m8.2 120) (m8.2 121) (m8.2 122) (m8.2 63) by rewrite [(show (m8.2 65) = (m.2 65) from ((fr2 Fm8 65 rfl).trans (fr2 Fm6 65 rfl))), (show (m8.1 28) = (m.1 28) from ((fr1 Fm8 28 rfl).trans (fr1 Fm6 28 rfl))), (show (m8.1 99) = (m.1 99) from ((fr1 Fm8 99 rfl).trans (fr1 Fm6 99 rfl))), (show (m8.1 26) = (m.1 26) from ((fr1 Fm8 26 rfl).trans (fr1 Fm6 26 rfl))), (show (m8.1 27) = (m.1 27) from ((fr1 Fm8 27 rfl).trans (fr1 Fm6 27 rfl))), (show (m8.2 60) = (m.2 60) from ((fr2 Fm8 60 rfl).trans (fr2 Fm6 60 rfl))), (show (m8.2 61) = (m.2 61) from ((fr2 Fm8 61 rfl).trans (fr2 Fm6 61 rfl))), (show (m8.2 120) = (m.2 120) from ((fr2 Fm8 120 rfl).trans (fr2 Fm6 120 rfl))), (show (m8.2 121) = (m.2 121) from ((fr2 Fm8 121 rfl).trans (fr2 Fm6 121 rfl))), (show (m8.2 122) = (m.2 122) from ((fr2 Fm8 122 rfl).trans (fr2 Fm6 122 rfl))), (show (m8.2 63) = (m.2 63) from ((fr2 Fm8 63 rfl).trans (fr2 Fm6 63 rfl)))]; exact pSp) (show ∀ j, 0 ≤ j → j < (m8.1 125) → (m8.2 124) j < (m8.1 20) by rewrite [(show (m8.1 125) = (m.1 125) from ((fr1 Fm8 125 rfl).trans (fr1 Fm6 125 rfl))), (show (m8.2 124) = (m.2 124) from ((fr2 Fm8 124 rfl).trans (fr2 Fm6 124 rfl))), (show (m8.1 20) = (m.1 20) from ((fr1 Fm8 20 rfl).trans (fr1 Fm6 20 rfl)))]; exact hEM) (show ∀ q, 0 ≤ q → q < (m8.1 24) → 0 < (m8.2 41) q ∨ NR (m8.2 44) (m8.2 38) (m8.2 42) (m8.2 45) (m8.2 41) (m8.1 24) q by rewrite [(show (m8.1 24) = (m.1 24) from ((fr1 Fm8 24 rfl).trans (fr1 Fm6 24 rfl))), (show (m8.2 41) = (m.2 41) from ((fr2 Fm8 41 rfl).trans (fr2 Fm6 41 rfl))), (show (m8.2 44) = (m.2 44) from ((fr2 Fm8 44 rfl).trans (fr2 Fm6 44 rfl))), (show (m8.2 38) = (m.2 38) from ((fr2 Fm8 38 rfl).trans (fr2 Fm6 38 rfl))), (show (m8.2 42) = (m.2 42) from ((fr2 Fm8 42 rfl).trans (fr2 Fm6 42 rfl))), (show (m8.2 45) = (m.2 45) from ((fr2 Fm8 45 rfl).trans (fr2 Fm6 45 rfl)))]; exact hNA) (show HBi (m8.2 29) (m8.2 30) (m8.2 33) by rewrite [(show (m8.2 29) = (m.2 29) from ((fr2 Fm8 29 rfl).trans (fr2 Fm6 29 rfl))), (show (m8.2 30) = (m.2 30) from ((fr2 Fm8 30 rfl).trans (fr2 Fm6 30 rfl))), (show (m8.2 33) = (m.2 33) from ((fr2 Fm8 33 rfl).trans (fr2 Fm6 33 rfl)))]; exact hHB) (show EMp (m8.1 26) (m8.2 139) (m8.2 58) (m8.2 54) by rewrite [(show (m8.1 26) = (m.1 26) from ((fr1 Fm8 26 rfl).trans (fr1 Fm6 26 rfl))), (show (m8.2 58) = (m.2 58) from ((fr2 Fm8 58 rfl).trans (fr2 Fm6 58 rfl))), (show (m8.2 54) = (m.2 54) from ((fr2 Fm8 54 rfl).trans (fr2 Fm6 54 rfl)))]; exact hEMp) (show EAp (m8.1 25) (m8.2 139) (m8.2 141) by rewrite [(show (m8.1 25) = (m.1 25) from ((fr1 Fm8 25 rfl).trans (fr1 Fm6 25 rfl)))]; exact hEAp) (show ∀ k, 0 ≤ k → k < (m8.1 149) → 0 < (m8.2 153) k → (m8.2 156) k < (m8.1 26) by rewrite [(show (m8.1 26) = (m.1 26) from ((fr1 Fm8 26 rfl).trans (fr1 Fm6 26 rfl)))]; exact hLT) (show 1 ≤ (m8.1 149) by omega) (show (m8.1 150) + (m8.1 149) = (m8.1 148) by rewrite [(show (m8.1 148) = (m.1 148) from ((fr1 Fm8 148 rfl).trans (fr1 Fm6 148 rfl)))]; omega)) (fun rr43 k44 => ?_)
                    obtain ⟨m45, Tm45, Fm45, h46, h47, h48, h49, h50, rfl⟩ := k44
                    refine ⟨_, _, rfl, ?_⟩
                    refine T_nb (st' := []) rfl ?_
                    have g51 : 0 ≤ m45.1 149 ∧ m45.1 149 ≤ 40 := Tm45.1 149
                    have g52 : 0 ≤ m45.1 150 ∧ m45.1 150 ≤ 1000000 := Tm45.1 150
                    replace h46 : EMp (m8.1 26) (m45.2 139) (m8.2 58) (m8.2 54) := h46
                    rewrite [(show (m8.1 26) = (m.1 26) from ((fr1 Fm8 26 rfl).trans (fr1 Fm6 26 rfl))), (show (m8.2 58) = (m.2 58) from ((fr2 Fm8 58 rfl).trans (fr2 Fm6 58 rfl))), (show (m8.2 54) = (m.2 54) from ((fr2 Fm8 54 rfl).trans (fr2 Fm6 54 rfl)))] at h46
                    have hEMp := h46
                    replace h47 : EAp (m8.1 25) (m45.2 139) (m45.2 141) := h47
                    rewrite [(show (m8.1 25) = (m.1 25) from ((fr1 Fm8 25 rfl).trans (fr1 Fm6 25 rfl)))] at h47
                    have hEAp := h47
                    replace h48 : ∀ k, 0 ≤ k → k < (m45.1 149) → 0 < (m45.2 153) k → (m45.2 156) k < (m8.1 26) := h48
                    rewrite [(show (m8.1 26) = (m.1 26) from ((fr1 Fm8 26 rfl).trans (fr1 Fm6 26 rfl)))] at h48
                    have hLT := h48
                    replace h49 : (m45.1 150) = (m8.1 150) + 1 := h49
                    replace h50 : (m45.1 149) = (m8.1 149) - 1 := h50
                    refine T_ld 109 (.ref 189) rfl (fun _ => rfl) ?_
                    refine T_ld 110 (.ref 189) rfl (fun _ => rfl) ?_
                    refine T_gf1 113 (.int (i32 (m8.1 152))) rfl rfl (mfv_c (F := fun x => .int (i32 x)) rfl (show (m45.1 152) = (m8.1 152) from (fr1 Fm45 152 rfl))) rfl ?_
                    refine T_ld 114 (.int (i32 1)) rfl (fun _ => rfl) ?_
                    refine T_iadd 115 rfl rfl ?_
                    refine T_pf (l' := [(152, (m8.1 152) + 1)]) 118 ((m8.1 152) + 1) rfl rfl rfl rfl rfl rfl ?_
                    have g53 : 0 ≤ (m8.1 152) + 1 ∧ (m8.1 152) + 1 ≤ 100000000 := ⟨by omega, by omega⟩
                    refine T_iinc 121 [(3, .int (i32 (v7 + 1))), (0, .ref 189), (1, .int (i32 n)), (2, .int (i32 (m.1 151)))] rfl rfl (by decide) rfl rfl ?_
                    refine T_goto 46 rfl (fun _ => rfl) ?_
                    refine Tm_lv (a := [(0, .ref 189), (1, .int (i32 n)), (2, .int (i32 (m.1 151))), (3, .int (i32 (v7 + 1)))]) rfl rfl ⟨rfl, rfl, rfl, rfl, trivial⟩ ?_
                    exact ih23 (v7 + 1) (mO m45 [(152, (m8.1 152) + 1)] []) (r32 (by omega) (by omega)) (Ty_mO Tm45 rfl rfl ⟨g53, trivial⟩ trivial) (fr_m (fr_s Fm45 (fr_m (fr_s Fm8 (fr_m fr_0 rfl rfl) rfl rfl) rfl rfl) rfl rfl) rfl rfl) (show 0 ≤ (v7 + 1) by omega) (show (v7 + 1) ≤ n by omega) (show EMp (m.1 26) (m45.2 139) (m.2 58) (m.2 54) by exact hEMp) (show EAp (m.1 25) (m45.2 139) (m45.2 141) by exact hEAp) (show ∀ k, 0 ≤ k → k < (m45.1 149) → 0 < (m45.2 153) k → (m45.2 156) k < (m.1 26) by exact hLT) (show (m45.1 150) + (m45.1 149) = (m.1 148) by omega) (show (m45.1 151) ≤ (m45.1 150) by rewrite [(show (m45.1 151) = (m8.1 151) from (fr1 Fm45 151 rfl))]; omega) (show ((m8.1 152) + 1) = (m.1 152) + (v7 + 1) by omega) (show ((m45.1 150) = (m.1 150) + (v7 + 1) ∧ 0 ≤ (m45.1 149)) ∨ ((m45.1 149) = 0 ∧ (m.1 149) ≤ (v7 + 1)) by omega) (show n - (v7 + 1) < (n22 : Int) by omega)
                · skip
                  refine T_ld 88 (.ref 189) rfl (fun _ => rfl) ?_
                  refine T_ld 89 (.ref 189) rfl (fun _ => rfl) ?_
                  refine T_gf1 92 (.int (i32 (m8.1 151))) rfl rfl rfl rfl ?_
                  refine T_ld 93 (.int (i32 1)) rfl (fun _ => rfl) ?_
                  refine T_iadd 94 rfl rfl ?_
                  refine T_pf (l' := [(151, (m8.1 151) + 1)]) 97 ((m8.1 151) + 1) rfl rfl rfl rfl rfl rfl ?_
                  have g54 : 0 ≤ (m8.1 151) + 1 ∧ (m8.1 151) + 1 ≤ 1000000 := ⟨by omega, by omega⟩
                  refine T_gf 101 (.int (i32 (m8.1 149))) rfl rfl rfl rfl rfl rfl ?_
                  refine T_if 108 104 rfl rfl rfl (r32 (by omega) (by omega)) (fun (h55 : (m8.1 149) ≤ 0) => ?_) (fun (h55 : ¬ ((m8.1 149) ≤ 0)) => ?_)
                  · skip
                    refine T_ld 109 (.ref 189) rfl (fun _ => rfl) ?_
                    refine T_ld 110 (.ref 189) rfl (fun _ => rfl) ?_
                    refine T_gf1 113 (.int (i32 (m8.1 152))) rfl rfl rfl rfl ?_
                    refine T_ld 114 (.int (i32 1)) rfl (fun _ => rfl) ?_
                    refine T_iadd 115 rfl rfl ?_
                    refine T_pf (l' := [(151, (m8.1 151) + 1), (152, (m8.1 152) + 1)]) 118 ((m8.1 152) + 1) rfl rfl rfl rfl rfl rfl ?_
                    have g56 : 0 ≤ (m8.1 152) + 1 ∧ (m8.1 152) + 1 ≤ 100000000 := ⟨by omega, by omega⟩
                    refine T_iinc 121 [(3, .int (i32 (v7 + 1))), (0, .ref 189), (1, .int (i32 n)), (2, .int (i32 (m.1 151)))] rfl rfl (by decide) rfl rfl ?_
                    refine T_goto 46 rfl (fun _ => rfl) ?_
                    refine Tm_lv (a := [(0, .ref 189), (1, .int (i32 n)), (2, .int (i32 (m.1 151))), (3, .int (i32 (v7 + 1)))]) rfl rfl ⟨rfl, rfl, rfl, rfl, trivial⟩ ?_
                    exact ih23 (v7 + 1) (mO m8 [(151, (m8.1 151) + 1), (152, (m8.1 152) + 1)] []) (r32 (by omega) (by omega)) (Ty_mO Tm8 rfl rfl ⟨g54, g56, trivial⟩ trivial) (fr_m (fr_s Fm8 (fr_m fr_0 rfl rfl) rfl rfl) rfl rfl) (show 0 ≤ (v7 + 1) by omega) (show (v7 + 1) ≤ n by omega) (show EMp (m.1 26) (m8.2 139) (m.2 58) (m.2 54) by exact hEMp) (show EAp (m.1 25) (m8.2 139) (m8.2 141) by exact hEAp) (show ∀ k, 0 ≤ k → k < (m8.1 149) → 0 < (m8.2 153) k → (m8.2 156) k < (m.1 26) by exact hLT) (show (m8.1 150) + (m8.1 149) = (m.1 148) by omega) (show ((m8.1 151) + 1) ≤ (m8.1 150) by omega) (show ((m8.1 152) + 1) = (m.1 152) + (v7 + 1) by omega) (show ((m8.1 150) = (m.1 150) + (v7 + 1) ∧ 0 ≤ (m8.1 149)) ∨ ((m8.1 149) = 0 ∧ (m.1 149) ≤ (v7 + 1)) by omega) (show n - (v7 + 1) < (n22 : Int) by omega)
                  · skip
                    refine T_ld 105 (.ref 189) rfl (fun _ => rfl) ?_
                    refine T_call 108 313 [.ref 189] [] rfl (fun _ => rfl) rfl (c_doFirst w (mO m8 [(151, (m8.1 151) + 1)] []) c N D (by omega) (Ty_mO Tm8 rfl rfl ⟨g54, trivial⟩ trivial) (show CN (m8.2 65) (m8.2 67) (m8.1 28) by rewrite [(show (m8.2 65) = (m.2 65) from ((fr2 Fm8 65 rfl).trans (fr2 Fm6 65 rfl))), (show (m8.2 67) = (m.2 67) from ((fr2 Fm8 67 rfl).trans (fr2 Fm6 67 rfl))), (show (m8.1 28) = (m.1 28) from ((fr1 Fm8 28 rfl).trans (fr1 Fm6 28 rfl)))]; exact hCN) (show SOp (m8.2 38) (m8.1 23) (m8.1 24) by rewrite [(show (m8.2 38) = (m.2 38) from ((fr2 Fm8 38 rfl).trans (fr2 Fm6 38 rfl))), (show (m8.1 23) = (m.1 23) from ((fr1 Fm8 23 rfl).trans (fr1 Fm6 23 rfl))), (show (m8.1 24) = (m.1 24) from ((fr1 Fm8 24 rfl).trans (fr1 Fm6 24 rfl)))]; exact pSO) (show StP (m8.2 65) (m8.1 28) (m8.1 23) (m8.1 24) (m8.2 42) (m8.2 95) (m8.2 96) (m8.2 44) (m8.2 45) by rewrite [(show (m8.2 65) = (m.2 65) from ((fr2 Fm8 65 rfl).trans (fr2 Fm6 65 rfl))), (show (m8.1 28) = (m.1 28) from ((fr1 Fm8 28 rfl).trans (fr1 Fm6 28 rfl))), (show (m8.1 23) = (m.1 23) from ((fr1 Fm8 23 rfl).trans (fr1 Fm6 23 rfl))), (show (m8.1 24) = (m.1 24) from ((fr1 Fm8 24 rfl).trans (fr1 Fm6 24 rfl))), (show (m8.2 42) = (m.2 42) from ((fr2 Fm8 42 rfl).trans (fr2 Fm6 42 rfl))), (show (m8.2 95) = (m.2 95) from ((fr2 Fm8 95 rfl).trans (fr2 Fm6 95 rfl))), (show (m8.2 96) = (m.2 96) from ((fr2 Fm8 96 rfl).trans (fr2 Fm6 96 rfl))), (show (m8.2 44) = (m.2 44) from ((fr2 Fm8 44 rfl).trans (fr2 Fm6 44 rfl))), (show (m8.2 45) = (m.2 45) from ((fr2 Fm8 45 rfl).trans (fr2 Fm6 45 rfl)))]; exact pSt) (show TdP (m8.2 65) (m8.1 28) (m8.1 22) (m8.1 99) (m8.2 101) (m8.2 103) (m8.2 105) (m8.2 106) (m8.2 107) (m8.2 108) by rewrite [(show (m8.2 65) = (m.2 65) from ((fr2 Fm8 65 rfl).trans (fr2 Fm6 65 rfl))), (show (m8.1 28) = (m.1 28) from ((fr1 Fm8 28 rfl).trans (fr1 Fm6 28 rfl))), (show (m8.1 22) = (m.1 22) from ((fr1 Fm8 22 rfl).trans (fr1 Fm6 22 rfl))), (show (m8.1 99) = (m.1 99) from ((fr1 Fm8 99 rfl).trans (fr1 Fm6 99 rfl))), (show (m8.2 101) = (m.2 101) from ((fr2 Fm8 101 rfl).trans (fr2 Fm6 101 rfl))), (show (m8.2 103) = (m.2 103) from ((fr2 Fm8 103 rfl).trans (fr2 Fm6 103 rfl))), (show (m8.2 105) = (m.2 105) from ((fr2 Fm8 105 rfl).trans (fr2 Fm6 105 rfl))), (show (m8.2 106) = (m.2 106) from ((fr2 Fm8 106 rfl).trans (fr2 Fm6 106 rfl))), (show (m8.2 107) = (m.2 107) from ((fr2 Fm8 107 rfl).trans (fr2 Fm6 107 rfl))), (show (m8.2 108) = (m.2 108) from ((fr2 Fm8 108 rfl).trans (fr2 Fm6 108 rfl)))]; exact pTd) (show AcP (m8.1 25) (m8.1 99) (m8.2 109) (m8.2 50) by rewrite [(show (m8.1 25) = (m.1 25) from ((fr1 Fm8 25 rfl).trans (fr1 Fm6 25 rfl))), (show (m8.1 99) = (m.1 99) from ((fr1 Fm8 99 rfl).trans (fr1 Fm6 99 rfl))), (show (m8.2 109) = (m.2 109) from ((fr2 Fm8 109 rfl).trans (fr2 Fm6 109 rfl))), (show (m8.2 50) = (m.2 50) from ((fr2 Fm8 50 rfl).trans (fr2 Fm6 50 rfl)))]; exact pAc) (show TbP (m8.2 65) (m8.1 28) (m8.1 25) (m8.1 26) (m8.2 51) (m8.2 110) (m8.2 111) (m8.2 57) (m8.2 53) (m8.2 114) (m8.2 58) (m8.2 54) by rewrite [(show (m8.2 65) = (m.2 65) from ((fr2 Fm8 65 rfl).trans (fr2 Fm6 65 rfl))), (show (m8.1 28) = (m.1 28) from ((fr1 Fm8 28 rfl).trans (fr1 Fm6 28 rfl))), (show (m8.1 25) = (m.1 25) from ((fr1 Fm8 25 rfl).trans (fr1 Fm6 25 rfl))), (show (m8.1 26) = (m.1 26) from ((fr1 Fm8 26 rfl).trans (fr1 Fm6 26 rfl))), (show (m8.2 51) = (m.2 51) from ((fr2 Fm8 51 rfl).trans (fr2 Fm6 51 rfl))), (show (m8.2 110) = (m.2 110) from ((fr2 Fm8 110 rfl).trans (fr2 Fm6 110 rfl))), (show (m8.2 111) = (m.2 111) from ((fr2 Fm8 111 rfl).trans (fr2 Fm6 111 rfl))), (show (m8.2 57) = (m.2 57) from ((fr2 Fm8 57 rfl).trans (fr2 Fm6 57 rfl))), (show (m8.2 53) = (m.2 53) from ((fr2 Fm8 53 rfl).trans (fr2 Fm6 53 rfl))), (show (m8.2 114) = (m.2 114) from ((fr2 Fm8 114 rfl).trans (fr2 Fm6 114 rfl))), (show (m8.2 58) = (m.2 58) from ((fr2 Fm8 58 rfl).trans (fr2 Fm6 58 rfl))), (show (m8.2 54) = (m.2 54) from ((fr2 Fm8 54 rfl).trans (fr2 Fm6 54 rfl)))]; exact pTb) (show ∀ k, 0 ≤ k → k < (m8.1 20) → (m8.2 34) k < (m8.1 19) by rewrite [(show (m8.1 20) = (m.1 20) from ((fr1 Fm8 20 rfl).trans (fr1 Fm6 20 rfl))), (show (m8.2 34) = (m.2 34) from ((fr2 Fm8 34 rfl).trans (fr2 Fm6 34 rfl))), (show (m8.1 19) = (m.1 19) from ((fr1 Fm8 19 rfl).trans (fr1 Fm6 19 rfl)))]; exact pIN) (show ∀ g, 0 ≤ g → g < (m8.1 19) → (m8.2 30) g ≤ 512 by rewrite [(show (m8.1 19) = (m.1 19) from ((fr1 Fm8 19 rfl).trans (fr1 Fm6 19 rfl))), (show (m8.2 30) = (m.2 30) from ((fr2 Fm8 30 rfl).trans (fr2 Fm6 30 rfl)))]; exact pHO) (show ∀ k, 0 ≤ k → k < (m8.1 22) → 1 ≤ (m8.2 93) k ∧ 1 ≤ (m8.2 36) k by rewrite [(show (m8.1 22) = (m.1 22) from ((fr1 Fm8 22 rfl).trans (fr1 Fm6 22 rfl))), (show (m8.2 93) = (m.2 93) from ((fr2 Fm8 93 rfl).trans (fr2 Fm6 93 rfl))), (show (m8.2 36) = (m.2 36) from ((fr2 Fm8 36 rfl).trans (fr2 Fm6 36 rfl)))]; exact pAR) (show SpP (m8.2 65) (m8.1 28) (m8.1 99) (m8.1 26) (m8.1 27) (m8.2 60) (m8.2 61) (m8.2 120) (m8.2 121) (m8.2 122) (m8.2 63) by rewrite [(show (m8.2 65) = (m.2 65) from ((fr2 Fm8 65 rfl).trans (fr2 Fm6 65 rfl))), (show (m8.1 28) = (m.1 28) from ((fr1 Fm8 28 rfl).trans (fr1 Fm6 28 rfl))), (show (m8.1 99) = (m.1 99) from ((fr1 Fm8 99 rfl).trans (fr1 Fm6 99 rfl))), (show (m8.1 26) = (m.1 26) from ((fr1 Fm8 26 rfl).trans (fr1 Fm6 26 rfl))), (show (m8.1 27) = (m.1 27) from ((fr1 Fm8 27 rfl).trans (fr1 Fm6 27 rfl))), (show (m8.2 60) = (m.2 60) from ((fr2 Fm8 60 rfl).trans (fr2 Fm6 60 rfl))), (show (m8.2 61) = (m.2 61) from ((fr2 Fm8 61 rfl).trans (fr2 Fm6 61 rfl))), (show (m8.2 120) = (m.2 120) from ((fr2 Fm8 120 rfl).trans (fr2 Fm6 120 rfl))), (show (m8.2 121) = (m.2 121) from ((fr2 Fm8 121 rfl).trans (fr2 Fm6 121 rfl))), (show (m8.2 122) = (m.2 122) from ((fr2 Fm8 122 rfl).trans (fr2 Fm6 122 rfl))), (show (m8.2 63) = (m.2 63) from ((fr2 Fm8 63 rfl).trans (fr2 Fm6 63 rfl)))]; exact pSp) (show ∀ j, 0 ≤ j → j < (m8.1 125) → (m8.2 124) j < (m8.1 20) by rewrite [(show (m8.1 125) = (m.1 125) from ((fr1 Fm8 125 rfl).trans (fr1 Fm6 125 rfl))), (show (m8.2 124) = (m.2 124) from ((fr2 Fm8 124 rfl).trans (fr2 Fm6 124 rfl))), (show (m8.1 20) = (m.1 20) from ((fr1 Fm8 20 rfl).trans (fr1 Fm6 20 rfl)))]; exact hEM) (show ∀ q, 0 ≤ q → q < (m8.1 24) → 0 < (m8.2 41) q ∨ NR (m8.2 44) (m8.2 38) (m8.2 42) (m8.2 45) (m8.2 41) (m8.1 24) q by rewrite [(show (m8.1 24) = (m.1 24) from ((fr1 Fm8 24 rfl).trans (fr1 Fm6 24 rfl))), (show (m8.2 41) = (m.2 41) from ((fr2 Fm8 41 rfl).trans (fr2 Fm6 41 rfl))), (show (m8.2 44) = (m.2 44) from ((fr2 Fm8 44 rfl).trans (fr2 Fm6 44 rfl))), (show (m8.2 38) = (m.2 38) from ((fr2 Fm8 38 rfl).trans (fr2 Fm6 38 rfl))), (show (m8.2 42) = (m.2 42) from ((fr2 Fm8 42 rfl).trans (fr2 Fm6 42 rfl))), (show (m8.2 45) = (m.2 45) from ((fr2 Fm8 45 rfl).trans (fr2 Fm6 45 rfl)))]; exact hNA) (show HBi (m8.2 29) (m8.2 30) (m8.2 33) by rewrite [(show (m8.2 29) = (m.2 29) from ((fr2 Fm8 29 rfl).trans (fr2 Fm6 29 rfl))), (show (m8.2 30) = (m.2 30) from ((fr2 Fm8 30 rfl).trans (fr2 Fm6 30 rfl))), (show (m8.2 33) = (m.2 33) from ((fr2 Fm8 33 rfl).trans (fr2 Fm6 33 rfl)))]; exact hHB) (show EMp (m8.1 26) (m8.2 139) (m8.2 58) (m8.2 54) by rewrite [(show (m8.1 26) = (m.1 26) from ((fr1 Fm8 26 rfl).trans (fr1 Fm6 26 rfl))), (show (m8.2 58) = (m.2 58) from ((fr2 Fm8 58 rfl).trans (fr2 Fm6 58 rfl))), (show (m8.2 54) = (m.2 54) from ((fr2 Fm8 54 rfl).trans (fr2 Fm6 54 rfl)))]; exact hEMp) (show EAp (m8.1 25) (m8.2 139) (m8.2 141) by rewrite [(show (m8.1 25) = (m.1 25) from ((fr1 Fm8 25 rfl).trans (fr1 Fm6 25 rfl)))]; exact hEAp) (show ∀ k, 0 ≤ k → k < (m8.1 149) → 0 < (m8.2 153) k → (m8.2 156) k < (m8.1 26) by rewrite [(show (m8.1 26) = (m.1 26) from ((fr1 Fm8 26 rfl).trans (fr1 Fm6 26 rfl)))]; exact hLT) (show 1 ≤ (m8.1 149) by omega) (show (m8.1 150) + (m8.1 149) = (m8.1 148) by rewrite [(show (m8.1 148) = (m.1 148) from ((fr1 Fm8 148 rfl).trans (fr1 Fm6 148 rfl)))]; omega)) (fun rr57 k58 => ?_)
                    obtain ⟨m59, Tm59, Fm59, h60, h61, h62, h63, h64, rfl⟩ := k58
                    refine ⟨_, _, rfl, ?_⟩
                    refine T_nb (st' := []) rfl ?_
                    have g65 : 0 ≤ m59.1 149 ∧ m59.1 149 ≤ 40 := Tm59.1 149
                    have g66 : 0 ≤ m59.1 150 ∧ m59.1 150 ≤ 1000000 := Tm59.1 150
                    replace h60 : EMp (m8.1 26) (m59.2 139) (m8.2 58) (m8.2 54) := h60
                    rewrite [(show (m8.1 26) = (m.1 26) from ((fr1 Fm8 26 rfl).trans (fr1 Fm6 26 rfl))), (show (m8.2 58) = (m.2 58) from ((fr2 Fm8 58 rfl).trans (fr2 Fm6 58 rfl))), (show (m8.2 54) = (m.2 54) from ((fr2 Fm8 54 rfl).trans (fr2 Fm6 54 rfl)))] at h60
                    have hEMp := h60
                    replace h61 : EAp (m8.1 25) (m59.2 139) (m59.2 141) := h61
                    rewrite [(show (m8.1 25) = (m.1 25) from ((fr1 Fm8 25 rfl).trans (fr1 Fm6 25 rfl)))] at h61
                    have hEAp := h61
                    replace h62 : ∀ k, 0 ≤ k → k < (m59.1 149) → 0 < (m59.2 153) k → (m59.2 156) k < (m8.1 26) := h62
                    rewrite [(show (m8.1 26) = (m.1 26) from ((fr1 Fm8 26 rfl).trans (fr1 Fm6 26 rfl)))] at h62
                    have hLT := h62
                    replace h63 : (m59.1 150) = (m8.1 150) + 1 := h63
                    replace h64 : (m59.1 149) = (m8.1 149) - 1 := h64
                    refine T_ld 109 (.ref 189) rfl (fun _ => rfl) ?_
                    refine T_ld 110 (.ref 189) rfl (fun _ => rfl) ?_
                    refine T_gf1 113 (.int (i32 (m8.1 152))) rfl rfl (mfv_c (F := fun x => .int (i32 x)) rfl (show (m59.1 152) = (m8.1 152) from (fr1 Fm59 152 rfl))) rfl ?_
                    refine T_ld 114 (.int (i32 1)) rfl (fun _ => rfl) ?_
                    refine T_iadd 115 rfl rfl ?_
                    refine T_pf (l' := [(152, (m8.1 152) + 1)]) 118 ((m8.1 152) + 1) rfl rfl rfl rfl rfl rfl ?_
                    have g67 : 0 ≤ (m8.1 152) + 1 ∧ (m8.1 152) + 1 ≤ 100000000 := ⟨by omega, by omega⟩
                    refine T_iinc 121 [(3, .int (i32 (v7 + 1))), (0, .ref 189), (1, .int (i32 n)), (2, .int (i32 (m.1 151)))] rfl rfl (by decide) rfl rfl ?_
                    refine T_goto 46 rfl (fun _ => rfl) ?_
                    refine Tm_lv (a := [(0, .ref 189), (1, .int (i32 n)), (2, .int (i32 (m.1 151))), (3, .int (i32 (v7 + 1)))]) rfl rfl ⟨rfl, rfl, rfl, rfl, trivial⟩ ?_
                    exact ih23 (v7 + 1) (mO m59 [(152, (m8.1 152) + 1)] []) (r32 (by omega) (by omega)) (Ty_mO Tm59 rfl rfl ⟨g67, trivial⟩ trivial) (fr_m (fr_s Fm59 (fr_m (fr_s Fm8 (fr_m fr_0 rfl rfl) rfl rfl) rfl rfl) rfl rfl) rfl rfl) (show 0 ≤ (v7 + 1) by omega) (show (v7 + 1) ≤ n by omega) (show EMp (m.1 26) (m59.2 139) (m.2 58) (m.2 54) by exact hEMp) (show EAp (m.1 25) (m59.2 139) (m59.2 141) by exact hEAp) (show ∀ k, 0 ≤ k → k < (m59.1 149) → 0 < (m59.2 153) k → (m59.2 156) k < (m.1 26) by exact hLT) (show (m59.1 150) + (m59.1 149) = (m.1 148) by omega) (show (m59.1 151) ≤ (m59.1 150) by rewrite [(show (m59.1 151) = ((m8.1 151) + 1) from (fr1 Fm59 151 rfl))]; omega) (show ((m8.1 152) + 1) = (m.1 152) + (v7 + 1) by omega) (show ((m59.1 150) = (m.1 150) + (v7 + 1) ∧ 0 ≤ (m59.1 149)) ∨ ((m59.1 149) = 0 ∧ (m.1 149) ≤ (v7 + 1)) by omega) (show n - (v7 + 1) < (n22 : Int) by omega)
        refine Tm_lv (a := [(0, .ref 189), (1, .int (i32 n)), (2, .int (i32 (m.1 151))), (3, .int (i32 0))]) rfl rfl ⟨rfl, rfl, rfl, rfl, trivial⟩ ?_
        exact L46_9 ((n - (0 : Int) : Int) + 1).toNat 0 (mO m6 [] []) ⟨by decide, by decide⟩ Tm6 (fr_m fr_0 rfl rfl) (show 0 ≤ (0 : Int) by omega) (show (0 : Int) ≤ n by omega) (show EMp (m.1 26) (m6.2 139) (m.2 58) (m.2 54) by rewrite [(show (m6.2 139) = (m.2 139) from (fr2 Fm6 139 rfl))]; exact hEMp) (show EAp (m.1 25) (m6.2 139) (m6.2 141) by rewrite [(show (m6.2 139) = (m.2 139) from (fr2 Fm6 139 rfl)), (show (m6.2 141) = (m.2 141) from (fr2 Fm6 141 rfl))]; exact hEAp) (show ∀ k, 0 ≤ k → k < (m6.1 149) → 0 < (m6.2 153) k → (m6.2 156) k < (m.1 26) by rewrite [(show (m6.1 149) = (m.1 149) from (fr1 Fm6 149 rfl)), (show (m6.2 153) = (m.2 153) from (fr2 Fm6 153 rfl)), (show (m6.2 156) = (m.2 156) from (fr2 Fm6 156 rfl))]; exact hLT) (show (m6.1 150) + (m6.1 149) = (m.1 148) by rewrite [(show (m6.1 150) = (m.1 150) from (fr1 Fm6 150 rfl)), (show (m6.1 149) = (m.1 149) from (fr1 Fm6 149 rfl))]; omega) (show (m6.1 151) ≤ (m6.1 150) by rewrite [(show (m6.1 151) = (m.1 151) from (fr1 Fm6 151 rfl)), (show (m6.1 150) = (m.1 150) from (fr1 Fm6 150 rfl))]; omega) (show (m6.1 152) = (m.1 152) + (0 : Int) by rewrite [(show (m6.1 152) = (m.1 152) from (fr1 Fm6 152 rfl))]; omega) (show ((m6.1 150) = (m.1 150) + (0 : Int) ∧ 0 ≤ (m6.1 149)) ∨ ((m6.1 149) = 0 ∧ (m.1 149) ≤ (0 : Int)) by rewrite [(show (m6.1 150) = (m.1 150) from (fr1 Fm6 150 rfl)), (show (m6.1 149) = (m.1 149) from (fr1 Fm6 149 rfl))]; omega) (show n - (0 : Int) < ((((n - (0 : Int) : Int) + 1).toNat : Nat) : Int) by omega)
      · skip
        refine T_ld 23 (.int (i32 2)) rfl (fun _ => rfl) ?_
        refine T_goto 27 rfl (fun _ => rfl) ?_
        refine T_pf (l' := [(1, 2)]) 30 2 rfl rfl rfl rfl rfl rfl ?_
        refine T_gf 34 (.int (i32 2)) rfl rfl rfl rfl rfl rfl ?_
        refine T_if 39 37 rfl rfl rfl ⟨by decide, by decide⟩ (fun h68 => absurd (show (2 : Int) ≤ 0 from h68) (by decide)) (fun _ => ?_)
        refine T_ld 38 (.int (i32 0)) rfl (fun _ => rfl) ?_
        refine T_ret rfl (fun _ => rfl) ?_
        exact ⟨(mO m [(1, 2)] []), 0, (Ty_mO hT rfl rfl ⟨⟨(by omega : (0 : Int) ≤ 2), (by omega : (2 : Int) ≤ 3)⟩, trivial⟩ trivial), (fr_m fr_0 rfl rfl), ⟨by omega, by omega⟩, (show EMp (m.1 26) (m.2 139) (m.2 58) (m.2 54) by first | (exact hEMp) | (exfalso; omega)), (show EAp (m.1 25) (m.2 139) (m.2 141) by first | (exact hEAp) | (exfalso; omega)), (show ∀ k, 0 ≤ k → k < (m.1 149) → 0 < (m.2 153) k → (m.2 156) k < (m.1 26) by first | (exact hLT) | (exfalso; omega)), (show (m.1 150) + (m.1 149) = (m.1 148) by omega), (show (m.1 151) ≤ (m.1 150) by omega), (show (m.1 152) ≤ (m.1 152) + 100 by omega), (show ((2 : Int) = 0 ∧ (m.1 128) = 1 ∧ 0 ≤ n ∧ n ≤ 100 ∧ (m.1 152) = (m.1 152) + n ∧ (((m.1 150) = (m.1 150) + n ∧ n ≤ (m.1 149)) ∨ ((m.1 149) = 0 ∧ (m.1 149) ≤ n))) ∨ ((2 : Int) = 1 ∧ (m.1 128) = 0 ∧ (m.1 150) = (m.1 150) ∧ (m.1 152) = (m.1 152)) ∨ ((2 : Int) = 2 ∧ (m.1 128) = 1 ∧ (n < 0 ∨ 100 < n) ∧ (m.1 150) = (m.1 150) ∧ (m.1 152) = (m.1 152)) by omega), rfl⟩
  · skip
    refine T_ld 9 (.int (i32 1)) rfl (fun _ => rfl) ?_
    refine T_goto 27 rfl (fun _ => rfl) ?_
    refine T_pf (l' := [(1, 1)]) 30 1 rfl rfl rfl rfl rfl rfl ?_
    refine T_gf 34 (.int (i32 1)) rfl rfl rfl rfl rfl rfl ?_
    refine T_if 39 37 rfl rfl rfl ⟨by decide, by decide⟩ (fun h69 => absurd (show (1 : Int) ≤ 0 from h69) (by decide)) (fun _ => ?_)
    refine T_ld 38 (.int (i32 0)) rfl (fun _ => rfl) ?_
    refine T_ret rfl (fun _ => rfl) ?_
    exact ⟨(mO m [(1, 1)] []), 0, (Ty_mO hT rfl rfl ⟨⟨(by omega : (0 : Int) ≤ 1), (by omega : (1 : Int) ≤ 3)⟩, trivial⟩ trivial), (fr_m fr_0 rfl rfl), ⟨by omega, by omega⟩, (show EMp (m.1 26) (m.2 139) (m.2 58) (m.2 54) by first | (exact hEMp) | (exfalso; omega)), (show EAp (m.1 25) (m.2 139) (m.2 141) by first | (exact hEAp) | (exfalso; omega)), (show ∀ k, 0 ≤ k → k < (m.1 149) → 0 < (m.2 153) k → (m.2 156) k < (m.1 26) by first | (exact hLT) | (exfalso; omega)), (show (m.1 150) + (m.1 149) = (m.1 148) by omega), (show (m.1 151) ≤ (m.1 150) by omega), (show (m.1 152) ≤ (m.1 152) + 100 by omega), (show ((1 : Int) = 0 ∧ (m.1 128) = 1 ∧ 0 ≤ n ∧ n ≤ 100 ∧ (m.1 152) = (m.1 152) + n ∧ (((m.1 150) = (m.1 150) + n ∧ n ≤ (m.1 149)) ∨ ((m.1 149) = 0 ∧ (m.1 149) ≤ n))) ∨ ((1 : Int) = 1 ∧ (m.1 128) = 0 ∧ (m.1 150) = (m.1 150) ∧ (m.1 152) = (m.1 152)) ∨ ((1 : Int) = 2 ∧ (m.1 128) = 1 ∧ (n < 0 ∨ 100 < n) ∧ (m.1 150) = (m.1 150) ∧ (m.1 152) = (m.1 152)) by omega), rfl⟩
def Q_isOut (m : mR) (c : Nat → Option am_C) (N : Nat) (o : Int) : ag_Re af_T → Prop := fun R => ∃ (r : Int), (0 ≤ r ∧ r ≤ 1) ∧ (r = 1 → 0 ≤ o ∧ o < (m.1 151)) ∧ R = (.inl (some (.int (i32 r))), (mhp m c, N), 0, 0)
set_option maxHeartbeats 3000000 in
theorem c_isOut (w : wX) (m : mR) (c : Nat → Option am_C) (N D : Nat) (hD : 1 ≤ D) (hT : Ty m) (o : Int) (qo : R32 o) : TC w D 343 [.ref 189, .int (i32 o)] (mhp m c, N) (Q_isOut m c N o) := by
  obtain ⟨D, rfl⟩ : ∃ k, D = k + 1 := ⟨D - 1, by omega⟩
  obtain ⟨qoa, qob⟩ := id qo
  have f151 : 0 ≤ m.1 151 ∧ m.1 151 ≤ 1000000 := hT.1 151
  refine Tc_of rfl ?_
  show TT w D pm_343 (0, [(0, .ref 189), (1, .int (i32 o))], [], (mhp (mO m [] []) c, N), 0, 0) (Q_isOut m c N o)
  refine T_ld 1 (.int (i32 o)) rfl (fun _ => rfl) ?_
  refine T_if 27 4 rfl rfl rfl (r32 (by omega) (by omega)) (fun (h1 : o < 0) => ?_) (fun (h1 : ¬ (o < 0)) => ?_)
  · skip
    refine T_ld 28 (.int (i32 0)) rfl (fun _ => rfl) ?_
    refine T_ret rfl (fun _ => rfl) ?_
    exact ⟨0, ⟨by omega, by omega⟩, (show (0 : Int) = 1 → 0 ≤ o ∧ o < (m.1 151) by omega), rfl⟩
  · skip
    refine T_ld 5 (.int (i32 o)) rfl (fun _ => rfl) ?_
    refine T_gf 9 (.int (i32 (m.1 151))) rfl rfl rfl rfl rfl rfl ?_
    refine T_icmp 27 12 rfl rfl rfl (r32 (by omega) (by omega)) (r32 (by omega) (by omega)) (fun (h2 : (m.1 151) ≤ o) => ?_) (fun (h2 : ¬ ((m.1 151) ≤ o)) => ?_)
    · skip
      refine T_ld 28 (.int (i32 0)) rfl (fun _ => rfl) ?_
      refine T_ret rfl (fun _ => rfl) ?_
      exact ⟨0, ⟨by omega, by omega⟩, (show (0 : Int) = 1 → 0 ≤ o ∧ o < (m.1 151) by omega), rfl⟩
    · skip
      refine T_ld 13 (.int (i32 o)) rfl (fun _ => rfl) ?_
      refine T_gf 17 (.int (i32 (m.1 151))) rfl rfl rfl rfl rfl rfl ?_
      refine T_ld 19 (.int (i32 64)) rfl (fun _ => rfl) ?_
      refine T_isub 20 rfl rfl ?_
      refine T_icmp 27 23 rfl rfl rfl (r32 (by omega) (by omega)) (r32 (by omega) (by omega)) (fun (h3 : o < (m.1 151) - 64) => ?_) (fun (h3 : ¬ (o < (m.1 151) - 64)) => ?_)
      · skip
        refine T_ld 28 (.int (i32 0)) rfl (fun _ => rfl) ?_
        refine T_ret rfl (fun _ => rfl) ?_
        exact ⟨0, ⟨by omega, by omega⟩, (show (0 : Int) = 1 → 0 ≤ o ∧ o < (m.1 151) by omega), rfl⟩
      · skip
        refine T_ld 24 (.int (i32 1)) rfl (fun _ => rfl) ?_
        refine T_goto 28 rfl (fun _ => rfl) ?_
        refine T_ret rfl (fun _ => rfl) ?_
        exact ⟨1, ⟨by omega, by omega⟩, (show (1 : Int) = 1 → 0 ≤ o ∧ o < (m.1 151) by omega), rfl⟩
def fF_out : List Nat := [1]
def fA_out : List Nat := []
def Q_out (m : mR) (c : Nat → Option am_C) (N : Nat) (o : Int) (u : Int) : ag_Re af_T → Prop := fun R => ∃ (M : mR) (r : Int), Ty M ∧ fr fF_out fA_out m M ∧ ((-2147483648) ≤ r ∧ r ≤ 2147483647) ∧ R = (.inl (some (.int (i32 r))), (mhp M c, N), 0, 0)
set_option maxHeartbeats 3000000 in
theorem c_out (w : wX) (m : mR) (c : Nat → Option am_C) (N D : Nat) (hD : 2 ≤ D) (hT : Ty m) (o : Int) (u : Int) (qo : R32 o) (qu : R32 u) : TC w D 342 [.ref 189, .int (i32 o), .int (i32 u)] (mhp m c, N) (Q_out m c N o u) := by
  obtain ⟨D, rfl⟩ : ∃ k, D = k + 1 := ⟨D - 1, by omega⟩
  obtain ⟨qoa, qob⟩ := id qo
  obtain ⟨qua, qub⟩ := id qu
  have f129 : 0 ≤ m.1 129 ∧ m.1 129 ≤ 12 := hT.1 129
  refine Tc_of rfl ?_
  show TT w D pm_342 (0, [(0, .ref 189), (1, .int (i32 o)), (2, .int (i32 u))], [], (mhp (mO m [] []) c, N), 0, 0) (Q_out m c N o u)
  refine T_ld 1 (.ref 189) rfl (fun _ => rfl) ?_
  refine T_ld 2 (.int (i32 0)) rfl (fun _ => rfl) ?_
  refine T_pf (l' := [(1, 0)]) 5 0 rfl rfl rfl rfl rfl rfl ?_
  refine T_ld 6 (.ref 189) rfl (fun _ => rfl) ?_
  refine T_ld 7 (.int (i32 o)) rfl (fun _ => rfl) ?_
  refine T_call 10 343 [.ref 189, .int (i32 o)] [] rfl (fun _ => rfl) rfl (c_isOut w (mO m [(1, 0)] []) c N D (by omega) (Ty_mO hT rfl rfl ⟨⟨(by omega : (0 : Int) ≤ 0), (by omega : (0 : Int) ≤ 3)⟩, trivial⟩ trivial) o (r32 (by omega) (by omega))) (fun rr1 k2 => ?_)
  obtain ⟨x3, g4, h5, rfl⟩ := k2
  refine ⟨_, _, rfl, ?_⟩
  refine T_ns (st' := [.int (i32 x3)]) rfl ?_
  obtain ⟨g4a, g4b⟩ := g4
  replace h5 : x3 = 1 → 0 ≤ o ∧ o < (m.1 151) := h5
  refine T_if 15 13 rfl rfl rfl (r32 (by omega) (by omega)) (fun (h6 : x3 ≠ 0) => ?_) (fun (h6 : ¬ (x3 ≠ 0)) => ?_)
  · skip
    refine T_ld 16 (.int (i32 o)) rfl (fun _ => rfl) ?_
    refine T_ld 19 (.int (i32 128)) rfl (fun _ => rfl) ?_
    refine T_irem 20 rfl rfl (by omega) (by omega) (by omega) (by omega) ?_
    refine T_sto 21 [(3, .int (i32 (o % 128))), (0, .ref 189), (1, .int (i32 o)), (2, .int (i32 u))] rfl (fun _ => rfl) ?_
    refine T_ld 22 (.int (i32 u)) rfl (fun _ => rfl) ?_
    by_cases h7 : u = 0
    · skip
      refine T_cast 0 h7 ?_
      refine T_pop 56 rfl (fun _ => rfl) ?_
      refine T_gf 60 (.ref 312) rfl rfl rfl rfl rfl rfl ?_
      refine T_ld 61 (.int (i32 (o % 128))) rfl (fun _ => rfl) ?_
      refine T_iald 62 163 (m.2 163) rfl rfl rfl (by omega) (show (o % 128) < (128 : Int) by omega) rfl ?_
      have e8 : 0 ≤ m.2 163 (o % 128) ∧ m.2 163 (o % 128) ≤ 3 := hT.2.1 163 (o % 128)
      refine T_ret rfl (fun _ => rfl) ?_
      exact ⟨(mO m [(1, 0)] []), (m.2 163) (o % 128), (Ty_mO hT rfl rfl ⟨⟨(by omega : (0 : Int) ≤ 0), (by omega : (0 : Int) ≤ 3)⟩, trivial⟩ trivial), (fr_m fr_0 rfl rfl), ⟨by omega, by omega⟩, rfl⟩
    by_cases h9 : u = 1
    · skip
      refine T_cast 1 h9 ?_
      refine T_pop 63 rfl (fun _ => rfl) ?_
      refine T_gf 67 (.ref 313) rfl rfl rfl rfl rfl rfl ?_
      refine T_ld 68 (.int (i32 (o % 128))) rfl (fun _ => rfl) ?_
      refine T_iald 69 164 (m.2 164) rfl rfl rfl (by omega) (show (o % 128) < (128 : Int) by omega) rfl ?_
      have e10 : 0 ≤ m.2 164 (o % 128) ∧ m.2 164 (o % 128) ≤ 2 := hT.2.1 164 (o % 128)
      refine T_ret rfl (fun _ => rfl) ?_
      exact ⟨(mO m [(1, 0)] []), (m.2 164) (o % 128), (Ty_mO hT rfl rfl ⟨⟨(by omega : (0 : Int) ≤ 0), (by omega : (0 : Int) ≤ 3)⟩, trivial⟩ trivial), (fr_m fr_0 rfl rfl), ⟨by omega, by omega⟩, rfl⟩
    by_cases h11 : u = 2
    · skip
      refine T_cast 2 h11 ?_
      refine T_pop 70 rfl (fun _ => rfl) ?_
      refine T_gf 74 (.ref 314) rfl rfl rfl rfl rfl rfl ?_
      refine T_ld 75 (.int (i32 (o % 128))) rfl (fun _ => rfl) ?_
      refine T_iald 76 165 (m.2 165) rfl rfl rfl (by omega) (show (o % 128) < (128 : Int) by omega) rfl ?_
      have e12 : (-2147483648) ≤ m.2 165 (o % 128) ∧ m.2 165 (o % 128) ≤ 2147483647 := hT.2.1 165 (o % 128)
      refine T_ret rfl (fun _ => rfl) ?_
      exact ⟨(mO m [(1, 0)] []), (m.2 165) (o % 128), (Ty_mO hT rfl rfl ⟨⟨(by omega : (0 : Int) ≤ 0), (by omega : (0 : Int) ≤ 3)⟩, trivial⟩ trivial), (fr_m fr_0 rfl rfl), ⟨by omega, by omega⟩, rfl⟩
    by_cases h13 : u = 3
    · skip
      refine T_cast 3 h13 ?_
      refine T_pop 77 rfl (fun _ => rfl) ?_
      refine T_gf 81 (.ref 315) rfl rfl rfl rfl rfl rfl ?_
      refine T_ld 82 (.int (i32 (o % 128))) rfl (fun _ => rfl) ?_
      refine T_iald 83 166 (m.2 166) rfl rfl rfl (by omega) (show (o % 128) < (128 : Int) by omega) rfl ?_
      have e14 : (-1) ≤ m.2 166 (o % 128) ∧ m.2 166 (o % 128) ≤ 896 := hT.2.1 166 (o % 128)
      refine T_ret rfl (fun _ => rfl) ?_
      exact ⟨(mO m [(1, 0)] []), (m.2 166) (o % 128), (Ty_mO hT rfl rfl ⟨⟨(by omega : (0 : Int) ≤ 0), (by omega : (0 : Int) ≤ 3)⟩, trivial⟩ trivial), (fr_m fr_0 rfl rfl), ⟨by omega, by omega⟩, rfl⟩
    by_cases h15 : u = 4
    · skip
      refine T_cast 4 h15 ?_
      refine T_pop 84 rfl (fun _ => rfl) ?_
      refine T_gf 88 (.ref 316) rfl rfl rfl rfl rfl rfl ?_
      refine T_ld 89 (.int (i32 (o % 128))) rfl (fun _ => rfl) ?_
      refine T_iald 90 167 (m.2 167) rfl rfl rfl (by omega) (show (o % 128) < (128 : Int) by omega) rfl ?_
      have e16 : 0 ≤ m.2 167 (o % 128) ∧ m.2 167 (o % 128) ≤ 100000000 := hT.2.1 167 (o % 128)
      refine T_gf 94 (.int (i32 (m.1 129))) rfl rfl rfl rfl rfl rfl ?_
      refine T_iadd 95 rfl rfl ?_
      refine T_ret rfl (fun _ => rfl) ?_
      exact ⟨(mO m [(1, 0)] []), ((m.2 167) (o % 128)) + (m.1 129), (Ty_mO hT rfl rfl ⟨⟨(by omega : (0 : Int) ≤ 0), (by omega : (0 : Int) ≤ 3)⟩, trivial⟩ trivial), (fr_m fr_0 rfl rfl), ⟨by omega, by omega⟩, rfl⟩
    refine T_tsd 96 rfl rfl (r32 (by omega) (by omega)) (by omega) ?_
    refine T_ld 97 (.int (i32 (-1))) rfl (fun _ => rfl) ?_
    refine T_ret rfl (fun _ => rfl) ?_
    exact ⟨(mO m [(1, 0)] []), (-1), (Ty_mO hT rfl rfl ⟨⟨(by omega : (0 : Int) ≤ 0), (by omega : (0 : Int) ≤ 3)⟩, trivial⟩ trivial), (fr_m fr_0 rfl rfl), ⟨by omega, by omega⟩, rfl⟩
  · skip
    refine T_ld 14 (.int (i32 (-1))) rfl (fun _ => rfl) ?_
    refine T_ret rfl (fun _ => rfl) ?_
    exact ⟨(mO m [(1, 0)] []), (-1), (Ty_mO hT rfl rfl ⟨⟨(by omega : (0 : Int) ≤ 0), (by omega : (0 : Int) ≤ 3)⟩, trivial⟩ trivial), (fr_m fr_0 rfl rfl), ⟨by omega, by omega⟩, rfl⟩
def fF_byteAt2 : List Nat := [1]
def fA_byteAt2 : List Nat := []
def Q_byteAt2 (m : mR) (c : Nat → Option am_C) (N : Nat) (o : Int) (i : Int) : ag_Re af_T → Prop := fun R => ∃ (M : mR) (r : Int), Ty M ∧ fr fF_byteAt2 fA_byteAt2 m M ∧ ((-2147483648) ≤ r ∧ r ≤ 2147483647) ∧ R = (.inl (some (.int (i32 r))), (mhp M c, N), 0, 0)
set_option maxHeartbeats 3000000 in
theorem c_byteAt2 (w : wX) (m : mR) (c : Nat → Option am_C) (N D : Nat) (hD : 2 ≤ D) (hT : Ty m) (o : Int) (i : Int) (qo : R32 o) (qi : R32 i) : TC w D 344 [.ref 189, .int (i32 o), .int (i32 i)] (mhp m c, N) (Q_byteAt2 m c N o i) := by
  obtain ⟨D, rfl⟩ : ∃ k, D = k + 1 := ⟨D - 1, by omega⟩
  obtain ⟨qoa, qob⟩ := id qo
  obtain ⟨qia, qib⟩ := id qi
  refine Tc_of rfl ?_
  show TT w D pm_344 (0, [(0, .ref 189), (1, .int (i32 o)), (2, .int (i32 i))], [], (mhp (mO m [] []) c, N), 0, 0) (Q_byteAt2 m c N o i)
  refine T_ld 1 (.ref 189) rfl (fun _ => rfl) ?_
  refine T_ld 2 (.int (i32 0)) rfl (fun _ => rfl) ?_
  refine T_pf (l' := [(1, 0)]) 5 0 rfl rfl rfl rfl rfl rfl ?_
  refine T_ld 6 (.ref 189) rfl (fun _ => rfl) ?_
  refine T_ld 7 (.int (i32 o)) rfl (fun _ => rfl) ?_
  refine T_call 10 343 [.ref 189, .int (i32 o)] [] rfl (fun _ => rfl) rfl (c_isOut w (mO m [(1, 0)] []) c N D (by omega) (Ty_mO hT rfl rfl ⟨⟨(by omega : (0 : Int) ≤ 0), (by omega : (0 : Int) ≤ 3)⟩, trivial⟩ trivial) o (r32 (by omega) (by omega))) (fun rr1 k2 => ?_)
  obtain ⟨x3, g4, h5, rfl⟩ := k2
  refine ⟨_, _, rfl, ?_⟩
  refine T_ns (st' := [.int (i32 x3)]) rfl ?_
  obtain ⟨g4a, g4b⟩ := g4
  replace h5 : x3 = 1 → 0 ≤ o ∧ o < (m.1 151) := h5
  refine T_if 50 13 rfl rfl rfl (r32 (by omega) (by omega)) (fun (h6 : x3 = 0) => ?_) (fun (h6 : ¬ (x3 = 0)) => ?_)
  · skip
    refine T_ld 51 (.int (i32 (-1))) rfl (fun _ => rfl) ?_
    refine T_ret rfl (fun _ => rfl) ?_
    exact ⟨(mO m [(1, 0)] []), (-1), (Ty_mO hT rfl rfl ⟨⟨(by omega : (0 : Int) ≤ 0), (by omega : (0 : Int) ≤ 3)⟩, trivial⟩ trivial), (fr_m fr_0 rfl rfl), ⟨by omega, by omega⟩, rfl⟩
  · skip
    refine T_ld 14 (.int (i32 i)) rfl (fun _ => rfl) ?_
    refine T_if 50 17 rfl rfl rfl (r32 (by omega) (by omega)) (fun (h7 : i < 0) => ?_) (fun (h7 : ¬ (i < 0)) => ?_)
    · skip
      refine T_ld 51 (.int (i32 (-1))) rfl (fun _ => rfl) ?_
      refine T_ret rfl (fun _ => rfl) ?_
      exact ⟨(mO m [(1, 0)] []), (-1), (Ty_mO hT rfl rfl ⟨⟨(by omega : (0 : Int) ≤ 0), (by omega : (0 : Int) ≤ 3)⟩, trivial⟩ trivial), (fr_m fr_0 rfl rfl), ⟨by omega, by omega⟩, rfl⟩
    · skip
      refine T_ld 18 (.int (i32 i)) rfl (fun _ => rfl) ?_
      refine T_gf 22 (.ref 315) rfl rfl rfl rfl rfl rfl ?_
      refine T_ld 23 (.int (i32 o)) rfl (fun _ => rfl) ?_
      refine T_ld 26 (.int (i32 128)) rfl (fun _ => rfl) ?_
      refine T_irem 27 rfl rfl (by omega) (by omega) (by omega) (by omega) ?_
      refine T_iald 28 166 (m.2 166) rfl rfl rfl (by omega) (show (o % 128) < (128 : Int) by omega) rfl ?_
      have e8 : (-1) ≤ m.2 166 (o % 128) ∧ m.2 166 (o % 128) ≤ 896 := hT.2.1 166 (o % 128)
      refine T_icmp 50 31 rfl rfl rfl (r32 (by omega) (by omega)) (r32 (by omega) (by omega)) (fun (h9 : (m.2 166) (o % 128) ≤ i) => ?_) (fun (h9 : ¬ ((m.2 166) (o % 128) ≤ i)) => ?_)
      · skip
        refine T_ld 51 (.int (i32 (-1))) rfl (fun _ => rfl) ?_
        refine T_ret rfl (fun _ => rfl) ?_
        exact ⟨(mO m [(1, 0)] []), (-1), (Ty_mO hT rfl rfl ⟨⟨(by omega : (0 : Int) ≤ 0), (by omega : (0 : Int) ≤ 3)⟩, trivial⟩ trivial), (fr_m fr_0 rfl rfl), ⟨by omega, by omega⟩, rfl⟩
      · skip
        refine T_gf 35 (.ref 317) rfl rfl rfl rfl rfl rfl ?_
        refine T_ld 38 (.int (i32 896)) rfl (fun _ => rfl) ?_
        refine T_ld 39 (.int (i32 o)) rfl (fun _ => rfl) ?_
        refine T_ld 42 (.int (i32 128)) rfl (fun _ => rfl) ?_
        refine T_irem 43 rfl rfl (by omega) (by omega) (by omega) (by omega) ?_
        refine T_imul 44 rfl rfl ?_
        refine T_ld 45 (.int (i32 i)) rfl (fun _ => rfl) ?_
        refine T_iadd 46 rfl rfl ?_
        refine T_iald 47 168 (m.2 168) rfl rfl rfl (by omega) (show ((896 * (o % 128)) + i) < (114688 : Int) by omega) rfl ?_
        have e10 : (-2147483648) ≤ m.2 168 ((896 * (o % 128)) + i) ∧ m.2 168 ((896 * (o % 128)) + i) ≤ 2147483647 := hT.2.1 168 ((896 * (o % 128)) + i)
        refine T_goto 51 rfl (fun _ => rfl) ?_
        refine T_ret rfl (fun _ => rfl) ?_
        exact ⟨(mO m [(1, 0)] []), (m.2 168) ((896 * (o % 128)) + i), (Ty_mO hT rfl rfl ⟨⟨(by omega : (0 : Int) ≤ 0), (by omega : (0 : Int) ≤ 3)⟩, trivial⟩ trivial), (fr_m fr_0 rfl rfl), ⟨by omega, by omega⟩, rfl⟩
def fF_did : List Nat := [1]
def fA_did : List Nat := []
def Q_did (m : mR) (c : Nat → Option am_C) (N : Nat) (o : Int) (s : Int) : ag_Re af_T → Prop := fun R => ∃ (M : mR) (r : Int), Ty M ∧ fr fF_did fA_did m M ∧ ((-2147483648) ≤ r ∧ r ≤ 2147483647) ∧ R = (.inl (some (.int (i32 r))), (mhp M c, N), 0, 0)
set_option maxHeartbeats 3000000 in
theorem c_did (w : wX) (m : mR) (c : Nat → Option am_C) (N D : Nat) (hD : 2 ≤ D) (hT : Ty m) (o : Int) (s : Int) (qo : R32 o) (qs : R32 s) : TC w D 345 [.ref 189, .int (i32 o), .int (i32 s)] (mhp m c, N) (Q_did m c N o s) := by
  obtain ⟨D, rfl⟩ : ∃ k, D = k + 1 := ⟨D - 1, by omega⟩
  obtain ⟨qoa, qob⟩ := id qo
  obtain ⟨qsa, qsb⟩ := id qs
  have f27 : 0 ≤ m.1 27 ∧ m.1 27 ≤ 48 := hT.1 27
  refine Tc_of rfl ?_
  show TT w D pm_345 (0, [(0, .ref 189), (1, .int (i32 o)), (2, .int (i32 s))], [], (mhp (mO m [] []) c, N), 0, 0) (Q_did m c N o s)
  refine T_ld 1 (.ref 189) rfl (fun _ => rfl) ?_
  refine T_ld 2 (.int (i32 0)) rfl (fun _ => rfl) ?_
  refine T_pf (l' := [(1, 0)]) 5 0 rfl rfl rfl rfl rfl rfl ?_
  refine T_ld 6 (.ref 189) rfl (fun _ => rfl) ?_
  refine T_ld 7 (.int (i32 o)) rfl (fun _ => rfl) ?_
  refine T_call 10 343 [.ref 189, .int (i32 o)] [] rfl (fun _ => rfl) rfl (c_isOut w (mO m [(1, 0)] []) c N D (by omega) (Ty_mO hT rfl rfl ⟨⟨(by omega : (0 : Int) ≤ 0), (by omega : (0 : Int) ≤ 3)⟩, trivial⟩ trivial) o (r32 (by omega) (by omega))) (fun rr1 k2 => ?_)
  obtain ⟨x3, g4, h5, rfl⟩ := k2
  refine ⟨_, _, rfl, ?_⟩
  refine T_ns (st' := [.int (i32 x3)]) rfl ?_
  obtain ⟨g4a, g4b⟩ := g4
  replace h5 : x3 = 1 → 0 ≤ o ∧ o < (m.1 151) := h5
  refine T_if 55 13 rfl rfl rfl (r32 (by omega) (by omega)) (fun (h6 : x3 = 0) => ?_) (fun (h6 : ¬ (x3 = 0)) => ?_)
  · skip
    refine T_ld 56 (.int (i32 (-1))) rfl (fun _ => rfl) ?_
    refine T_ret rfl (fun _ => rfl) ?_
    exact ⟨(mO m [(1, 0)] []), (-1), (Ty_mO hT rfl rfl ⟨⟨(by omega : (0 : Int) ≤ 0), (by omega : (0 : Int) ≤ 3)⟩, trivial⟩ trivial), (fr_m fr_0 rfl rfl), ⟨by omega, by omega⟩, rfl⟩
  · skip
    refine T_ld 14 (.int (i32 s)) rfl (fun _ => rfl) ?_
    refine T_gf 18 (.int (i32 (m.1 27))) rfl rfl rfl rfl rfl rfl ?_
    refine T_call 21 305 [.int (i32 s), .int (i32 (m.1 27))] [] rfl (fun _ => rfl) rfl (c_in w (mO m [(1, 0)] []) c N D (by omega) (Ty_mO hT rfl rfl ⟨⟨(by omega : (0 : Int) ≤ 0), (by omega : (0 : Int) ≤ 3)⟩, trivial⟩ trivial) s (m.1 27) (r32 (by omega) (by omega)) (r32 (by omega) (by omega))) (fun rr7 k8 => ?_)
    obtain ⟨x9, g10, h11, rfl⟩ := k8
    refine ⟨_, _, rfl, ?_⟩
    refine T_ns (st' := [.int (i32 x9)]) rfl ?_
    obtain ⟨g10a, g10b⟩ := g10
    replace h11 : x9 = 1 ↔ (0 ≤ s ∧ s < (m.1 27)) := h11
    refine T_if 55 24 rfl rfl rfl (r32 (by omega) (by omega)) (fun (h12 : x9 = 0) => ?_) (fun (h12 : ¬ (x9 = 0)) => ?_)
    · skip
      refine T_ld 56 (.int (i32 (-1))) rfl (fun _ => rfl) ?_
      refine T_ret rfl (fun _ => rfl) ?_
      exact ⟨(mO m [(1, 0)] []), (-1), (Ty_mO hT rfl rfl ⟨⟨(by omega : (0 : Int) ≤ 0), (by omega : (0 : Int) ≤ 3)⟩, trivial⟩ trivial), (fr_m fr_0 rfl rfl), ⟨by omega, by omega⟩, rfl⟩
    · skip
      refine T_gf 28 (.ref 312) rfl rfl rfl rfl rfl rfl ?_
      refine T_ld 29 (.int (i32 o)) rfl (fun _ => rfl) ?_
      refine T_ld 32 (.int (i32 128)) rfl (fun _ => rfl) ?_
      refine T_irem 33 rfl rfl (by omega) (by omega) (by omega) (by omega) ?_
      refine T_iald 34 163 (m.2 163) rfl rfl rfl (by omega) (show (o % 128) < (128 : Int) by omega) rfl ?_
      have e13 : 0 ≤ m.2 163 (o % 128) ∧ m.2 163 (o % 128) ≤ 3 := hT.2.1 163 (o % 128)
      refine T_if 55 37 rfl rfl rfl (r32 (by omega) (by omega)) (fun (h14 : (m.2 163) (o % 128) ≠ 0) => ?_) (fun (h14 : ¬ ((m.2 163) (o % 128) ≠ 0)) => ?_)
      · skip
        refine T_ld 56 (.int (i32 (-1))) rfl (fun _ => rfl) ?_
        refine T_ret rfl (fun _ => rfl) ?_
        exact ⟨(mO m [(1, 0)] []), (-1), (Ty_mO hT rfl rfl ⟨⟨(by omega : (0 : Int) ≤ 0), (by omega : (0 : Int) ≤ 3)⟩, trivial⟩ trivial), (fr_m fr_0 rfl rfl), ⟨by omega, by omega⟩, rfl⟩
      · skip
        refine T_gf 41 (.ref 318) rfl rfl rfl rfl rfl rfl ?_
        refine T_ld 43 (.int (i32 48)) rfl (fun _ => rfl) ?_
        refine T_ld 44 (.int (i32 o)) rfl (fun _ => rfl) ?_
        refine T_ld 47 (.int (i32 128)) rfl (fun _ => rfl) ?_
        refine T_irem 48 rfl rfl (by omega) (by omega) (by omega) (by omega) ?_
        refine T_imul 49 rfl rfl ?_
        refine T_ld 50 (.int (i32 s)) rfl (fun _ => rfl) ?_
        refine T_iadd 51 rfl rfl ?_
        refine T_iald 52 169 (m.2 169) rfl rfl rfl (by omega) (show ((48 * (o % 128)) + s) < (6144 : Int) by omega) rfl ?_
        have e15 : (-2147483648) ≤ m.2 169 ((48 * (o % 128)) + s) ∧ m.2 169 ((48 * (o % 128)) + s) ≤ 2147483647 := hT.2.1 169 ((48 * (o % 128)) + s)
        refine T_goto 56 rfl (fun _ => rfl) ?_
        refine T_ret rfl (fun _ => rfl) ?_
        exact ⟨(mO m [(1, 0)] []), (m.2 169) ((48 * (o % 128)) + s), (Ty_mO hT rfl rfl ⟨⟨(by omega : (0 : Int) ≤ 0), (by omega : (0 : Int) ≤ 3)⟩, trivial⟩ trivial), (fr_m fr_0 rfl rfl), ⟨by omega, by omega⟩, rfl⟩
def fF_word : List Nat := [1]
def fA_word : List Nat := []
def Q_word (m : mR) (c : Nat → Option am_C) (N : Nat) (a : Int) (i : Int) : ag_Re af_T → Prop := fun R => ∃ (M : mR) (r : Int), Ty M ∧ fr fF_word fA_word m M ∧ ((-9223372036854775808) ≤ r ∧ r ≤ 9223372036854775807) ∧ R = (.inl (some (.long (i64 r))), (mhp M c, N), 0, 0)
set_option maxHeartbeats 3000000 in
theorem c_word (w : wX) (m : mR) (c : Nat → Option am_C) (N D : Nat) (hD : 2 ≤ D) (hT : Ty m) (a : Int) (i : Int) (qa : R32 a) (qi : R32 i) : TC w D 346 [.ref 189, .int (i32 a), .int (i32 i)] (mhp m c, N) (Q_word m c N a i) := by
  obtain ⟨D, rfl⟩ : ∃ k, D = k + 1 := ⟨D - 1, by omega⟩
  obtain ⟨qaa, qab⟩ := id qa
  obtain ⟨qia, qib⟩ := id qi
  have f1 : 0 ≤ m.1 1 ∧ m.1 1 ≤ 3 := hT.1 1
  have f151 : 0 ≤ m.1 151 ∧ m.1 151 ≤ 1000000 := hT.1 151
  have f150 : 0 ≤ m.1 150 ∧ m.1 150 ≤ 1000000 := hT.1 150
  have f127 : 0 ≤ m.1 127 ∧ m.1 127 ≤ 1 := hT.1 127
  have f22 : 0 ≤ m.1 22 ∧ m.1 22 ≤ 8 := hT.1 22
  refine Tc_of rfl ?_
  show TT w D pm_346 (0, [(0, .ref 189), (1, .int (i32 a)), (2, .int (i32 i))], [], (mhp (mO m [] []) c, N), 0, 0) (Q_word m c N a i)
  refine T_ld 1 (.ref 189) rfl (fun _ => rfl) ?_
  refine T_gf 5 (.int (i32 (m.1 151))) rfl rfl rfl rfl rfl rfl ?_
  refine T_gf 9 (.int (i32 (m.1 150))) rfl rfl rfl rfl rfl rfl ?_
  refine T_icmp 16 12 rfl rfl rfl (r32 (by omega) (by omega)) (r32 (by omega) (by omega)) (fun (h1 : (m.1 150) ≤ (m.1 151)) => ?_) (fun (h1 : ¬ ((m.1 150) ≤ (m.1 151))) => ?_)
  · skip
    refine T_ld 17 (.int (i32 0)) rfl (fun _ => rfl) ?_
    refine T_pf (l' := [(1, 0)]) 20 0 rfl rfl rfl rfl rfl rfl ?_
    refine T_gf 24 (.int (i32 0)) rfl rfl rfl rfl rfl rfl ?_
    refine T_if 73 27 rfl rfl rfl ⟨by decide, by decide⟩ (fun h2 => absurd (show (0 : Int) ≠ 0 from h2) (by decide)) (fun _ => ?_)
    refine T_gf 31 (.int (i32 (m.1 127))) rfl rfl rfl rfl rfl rfl ?_
    refine T_if 73 34 rfl rfl rfl (r32 (by omega) (by omega)) (fun (h3 : (m.1 127) = 0) => ?_) (fun (h3 : ¬ ((m.1 127) = 0)) => ?_)
    · skip
      refine T_ld 74 (.long (i64 0)) rfl (fun _ => rfl) ?_
      refine T_ret rfl (fun _ => rfl) ?_
      exact ⟨(mO m [(1, 0)] []), 0, (Ty_mO hT rfl rfl ⟨⟨(by omega : (0 : Int) ≤ 0), (by omega : (0 : Int) ≤ 3)⟩, trivial⟩ trivial), (fr_m fr_0 rfl rfl), ⟨by omega, by omega⟩, rfl⟩
    · skip
      refine T_ld 35 (.int (i32 a)) rfl (fun _ => rfl) ?_
      refine T_gf 39 (.int (i32 (m.1 22))) rfl rfl rfl rfl rfl rfl ?_
      refine T_call 42 305 [.int (i32 a), .int (i32 (m.1 22))] [] rfl (fun _ => rfl) rfl (c_in w (mO m [(1, 0)] []) c N D (by omega) (Ty_mO hT rfl rfl ⟨⟨(by omega : (0 : Int) ≤ 0), (by omega : (0 : Int) ≤ 3)⟩, trivial⟩ trivial) a (m.1 22) (r32 (by omega) (by omega)) (r32 (by omega) (by omega))) (fun rr4 k5 => ?_)
      obtain ⟨x6, g7, h8, rfl⟩ := k5
      refine ⟨_, _, rfl, ?_⟩
      refine T_ns (st' := [.int (i32 x6)]) rfl ?_
      obtain ⟨g7a, g7b⟩ := g7
      replace h8 : x6 = 1 ↔ (0 ≤ a ∧ a < (m.1 22)) := h8
      refine T_if 73 45 rfl rfl rfl (r32 (by omega) (by omega)) (fun (h9 : x6 = 0) => ?_) (fun (h9 : ¬ (x6 = 0)) => ?_)
      · skip
        refine T_ld 74 (.long (i64 0)) rfl (fun _ => rfl) ?_
        refine T_ret rfl (fun _ => rfl) ?_
        exact ⟨(mO m [(1, 0)] []), 0, (Ty_mO hT rfl rfl ⟨⟨(by omega : (0 : Int) ≤ 0), (by omega : (0 : Int) ≤ 3)⟩, trivial⟩ trivial), (fr_m fr_0 rfl rfl), ⟨by omega, by omega⟩, rfl⟩
      · skip
        refine T_ld 46 (.int (i32 i)) rfl (fun _ => rfl) ?_
        refine T_if 73 49 rfl rfl rfl (r32 (by omega) (by omega)) (fun (h10 : i < 0) => ?_) (fun (h10 : ¬ (i < 0)) => ?_)
        · skip
          refine T_ld 74 (.long (i64 0)) rfl (fun _ => rfl) ?_
          refine T_ret rfl (fun _ => rfl) ?_
          exact ⟨(mO m [(1, 0)] []), 0, (Ty_mO hT rfl rfl ⟨⟨(by omega : (0 : Int) ≤ 0), (by omega : (0 : Int) ≤ 3)⟩, trivial⟩ trivial), (fr_m fr_0 rfl rfl), ⟨by omega, by omega⟩, rfl⟩
        · skip
          refine T_ld 50 (.int (i32 i)) rfl (fun _ => rfl) ?_
          refine T_gf 54 (.ref 255) rfl rfl rfl rfl rfl rfl ?_
          refine T_ld 55 (.int (i32 a)) rfl (fun _ => rfl) ?_
          refine T_iald 56 93 (m.2 93) rfl rfl rfl (by omega) (show a < (8 : Int) by omega) rfl ?_
          have e11 : 0 ≤ m.2 93 a ∧ m.2 93 a ≤ 64 := hT.2.1 93 a
          refine T_icmp 73 59 rfl rfl rfl (r32 (by omega) (by omega)) (r32 (by omega) (by omega)) (fun (h12 : (m.2 93) a ≤ i) => ?_) (fun (h12 : ¬ ((m.2 93) a ≤ i)) => ?_)
          · skip
            refine T_ld 74 (.long (i64 0)) rfl (fun _ => rfl) ?_
            refine T_ret rfl (fun _ => rfl) ?_
            exact ⟨(mO m [(1, 0)] []), 0, (Ty_mO hT rfl rfl ⟨⟨(by omega : (0 : Int) ≤ 0), (by omega : (0 : Int) ≤ 3)⟩, trivial⟩ trivial), (fr_m fr_0 rfl rfl), ⟨by omega, by omega⟩, rfl⟩
          · skip
            refine T_gf 63 (.ref 292) rfl rfl rfl rfl rfl rfl ?_
            refine T_ld 65 (.int (i32 64)) rfl (fun _ => rfl) ?_
            refine T_ld 66 (.int (i32 a)) rfl (fun _ => rfl) ?_
            refine T_imul 67 rfl rfl ?_
            refine T_ld 68 (.int (i32 i)) rfl (fun _ => rfl) ?_
            refine T_iadd 69 rfl rfl ?_
            refine T_lald 70 138 (m.2 138) rfl rfl rfl (by omega) (show ((64 * a) + i) < (512 : Int) by omega) rfl ?_
            have e13 : (-9223372036854775808) ≤ m.2 138 ((64 * a) + i) ∧ m.2 138 ((64 * a) + i) ≤ 9223372036854775807 := hT.2.1 138 ((64 * a) + i)
            refine T_goto 74 rfl (fun _ => rfl) ?_
            refine T_ret rfl (fun _ => rfl) ?_
            exact ⟨(mO m [(1, 0)] []), (m.2 138) ((64 * a) + i), (Ty_mO hT rfl rfl ⟨⟨(by omega : (0 : Int) ≤ 0), (by omega : (0 : Int) ≤ 3)⟩, trivial⟩ trivial), (fr_m fr_0 rfl rfl), ⟨by omega, by omega⟩, rfl⟩
  · skip
    refine T_ld 13 (.int (i32 1)) rfl (fun _ => rfl) ?_
    refine T_goto 17 rfl (fun _ => rfl) ?_
    refine T_pf (l' := [(1, 1)]) 20 1 rfl rfl rfl rfl rfl rfl ?_
    refine T_gf 24 (.int (i32 1)) rfl rfl rfl rfl rfl rfl ?_
    refine T_if 73 27 rfl rfl rfl ⟨by decide, by decide⟩ (fun _ => ?_) (fun h14 => absurd (show (1 : Int) ≠ 0 by decide) h14)
    refine T_ld 74 (.long (i64 0)) rfl (fun _ => rfl) ?_
    refine T_ret rfl (fun _ => rfl) ?_
    exact ⟨(mO m [(1, 1)] []), 0, (Ty_mO hT rfl rfl ⟨⟨(by omega : (0 : Int) ≤ 1), (by omega : (1 : Int) ≤ 3)⟩, trivial⟩ trivial), (fr_m fr_0 rfl rfl), ⟨by omega, by omega⟩, rfl⟩
def fF_entries : List Nat := [1]
def fA_entries : List Nat := [170]
def Q_entries (m : mR) (c : Nat → Option am_C) (N : Nat) (t : Int) (u : Int) : ag_Re af_T → Prop := fun R => ∃ (M : mR) (r : Int), Ty M ∧ fr fF_entries fA_entries m M ∧ ((-2147483648) ≤ r ∧ r ≤ 2147483647) ∧ R = (.inl (some (.int (i32 r))), (mhp M c, N), 0, 0)
set_option maxHeartbeats 3000000 in
theorem c_entries (w : wX) (m : mR) (c : Nat → Option am_C) (N D : Nat) (hD : 4 ≤ D) (hT : Ty m) (t : Int) (u : Int) (qt : R32 t) (qu : R32 u) (wCN : (m.1 127) = 1 → CN (m.2 65) (m.2 67) (m.1 28)) (wSO : (m.1 127) = 1 → SOp (m.2 38) (m.1 23) (m.1 24)) (wSt : (m.1 127) = 1 → StP (m.2 65) (m.1 28) (m.1 23) (m.1 24) (m.2 42) (m.2 95) (m.2 96) (m.2 44) (m.2 45)) (wTd : (m.1 127) = 1 → TdP (m.2 65) (m.1 28) (m.1 22) (m.1 99) (m.2 101) (m.2 103) (m.2 105) (m.2 106) (m.2 107) (m.2 108)) (wAc : (m.1 127) = 1 → AcP (m.1 25) (m.1 99) (m.2 109) (m.2 50)) (wTb : (m.1 127) = 1 → TbP (m.2 65) (m.1 28) (m.1 25) (m.1 26) (m.2 51) (m.2 110) (m.2 111) (m.2 57) (m.2 53) (m.2 114) (m.2 58) (m.2 54)) (wIN : (m.1 127) = 1 → ∀ k, 0 ≤ k → k < (m.1 20) → (m.2 34) k < (m.1 19)) (wHO : (m.1 127) = 1 → ∀ g, 0 ≤ g → g < (m.1 19) → (m.2 30) g ≤ 512) (wAR : (m.1 127) = 1 → ∀ k, 0 ≤ k → k < (m.1 22) → 1 ≤ (m.2 93) k ∧ 1 ≤ (m.2 36) k) (wSp : (m.1 127) = 1 → SpP (m.2 65) (m.1 28) (m.1 99) (m.1 26) (m.1 27) (m.2 60) (m.2 61) (m.2 120) (m.2 121) (m.2 122) (m.2 63)) (wEM : (m.1 127) = 1 → ∀ j, 0 ≤ j → j < (m.1 125) → (m.2 124) j < (m.1 20)) (wNA : (m.1 127) = 1 → ∀ q, 0 ≤ q → q < (m.1 24) → 0 < (m.2 41) q ∨ NR (m.2 44) (m.2 38) (m.2 42) (m.2 45) (m.2 41) (m.1 24) q) (p12 : (m.1 127) = 0 ∨ (m.1 127) = 1) : TC w D 347 [.ref 189, .int (i32 t), .int (i32 u)] (mhp m c, N) (Q_entries m c N t u) := by
  obtain ⟨D, rfl⟩ : ∃ k, D = k + 1 := ⟨D - 1, by omega⟩
  obtain ⟨qta, qtb⟩ := id qt
  obtain ⟨qua, qub⟩ := id qu
  have f1 : 0 ≤ m.1 1 ∧ m.1 1 ≤ 3 := hT.1 1
  have f25 : 0 ≤ m.1 25 ∧ m.1 25 ≤ 16 := hT.1 25
  have f22 : 0 ≤ m.1 22 ∧ m.1 22 ≤ 8 := hT.1 22
  have f24 : 0 ≤ m.1 24 ∧ m.1 24 ≤ 16 := hT.1 24
  have f125 : 0 ≤ m.1 125 ∧ m.1 125 ≤ 12 := hT.1 125
  have f19 : 0 ≤ m.1 19 ∧ m.1 19 ≤ 12 := hT.1 19
  have f20 : 0 ≤ m.1 20 ∧ m.1 20 ≤ 12 := hT.1 20
  have f127 : 0 ≤ m.1 127 ∧ m.1 127 ≤ 1 := hT.1 127
  have f28 : 0 ≤ m.1 28 ∧ m.1 28 ≤ 800 := hT.1 28
  have f23 : 0 ≤ m.1 23 ∧ m.1 23 ≤ 16 := hT.1 23
  have f27 : 0 ≤ m.1 27 ∧ m.1 27 ≤ 48 := hT.1 27
  have f26 : 0 ≤ m.1 26 ∧ m.1 26 ≤ 8 := hT.1 26
  have f99 : 0 ≤ m.1 99 ∧ m.1 99 ≤ 240 := hT.1 99
  have f151 : 0 ≤ m.1 151 ∧ m.1 151 ≤ 1000000 := hT.1 151
  have f150 : 0 ≤ m.1 150 ∧ m.1 150 ≤ 1000000 := hT.1 150
  refine Tc_of rfl ?_
  show TT w D pm_347 (0, [(0, .ref 189), (1, .int (i32 t)), (2, .int (i32 u))], [], (mhp (mO m [] []) c, N), 0, 0) (Q_entries m c N t u)
  refine T_ld 1 (.ref 189) rfl (fun _ => rfl) ?_
  refine T_gf 5 (.int (i32 (m.1 151))) rfl rfl rfl rfl rfl rfl ?_
  refine T_gf 9 (.int (i32 (m.1 150))) rfl rfl rfl rfl rfl rfl ?_
  refine T_icmp 16 12 rfl rfl rfl (r32 (by omega) (by omega)) (r32 (by omega) (by omega)) (fun (h1 : (m.1 150) ≤ (m.1 151)) => ?_) (fun (h1 : ¬ ((m.1 150) ≤ (m.1 151))) => ?_)
  · skip
    refine T_ld 17 (.int (i32 0)) rfl (fun _ => rfl) ?_
    refine T_pf (l' := [(1, 0)]) 20 0 rfl rfl rfl rfl rfl rfl ?_
    refine T_gf 24 (.int (i32 0)) rfl rfl rfl rfl rfl rfl ?_
    refine T_if 29 27 rfl rfl rfl ⟨by decide, by decide⟩ (fun _ => ?_) (fun h2 => absurd (show (0 : Int) ≤ 0 by decide) h2)
    refine T_gf 33 (.int (i32 (m.1 127))) rfl rfl rfl rfl rfl rfl ?_
    refine T_if 47 36 rfl rfl rfl (r32 (by omega) (by omega)) (fun (h3 : (m.1 127) = 0) => ?_) (fun (h3 : ¬ ((m.1 127) = 0)) => ?_)
    · skip
      refine T_ld 48 (.int (i32 (-1))) rfl (fun _ => rfl) ?_
      refine T_ret rfl (fun _ => rfl) ?_
      exact ⟨(mO m [(1, 0)] []), (-1), (Ty_mO hT rfl rfl ⟨⟨(by omega : (0 : Int) ≤ 0), (by omega : (0 : Int) ≤ 3)⟩, trivial⟩ trivial), (fr_m fr_0 rfl rfl), ⟨by omega, by omega⟩, rfl⟩
    · skip
      refine T_ld 37 (.int (i32 t)) rfl (fun _ => rfl) ?_
      refine T_gf 41 (.int (i32 (m.1 26))) rfl rfl rfl rfl rfl rfl ?_
      refine T_call 44 305 [.int (i32 t), .int (i32 (m.1 26))] [] rfl (fun _ => rfl) rfl (c_in w (mO m [(1, 0)] []) c N D (by omega) (Ty_mO hT rfl rfl ⟨⟨(by omega : (0 : Int) ≤ 0), (by omega : (0 : Int) ≤ 3)⟩, trivial⟩ trivial) t (m.1 26) (r32 (by omega) (by omega)) (r32 (by omega) (by omega))) (fun rr4 k5 => ?_)
      obtain ⟨x6, g7, h8, rfl⟩ := k5
      refine ⟨_, _, rfl, ?_⟩
      refine T_ns (st' := [.int (i32 x6)]) rfl ?_
      obtain ⟨g7a, g7b⟩ := g7
      replace h8 : x6 = 1 ↔ (0 ≤ t ∧ t < (m.1 26)) := h8
      refine T_if 49 47 rfl rfl rfl (r32 (by omega) (by omega)) (fun (h9 : x6 ≠ 0) => ?_) (fun (h9 : ¬ (x6 ≠ 0)) => ?_)
      · skip
        have hCN := wCN (by omega)
        have pSO := wSO (by omega)
        have pSt := wSt (by omega)
        have pTd := wTd (by omega)
        have pAc := wAc (by omega)
        have pTb := wTb (by omega)
        have pIN := wIN (by omega)
        have pHO := wHO (by omega)
        have pAR := wAR (by omega)
        have pSp := wSp (by omega)
        have hEM := wEM (by omega)
        have hNA := wNA (by omega)
        refine T_ld 50 (.int (i32 u)) rfl (fun _ => rfl) ?_
        refine T_if 62 53 rfl rfl rfl (r32 (by omega) (by omega)) (fun (h10 : u ≠ 0) => ?_) (fun (h10 : ¬ (u ≠ 0)) => ?_)
        · skip
          refine T_ld 63 (.int (i32 u)) rfl (fun _ => rfl) ?_
          refine T_ld 64 (.int (i32 1)) rfl (fun _ => rfl) ?_
          refine T_icmp 75 67 rfl rfl rfl (r32 (by omega) (by omega)) ⟨by decide, by decide⟩ (fun (h11 : u ≠ 1) => ?_) (fun (h11 : ¬ (u ≠ 1)) => ?_)
          · skip
            refine T_ld 76 (.int (i32 (-1))) rfl (fun _ => rfl) ?_
            refine T_ret rfl (fun _ => rfl) ?_
            exact ⟨(mO m [(1, 0)] []), (-1), (Ty_mO hT rfl rfl ⟨⟨(by omega : (0 : Int) ≤ 0), (by omega : (0 : Int) ≤ 3)⟩, trivial⟩ trivial), (fr_m fr_0 rfl rfl), ⟨by omega, by omega⟩, rfl⟩
          · skip
            refine T_ld 68 (.ref 189) rfl (fun _ => rfl) ?_
            refine T_ld 69 (.int (i32 t)) rfl (fun _ => rfl) ?_
            refine T_call 72 321 [.ref 189, .int (i32 t)] [] rfl (fun _ => rfl) rfl (c_above w (mO m [(1, 0)] []) c N D (by omega) (Ty_mO hT rfl rfl ⟨⟨(by omega : (0 : Int) ≤ 0), (by omega : (0 : Int) ≤ 3)⟩, trivial⟩ trivial) t (r32 (by omega) (by omega)) (show 0 ≤ t ∧ t ≤ 7 by omega) (show t < (m.1 26) by omega) (show TbP (m.2 65) (m.1 28) (m.1 25) (m.1 26) (m.2 51) (m.2 110) (m.2 111) (m.2 57) (m.2 53) (m.2 114) (m.2 58) (m.2 54) by exact pTb)) (fun rr12 k13 => ?_)
            obtain ⟨m14, ab, Tm14, Fm14, g15, h16, rfl⟩ := k13
            refine ⟨_, _, rfl, ?_⟩
            refine T_nb (st' := [.int (i32 ab)]) rfl ?_
            obtain ⟨g15a, g15b⟩ := g15
            replace h16 : (m.2 58) t = 1 → (m.2 139) t ≤ 16 * (m.2 55) t + ab := h16
            refine T_goto 76 rfl (fun _ => rfl) ?_
            refine T_ret rfl (fun _ => rfl) ?_
            exact ⟨(mO m14 [] []), ab, Tm14, (fr_m (fr_s Fm14 (fr_m fr_0 rfl rfl) rfl rfl) rfl rfl), ⟨by omega, by omega⟩, rfl⟩
        · skip
          refine T_gf 57 (.ref 293) rfl rfl rfl rfl rfl rfl ?_
          refine T_ld 58 (.int (i32 t)) rfl (fun _ => rfl) ?_
          refine T_iald 59 139 (m.2 139) rfl rfl rfl (by omega) (show t < (8 : Int) by omega) rfl ?_
          have e17 : 0 ≤ m.2 139 t ∧ m.2 139 t ≤ 96 := hT.2.1 139 t
          refine T_goto 76 rfl (fun _ => rfl) ?_
          refine T_ret rfl (fun _ => rfl) ?_
          exact ⟨(mO m [(1, 0)] []), (m.2 139) t, (Ty_mO hT rfl rfl ⟨⟨(by omega : (0 : Int) ≤ 0), (by omega : (0 : Int) ≤ 3)⟩, trivial⟩ trivial), (fr_m fr_0 rfl rfl), ⟨by omega, by omega⟩, rfl⟩
      · skip
        refine T_ld 48 (.int (i32 (-1))) rfl (fun _ => rfl) ?_
        refine T_ret rfl (fun _ => rfl) ?_
        exact ⟨(mO m [(1, 0)] []), (-1), (Ty_mO hT rfl rfl ⟨⟨(by omega : (0 : Int) ≤ 0), (by omega : (0 : Int) ≤ 3)⟩, trivial⟩ trivial), (fr_m fr_0 rfl rfl), ⟨by omega, by omega⟩, rfl⟩
  · skip
    refine T_ld 13 (.int (i32 1)) rfl (fun _ => rfl) ?_
    refine T_goto 17 rfl (fun _ => rfl) ?_
    refine T_pf (l' := [(1, 1)]) 20 1 rfl rfl rfl rfl rfl rfl ?_
    refine T_gf 24 (.int (i32 1)) rfl rfl rfl rfl rfl rfl ?_
    refine T_if 29 27 rfl rfl rfl ⟨by decide, by decide⟩ (fun h18 => absurd (show (1 : Int) ≤ 0 from h18) (by decide)) (fun _ => ?_)
    refine T_ld 28 (.int (i32 0)) rfl (fun _ => rfl) ?_
    refine T_ret rfl (fun _ => rfl) ?_
    exact ⟨(mO m [(1, 1)] []), 0, (Ty_mO hT rfl rfl ⟨⟨(by omega : (0 : Int) ≤ 1), (by omega : (1 : Int) ≤ 3)⟩, trivial⟩ trivial), (fr_m fr_0 rfl rfl), ⟨by omega, by omega⟩, rfl⟩
def fF_count : List Nat := [1]
def fA_count : List Nat := []
def Q_count (m : mR) (c : Nat → Option am_C) (N : Nat) (u : Int) : ag_Re af_T → Prop := fun R => ∃ (M : mR) (r : Int), Ty M ∧ fr fF_count fA_count m M ∧ ((-2147483648) ≤ r ∧ r ≤ 2147483647) ∧ R = (.inl (some (.int (i32 r))), (mhp M c, N), 0, 0)
set_option maxHeartbeats 3000000 in
theorem c_count (w : wX) (m : mR) (c : Nat → Option am_C) (N D : Nat) (hD : 1 ≤ D) (hT : Ty m) (u : Int) (qu : R32 u) : TC w D 348 [.ref 189, .int (i32 u)] (mhp m c, N) (Q_count m c N u) := by
  obtain ⟨D, rfl⟩ : ∃ k, D = k + 1 := ⟨D - 1, by omega⟩
  obtain ⟨qua, qub⟩ := id qu
  have f148 : 0 ≤ m.1 148 ∧ m.1 148 ≤ 1000000 := hT.1 148
  have f149 : 0 ≤ m.1 149 ∧ m.1 149 ≤ 40 := hT.1 149
  have f150 : 0 ≤ m.1 150 ∧ m.1 150 ≤ 1000000 := hT.1 150
  have f151 : 0 ≤ m.1 151 ∧ m.1 151 ≤ 1000000 := hT.1 151
  have f152 : 0 ≤ m.1 152 ∧ m.1 152 ≤ 100000000 := hT.1 152
  have f128 : 0 ≤ m.1 128 ∧ m.1 128 ≤ 1 := hT.1 128
  have f129 : 0 ≤ m.1 129 ∧ m.1 129 ≤ 12 := hT.1 129
  refine Tc_of rfl ?_
  show TT w D pm_348 (0, [(0, .ref 189), (1, .int (i32 u))], [], (mhp (mO m [] []) c, N), 0, 0) (Q_count m c N u)
  refine T_ld 1 (.ref 189) rfl (fun _ => rfl) ?_
  refine T_ld 2 (.int (i32 0)) rfl (fun _ => rfl) ?_
  refine T_pf (l' := [(1, 0)]) 5 0 rfl rfl rfl rfl rfl rfl ?_
  refine T_ld 6 (.int (i32 u)) rfl (fun _ => rfl) ?_
  by_cases h1 : u = 0
  · skip
    refine T_cast 0 h1 ?_
    refine T_pop 44 rfl (fun _ => rfl) ?_
    refine T_gf 48 (.int (i32 (m.1 148))) rfl rfl rfl rfl rfl rfl ?_
    refine T_ret rfl (fun _ => rfl) ?_
    exact ⟨(mO m [(1, 0)] []), (m.1 148), (Ty_mO hT rfl rfl ⟨⟨(by omega : (0 : Int) ≤ 0), (by omega : (0 : Int) ≤ 3)⟩, trivial⟩ trivial), (fr_m fr_0 rfl rfl), ⟨by omega, by omega⟩, rfl⟩
  by_cases h2 : u = 1
  · skip
    refine T_cast 1 h2 ?_
    refine T_pop 49 rfl (fun _ => rfl) ?_
    refine T_gf 53 (.int (i32 (m.1 149))) rfl rfl rfl rfl rfl rfl ?_
    refine T_ret rfl (fun _ => rfl) ?_
    exact ⟨(mO m [(1, 0)] []), (m.1 149), (Ty_mO hT rfl rfl ⟨⟨(by omega : (0 : Int) ≤ 0), (by omega : (0 : Int) ≤ 3)⟩, trivial⟩ trivial), (fr_m fr_0 rfl rfl), ⟨by omega, by omega⟩, rfl⟩
  by_cases h3 : u = 2
  · skip
    refine T_cast 2 h3 ?_
    refine T_pop 54 rfl (fun _ => rfl) ?_
    refine T_gf 58 (.int (i32 (m.1 150))) rfl rfl rfl rfl rfl rfl ?_
    refine T_gf 62 (.int (i32 (m.1 151))) rfl rfl rfl rfl rfl rfl ?_
    refine T_isub 63 rfl rfl ?_
    refine T_ret rfl (fun _ => rfl) ?_
    exact ⟨(mO m [(1, 0)] []), (m.1 150) - (m.1 151), (Ty_mO hT rfl rfl ⟨⟨(by omega : (0 : Int) ≤ 0), (by omega : (0 : Int) ≤ 3)⟩, trivial⟩ trivial), (fr_m fr_0 rfl rfl), ⟨by omega, by omega⟩, rfl⟩
  by_cases h4 : u = 3
  · skip
    refine T_cast 3 h4 ?_
    refine T_pop 64 rfl (fun _ => rfl) ?_
    refine T_gf 68 (.int (i32 (m.1 151))) rfl rfl rfl rfl rfl rfl ?_
    refine T_ret rfl (fun _ => rfl) ?_
    exact ⟨(mO m [(1, 0)] []), (m.1 151), (Ty_mO hT rfl rfl ⟨⟨(by omega : (0 : Int) ≤ 0), (by omega : (0 : Int) ≤ 3)⟩, trivial⟩ trivial), (fr_m fr_0 rfl rfl), ⟨by omega, by omega⟩, rfl⟩
  by_cases h5 : u = 4
  · skip
    refine T_cast 4 h5 ?_
    refine T_pop 69 rfl (fun _ => rfl) ?_
    refine T_gf 73 (.int (i32 (m.1 152))) rfl rfl rfl rfl rfl rfl ?_
    refine T_ret rfl (fun _ => rfl) ?_
    exact ⟨(mO m [(1, 0)] []), (m.1 152), (Ty_mO hT rfl rfl ⟨⟨(by omega : (0 : Int) ≤ 0), (by omega : (0 : Int) ≤ 3)⟩, trivial⟩ trivial), (fr_m fr_0 rfl rfl), ⟨by omega, by omega⟩, rfl⟩
  by_cases h6 : u = 5
  · skip
    refine T_cast 5 h6 ?_
    refine T_pop 74 rfl (fun _ => rfl) ?_
    refine T_gf 78 (.int (i32 (m.1 128))) rfl rfl rfl rfl rfl rfl ?_
    refine T_if 88 81 rfl rfl rfl (r32 (by omega) (by omega)) (fun (h7 : (m.1 128) = 0) => ?_) (fun (h7 : ¬ ((m.1 128) = 0)) => ?_)
    · skip
      refine T_ld 89 (.int (i32 0)) rfl (fun _ => rfl) ?_
      refine T_ret rfl (fun _ => rfl) ?_
      exact ⟨(mO m [(1, 0)] []), 0, (Ty_mO hT rfl rfl ⟨⟨(by omega : (0 : Int) ≤ 0), (by omega : (0 : Int) ≤ 3)⟩, trivial⟩ trivial), (fr_m fr_0 rfl rfl), ⟨by omega, by omega⟩, rfl⟩
    · skip
      refine T_gf 85 (.int (i32 (m.1 129))) rfl rfl rfl rfl rfl rfl ?_
      refine T_goto 89 rfl (fun _ => rfl) ?_
      refine T_ret rfl (fun _ => rfl) ?_
      exact ⟨(mO m [(1, 0)] []), (m.1 129), (Ty_mO hT rfl rfl ⟨⟨(by omega : (0 : Int) ≤ 0), (by omega : (0 : Int) ≤ 3)⟩, trivial⟩ trivial), (fr_m fr_0 rfl rfl), ⟨by omega, by omega⟩, rfl⟩
  refine T_tsd 90 rfl rfl (r32 (by omega) (by omega)) (by omega) ?_
  refine T_ld 91 (.int (i32 (-1))) rfl (fun _ => rfl) ?_
  refine T_ret rfl (fun _ => rfl) ?_
  exact ⟨(mO m [(1, 0)] []), (-1), (Ty_mO hT rfl rfl ⟨⟨(by omega : (0 : Int) ≤ 0), (by omega : (0 : Int) ≤ 3)⟩, trivial⟩ trivial), (fr_m fr_0 rfl rfl), ⟨by omega, by omega⟩, rfl⟩
def fF_homeless : List Nat := [1]
def fA_homeless : List Nat := []
def Q_homeless (m : mR) (c : Nat → Option am_C) (N : Nat) : ag_Re af_T → Prop := fun R => ∃ (M : mR) (r : Int), Ty M ∧ fr fF_homeless fA_homeless m M ∧ ((-2147483648) ≤ r ∧ r ≤ 2147483647) ∧ R = (.inl (some (.int (i32 r))), (mhp M c, N), 0, 0)
set_option maxHeartbeats 3000000 in
theorem c_homeless (w : wX) (m : mR) (c : Nat → Option am_C) (N D : Nat) (hD : 1 ≤ D) (hT : Ty m) : TC w D 303 [.ref 189] (mhp m c, N) (Q_homeless m c N) := by
  obtain ⟨D, rfl⟩ : ∃ k, D = k + 1 := ⟨D - 1, by omega⟩
  have f130 : (-1) ≤ m.1 130 ∧ m.1 130 ≤ 47 := hT.1 130
  refine Tc_of rfl ?_
  show TT w D pm_303 (0, [(0, .ref 189)], [], (mhp (mO m [] []) c, N), 0, 0) (Q_homeless m c N)
  refine T_ld 1 (.ref 189) rfl (fun _ => rfl) ?_
  refine T_ld 2 (.int (i32 0)) rfl (fun _ => rfl) ?_
  refine T_pf (l' := [(1, 0)]) 5 0 rfl rfl rfl rfl rfl rfl ?_
  refine T_gf 9 (.int (i32 (m.1 130))) rfl rfl rfl rfl rfl rfl ?_
  refine T_ret rfl (fun _ => rfl) ?_
  exact ⟨(mO m [(1, 0)] []), (m.1 130), (Ty_mO hT rfl rfl ⟨⟨(by omega : (0 : Int) ≤ 0), (by omega : (0 : Int) ≤ 3)⟩, trivial⟩ trivial), (fr_m fr_0 rfl rfl), ⟨by omega, by omega⟩, rfl⟩
def fF_step : List Nat := [1]
def fA_step : List Nat := []
def Q_step (m : mR) (c : Nat → Option am_C) (N : Nat) (s : Int) (u : Int) : ag_Re af_T → Prop := fun R => ∃ (M : mR) (r : Int), Ty M ∧ fr fF_step fA_step m M ∧ ((-2147483648) ≤ r ∧ r ≤ 2147483647) ∧ R = (.inl (some (.int (i32 r))), (mhp M c, N), 0, 0)
set_option maxHeartbeats 3000000 in
theorem c_step (w : wX) (m : mR) (c : Nat → Option am_C) (N D : Nat) (hD : 2 ≤ D) (hT : Ty m) (s : Int) (u : Int) (qs : R32 s) (qu : R32 u) : TC w D 304 [.ref 189, .int (i32 s), .int (i32 u)] (mhp m c, N) (Q_step m c N s u) := by
  obtain ⟨D, rfl⟩ : ∃ k, D = k + 1 := ⟨D - 1, by omega⟩
  obtain ⟨qsa, qsb⟩ := id qs
  obtain ⟨qua, qub⟩ := id qu
  have f127 : 0 ≤ m.1 127 ∧ m.1 127 ≤ 1 := hT.1 127
  have f27 : 0 ≤ m.1 27 ∧ m.1 27 ≤ 48 := hT.1 27
  have f128 : 0 ≤ m.1 128 ∧ m.1 128 ≤ 1 := hT.1 128
  refine Tc_of rfl ?_
  show TT w D pm_304 (0, [(0, .ref 189), (1, .int (i32 s)), (2, .int (i32 u))], [], (mhp (mO m [] []) c, N), 0, 0) (Q_step m c N s u)
  refine T_ld 1 (.ref 189) rfl (fun _ => rfl) ?_
  refine T_ld 2 (.int (i32 0)) rfl (fun _ => rfl) ?_
  refine T_pf (l' := [(1, 0)]) 5 0 rfl rfl rfl rfl rfl rfl ?_
  refine T_gf 9 (.int (i32 (m.1 127))) rfl rfl rfl rfl rfl rfl ?_
  refine T_if 23 12 rfl rfl rfl (r32 (by omega) (by omega)) (fun (h1 : (m.1 127) = 0) => ?_) (fun (h1 : ¬ ((m.1 127) = 0)) => ?_)
  · skip
    refine T_ld 24 (.int (i32 (-1))) rfl (fun _ => rfl) ?_
    refine T_ret rfl (fun _ => rfl) ?_
    exact ⟨(mO m [(1, 0)] []), (-1), (Ty_mO hT rfl rfl ⟨⟨(by omega : (0 : Int) ≤ 0), (by omega : (0 : Int) ≤ 3)⟩, trivial⟩ trivial), (fr_m fr_0 rfl rfl), ⟨by omega, by omega⟩, rfl⟩
  · skip
    refine T_ld 13 (.int (i32 s)) rfl (fun _ => rfl) ?_
    refine T_gf 17 (.int (i32 (m.1 27))) rfl rfl rfl rfl rfl rfl ?_
    refine T_call 20 305 [.int (i32 s), .int (i32 (m.1 27))] [] rfl (fun _ => rfl) rfl (c_in w (mO m [(1, 0)] []) c N D (by omega) (Ty_mO hT rfl rfl ⟨⟨(by omega : (0 : Int) ≤ 0), (by omega : (0 : Int) ≤ 3)⟩, trivial⟩ trivial) s (m.1 27) (r32 (by omega) (by omega)) (r32 (by omega) (by omega))) (fun rr2 k3 => ?_)
    obtain ⟨x4, g5, h6, rfl⟩ := k3
    refine ⟨_, _, rfl, ?_⟩
    refine T_ns (st' := [.int (i32 x4)]) rfl ?_
    obtain ⟨g5a, g5b⟩ := g5
    replace h6 : x4 = 1 ↔ (0 ≤ s ∧ s < (m.1 27)) := h6
    refine T_if 25 23 rfl rfl rfl (r32 (by omega) (by omega)) (fun (h7 : x4 ≠ 0) => ?_) (fun (h7 : ¬ (x4 ≠ 0)) => ?_)
    · skip
      refine T_ld 26 (.int (i32 u)) rfl (fun _ => rfl) ?_
      refine T_if 38 29 rfl rfl rfl (r32 (by omega) (by omega)) (fun (h8 : u ≠ 0) => ?_) (fun (h8 : ¬ (u ≠ 0)) => ?_)
      · skip
        refine T_ld 39 (.int (i32 u)) rfl (fun _ => rfl) ?_
        refine T_ld 40 (.int (i32 1)) rfl (fun _ => rfl) ?_
        refine T_icmp 63 43 rfl rfl rfl (r32 (by omega) (by omega)) ⟨by decide, by decide⟩ (fun (h9 : u ≠ 1) => ?_) (fun (h9 : ¬ (u ≠ 1)) => ?_)
        · skip
          refine T_ld 64 (.int (i32 u)) rfl (fun _ => rfl) ?_
          refine T_ld 65 (.int (i32 2)) rfl (fun _ => rfl) ?_
          refine T_icmp 77 68 rfl rfl rfl (r32 (by omega) (by omega)) ⟨by decide, by decide⟩ (fun (h10 : u ≠ 2) => ?_) (fun (h10 : ¬ (u ≠ 2)) => ?_)
          · skip
            refine T_ld 78 (.int (i32 (-1))) rfl (fun _ => rfl) ?_
            refine T_ret rfl (fun _ => rfl) ?_
            exact ⟨(mO m [(1, 0)] []), (-1), (Ty_mO hT rfl rfl ⟨⟨(by omega : (0 : Int) ≤ 0), (by omega : (0 : Int) ≤ 3)⟩, trivial⟩ trivial), (fr_m fr_0 rfl rfl), ⟨by omega, by omega⟩, rfl⟩
          · skip
            refine T_gf 72 (.ref 233) rfl rfl rfl rfl rfl rfl ?_
            refine T_ld 73 (.int (i32 s)) rfl (fun _ => rfl) ?_
            refine T_iald 74 63 (m.2 63) rfl rfl rfl (by omega) (show s < (48 : Int) by omega) rfl ?_
            have e11 : (-1) ≤ m.2 63 s ∧ m.2 63 s ≤ 7 := hT.2.1 63 s
            refine T_goto 78 rfl (fun _ => rfl) ?_
            refine T_ret rfl (fun _ => rfl) ?_
            exact ⟨(mO m [(1, 0)] []), (m.2 63) s, (Ty_mO hT rfl rfl ⟨⟨(by omega : (0 : Int) ≤ 0), (by omega : (0 : Int) ≤ 3)⟩, trivial⟩ trivial), (fr_m fr_0 rfl rfl), ⟨by omega, by omega⟩, rfl⟩
        · skip
          refine T_gf 47 (.int (i32 (m.1 128))) rfl rfl rfl rfl rfl rfl ?_
          refine T_if 59 50 rfl rfl rfl (r32 (by omega) (by omega)) (fun (h12 : (m.1 128) = 0) => ?_) (fun (h12 : ¬ ((m.1 128) = 0)) => ?_)
          · skip
            refine T_ld 60 (.int (i32 (-1))) rfl (fun _ => rfl) ?_
            refine T_goto 78 rfl (fun _ => rfl) ?_
            refine T_ret rfl (fun _ => rfl) ?_
            exact ⟨(mO m [(1, 0)] []), (-1), (Ty_mO hT rfl rfl ⟨⟨(by omega : (0 : Int) ≤ 0), (by omega : (0 : Int) ≤ 3)⟩, trivial⟩ trivial), (fr_m fr_0 rfl rfl), ⟨by omega, by omega⟩, rfl⟩
          · skip
            refine T_gf 54 (.ref 285) rfl rfl rfl rfl rfl rfl ?_
            refine T_ld 55 (.int (i32 s)) rfl (fun _ => rfl) ?_
            refine T_iald 56 131 (m.2 131) rfl rfl rfl (by omega) (show s < (48 : Int) by omega) rfl ?_
            have e13 : 0 ≤ m.2 131 s ∧ m.2 131 s ≤ 11 := hT.2.1 131 s
            refine T_goto 78 rfl (fun _ => rfl) ?_
            refine T_ret rfl (fun _ => rfl) ?_
            exact ⟨(mO m [(1, 0)] []), (m.2 131) s, (Ty_mO hT rfl rfl ⟨⟨(by omega : (0 : Int) ≤ 0), (by omega : (0 : Int) ≤ 3)⟩, trivial⟩ trivial), (fr_m fr_0 rfl rfl), ⟨by omega, by omega⟩, rfl⟩
      · skip
        refine T_gf 33 (.ref 230) rfl rfl rfl rfl rfl rfl ?_
        refine T_ld 34 (.int (i32 s)) rfl (fun _ => rfl) ?_
        refine T_iald 35 60 (m.2 60) rfl rfl rfl (by omega) (show s < (48 : Int) by omega) rfl ?_
        have e14 : 0 ≤ m.2 60 s ∧ m.2 60 s ≤ 2 := hT.2.1 60 s
        refine T_goto 78 rfl (fun _ => rfl) ?_
        refine T_ret rfl (fun _ => rfl) ?_
        exact ⟨(mO m [(1, 0)] []), (m.2 60) s, (Ty_mO hT rfl rfl ⟨⟨(by omega : (0 : Int) ≤ 0), (by omega : (0 : Int) ≤ 3)⟩, trivial⟩ trivial), (fr_m fr_0 rfl rfl), ⟨by omega, by omega⟩, rfl⟩
    · skip
      refine T_ld 24 (.int (i32 (-1))) rfl (fun _ => rfl) ?_
      refine T_ret rfl (fun _ => rfl) ?_
      exact ⟨(mO m [(1, 0)] []), (-1), (Ty_mO hT rfl rfl ⟨⟨(by omega : (0 : Int) ≤ 0), (by omega : (0 : Int) ≤ 3)⟩, trivial⟩ trivial), (fr_m fr_0 rfl rfl), ⟨by omega, by omega⟩, rfl⟩
def fF_stage : List Nat := [1]
def fA_stage : List Nat := []
def Q_stage (m : mR) (c : Nat → Option am_C) (N : Nat) (k : Int) (u : Int) : ag_Re af_T → Prop := fun R => ∃ (M : mR) (r : Int), Ty M ∧ fr fF_stage fA_stage m M ∧ ((-2147483648) ≤ r ∧ r ≤ 2147483647) ∧ R = (.inl (some (.int (i32 r))), (mhp M c, N), 0, 0)
set_option maxHeartbeats 3000000 in
theorem c_stage (w : wX) (m : mR) (c : Nat → Option am_C) (N D : Nat) (hD : 2 ≤ D) (hT : Ty m) (k : Int) (u : Int) (qk : R32 k) (qu : R32 u) : TC w D 306 [.ref 189, .int (i32 k), .int (i32 u)] (mhp m c, N) (Q_stage m c N k u) := by
  obtain ⟨D, rfl⟩ : ∃ k, D = k + 1 := ⟨D - 1, by omega⟩
  obtain ⟨qka, qkb⟩ := id qk
  obtain ⟨qua, qub⟩ := id qu
  have f128 : 0 ≤ m.1 128 ∧ m.1 128 ≤ 1 := hT.1 128
  have f129 : 0 ≤ m.1 129 ∧ m.1 129 ≤ 12 := hT.1 129
  refine Tc_of rfl ?_
  show TT w D pm_306 (0, [(0, .ref 189), (1, .int (i32 k)), (2, .int (i32 u))], [], (mhp (mO m [] []) c, N), 0, 0) (Q_stage m c N k u)
  refine T_ld 1 (.ref 189) rfl (fun _ => rfl) ?_
  refine T_ld 2 (.int (i32 0)) rfl (fun _ => rfl) ?_
  refine T_pf (l' := [(1, 0)]) 5 0 rfl rfl rfl rfl rfl rfl ?_
  refine T_gf 9 (.int (i32 (m.1 128))) rfl rfl rfl rfl rfl rfl ?_
  refine T_if 23 12 rfl rfl rfl (r32 (by omega) (by omega)) (fun (h1 : (m.1 128) = 0) => ?_) (fun (h1 : ¬ ((m.1 128) = 0)) => ?_)
  · skip
    refine T_ld 24 (.int (i32 (-1))) rfl (fun _ => rfl) ?_
    refine T_ret rfl (fun _ => rfl) ?_
    exact ⟨(mO m [(1, 0)] []), (-1), (Ty_mO hT rfl rfl ⟨⟨(by omega : (0 : Int) ≤ 0), (by omega : (0 : Int) ≤ 3)⟩, trivial⟩ trivial), (fr_m fr_0 rfl rfl), ⟨by omega, by omega⟩, rfl⟩
  · skip
    refine T_ld 13 (.int (i32 k)) rfl (fun _ => rfl) ?_
    refine T_gf 17 (.int (i32 (m.1 129))) rfl rfl rfl rfl rfl rfl ?_
    refine T_call 20 305 [.int (i32 k), .int (i32 (m.1 129))] [] rfl (fun _ => rfl) rfl (c_in w (mO m [(1, 0)] []) c N D (by omega) (Ty_mO hT rfl rfl ⟨⟨(by omega : (0 : Int) ≤ 0), (by omega : (0 : Int) ≤ 3)⟩, trivial⟩ trivial) k (m.1 129) (r32 (by omega) (by omega)) (r32 (by omega) (by omega))) (fun rr2 k3 => ?_)
    obtain ⟨x4, g5, h6, rfl⟩ := k3
    refine ⟨_, _, rfl, ?_⟩
    refine T_ns (st' := [.int (i32 x4)]) rfl ?_
    obtain ⟨g5a, g5b⟩ := g5
    replace h6 : x4 = 1 ↔ (0 ≤ k ∧ k < (m.1 129)) := h6
    refine T_if 25 23 rfl rfl rfl (r32 (by omega) (by omega)) (fun (h7 : x4 ≠ 0) => ?_) (fun (h7 : ¬ (x4 ≠ 0)) => ?_)
    · skip
      refine T_ld 26 (.int (i32 u)) rfl (fun _ => rfl) ?_
      refine T_if 38 29 rfl rfl rfl (r32 (by omega) (by omega)) (fun (h8 : u ≠ 0) => ?_) (fun (h8 : ¬ (u ≠ 0)) => ?_)
      · skip
        refine T_ld 39 (.int (i32 u)) rfl (fun _ => rfl) ?_
        refine T_ld 40 (.int (i32 1)) rfl (fun _ => rfl) ?_
        refine T_icmp 53 43 rfl rfl rfl (r32 (by omega) (by omega)) ⟨by decide, by decide⟩ (fun (h9 : u ≠ 1) => ?_) (fun (h9 : ¬ (u ≠ 1)) => ?_)
        · skip
          refine T_ld 54 (.int (i32 u)) rfl (fun _ => rfl) ?_
          refine T_ld 55 (.int (i32 2)) rfl (fun _ => rfl) ?_
          refine T_icmp 68 58 rfl rfl rfl (r32 (by omega) (by omega)) ⟨by decide, by decide⟩ (fun (h10 : u ≠ 2) => ?_) (fun (h10 : ¬ (u ≠ 2)) => ?_)
          · skip
            refine T_ld 69 (.int (i32 (-1))) rfl (fun _ => rfl) ?_
            refine T_ret rfl (fun _ => rfl) ?_
            exact ⟨(mO m [(1, 0)] []), (-1), (Ty_mO hT rfl rfl ⟨⟨(by omega : (0 : Int) ≤ 0), (by omega : (0 : Int) ≤ 3)⟩, trivial⟩ trivial), (fr_m fr_0 rfl rfl), ⟨by omega, by omega⟩, rfl⟩
          · skip
            refine T_gf 62 (.ref 288) rfl rfl rfl rfl rfl rfl ?_
            refine T_ld 63 (.int (i32 k)) rfl (fun _ => rfl) ?_
            refine T_lald 64 134 (m.2 134) rfl rfl rfl (by omega) (show k < (12 : Int) by omega) rfl ?_
            have e11 : 0 ≤ m.2 134 k ∧ m.2 134 k ≤ 200000 := hT.2.1 134 k
            refine T_l2i 65 rfl rfl ?_
            refine T_goto 69 rfl (fun _ => rfl) ?_
            refine T_ret rfl (fun _ => rfl) ?_
            exact ⟨(mO m [(1, 0)] []), (m.2 134) k, (Ty_mO hT rfl rfl ⟨⟨(by omega : (0 : Int) ≤ 0), (by omega : (0 : Int) ≤ 3)⟩, trivial⟩ trivial), (fr_m fr_0 rfl rfl), ⟨by omega, by omega⟩, rfl⟩
        · skip
          refine T_gf 47 (.ref 287) rfl rfl rfl rfl rfl rfl ?_
          refine T_ld 48 (.int (i32 k)) rfl (fun _ => rfl) ?_
          refine T_lald 49 133 (m.2 133) rfl rfl rfl (by omega) (show k < (12 : Int) by omega) rfl ?_
          have e12 : 0 ≤ m.2 133 k ∧ m.2 133 k ≤ 60000000 := hT.2.1 133 k
          refine T_l2i 50 rfl rfl ?_
          refine T_goto 69 rfl (fun _ => rfl) ?_
          refine T_ret rfl (fun _ => rfl) ?_
          exact ⟨(mO m [(1, 0)] []), (m.2 133) k, (Ty_mO hT rfl rfl ⟨⟨(by omega : (0 : Int) ≤ 0), (by omega : (0 : Int) ≤ 3)⟩, trivial⟩ trivial), (fr_m fr_0 rfl rfl), ⟨by omega, by omega⟩, rfl⟩
      · skip
        refine T_gf 33 (.ref 286) rfl rfl rfl rfl rfl rfl ?_
        refine T_ld 34 (.int (i32 k)) rfl (fun _ => rfl) ?_
        refine T_iald 35 132 (m.2 132) rfl rfl rfl (by omega) (show k < (12 : Int) by omega) rfl ?_
        have e13 : 0 ≤ m.2 132 k ∧ m.2 132 k ≤ 48 := hT.2.1 132 k
        refine T_goto 69 rfl (fun _ => rfl) ?_
        refine T_ret rfl (fun _ => rfl) ?_
        exact ⟨(mO m [(1, 0)] []), (m.2 132) k, (Ty_mO hT rfl rfl ⟨⟨(by omega : (0 : Int) ≤ 0), (by omega : (0 : Int) ≤ 3)⟩, trivial⟩ trivial), (fr_m fr_0 rfl rfl), ⟨by omega, by omega⟩, rfl⟩
    · skip
      refine T_ld 24 (.int (i32 (-1))) rfl (fun _ => rfl) ?_
      refine T_ret rfl (fun _ => rfl) ?_
      exact ⟨(mO m [(1, 0)] []), (-1), (Ty_mO hT rfl rfl ⟨⟨(by omega : (0 : Int) ≤ 0), (by omega : (0 : Int) ≤ 3)⟩, trivial⟩ trivial), (fr_m fr_0 rfl rfl), ⟨by omega, by omega⟩, rfl⟩
def fF_fault : List Nat := [1]
def fA_fault : List Nat := []
def Q_fault (m : mR) (c : Nat → Option am_C) (N : Nat) (u : Int) : ag_Re af_T → Prop := fun R => ∃ (M : mR) (r : Int), Ty M ∧ fr fF_fault fA_fault m M ∧ ((-2147483648) ≤ r ∧ r ≤ 2147483647) ∧ R = (.inl (some (.int (i32 r))), (mhp M c, N), 0, 0)
set_option maxHeartbeats 3000000 in
theorem c_fault (w : wX) (m : mR) (c : Nat → Option am_C) (N D : Nat) (hD : 1 ≤ D) (hT : Ty m) (u : Int) (qu : R32 u) : TC w D 287 [.ref 189, .int (i32 u)] (mhp m c, N) (Q_fault m c N u) := by
  obtain ⟨D, rfl⟩ : ∃ k, D = k + 1 := ⟨D - 1, by omega⟩
  obtain ⟨qua, qub⟩ := id qu
  have f10 : 0 ≤ m.1 10 ∧ m.1 10 ≤ 8 := hT.1 10
  have f11 : (-1) ≤ m.1 11 ∧ m.1 11 ≤ 4000 := hT.1 11
  refine Tc_of rfl ?_
  show TT w D pm_287 (0, [(0, .ref 189), (1, .int (i32 u))], [], (mhp (mO m [] []) c, N), 0, 0) (Q_fault m c N u)
  refine T_ld 1 (.ref 189) rfl (fun _ => rfl) ?_
  refine T_ld 2 (.int (i32 0)) rfl (fun _ => rfl) ?_
  refine T_pf (l' := [(1, 0)]) 5 0 rfl rfl rfl rfl rfl rfl ?_
  refine T_ld 6 (.int (i32 u)) rfl (fun _ => rfl) ?_
  refine T_if 16 9 rfl rfl rfl (r32 (by omega) (by omega)) (fun (h1 : u ≠ 0) => ?_) (fun (h1 : ¬ (u ≠ 0)) => ?_)
  · skip
    refine T_ld 17 (.int (i32 u)) rfl (fun _ => rfl) ?_
    refine T_ld 18 (.int (i32 1)) rfl (fun _ => rfl) ?_
    refine T_icmp 28 21 rfl rfl rfl (r32 (by omega) (by omega)) ⟨by decide, by decide⟩ (fun (h2 : u ≠ 1) => ?_) (fun (h2 : ¬ (u ≠ 1)) => ?_)
    · skip
      refine T_ld 29 (.int (i32 (-1))) rfl (fun _ => rfl) ?_
      refine T_ret rfl (fun _ => rfl) ?_
      exact ⟨(mO m [(1, 0)] []), (-1), (Ty_mO hT rfl rfl ⟨⟨(by omega : (0 : Int) ≤ 0), (by omega : (0 : Int) ≤ 3)⟩, trivial⟩ trivial), (fr_m fr_0 rfl rfl), ⟨by omega, by omega⟩, rfl⟩
    · skip
      refine T_gf 25 (.int (i32 (m.1 11))) rfl rfl rfl rfl rfl rfl ?_
      refine T_goto 29 rfl (fun _ => rfl) ?_
      refine T_ret rfl (fun _ => rfl) ?_
      exact ⟨(mO m [(1, 0)] []), (m.1 11), (Ty_mO hT rfl rfl ⟨⟨(by omega : (0 : Int) ≤ 0), (by omega : (0 : Int) ≤ 3)⟩, trivial⟩ trivial), (fr_m fr_0 rfl rfl), ⟨by omega, by omega⟩, rfl⟩
  · skip
    refine T_gf 13 (.int (i32 (m.1 10))) rfl rfl rfl rfl rfl rfl ?_
    refine T_goto 29 rfl (fun _ => rfl) ?_
    refine T_ret rfl (fun _ => rfl) ?_
    exact ⟨(mO m [(1, 0)] []), (m.1 10), (Ty_mO hT rfl rfl ⟨⟨(by omega : (0 : Int) ≤ 0), (by omega : (0 : Int) ≤ 3)⟩, trivial⟩ trivial), (fr_m fr_0 rfl rfl), ⟨by omega, by omega⟩, rfl⟩
def fF_size : List Nat := [1]
def fA_size : List Nat := []
def Q_size (m : mR) (c : Nat → Option am_C) (N : Nat) (u : Int) : ag_Re af_T → Prop := fun R => ∃ (M : mR) (r : Int), Ty M ∧ fr fF_size fA_size m M ∧ ((-2147483648) ≤ r ∧ r ≤ 2147483647) ∧ R = (.inl (some (.int (i32 r))), (mhp M c, N), 0, 0)
set_option maxHeartbeats 3000000 in
theorem c_size (w : wX) (m : mR) (c : Nat → Option am_C) (N D : Nat) (hD : 1 ≤ D) (hT : Ty m) (u : Int) (qu : R32 u) : TC w D 288 [.ref 189, .int (i32 u)] (mhp m c, N) (Q_size m c N u) := by
  obtain ⟨D, rfl⟩ : ∃ k, D = k + 1 := ⟨D - 1, by omega⟩
  obtain ⟨qua, qub⟩ := id qu
  have f127 : 0 ≤ m.1 127 ∧ m.1 127 ≤ 1 := hT.1 127
  have f19 : 0 ≤ m.1 19 ∧ m.1 19 ≤ 12 := hT.1 19
  have f20 : 0 ≤ m.1 20 ∧ m.1 20 ≤ 12 := hT.1 20
  have f21 : 0 ≤ m.1 21 ∧ m.1 21 ≤ 16 := hT.1 21
  have f22 : 0 ≤ m.1 22 ∧ m.1 22 ≤ 8 := hT.1 22
  have f24 : 0 ≤ m.1 24 ∧ m.1 24 ≤ 16 := hT.1 24
  have f25 : 0 ≤ m.1 25 ∧ m.1 25 ≤ 16 := hT.1 25
  have f26 : 0 ≤ m.1 26 ∧ m.1 26 ≤ 8 := hT.1 26
  have f27 : 0 ≤ m.1 27 ∧ m.1 27 ≤ 48 := hT.1 27
  refine Tc_of rfl ?_
  show TT w D pm_288 (0, [(0, .ref 189), (1, .int (i32 u))], [], (mhp (mO m [] []) c, N), 0, 0) (Q_size m c N u)
  refine T_ld 1 (.ref 189) rfl (fun _ => rfl) ?_
  refine T_ld 2 (.int (i32 0)) rfl (fun _ => rfl) ?_
  refine T_pf (l' := [(1, 0)]) 5 0 rfl rfl rfl rfl rfl rfl ?_
  refine T_gf 9 (.int (i32 (m.1 127))) rfl rfl rfl rfl rfl rfl ?_
  refine T_if 14 12 rfl rfl rfl (r32 (by omega) (by omega)) (fun (h1 : (m.1 127) ≠ 0) => ?_) (fun (h1 : ¬ ((m.1 127) ≠ 0)) => ?_)
  · skip
    refine T_ld 15 (.int (i32 u)) rfl (fun _ => rfl) ?_
    by_cases h2 : u = 0
    · skip
      refine T_cast 0 h2 ?_
      refine T_pop 64 rfl (fun _ => rfl) ?_
      refine T_gf 68 (.int (i32 (m.1 19))) rfl rfl rfl rfl rfl rfl ?_
      refine T_ret rfl (fun _ => rfl) ?_
      exact ⟨(mO m [(1, 0)] []), (m.1 19), (Ty_mO hT rfl rfl ⟨⟨(by omega : (0 : Int) ≤ 0), (by omega : (0 : Int) ≤ 3)⟩, trivial⟩ trivial), (fr_m fr_0 rfl rfl), ⟨by omega, by omega⟩, rfl⟩
    by_cases h3 : u = 1
    · skip
      refine T_cast 1 h3 ?_
      refine T_pop 69 rfl (fun _ => rfl) ?_
      refine T_gf 73 (.int (i32 (m.1 20))) rfl rfl rfl rfl rfl rfl ?_
      refine T_ret rfl (fun _ => rfl) ?_
      exact ⟨(mO m [(1, 0)] []), (m.1 20), (Ty_mO hT rfl rfl ⟨⟨(by omega : (0 : Int) ≤ 0), (by omega : (0 : Int) ≤ 3)⟩, trivial⟩ trivial), (fr_m fr_0 rfl rfl), ⟨by omega, by omega⟩, rfl⟩
    by_cases h4 : u = 2
    · skip
      refine T_cast 2 h4 ?_
      refine T_pop 74 rfl (fun _ => rfl) ?_
      refine T_gf 78 (.int (i32 (m.1 21))) rfl rfl rfl rfl rfl rfl ?_
      refine T_ret rfl (fun _ => rfl) ?_
      exact ⟨(mO m [(1, 0)] []), (m.1 21), (Ty_mO hT rfl rfl ⟨⟨(by omega : (0 : Int) ≤ 0), (by omega : (0 : Int) ≤ 3)⟩, trivial⟩ trivial), (fr_m fr_0 rfl rfl), ⟨by omega, by omega⟩, rfl⟩
    by_cases h5 : u = 3
    · skip
      refine T_cast 3 h5 ?_
      refine T_pop 79 rfl (fun _ => rfl) ?_
      refine T_gf 83 (.int (i32 (m.1 22))) rfl rfl rfl rfl rfl rfl ?_
      refine T_ret rfl (fun _ => rfl) ?_
      exact ⟨(mO m [(1, 0)] []), (m.1 22), (Ty_mO hT rfl rfl ⟨⟨(by omega : (0 : Int) ≤ 0), (by omega : (0 : Int) ≤ 3)⟩, trivial⟩ trivial), (fr_m fr_0 rfl rfl), ⟨by omega, by omega⟩, rfl⟩
    by_cases h6 : u = 4
    · skip
      refine T_cast 4 h6 ?_
      refine T_pop 84 rfl (fun _ => rfl) ?_
      refine T_gf 88 (.int (i32 (m.1 24))) rfl rfl rfl rfl rfl rfl ?_
      refine T_ret rfl (fun _ => rfl) ?_
      exact ⟨(mO m [(1, 0)] []), (m.1 24), (Ty_mO hT rfl rfl ⟨⟨(by omega : (0 : Int) ≤ 0), (by omega : (0 : Int) ≤ 3)⟩, trivial⟩ trivial), (fr_m fr_0 rfl rfl), ⟨by omega, by omega⟩, rfl⟩
    by_cases h7 : u = 5
    · skip
      refine T_cast 5 h7 ?_
      refine T_pop 89 rfl (fun _ => rfl) ?_
      refine T_gf 93 (.int (i32 (m.1 25))) rfl rfl rfl rfl rfl rfl ?_
      refine T_ret rfl (fun _ => rfl) ?_
      exact ⟨(mO m [(1, 0)] []), (m.1 25), (Ty_mO hT rfl rfl ⟨⟨(by omega : (0 : Int) ≤ 0), (by omega : (0 : Int) ≤ 3)⟩, trivial⟩ trivial), (fr_m fr_0 rfl rfl), ⟨by omega, by omega⟩, rfl⟩
    by_cases h8 : u = 6
    · skip
      refine T_cast 6 h8 ?_
      refine T_pop 94 rfl (fun _ => rfl) ?_
      refine T_gf 98 (.int (i32 (m.1 26))) rfl rfl rfl rfl rfl rfl ?_
      refine T_ret rfl (fun _ => rfl) ?_
      exact ⟨(mO m [(1, 0)] []), (m.1 26), (Ty_mO hT rfl rfl ⟨⟨(by omega : (0 : Int) ≤ 0), (by omega : (0 : Int) ≤ 3)⟩, trivial⟩ trivial), (fr_m fr_0 rfl rfl), ⟨by omega, by omega⟩, rfl⟩
    by_cases h9 : u = 7
    · skip
      refine T_cast 7 h9 ?_
      refine T_pop 99 rfl (fun _ => rfl) ?_
      refine T_gf 103 (.int (i32 (m.1 27))) rfl rfl rfl rfl rfl rfl ?_
      refine T_ret rfl (fun _ => rfl) ?_
      exact ⟨(mO m [(1, 0)] []), (m.1 27), (Ty_mO hT rfl rfl ⟨⟨(by omega : (0 : Int) ≤ 0), (by omega : (0 : Int) ≤ 3)⟩, trivial⟩ trivial), (fr_m fr_0 rfl rfl), ⟨by omega, by omega⟩, rfl⟩
    by_cases h10 : u = 8
    · skip
      refine T_cast 8 h10 ?_
      refine T_pop 104 rfl (fun _ => rfl) ?_
      refine T_ld 105 (.int (i32 0)) rfl (fun _ => rfl) ?_
      refine T_sto 106 [(2, .int (i32 0)), (0, .ref 189), (1, .int (i32 u))] rfl (fun _ => rfl) ?_
      refine T_ld 107 (.int (i32 0)) rfl (fun _ => rfl) ?_
      refine T_sto 108 [(3, .int (i32 0)), (2, .int (i32 0)), (0, .ref 189), (1, .int (i32 u))] rfl (fun _ => rfl) ?_
      have L108_13 : ∀ (n21 : Nat) (v11 : Int) (v12 : Int), (R32 v11) → (R32 v12) → (0 ≤ v11) → (0 ≤ v12) → (v12 ≤ (m.1 20)) → (0 ≤ v11 ∧ v11 ≤ 1024 * v12) → (m.1 20) - v12 < (n21 : Int) → TT w D pm_288 (108, [(0, .ref 189), (1, .int (i32 u)), (2, .int (i32 v11)), (3, .int (i32 v12))], [], (mhp (mO m [(1, 0)] []) c, N), 0, 0) (Q_size m c N u) := by
        intro n21
        induction n21 with
        | zero =>
          intro v11 v12 q18 q19 ic14 ic15 ic16 ic17 hmu
          obtain ⟨q18a, q18b⟩ := id q18
          obtain ⟨q19a, q19b⟩ := id q19
          exfalso
          omega
        | succ n21 ih =>
          intro v11 v12 q18 q19 ic14 ic15 ic16 ic17 hmu
          obtain ⟨q18a, q18b⟩ := id q18
          obtain ⟨q19a, q19b⟩ := id q19
          have ih22 := ih
          refine T_ld 109 (.int (i32 v12)) rfl (fun _ => rfl) ?_
          refine T_gf 113 (.int (i32 (m.1 20))) rfl rfl rfl rfl rfl rfl ?_
          refine T_icmp 136 116 rfl rfl rfl (r32 (by omega) (by omega)) (r32 (by omega) (by omega)) (fun (h23 : (m.1 20) ≤ v12) => ?_) (fun (h23 : ¬ ((m.1 20) ≤ v12)) => ?_)
          · skip
            refine T_ld 137 (.int (i32 v11)) rfl (fun _ => rfl) ?_
            refine T_ret rfl (fun _ => rfl) ?_
            exact ⟨(mO m [(1, 0)] []), v11, (Ty_mO hT rfl rfl ⟨⟨(by omega : (0 : Int) ≤ 0), (by omega : (0 : Int) ≤ 3)⟩, trivial⟩ trivial), (fr_m fr_0 rfl rfl), ⟨by omega, by omega⟩, rfl⟩
          · skip
            refine T_ld 117 (.int (i32 v11)) rfl (fun _ => rfl) ?_
            refine T_gf 121 (.ref 200) rfl rfl rfl rfl rfl rfl ?_
            refine T_gf 125 (.ref 204) rfl rfl rfl rfl rfl rfl ?_
            refine T_ld 126 (.int (i32 v12)) rfl (fun _ => rfl) ?_
            refine T_iald 127 34 (m.2 34) rfl rfl rfl (by omega) (show v12 < (12 : Int) by omega) rfl ?_
            have e24 : 0 ≤ m.2 34 v12 ∧ m.2 34 v12 ≤ 11 := hT.2.1 34 v12
            refine T_iald 128 30 (m.2 30) rfl rfl rfl (by omega) (show ((m.2 34) v12) < (12 : Int) by omega) rfl ?_
            have e25 : 0 ≤ m.2 30 ((m.2 34) v12) ∧ m.2 30 ((m.2 34) v12) ≤ 1024 := hT.2.1 30 ((m.2 34) v12)
            refine T_iadd 129 rfl rfl ?_
            refine T_sto 130 [(2, .int (i32 (v11 + ((m.2 30) ((m.2 34) v12))))), (0, .ref 189), (1, .int (i32 u)), (3, .int (i32 v12))] rfl (fun _ => rfl) ?_
            refine T_iinc 133 [(3, .int (i32 (v12 + 1))), (2, .int (i32 (v11 + ((m.2 30) ((m.2 34) v12))))), (0, .ref 189), (1, .int (i32 u))] rfl rfl (by decide) rfl rfl ?_
            refine T_goto 108 rfl (fun _ => rfl) ?_
            refine Tm_lv (a := [(0, .ref 189), (1, .int (i32 u)), (2, .int (i32 (v11 + ((m.2 30) ((m.2 34) v12))))), (3, .int (i32 (v12 + 1)))]) rfl rfl ⟨rfl, rfl, rfl, rfl, trivial⟩ ?_
            exact ih22 (v11 + ((m.2 30) ((m.2 34) v12))) (v12 + 1) (r32 (by omega) (by omega)) (r32 (by omega) (by omega)) (show 0 ≤ (v11 + ((m.2 30) ((m.2 34) v12))) by omega) (show 0 ≤ (v12 + 1) by omega) (show (v12 + 1) ≤ (m.1 20) by omega) (show 0 ≤ (v11 + ((m.2 30) ((m.2 34) v12))) ∧ (v11 + ((m.2 30) ((m.2 34) v12))) ≤ 1024 * (v12 + 1) by omega) (show (m.1 20) - (v12 + 1) < (n21 : Int) by omega)
      refine Tm_lv (a := [(0, .ref 189), (1, .int (i32 u)), (2, .int (i32 0)), (3, .int (i32 0))]) rfl rfl ⟨rfl, rfl, rfl, rfl, trivial⟩ ?_
      exact L108_13 (((m.1 20) - (0 : Int) : Int) + 1).toNat 0 0 ⟨by decide, by decide⟩ ⟨by decide, by decide⟩ (show 0 ≤ (0 : Int) by omega) (show 0 ≤ (0 : Int) by omega) (show (0 : Int) ≤ (m.1 20) by omega) (show 0 ≤ (0 : Int) ∧ (0 : Int) ≤ 1024 * (0 : Int) by omega) (show (m.1 20) - (0 : Int) < (((((m.1 20) - (0 : Int) : Int) + 1).toNat : Nat) : Int) by omega)
    refine T_tsd 138 rfl rfl (r32 (by omega) (by omega)) (by omega) ?_
    refine T_ld 139 (.int (i32 (-1))) rfl (fun _ => rfl) ?_
    refine T_ret rfl (fun _ => rfl) ?_
    exact ⟨(mO m [(1, 0)] []), (-1), (Ty_mO hT rfl rfl ⟨⟨(by omega : (0 : Int) ≤ 0), (by omega : (0 : Int) ≤ 3)⟩, trivial⟩ trivial), (fr_m fr_0 rfl rfl), ⟨by omega, by omega⟩, rfl⟩
  · skip
    refine T_ld 13 (.int (i32 (-1))) rfl (fun _ => rfl) ?_
    refine T_ret rfl (fun _ => rfl) ?_
    exact ⟨(mO m [(1, 0)] []), (-1), (Ty_mO hT rfl rfl ⟨⟨(by omega : (0 : Int) ≤ 0), (by omega : (0 : Int) ≤ 3)⟩, trivial⟩ trivial), (fr_m fr_0 rfl rfl), ⟨by omega, by omega⟩, rfl⟩
def fF_feed : List Nat := [1]
def fA_feed : List Nat := [2]
def Q_feed (m : mR) (c : Nat → Option am_C) (N : Nat) (a : Int) (b : Int) (d : Int) (e : Int) (f : Int) : ag_Re af_T → Prop := fun R => ∃ (M : mR), Ty M ∧ fr fF_feed fA_feed m M ∧ R = (.inl (none), (mhp M c, N), 0, 0)
set_option maxHeartbeats 3000000 in
theorem c_feed (w : wX) (m : mR) (c : Nat → Option am_C) (N D : Nat) (hD : 1 ≤ D) (hT : Ty m) (a : Int) (b : Int) (d : Int) (e : Int) (f : Int) (qa : R32 a) (qb : R32 b) (qd : R32 d) (qe : R32 e) (qf : R32 f) : TC w D 208 [.ref 189, .int (i32 a), .int (i32 b), .int (i32 d), .int (i32 e), .int (i32 f)] (mhp m c, N) (Q_feed m c N a b d e f) := by
  obtain ⟨D, rfl⟩ : ∃ k, D = k + 1 := ⟨D - 1, by omega⟩
  obtain ⟨qaa, qab⟩ := id qa
  obtain ⟨qba, qbb⟩ := id qb
  obtain ⟨qda, qdb⟩ := id qd
  obtain ⟨qea, qeb⟩ := id qe
  obtain ⟨qfa, qfb⟩ := id qf
  refine Tc_of rfl ?_
  show TT w D pm_208 (0, [(0, .ref 189), (1, .int (i32 a)), (2, .int (i32 b)), (3, .int (i32 d)), (4, .int (i32 e)), (5, .int (i32 f))], [], (mhp (mO m [] []) c, N), 0, 0) (Q_feed m c N a b d e f)
  refine T_ld 1 (.ref 189) rfl (fun _ => rfl) ?_
  refine T_ld 2 (.int (i32 0)) rfl (fun _ => rfl) ?_
  refine T_pf (l' := [(1, 0)]) 5 0 rfl rfl rfl rfl rfl rfl ?_
  refine T_ld 6 (.int (i32 0)) rfl (fun _ => rfl) ?_
  refine T_sto 8 [(6, .int (i32 0)), (0, .ref 189), (1, .int (i32 a)), (2, .int (i32 b)), (3, .int (i32 d)), (4, .int (i32 e)), (5, .int (i32 f))] rfl (fun _ => rfl) ?_
  refine T_fl (Ty_mO hT rfl rfl ⟨⟨(by omega : (0 : Int) ≤ 0), (by omega : (0 : Int) ≤ 3)⟩, trivial⟩ trivial) (fun m1 Tm1 Fm1 => ?_)
  have L8_4 : ∀ (n10 : Nat) (v2 : Int) (m3 : mR), (R32 v2) → Ty m3 → fr [] [2] (mO m1 [] []) m3 → (0 ≤ v2) → (v2 ≤ 4) → 4 - v2 < (n10 : Int) → TT w D pm_208 (8, [(0, .ref 189), (1, .int (i32 a)), (2, .int (i32 b)), (3, .int (i32 d)), (4, .int (i32 e)), (5, .int (i32 f)), (6, .int (i32 v2))], [], (mhp (mO m3 [] []) c, N), 0, 0) (Q_feed m c N a b d e f) := by
    intro n10
    induction n10 with
    | zero =>
      intro v2 m3 q7 Tm3 Fm3 ic5 ic6 hmu
      obtain ⟨q7a, q7b⟩ := id q7
      exfalso
      omega
    | succ n10 ih =>
      intro v2 m3 q7 Tm3 Fm3 ic5 ic6 hmu
      obtain ⟨q7a, q7b⟩ := id q7
      have ih11 := ih
      refine T_ld 10 (.int (i32 v2)) rfl (fun _ => rfl) ?_
      refine T_ld 11 (.int (i32 4)) rfl (fun _ => rfl) ?_
      refine T_icmp 118 14 rfl rfl rfl (r32 (by omega) (by omega)) ⟨by decide, by decide⟩ (fun (h12 : (4 : Int) ≤ v2) => ?_) (fun (h12 : ¬ ((4 : Int) ≤ v2)) => ?_)
      · skip
        refine T_ret rfl (fun _ => rfl) ?_
        exact ⟨(mO m3 [] []), Tm3, (fr_m (fr_s Fm3 (fr_m (fr_s Fm1 (fr_m fr_0 rfl rfl) rfl rfl) rfl rfl) rfl rfl) rfl rfl), rfl⟩
      · skip
        refine T_ld 16 (.int (i32 24)) rfl (fun _ => rfl) ?_
        refine T_ld 18 (.int (i32 8)) rfl (fun _ => rfl) ?_
        refine T_ld 20 (.int (i32 v2)) rfl (fun _ => rfl) ?_
        refine T_imul 21 rfl rfl ?_
        refine T_isub 22 rfl rfl ?_
        refine T_sto 24 [(7, .int (i32 (24 - (8 * v2)))), (0, .ref 189), (1, .int (i32 a)), (2, .int (i32 b)), (3, .int (i32 d)), (4, .int (i32 e)), (5, .int (i32 f)), (6, .int (i32 v2))] rfl (fun _ => rfl) ?_
        refine T_gf 28 (.ref 191) rfl rfl rfl rfl rfl rfl ?_
        refine T_ld 30 (.int (i32 v2)) rfl (fun _ => rfl) ?_
        refine T_ld 31 (.int (i32 a)) rfl (fun _ => rfl) ?_
        refine T_ld 33 (.int (i32 (24 - (8 * v2)))) rfl (fun _ => rfl) ?_
        refine T_hv 34 _ rfl (fun _ => rfl) (fun z13 h14 => ?_)
        obtain ⟨h14a, h14b⟩ := h14
        refine T_ld 37 (.int (i32 255)) rfl (fun _ => rfl) ?_
        refine T_iand 38 rfl rfl (by decide) (by decide) (fun z15 h16 => ?_)
        have G17 : ∀ j, 0 ≤ (upI (m3.2 2) v2 z15) j ∧ (upI (m3.2 2) v2 z15) j ≤ 255 := upI_rg (Tm3.2.1 2) ⟨by omega, by omega⟩
        refine T_iast (a' := [(2, upI (m3.2 2) v2 z15)]) 39 2 (m3.2 2) rfl rfl rfl (by omega) (show v2 < (20 : Int) by omega) rfl rfl ?_
        refine T_gf 43 (.ref 191) rfl rfl rfl rfl rfl rfl ?_
        refine T_ld 44 (.int (i32 4)) rfl (fun _ => rfl) ?_
        refine T_ld 46 (.int (i32 v2)) rfl (fun _ => rfl) ?_
        refine T_iadd 47 rfl rfl ?_
        refine T_ld 48 (.int (i32 b)) rfl (fun _ => rfl) ?_
        refine T_ld 50 (.int (i32 (24 - (8 * v2)))) rfl (fun _ => rfl) ?_
        refine T_hv 51 _ rfl (fun _ => rfl) (fun z18 h19 => ?_)
        obtain ⟨h19a, h19b⟩ := h19
        refine T_ld 54 (.int (i32 255)) rfl (fun _ => rfl) ?_
        refine T_iand 55 rfl rfl (by decide) (by decide) (fun z20 h21 => ?_)
        have G22 : ∀ j, 0 ≤ (upI (upI (m3.2 2) v2 z15) (4 + v2) z20) j ∧ (upI (upI (m3.2 2) v2 z15) (4 + v2) z20) j ≤ 255 := upI_rg G17 ⟨by omega, by omega⟩
        refine T_iast (a' := [(2, upI (upI (m3.2 2) v2 z15) (4 + v2) z20)]) 56 2 (upI (m3.2 2) v2 z15) rfl rfl rfl (by omega) (show (4 + v2) < (20 : Int) by omega) rfl rfl ?_
        refine T_gf 60 (.ref 191) rfl rfl rfl rfl rfl rfl ?_
        refine T_ld 62 (.int (i32 8)) rfl (fun _ => rfl) ?_
        refine T_ld 64 (.int (i32 v2)) rfl (fun _ => rfl) ?_
        refine T_iadd 65 rfl rfl ?_
        refine T_ld 66 (.int (i32 d)) rfl (fun _ => rfl) ?_
        refine T_ld 68 (.int (i32 (24 - (8 * v2)))) rfl (fun _ => rfl) ?_
        refine T_hv 69 _ rfl (fun _ => rfl) (fun z23 h24 => ?_)
        obtain ⟨h24a, h24b⟩ := h24
        refine T_ld 72 (.int (i32 255)) rfl (fun _ => rfl) ?_
        refine T_iand 73 rfl rfl (by decide) (by decide) (fun z25 h26 => ?_)
        have G27 : ∀ j, 0 ≤ (upI (upI (upI (m3.2 2) v2 z15) (4 + v2) z20) (8 + v2) z25) j ∧ (upI (upI (upI (m3.2 2) v2 z15) (4 + v2) z20) (8 + v2) z25) j ≤ 255 := upI_rg G22 ⟨by omega, by omega⟩
        refine T_iast (a' := [(2, upI (upI (upI (m3.2 2) v2 z15) (4 + v2) z20) (8 + v2) z25)]) 74 2 (upI (upI (m3.2 2) v2 z15) (4 + v2) z20) rfl rfl rfl (by omega) (show (8 + v2) < (20 : Int) by omega) rfl rfl ?_
        refine T_gf 78 (.ref 191) rfl rfl rfl rfl rfl rfl ?_
        refine T_ld 80 (.int (i32 12)) rfl (fun _ => rfl) ?_
        refine T_ld 82 (.int (i32 v2)) rfl (fun _ => rfl) ?_
        refine T_iadd 83 rfl rfl ?_
        refine T_ld 85 (.int (i32 e)) rfl (fun _ => rfl) ?_
        refine T_ld 87 (.int (i32 (24 - (8 * v2)))) rfl (fun _ => rfl) ?_
        refine T_hv 88 _ rfl (fun _ => rfl) (fun z28 h29 => ?_)
        obtain ⟨h29a, h29b⟩ := h29
        refine T_ld 91 (.int (i32 255)) rfl (fun _ => rfl) ?_
        refine T_iand 92 rfl rfl (by decide) (by decide) (fun z30 h31 => ?_)
        have G32 : ∀ j, 0 ≤ (upI (upI (upI (upI (m3.2 2) v2 z15) (4 + v2) z20) (8 + v2) z25) (12 + v2) z30) j ∧ (upI (upI (upI (upI (m3.2 2) v2 z15) (4 + v2) z20) (8 + v2) z25) (12 + v2) z30) j ≤ 255 := upI_rg G27 ⟨by omega, by omega⟩
        refine T_iast (a' := [(2, upI (upI (upI (upI (m3.2 2) v2 z15) (4 + v2) z20) (8 + v2) z25) (12 + v2) z30)]) 93 2 (upI (upI (upI (m3.2 2) v2 z15) (4 + v2) z20) (8 + v2) z25) rfl rfl rfl (by omega) (show (12 + v2) < (20 : Int) by omega) rfl rfl ?_
        refine T_gf 97 (.ref 191) rfl rfl rfl rfl rfl rfl ?_
        refine T_ld 99 (.int (i32 16)) rfl (fun _ => rfl) ?_
        refine T_ld 101 (.int (i32 v2)) rfl (fun _ => rfl) ?_
        refine T_iadd 102 rfl rfl ?_
        refine T_ld 104 (.int (i32 f)) rfl (fun _ => rfl) ?_
        refine T_ld 106 (.int (i32 (24 - (8 * v2)))) rfl (fun _ => rfl) ?_
        refine T_hv 107 _ rfl (fun _ => rfl) (fun z33 h34 => ?_)
        obtain ⟨h34a, h34b⟩ := h34
        refine T_ld 110 (.int (i32 255)) rfl (fun _ => rfl) ?_
        refine T_iand 111 rfl rfl (by decide) (by decide) (fun z35 h36 => ?_)
        have G37 : ∀ j, 0 ≤ (upI (upI (upI (upI (upI (m3.2 2) v2 z15) (4 + v2) z20) (8 + v2) z25) (12 + v2) z30) (16 + v2) z35) j ∧ (upI (upI (upI (upI (upI (m3.2 2) v2 z15) (4 + v2) z20) (8 + v2) z25) (12 + v2) z30) (16 + v2) z35) j ≤ 255 := upI_rg G32 ⟨by omega, by omega⟩
        refine T_iast (a' := [(2, upI (upI (upI (upI (upI (m3.2 2) v2 z15) (4 + v2) z20) (8 + v2) z25) (12 + v2) z30) (16 + v2) z35)]) 112 2 (upI (upI (upI (upI (m3.2 2) v2 z15) (4 + v2) z20) (8 + v2) z25) (12 + v2) z30) rfl rfl rfl (by omega) (show (16 + v2) < (20 : Int) by omega) rfl rfl ?_
        refine T_iinc 115 [(6, .int (i32 (v2 + 1))), (7, .int (i32 (24 - (8 * v2)))), (0, .ref 189), (1, .int (i32 a)), (2, .int (i32 b)), (3, .int (i32 d)), (4, .int (i32 e)), (5, .int (i32 f))] rfl rfl (by decide) rfl rfl ?_
        refine T_goto 8 rfl (fun _ => rfl) ?_
        refine Tm_lv (a := [(0, .ref 189), (1, .int (i32 a)), (2, .int (i32 b)), (3, .int (i32 d)), (4, .int (i32 e)), (5, .int (i32 f)), (6, .int (i32 (v2 + 1)))]) rfl rfl ⟨rfl, rfl, rfl, rfl, rfl, rfl, rfl, trivial⟩ ?_
        exact ih11 (v2 + 1) (mO m3 [] [(2, upI (upI (upI (upI (upI (m3.2 2) v2 z15) (4 + v2) z20) (8 + v2) z25) (12 + v2) z30) (16 + v2) z35)]) (r32 (by omega) (by omega)) (Ty_mO Tm3 rfl rfl trivial ⟨G37, trivial⟩) (fr_m (fr_s Fm3 (fr_m fr_0 rfl rfl) rfl rfl) rfl rfl) (show 0 ≤ (v2 + 1) by omega) (show (v2 + 1) ≤ 4 by omega) (show 4 - (v2 + 1) < (n10 : Int) by omega)
  refine Tm_lv (a := [(0, .ref 189), (1, .int (i32 a)), (2, .int (i32 b)), (3, .int (i32 d)), (4, .int (i32 e)), (5, .int (i32 f)), (6, .int (i32 0))]) rfl rfl ⟨rfl, rfl, rfl, rfl, rfl, rfl, rfl, trivial⟩ ?_
  exact L8_4 ((4 - (0 : Int) : Int) + 1).toNat 0 (mO m1 [] []) ⟨by decide, by decide⟩ Tm1 (fr_m fr_0 rfl rfl) (show 0 ≤ (0 : Int) by omega) (show (0 : Int) ≤ 4 by omega) (show 4 - (0 : Int) < ((((4 - (0 : Int) : Int) + 1).toNat : Nat) : Int) by omega)
def fF_end : List Nat := [1, 5]
def fA_end : List Nat := [2, 3]
def Q_end (m : mR) (c : Nat → Option am_C) (N : Nat) (n : Int) : ag_Re af_T → Prop := fun R => ∃ (M : mR) (r : Int), Ty M ∧ fr fF_end fA_end m M ∧ ((-2147483648) ≤ r ∧ r ≤ 2147483647) ∧ R = (.inl (some (.int (i32 r))), (mhp M c, N), 0, 0)
set_option maxHeartbeats 3000000 in
theorem c_end (w : wX) (m : mR) (c : Nat → Option am_C) (N D : Nat) (hD : 1 ≤ D) (hT : Ty m) (n : Int) (qn : R32 n) : TC w D 209 [.ref 189, .int (i32 n)] (mhp m c, N) (Q_end m c N n) := by
  obtain ⟨D, rfl⟩ : ∃ k, D = k + 1 := ⟨D - 1, by omega⟩
  obtain ⟨qna, qnb⟩ := id qn
  have f5 : 0 ≤ m.1 5 ∧ m.1 5 ≤ 4000 := hT.1 5
  refine Tc_of rfl ?_
  show TT w D pm_209 (0, [(0, .ref 189), (1, .int (i32 n))], [], (mhp (mO m [] []) c, N), 0, 0) (Q_end m c N n)
  refine T_ld 1 (.ref 189) rfl (fun _ => rfl) ?_
  refine T_ld 2 (.int (i32 0)) rfl (fun _ => rfl) ?_
  refine T_pf (l' := [(1, 0)]) 5 0 rfl rfl rfl rfl rfl rfl ?_
  refine T_ld 6 (.int (i32 n)) rfl (fun _ => rfl) ?_
  refine T_if 27 9 rfl rfl rfl (r32 (by omega) (by omega)) (fun (h1 : n < 0) => ?_) (fun (h1 : ¬ (n < 0)) => ?_)
  · skip
    refine T_ld 28 (.int (i32 (-1))) rfl (fun _ => rfl) ?_
    refine T_ret rfl (fun _ => rfl) ?_
    exact ⟨(mO m [(1, 0)] []), (-1), (Ty_mO hT rfl rfl ⟨⟨(by omega : (0 : Int) ≤ 0), (by omega : (0 : Int) ≤ 3)⟩, trivial⟩ trivial), (fr_m fr_0 rfl rfl), ⟨by omega, by omega⟩, rfl⟩
  · skip
    refine T_ld 10 (.int (i32 n)) rfl (fun _ => rfl) ?_
    refine T_ld 12 (.int (i32 20)) rfl (fun _ => rfl) ?_
    refine T_icmp 27 15 rfl rfl rfl (r32 (by omega) (by omega)) ⟨by decide, by decide⟩ (fun (h2 : (20 : Int) < n) => ?_) (fun (h2 : ¬ ((20 : Int) < n)) => ?_)
    · skip
      refine T_ld 28 (.int (i32 (-1))) rfl (fun _ => rfl) ?_
      refine T_ret rfl (fun _ => rfl) ?_
      exact ⟨(mO m [(1, 0)] []), (-1), (Ty_mO hT rfl rfl ⟨⟨(by omega : (0 : Int) ≤ 0), (by omega : (0 : Int) ≤ 3)⟩, trivial⟩ trivial), (fr_m fr_0 rfl rfl), ⟨by omega, by omega⟩, rfl⟩
    · skip
      refine T_gf 19 (.int (i32 (m.1 5))) rfl rfl rfl rfl rfl rfl ?_
      refine T_ld 20 (.int (i32 n)) rfl (fun _ => rfl) ?_
      refine T_iadd 21 rfl rfl ?_
      refine T_ld 24 (.int (i32 4000)) rfl (fun _ => rfl) ?_
      refine T_icmp 29 27 rfl rfl rfl (r32 (by omega) (by omega)) ⟨by decide, by decide⟩ (fun (h3 : (m.1 5) + n ≤ 4000) => ?_) (fun (h3 : ¬ ((m.1 5) + n ≤ 4000)) => ?_)
      · skip
        refine T_ld 30 (.int (i32 0)) rfl (fun _ => rfl) ?_
        refine T_sto 31 [(2, .int (i32 0)), (0, .ref 189), (1, .int (i32 n))] rfl (fun _ => rfl) ?_
        refine T_fl (Ty_mO hT rfl rfl ⟨⟨(by omega : (0 : Int) ≤ 0), (by omega : (0 : Int) ≤ 3)⟩, trivial⟩ trivial) (fun m4 Tm4 Fm4 => ?_)
        have L31_7 : ∀ (n13 : Nat) (v5 : Int) (m6 : mR), (R32 v5) → Ty m6 → fr [] [3] (mO m4 [] []) m6 → (0 ≤ v5) → (v5 ≤ n) → n - v5 < (n13 : Int) → TT w D pm_209 (31, [(0, .ref 189), (1, .int (i32 n)), (2, .int (i32 v5))], [], (mhp (mO m6 [] []) c, N), 0, 0) (Q_end m c N n) := by
          intro n13
          induction n13 with
          | zero =>
            intro v5 m6 q10 Tm6 Fm6 ic8 ic9 hmu
            obtain ⟨q10a, q10b⟩ := id q10
            exfalso
            omega
          | succ n13 ih =>
            intro v5 m6 q10 Tm6 Fm6 ic8 ic9 hmu
            obtain ⟨q10a, q10b⟩ := id q10
            have ih14 := ih
            refine T_ld 32 (.int (i32 v5)) rfl (fun _ => rfl) ?_
            refine T_ld 33 (.int (i32 n)) rfl (fun _ => rfl) ?_
            refine T_icmp 59 36 rfl rfl rfl (r32 (by omega) (by omega)) (r32 (by omega) (by omega)) (fun (h15 : n ≤ v5) => ?_) (fun (h15 : ¬ (n ≤ v5)) => ?_)
            · skip
              refine T_ld 60 (.ref 189) rfl (fun _ => rfl) ?_
              refine T_ld 61 (.ref 189) rfl (fun _ => rfl) ?_
              refine T_gf1 64 (.int (i32 (m.1 5))) rfl rfl (mfv_c (F := fun x => .int (i32 x)) rfl (show (m6.1 5) = (m.1 5) from ((fr1 Fm6 5 rfl).trans (fr1 Fm4 5 rfl)))) rfl ?_
              refine T_ld 65 (.int (i32 n)) rfl (fun _ => rfl) ?_
              refine T_iadd 66 rfl rfl ?_
              refine T_pf (l' := [(5, (m.1 5) + n)]) 69 ((m.1 5) + n) rfl rfl rfl rfl rfl rfl ?_
              have g16 : 0 ≤ (m.1 5) + n ∧ (m.1 5) + n ≤ 4000 := ⟨by omega, by omega⟩
              refine T_ld 70 (.int (i32 0)) rfl (fun _ => rfl) ?_
              refine T_sto 71 [(2, .int (i32 0)), (0, .ref 189), (1, .int (i32 n))] rfl (fun _ => rfl) ?_
              refine T_fl (Ty_mO Tm6 rfl rfl ⟨g16, trivial⟩ trivial) (fun m17 Tm17 Fm17 => ?_)
              have L71_20 : ∀ (n26 : Nat) (v18 : Int) (m19 : mR), (R32 v18) → Ty m19 → fr [] [2] (mO m17 [] []) m19 → (0 ≤ v18) → (v18 ≤ 20) → 20 - v18 < (n26 : Int) → TT w D pm_209 (71, [(0, .ref 189), (1, .int (i32 n)), (2, .int (i32 v18))], [], (mhp (mO m19 [] []) c, N), 0, 0) (Q_end m c N n) := by
                intro n26
                induction n26 with
                | zero =>
                  intro v18 m19 q23 Tm19 Fm19 ic21 ic22 hmu
                  obtain ⟨q23a, q23b⟩ := id q23
                  exfalso
                  omega
                | succ n26 ih =>
                  intro v18 m19 q23 Tm19 Fm19 ic21 ic22 hmu
                  obtain ⟨q23a, q23b⟩ := id q23
                  have ih27 := ih
                  refine T_ld 72 (.int (i32 v18)) rfl (fun _ => rfl) ?_
                  refine T_ld 74 (.int (i32 20)) rfl (fun _ => rfl) ?_
                  refine T_icmp 90 77 rfl rfl rfl (r32 (by omega) (by omega)) ⟨by decide, by decide⟩ (fun (h28 : (20 : Int) ≤ v18) => ?_) (fun (h28 : ¬ ((20 : Int) ≤ v18)) => ?_)
                  · skip
                    refine T_gf 94 (.int (i32 ((m.1 5) + n))) rfl rfl rfl rfl (mfv_c (F := fun x => .int (i32 x)) rfl (show (m19.1 5) = ((m.1 5) + n) from ((fr1 Fm19 5 rfl).trans (fr1 Fm17 5 rfl)))) rfl ?_
                    refine T_ret rfl (fun _ => rfl) ?_
                    exact ⟨(mO m19 [] []), (m.1 5) + n, Tm19, (fr_m (fr_s Fm19 (fr_m (fr_s Fm17 (fr_m (fr_s Fm6 (fr_m (fr_s Fm4 (fr_m fr_0 rfl rfl) rfl rfl) rfl rfl) rfl rfl) rfl rfl) rfl rfl) rfl rfl) rfl rfl) rfl rfl), ⟨by omega, by omega⟩, rfl⟩
                  · skip
                    refine T_gf 81 (.ref 191) rfl rfl rfl rfl rfl rfl ?_
                    refine T_ld 82 (.int (i32 v18)) rfl (fun _ => rfl) ?_
                    refine T_ld 83 (.int (i32 0)) rfl (fun _ => rfl) ?_
                    have G29 : ∀ j, 0 ≤ (upI (m19.2 2) v18 0) j ∧ (upI (m19.2 2) v18 0) j ≤ 255 := upI_rg (Tm19.2.1 2) ⟨by omega, by omega⟩
                    refine T_iast (a' := [(2, upI (m19.2 2) v18 0)]) 84 2 (m19.2 2) rfl rfl rfl (by omega) (show v18 < (20 : Int) by omega) rfl rfl ?_
                    refine T_iinc 87 [(2, .int (i32 (v18 + 1))), (0, .ref 189), (1, .int (i32 n))] rfl rfl (by decide) rfl rfl ?_
                    refine T_goto 71 rfl (fun _ => rfl) ?_
                    refine Tm_lv (a := [(0, .ref 189), (1, .int (i32 n)), (2, .int (i32 (v18 + 1)))]) rfl rfl ⟨rfl, rfl, rfl, trivial⟩ ?_
                    exact ih27 (v18 + 1) (mO m19 [] [(2, upI (m19.2 2) v18 0)]) (r32 (by omega) (by omega)) (Ty_mO Tm19 rfl rfl trivial ⟨G29, trivial⟩) (fr_m (fr_s Fm19 (fr_m fr_0 rfl rfl) rfl rfl) rfl rfl) (show 0 ≤ (v18 + 1) by omega) (show (v18 + 1) ≤ 20 by omega) (show 20 - (v18 + 1) < (n26 : Int) by omega)
              refine Tm_lv (a := [(0, .ref 189), (1, .int (i32 n)), (2, .int (i32 0))]) rfl rfl ⟨rfl, rfl, rfl, trivial⟩ ?_
              exact L71_20 ((20 - (0 : Int) : Int) + 1).toNat 0 (mO m17 [] []) ⟨by decide, by decide⟩ Tm17 (fr_m fr_0 rfl rfl) (show 0 ≤ (0 : Int) by omega) (show (0 : Int) ≤ 20 by omega) (show 20 - (0 : Int) < ((((20 - (0 : Int) : Int) + 1).toNat : Nat) : Int) by omega)
            · skip
              refine T_gf 40 (.ref 192) rfl rfl rfl rfl rfl rfl ?_
              refine T_gf 44 (.int (i32 (m.1 5))) rfl rfl rfl rfl (mfv_c (F := fun x => .int (i32 x)) rfl (show (m6.1 5) = (m.1 5) from ((fr1 Fm6 5 rfl).trans (fr1 Fm4 5 rfl)))) rfl ?_
              refine T_ld 45 (.int (i32 v5)) rfl (fun _ => rfl) ?_
              refine T_iadd 46 rfl rfl ?_
              refine T_gf 50 (.ref 191) rfl rfl rfl rfl rfl rfl ?_
              refine T_ld 51 (.int (i32 v5)) rfl (fun _ => rfl) ?_
              refine T_iald 52 2 (m.2 2) rfl rfl rfl (by omega) (show v5 < (20 : Int) by omega) (show (m6.2 2) = (m.2 2) from ((fr2 Fm6 2 rfl).trans (fr2 Fm4 2 rfl))) ?_
              have e30 : 0 ≤ (m.2 2) v5 ∧ (m.2 2) v5 ≤ 255 := (hT.2.1 2) v5
              have G31 : ∀ j, 0 ≤ (upI (m6.2 3) ((m.1 5) + v5) ((m.2 2) v5)) j ∧ (upI (m6.2 3) ((m.1 5) + v5) ((m.2 2) v5)) j ≤ 255 := upI_rg (Tm6.2.1 3) ⟨by omega, by omega⟩
              refine T_iast (a' := [(3, upI (m6.2 3) ((m.1 5) + v5) ((m.2 2) v5))]) 53 3 (m6.2 3) rfl rfl rfl (by omega) (show ((m.1 5) + v5) < (4000 : Int) by omega) rfl rfl ?_
              refine T_iinc 56 [(2, .int (i32 (v5 + 1))), (0, .ref 189), (1, .int (i32 n))] rfl rfl (by decide) rfl rfl ?_
              refine T_goto 31 rfl (fun _ => rfl) ?_
              refine Tm_lv (a := [(0, .ref 189), (1, .int (i32 n)), (2, .int (i32 (v5 + 1)))]) rfl rfl ⟨rfl, rfl, rfl, trivial⟩ ?_
              exact ih14 (v5 + 1) (mO m6 [] [(3, upI (m6.2 3) ((m.1 5) + v5) ((m.2 2) v5))]) (r32 (by omega) (by omega)) (Ty_mO Tm6 rfl rfl trivial ⟨G31, trivial⟩) (fr_m (fr_s Fm6 (fr_m fr_0 rfl rfl) rfl rfl) rfl rfl) (show 0 ≤ (v5 + 1) by omega) (show (v5 + 1) ≤ n by omega) (show n - (v5 + 1) < (n13 : Int) by omega)
        refine Tm_lv (a := [(0, .ref 189), (1, .int (i32 n)), (2, .int (i32 0))]) rfl rfl ⟨rfl, rfl, rfl, trivial⟩ ?_
        exact L31_7 ((n - (0 : Int) : Int) + 1).toNat 0 (mO m4 [] []) ⟨by decide, by decide⟩ Tm4 (fr_m fr_0 rfl rfl) (show 0 ≤ (0 : Int) by omega) (show (0 : Int) ≤ n by omega) (show n - (0 : Int) < ((((n - (0 : Int) : Int) + 1).toNat : Nat) : Int) by omega)
      · skip
        refine T_ld 28 (.int (i32 (-1))) rfl (fun _ => rfl) ?_
        refine T_ret rfl (fun _ => rfl) ?_
        exact ⟨(mO m [(1, 0)] []), (-1), (Ty_mO hT rfl rfl ⟨⟨(by omega : (0 : Int) ≤ 0), (by omega : (0 : Int) ≤ 3)⟩, trivial⟩ trivial), (fr_m fr_0 rfl rfl), ⟨by omega, by omega⟩, rfl⟩
