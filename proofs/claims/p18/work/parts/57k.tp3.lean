/-! ===== the reference does the first of its line: line and tables ===== -/
def tbL : List Nat := [139, 140, 141, 142, 143, 144]
def lnL : List Nat := [139, 140, 141, 142, 143, 144, 153, 154, 155, 156, 157, 158, 159, 160, 161, 162]
/-- the line is a place shorter -/
def SHL (M z : mR) : Prop := z.1 149 = M.1 149 - 1 ∧ z.1 150 = cut (M.1 150 + 1) ∧ (SHF 0 (M.1 149 - 1) 1 (M.2 153) (z.2 153) ∧ SHF 0 (M.1 149 - 1) 1 (M.2 154) (z.2 154) ∧ SHF 0 (M.1 149 - 1) 1 (M.2 155) (z.2 155)) ∧ (SHF 0 (M.1 149 - 1) 1 (M.2 156) (z.2 156) ∧ SHF 0 (M.1 149 - 1) 1 (M.2 157) (z.2 157) ∧ SHF 0 (M.1 149 - 1) 1 (M.2 158) (z.2 158)) ∧ SHF 0 (128 * (M.1 149 - 1)) 128 (M.2 159) (z.2 159) ∧ SHF 0 (4 * (M.1 149 - 1)) 4 (M.2 160) (z.2 160) ∧ SHF 0 (4 * (M.1 149 - 1)) 4 (M.2 161) (z.2 161) ∧ SHF 0 (4 * (M.1 149 - 1)) 4 (M.2 162) (z.2 162)
def dfQ (M : mR) (z : Int × mR) : Prop := SHL M z.2 ∧ ∀ k, k ∈ tbL → z.2.2 k = M.2 k
section TP3
variable {M m m' : mR}
theorem SHL_c {F A : List Nat} {z : mR} (h : SHL m' z) (e : fr F A m m') (c1 : chk [149, 150] F = true) (c2 : chk lnL A = true) : SHL m z := by
  unfold SHL at h ⊢
  rw [fr1 e 149 (chk_1 c1 (by decide)), fr1 e 150 (chk_1 c1 (by decide)), fr2 e 153 (chk_1 c2 (by decide)), fr2 e 154 (chk_1 c2 (by decide)), fr2 e 155 (chk_1 c2 (by decide)), fr2 e 156 (chk_1 c2 (by decide)), fr2 e 157 (chk_1 c2 (by decide)), fr2 e 158 (chk_1 c2 (by decide)), fr2 e 159 (chk_1 c2 (by decide)), fr2 e 160 (chk_1 c2 (by decide)), fr2 e 161 (chk_1 c2 (by decide)), fr2 e 162 (chk_1 c2 (by decide))] at h
  exact h
theorem dfQ_c {F A : List Nat} {z : Int × mR} (h : dfQ m' z) (e : fr F A m m') (c1 : chk [149, 150] F = true) (c2 : chk lnL A = true) : dfQ m z := by
  refine ⟨SHL_c h.1 e c1 c2, fun k hk => ?_⟩
  have q : k ∈ lnL := by
    unfold tbL at hk
    unfold lnL
    simp only [List.mem_cons, List.not_mem_nil, or_false] at hk ⊢
    omega
  exact (h.2 k hk).trans (fr2 e k (chk_1 c2 q))
theorem df2_214 (L0 : 1 ≤ m.1 149) (L1 : m.1 149 ≤ 40) : RP (rfl_doFirst_214 m) (dfQ m) := by
  refine RP_w (mv_214 L0 L1) (fun z hz => ?_)
  obtain ⟨z1, z2, zf, -, h3, h4, h5, h6, h7, h8⟩ := hz
  exact ⟨⟨z1, z2, h3, h4, h5, h6, h7, h8⟩, fun k hk => fr2 zf k (chk_1 (l := tbL) rfl hk)⟩
theorem df2_197 (L0 : 1 ≤ m.1 149) (L1 : m.1 149 ≤ 40) (v1 v3 u1 u2 : Int) : RP (rfl_doFirst_197 v1 v3 u1 u2 m) (dfQ m) := by
  have e : fr [] [164] m (mO m [] [(164, upI (m.2 164) u1 u2)]) := fr_m fr_0 rfl rfl
  have d : RP (rfl_doFirst_214 (mO m [] [(164, upI (m.2 164) u1 u2)])) (dfQ m) := RP_w (df2_214 (m := mO m [] [(164, upI (m.2 164) u1 u2)]) L0 L1) (fun z hz => dfQ_c hz e rfl rfl)
  unfold rfl_doFirst_197
  refine RP_ite (fun h => d) (fun h => RP_ite (fun h => ?_) (fun h => d))
  refine RP_bnd (u_rf_writePacket _ _) (fun y hy => ?_)
  have e2 := fr_s (u' := rF_writePacket) (v' := 164 :: rA_writePacket) hy (fr_s e fr_0 rfl rfl) (by decide +kernel) (by decide +kernel)
  refine RP_w (df2_214 (m := y.2) (by rw [fr1 e2 149 rfl]; exact L0) (by rw [fr1 e2 149 rfl]; exact L1)) (fun z hz => dfQ_c hz e2 rfl rfl)
theorem df2_172 (L0 : 1 ≤ m.1 149) (L1 : m.1 149 ≤ 40) (v1 v3 : Int) : RP (rfl_doFirst_172 v1 v3 m) (dfQ m) := by
  unfold rfl_doFirst_172
  exact RP_ite (fun h => df2_197 L0 L1 _ _ _ _) (fun h => RP_ite (fun h => df2_197 L0 L1 _ _ _ _) (fun h => df2_197 L0 L1 _ _ _ _))
theorem df2_162 (L0 : 1 ≤ m.1 149) (L1 : m.1 149 ≤ 40) (v1 u0 : Int) : RP (rfl_doFirst_162 v1 u0 m) (dfQ m) := by
  unfold rfl_doFirst_162
  exact RP_ite (fun h => df2_172 L0 L1 _ _) (fun h => RP_bnd (u_rf_goThrough _ _) (fun y hy => RP_w (df2_172 (m := y.2) (by rw [fr1 hy 149 rfl]; exact L0) (by rw [fr1 hy 149 rfl]; exact L1) _ _) (fun z hz => dfQ_c hz hy rfl rfl)))
theorem df2_154 (L0 : 1 ≤ m.1 149) (L1 : m.1 149 ≤ 40) (u1 u2 : Int) : RP (rfl_doFirst_154 u1 u2 m) (dfQ m) := by
  have e : fr [] [164] m (mO m [] [(164, upI (m.2 164) u1 u2)]) := fr_m fr_0 rfl rfl
  unfold rfl_doFirst_154
  exact RP_w (df2_214 (m := mO m [] [(164, upI (m.2 164) u1 u2)]) L0 L1) (fun z hz => dfQ_c hz e rfl rfl)
def dfA : List Nat := [163, 165, 166, 167, 169]
/-- what doFirst does to line and tables -/
def DFT (M : mR) (z : Int × mR) : Prop := SHL M z.2 ∧ ((M.2 153 0 ≤ 0 ∧ ∀ k, k ∈ tbL → z.2.2 k = M.2 k) ∨ (0 < M.2 153 0 ∧ ∃ m0 o m, fr [] dfA M m0 ∧ srvM (m0.2 156 0) (M.2 153 0) m0 = some (o, m) ∧ SRo (m0.2 156 0) m0 (o, m) ∧ ∀ k, k ∈ tbL → z.2.2 k = m.2 k))
theorem df2_0 (L0 : 1 ≤ M.1 149) (L1 : M.1 149 ≤ 40) (hV : 0 < M.2 153 0 → GVM (M.2 156 0) M ∧ TOK (M.2 156 0) M ∧ OPR M) : RP (rf_doFirst M) (DFT M) := by
  unfold rf_doFirst
  refine RP_bnd (uw_rfb_doFirst_49 _ _ _) (fun e he => ?_)
  have fe : fr [] dfA M e := fr_s he (fr_m fr_0 rfl rfl) rfl rfl
  by_cases hk : M.2 153 0 ≤ 0
  · unfold rfl_doFirst_73
    rw [if_pos hk]
    refine RP_bnd (u_rf_readPacket _) (fun y hy => ?_)
    have fy := fr_s (u' := rF_readPacket) (v' := dfA ++ rA_readPacket) hy (fr_s fe fr_0 rfl (by decide +kernel)) (by decide +kernel) (by decide +kernel)
    refine RP_w (df2_162 (m := y.2) (by rw [fr1 fy 149 rfl]; exact L0) (by rw [fr1 fy 149 rfl]; exact L1) _ _) (fun z hz => ?_)
    have q := dfQ_c hz fy rfl rfl
    exact ⟨q.1, Or.inl ⟨hk, q.2⟩⟩
  · rw [d73 (by omega)]
    obtain ⟨hV1, hV2, hV3⟩ := hV (by omega)
    have e156 : e.2 156 = M.2 156 := fr2 fe 156 rfl
    intro z hz
    cases hs : srvM (e.2 156 0) (M.2 153 0) e with
    | none => rw [hs] at hz; cases hz
    | some w =>
      rw [hs, bnd_some] at hz
      have so := srv_of (M := e) (t := e.2 156 0) (k := M.2 153 0) (by rw [e156]; exact GVM_f hV1 fe rfl) (by
        unfold TOK
        rw [e156, fr2 fe 139 rfl, fr2 fe 58 rfl, fr2 fe 54 rfl]
        exact hV2) (by
        unfold OPR
        rw [fr2 fe 160 rfl, fr2 fe 161 rfl, fr2 fe 162 rfl]
        exact hV3) w hs
      have f2 : fr [] svG e w.2 := so.1
      have q := df2_154 (m := w.2) (by rw [fr1 f2 149 rfl, fr1 fe 149 rfl]; exact L0) (by rw [fr1 f2 149 rfl, fr1 fe 149 rfl]; exact L1) _ _ z hz
      have sh : SHL M z.2 := by
        have h := q.1
        unfold SHL at h ⊢
        rw [fr1 f2 149 rfl, fr1 f2 150 rfl, fr2 f2 153 rfl, fr2 f2 154 rfl, fr2 f2 155 rfl, fr2 f2 156 rfl, fr2 f2 157 rfl, fr2 f2 158 rfl, fr2 f2 159 rfl, fr2 f2 160 rfl, fr2 f2 161 rfl, fr2 f2 162 rfl, fr1 fe 149 rfl, fr1 fe 150 rfl, fr2 fe 153 rfl, fr2 fe 154 rfl, fr2 fe 155 rfl, fr2 fe 156 rfl, fr2 fe 157 rfl, fr2 fe 158 rfl, fr2 fe 159 rfl, fr2 fe 160 rfl, fr2 fe 161 rfl, fr2 fe 162 rfl] at h
        exact h
      exact ⟨sh, Or.inr ⟨by omega, e, w.1, w.2, fe, hs, so, q.2⟩⟩
end TP3
