def IK (i : Int) (K : mR) : Prop := ((K.1 232) ≤ i ∧ (K.1 235) ≤ 20 * i ∧ (K.1 234) ≤ (K.1 235) ∧ (K.1 233) ≤ (K.1 232)) ∧ (∀ r9, 0 ≤ r9 → r9 < 128 → r9 < (K.1 232) → 1 ≤ (K.2 107) r9) ∧ (NKp (K.2 18) (K.2 19)) ∧ (PIp (K.1 226) (K.1 233) (K.1 232) (K.2 106) (K.2 91) (K.2 92) (K.2 94)) ∧ ((K.1 201) = 1 → HBp (K.1 214) (K.2 10)) ∧ ((K.1 201) = 1 → IHp (K.1 215) (K.2 13) (K.1 214)) ∧ ((K.1 201) = 1 → LTp (K.1 218) (K.2 17) (K.1 215)) ∧ ((K.1 201) = 1 → DEp (K.1 224) (K.2 45) (K.2 46) (K.2 47) (K.2 49)) ∧ ((K.1 201) = 1 → AcP (K.1 223) (K.1 224) (K.2 43) (K.2 44)) ∧ ((K.1 201) = 1 → TLp (K.1 219) (K.2 73) (K.2 83) (K.1 223)) ∧ ((K.1 201) = 1 → LTp (K.1 219) (K.2 74) (K.1 223)) ∧ ((K.1 201) = 1 → TCp (K.1 219) (K.2 78) (K.2 89) (K.1 223)) ∧ ((K.1 201) = 1 → SPp (K.1 225) (K.2 52) (K.2 58) (K.2 55) (K.2 56) (K.1 219) (K.1 224))
def IKF : List Nat := [201, 214, 215, 218, 219, 223, 224, 225, 226, 232, 233, 234, 235]
def IKA : List Nat := [10, 13, 17, 18, 19, 43, 44, 45, 46, 47, 49, 52, 55, 56, 58, 73, 74, 78, 83, 89, 91, 92, 94, 106, 107]
def IKd (u v : List Nat) : Bool := IKF.all (nin u) && IKA.all (nin v)
theorem IK_i {i i' : Int} {K : mR} (h : IK i K) (hi : i ≤ i') : IK i' K := by
  obtain ⟨h0, h1, h2, h3, h4, h5, h6, h7, h8, h9, h10, h11, h12⟩ := h
  exact ⟨by omega, h1, h2, h3, h4, h5, h6, h7, h8, h9, h10, h11, h12⟩
theorem IK_f {i i' : Int} {K M : mR} {u v : List Nat} (h : IK i K) (hi : i ≤ i') (hf : fr u v K M) (hd : IKd u v = true) : IK i' M := by
  obtain ⟨d1, d2⟩ := Bool.and_eq_true_iff.mp hd
  have e1 : ∀ k ∈ IKF, M.1 k = K.1 k := fun k hk => hf.1 k (List.all_eq_true.mp d1 k hk)
  have e2 : ∀ k ∈ IKA, M.2 k = K.2 k := fun k hk => hf.2 k (List.all_eq_true.mp d2 k hk)
  have h := IK_i h hi
  unfold IK at h ⊢
  rw [e1 201 (by decide), e1 214 (by decide), e1 215 (by decide), e1 218 (by decide), e1 219 (by decide), e1 223 (by decide), e1 224 (by decide), e1 225 (by decide), e1 226 (by decide), e1 232 (by decide), e1 233 (by decide), e1 234 (by decide), e1 235 (by decide), e2 10 (by decide), e2 13 (by decide), e2 17 (by decide), e2 18 (by decide), e2 19 (by decide), e2 43 (by decide), e2 44 (by decide), e2 45 (by decide), e2 46 (by decide), e2 47 (by decide), e2 49 (by decide), e2 52 (by decide), e2 55 (by decide), e2 56 (by decide), e2 58 (by decide), e2 73 (by decide), e2 74 (by decide), e2 78 (by decide), e2 83 (by decide), e2 89 (by decide), e2 91 (by decide), e2 92 (by decide), e2 94 (by decide), e2 106 (by decide), e2 107 (by decide)]
  exact h
def IM (i : Int) (m : mR) : Prop := ((m.1 148) ≤ i ∧ (m.1 152) ≤ 20 * i) ∧ ((m.1 127) = 0 ∨ (m.1 127) = 1) ∧ ((m.1 128) = 1 → (m.1 127) = 1) ∧ (∀ k, (m.2 14) k + (m.2 15) k ≤ 4000) ∧ (∀ k, (m.2 31) k + (m.2 32) k ≤ 4000) ∧ (∀ k, (m.2 47) k + (m.2 48) k ≤ 4000) ∧ (HBi (m.2 29) (m.2 30) (m.2 33)) ∧ ((m.1 127) = 1 → CN (m.2 65) (m.2 67) (m.1 28)) ∧ ((m.1 127) = 1 → SOp (m.2 38) (m.1 23) (m.1 24)) ∧ ((m.1 127) = 1 → StP (m.2 65) (m.1 28) (m.1 23) (m.1 24) (m.2 42) (m.2 95) (m.2 96) (m.2 44) (m.2 45)) ∧ ((m.1 127) = 1 → TdP (m.2 65) (m.1 28) (m.1 22) (m.1 99) (m.2 101) (m.2 103) (m.2 105) (m.2 106) (m.2 107) (m.2 108)) ∧ ((m.1 127) = 1 → AcP (m.1 25) (m.1 99) (m.2 109) (m.2 50)) ∧ ((m.1 127) = 1 → TbP (m.2 65) (m.1 28) (m.1 25) (m.1 26) (m.2 51) (m.2 110) (m.2 111) (m.2 57) (m.2 53) (m.2 114) (m.2 58) (m.2 54)) ∧ ((m.1 127) = 1 → ∀ k, 0 ≤ k → k < (m.1 20) → (m.2 34) k < (m.1 19)) ∧ ((m.1 127) = 1 → ∀ g, 0 ≤ g → g < (m.1 19) → (m.2 30) g ≤ 512) ∧ ((m.1 127) = 1 → ∀ k, 0 ≤ k → k < (m.1 22) → 1 ≤ (m.2 93) k ∧ 1 ≤ (m.2 36) k) ∧ ((m.1 127) = 1 → SpP (m.2 65) (m.1 28) (m.1 99) (m.1 26) (m.1 27) (m.2 60) (m.2 61) (m.2 120) (m.2 121) (m.2 122) (m.2 63)) ∧ ((m.1 127) = 1 → ∀ j, 0 ≤ j → j < (m.1 125) → (m.2 124) j < (m.1 20)) ∧ ((m.1 127) = 1 → ∀ q, 0 ≤ q → q < (m.1 24) → 0 < (m.2 41) q ∨ NR (m.2 44) (m.2 38) (m.2 42) (m.2 45) (m.2 41) (m.1 24) q) ∧ (EMp (m.1 26) (m.2 139) (m.2 58) (m.2 54)) ∧ (EAp (m.1 25) (m.2 139) (m.2 141)) ∧ (∀ k, 0 ≤ k → k < (m.1 149) → 0 < (m.2 153) k → (m.2 156) k < (m.1 26)) ∧ ((m.1 150) + (m.1 149) = (m.1 148)) ∧ ((m.1 151) ≤ (m.1 150))
def IMF : List Nat := [19, 20, 22, 23, 24, 25, 26, 27, 28, 99, 125, 127, 128, 148, 149, 150, 151, 152]
def IMA : List Nat := [14, 15, 29, 30, 31, 32, 33, 34, 36, 38, 41, 42, 44, 45, 47, 48, 50, 51, 53, 54, 57, 58, 60, 61, 63, 65, 67, 93, 95, 96, 101, 103, 105, 106, 107, 108, 109, 110, 111, 114, 120, 121, 122, 124, 139, 141, 153, 156]
def IMd (u v : List Nat) : Bool := IMF.all (nin u) && IMA.all (nin v)
theorem IM_i {i i' : Int} {m : mR} (h : IM i m) (hi : i ≤ i') : IM i' m := by
  obtain ⟨h0, h1, h2, h3, h4, h5, h6, h7, h8, h9, h10, h11, h12, h13, h14, h15, h16, h17, h18, h19, h20, h21, h22, h23⟩ := h
  exact ⟨by omega, h1, h2, h3, h4, h5, h6, h7, h8, h9, h10, h11, h12, h13, h14, h15, h16, h17, h18, h19, h20, h21, h22, h23⟩
theorem IM_f {i i' : Int} {m M : mR} {u v : List Nat} (h : IM i m) (hi : i ≤ i') (hf : fr u v m M) (hd : IMd u v = true) : IM i' M := by
  obtain ⟨d1, d2⟩ := Bool.and_eq_true_iff.mp hd
  have e1 : ∀ k ∈ IMF, M.1 k = m.1 k := fun k hk => hf.1 k (List.all_eq_true.mp d1 k hk)
  have e2 : ∀ k ∈ IMA, M.2 k = m.2 k := fun k hk => hf.2 k (List.all_eq_true.mp d2 k hk)
  have h := IM_i h hi
  unfold IM at h ⊢
  rw [e1 19 (by decide), e1 20 (by decide), e1 22 (by decide), e1 23 (by decide), e1 24 (by decide), e1 25 (by decide), e1 26 (by decide), e1 27 (by decide), e1 28 (by decide), e1 99 (by decide), e1 125 (by decide), e1 127 (by decide), e1 128 (by decide), e1 148 (by decide), e1 149 (by decide), e1 150 (by decide), e1 151 (by decide), e1 152 (by decide), e2 14 (by decide), e2 15 (by decide), e2 29 (by decide), e2 30 (by decide), e2 31 (by decide), e2 32 (by decide), e2 33 (by decide), e2 34 (by decide), e2 36 (by decide), e2 38 (by decide), e2 41 (by decide), e2 42 (by decide), e2 44 (by decide), e2 45 (by decide), e2 47 (by decide), e2 48 (by decide), e2 50 (by decide), e2 51 (by decide), e2 53 (by decide), e2 54 (by decide), e2 57 (by decide), e2 58 (by decide), e2 60 (by decide), e2 61 (by decide), e2 63 (by decide), e2 65 (by decide), e2 67 (by decide), e2 93 (by decide), e2 95 (by decide), e2 96 (by decide), e2 101 (by decide), e2 103 (by decide), e2 105 (by decide), e2 106 (by decide), e2 107 (by decide), e2 108 (by decide), e2 109 (by decide), e2 110 (by decide), e2 111 (by decide), e2 114 (by decide), e2 120 (by decide), e2 121 (by decide), e2 122 (by decide), e2 124 (by decide), e2 139 (by decide), e2 141 (by decide), e2 153 (by decide), e2 156 (by decide)]
  exact h
/-! the two objects' cells side by side -/
theorem khp_hi {K : mR} {c : Nat → Option am_C} {q : Nat} (h : 189 ≤ q) (ho : K.2 108 q ≤ 0) : khp K c q = c q := by
  unfold khp
  rw [if_neg (by omega), if_neg (by omega)]
theorem khp_cc {K : mR} {c c' : Nat → Option am_C} {q : Nat} (h : c' q = c q) : khp K c' q = khp K c q := by
  unfold khp
  split
  · rfl
  · split
    · rfl
    · exact h
theorem khp_up {K : mR} {c : Nat → Option am_C} {q : Nat} {x : am_C} (h : 189 ≤ q) (ho : K.2 108 q ≤ 0) : up1 (khp K c) q x = khp K (up1 c q x) := by
  funext p
  by_cases e : p = q
  · rw [e, up1_s, khp_hi h ho, up1_s]
  · rw [up1_n e]
    exact (khp_cc (up1_n e)).symm
theorem mhp_lo {m : mR} {c : Nat → Option am_C} {q : Nat} (h : q < 189 ∨ 326 ≤ q) : mhp m c q = c q := by
  unfold mhp
  by_cases h1 : q < 189
  · rw [if_pos h1]
  · rw [if_neg h1, if_neg (by omega), if_neg (by omega)]
theorem mhp_in {m : mR} {c c' : Nat → Option am_C} {q : Nat} (h : 189 ≤ q) (h2 : q < 326) : mhp m c q = mhp m c' q := by
  have h1 : ¬ q < 189 := by omega
  have h3 : q < 189 + 1 + 136 := by omega
  unfold mhp
  simp only [if_neg h1, if_pos h3]
theorem hp_cm {K m : mR} {c : Nat → Option am_C} (hK : KTy K) : mhp m (khp K c) = khp K (mhp m c) := by
  funext q
  by_cases h : 189 ≤ q ∧ q < 326
  · rw [khp_hi h.1 (hK.2.2.2.2.1 q (by omega))]
    exact mhp_in h.1 h.2
  · rw [mhp_lo (by omega)]
    exact (khp_cc (mhp_lo (by omega))).symm
theorem mhp_id {m : mR} {c : Nat → Option am_C} : mhp m (mhp m c) = mhp m c := by
  funext q
  by_cases h : 189 ≤ q ∧ q < 326
  · exact mhp_in h.1 h.2
  · exact mhp_lo (by omega)
def ocl (F : Nat → Int64) : am_C := .inl (1, 1, .inr (.inl F))
def OC (c c' : Nat → Option am_C) : Prop := (∀ q, q < 326 → c' q = c q) ∧ ∃ F, c' 326 = some (ocl F)
theorem OC_m {m : mR} {c c' : Nat → Option am_C} (h : OC c c') (hm : mhp m c = c) : mhp m c' = c' := by
  funext q
  by_cases h1 : 189 ≤ q ∧ q < 326
  · rw [mhp_in (c' := c) h1.1 h1.2, hm, h.1 q h1.2]
  · exact mhp_lo (by omega)
def HQ (i : Int) (c : Nat → Option am_C) (N : Nat) (P : Int → mR → (Nat → Option am_C) → Prop) : ag_Re af_T → Prop := fun R => ∃ (K' : mR) (c' : Nat → Option am_C) (N' k n : Nat) (r : Int), KTy K' ∧ IK i K' ∧ OC c c' ∧ FRp N' K' ∧ (N ≤ N' ∧ N' ≤ N + 8 ∧ k ≤ 8 ∧ n ≤ 1192) ∧ (R32 r ∧ P r K' c') ∧ R = (.inl (some (.int (i32 r))), (khp K' c', N'), k, n)
section KLW
variable {w : wX} {D : Nat} {me : am_M} {Q : ag_Re af_T → Prop} {pc nc ns N : Nat} {lv : List (Nat × Value)} {st : List Value} {t : af_T} {c : Nat → Option am_C} {K m : mR} {i : am_I}
theorem T_callc (pc' mi : Nat) (av rest : List Value) {Qc : ag_Re af_T → Prop} (hi : me.2.2.2.2.2 pc = some i) (hs : ∀ call, ag_step af_O 8192 w.1 (nm_E w.2.1 w.2.2.1 w.2.2.2) nm_cn (D + 1) call me i (pc, lv, st, t, nc, ns) = ag_back af_O 8192 (nm_E w.2.1 w.2.2.1 w.2.2.2) me.2.2.2.2.1 pc lv rest nc ns (call mi av t)) (hp : pc + 3 = pc') (hn : am_covered me.2.2.2.2.1 pc = true) (hc : TC w D mi av t Qc)
    (H : ∀ r, Qc r → (∃ v t' k n, r = (.inl v, t', k, n) ∧ TT w D me (pc', lv, v.toList ++ rest, t', nc + k, ns + n) Q) ∨ (∃ x a h' N' k n, r = (.inr x, (h', N'), k, n) ∧ am_find (nm_E w.2.1 w.2.2.1 w.2.2.2) me.2.2.2.2.1 pc x = some a ∧ N' < 8192 ∧ TT w D me (a, lv, [.ref N'], (up1 h' N' (.inr (nm_xc x, [])), N' + 1), nc + k, ns + n) Q)) : TT w D me (pc, lv, st, t, nc, ns) Q := by
  subst hp
  obtain ⟨rc, hqc, F1, hF1⟩ := hc
  rcases H rc hqc with ⟨v, t', k, n, rfl, r, hq, F2, hF2⟩ | ⟨x, a, h', N', k, n, rfl, hfd, hN, r, hq, F2, hF2⟩
  · refine ⟨r, hq, F1 + F2 + 1, fun fuel hf n9 hn9 => ?_⟩
    obtain ⟨n9, rfl⟩ : ∃ k, n9 = k + 1 := ⟨n9 - 1, by omega⟩
    rw [ag_run, show me.2.2.2.2.2 (pc, lv, st, t, nc, ns).1 = some i from hi]
    dsimp only
    rw [hs, hF1 fuel (by omega)]
    exact hF2 fuel (by omega) n9 (by omega)
  · refine ⟨r, hq, F1 + F2 + 1, fun fuel hf n9 hn9 => ?_⟩
    obtain ⟨n9, rfl⟩ : ∃ k, n9 = k + 1 := ⟨n9 - 1, by omega⟩
    rw [ag_run, show me.2.2.2.2.2 (pc, lv, st, t, nc, ns).1 = some i from hi]
    dsimp only
    rw [hs, hF1 fuel (by omega)]
    unfold ag_back
    dsimp only
    rw [if_pos hn, hfd]
    dsimp only
    rw [if_pos (show af_O.2.2.2 (h', N') < 8192 from hN)]
    exact hF2 fuel (by omega) n9 (by omega)
theorem L_out (pc' : Nat) {x : Int} {len p q r : Nat} (hi : me.2.2.2.2.2 pc = some (.lastore, len, p, q, r)) (hK : KTy K) (hc : ∃ F, c 326 = some (ocl F)) (hp : pc + 1 = pc') (H : ∀ c', OC c c' → (∃ F, c' 326 = some (ocl F) ∧ F 0 = i64 x) → TT w D me (pc', lv, st, (khp K c', N), nc, ns) Q) : TT w D me (pc, lv, .long (i64 x) :: .int (i32 0) :: .ref 326 :: st, (khp K c, N), nc, ns) Q := by
  obtain ⟨F, hF⟩ := hc
  have ho := hK.2.2.2.2.1 326 (by omega)
  have h9 : khp K c 326 = some (.inl (1, 1, .inr (.inl F))) := by rw [khp_hi (by omega) ho, hF]; rfl
  exact G_last pc' hi h9 (by decide) (by decide) (by decide) (khp_up (by omega) ho) hp (H _ ⟨fun q hq => up1_n (by omega), _, up1_s⟩ ⟨_, up1_s, by first | rfl | exact if_pos rfl⟩)
theorem L_exc {x N' : Nat} {c0 : Nat → Option am_C} (hK : FRp N' K) (hN : 327 ≤ N') (hc : ∃ F, c 326 = some (ocl F)) : ∃ c', up1 (khp K c) N' (.inr (x, [])) = khp K c' ∧ OC c c' := by
  refine ⟨up1 c N' (.inr (x, [])), khp_up (by omega) (hK N' (Nat.le_refl _)), fun q hq => up1_n (by omega), ?_⟩
  obtain ⟨F, hF⟩ := hc
  exact ⟨F, by rw [up1_n (by omega), hF]⟩
theorem OC_r (hc : ∃ F, c 326 = some (ocl F)) : OC c c := ⟨fun _ _ => rfl, hc⟩
theorem OC_t {c1 c2 : Nat → Option am_C} (h : OC c c1) (h2 : OC c1 c2) : OC c c2 := ⟨fun q hq => (h2.1 q hq).trans (h.1 q hq), h2.2⟩
theorem FR_s {N N' : Nat} (h : FRp N K) (hn : N ≤ N') : FRp N' K := fun q hq => h q (by omega)
theorem L_ref (pc' mi : Nat) (args rest : List Value) {Qc : ag_Re af_T → Prop} {idx len b : Nat} (hi : me.2.2.2.2.2 pc = some (.invokevirtual idx, len, mi, b, 0)) (hl : st = args ++ .ref 189 :: rest) (hb : args.length = b) (h8 : decide (am_cat rest ≤ 8) = true) (hcn : nm_cn mi = 12) (hp : pc + 3 = pc') (hn : am_covered me.2.2.2.2.1 pc = false) (hK : KTy K) (hm : mhp m c = c) (hc : TC w D mi (.ref 189 :: args.reverse) (mhp m (khp K c), N) Qc)
    (H : ∀ r, Qc r → ∃ v M, r = (.inl v, (mhp M (khp K c), N), 0, 0) ∧ TT w D me (pc', lv, v.toList ++ rest, (khp K (mhp M c), N), nc, ns) Q) : TT w D me (pc, lv, st, (khp K c, N), nc, ns) Q := by
  have e1 : khp K c = mhp m (khp K c) := by rw [hp_cm hK, hm]
  have g : TT w D me (pc, lv, st, (mhp m (khp K c), N), nc, ns) Q := by
    refine T_callx pc' mi _ rest hi (inv_vt (args := args) (fs := mfl m) (by rw [mhp_o, hcn]) hl hb h8) hp hn hc (fun r hr => ?_)
    obtain ⟨v, M, rfl, HT⟩ := H r hr
    refine Or.inl ⟨_, _, _, _, rfl, ?_⟩
    rw [hp_cm hK]
    exact HT
  rw [← e1] at g
  exact g
def sx (xs : Nat → Int32) (k : Int) : Int := (xs k.toNat).toInt
theorem sx_r (xs : Nat → Int32) (k : Int) : R32 (sx xs k) := ⟨Int32.le_toInt _, Int32.toInt_lt _⟩
theorem L_sl (pc' : Nat) {L : Nat} {xs : Nat → Int32} {k : Int} {len p q r : Nat} (hi : me.2.2.2.2.2 pc = some (.iaload, len, p, q, r)) (hX : w.1 = (some L, fun j => some (xs j))) (h0 : 0 ≤ k) (h1 : k < L) (hL : L ≤ 3072) (hp : pc + 1 = pc') (H : TT w D me (pc', lv, .int (i32 (sx xs k)) :: st, t, nc, ns) Q) : TT w D me (pc, lv, .int (i32 k) :: .ref 1000000 :: st, t, nc, ns) Q := by
  subst hp
  refine Tm_step hi (fun call => ?_) H
  show ag_liftH (ag_iaload af_O w.1 pc lv (.int (i32 k) :: .ref 1000000 :: st) t) nc ns = _
  unfold ag_iaload
  dsimp only
  rw [if_neg (by decide), hX]
  dsimp only
  rw [if_pos ⟨rfl, idx_in h0 h1 (by omega)⟩, show (i32 k).toNatClampNeg = k.toNat by have := i32_nat h0 (by omega : k < 2147483648); omega, ← i32_of (xs k.toNat)]
  rfl
theorem i32_N (L : Nat) : Int32.ofNat L = i32 (L : Int) := by
  first | rfl | exact (Int32.ofInt_eq_ofNat).symm | simp [i32]
theorem L_al (pc' : Nat) {L : Nat} {xs : Nat → Int32} {len p q r : Nat} (hi : me.2.2.2.2.2 pc = some (.arraylength, len, p, q, r)) (hX : w.1 = (some L, fun j => some (xs j))) (hp : pc + 1 = pc') (H : TT w D me (pc', lv, .int (i32 (L : Int)) :: st, t, nc, ns) Q) : TT w D me (pc, lv, .ref 1000000 :: st, t, nc, ns) Q := by
  subst hp
  refine Tm_step hi (fun call => ?_) H
  show ag_liftH (ag_alength af_O w.1 (nm_E w.2.1 w.2.2.1 w.2.2.2) pc lv (.ref 1000000 :: st) t) nc ns = _
  unfold ag_alength
  dsimp only
  rw [if_neg (by decide), if_pos rfl, hX, ← i32_N]
  rfl
end KLW
def LI (i : Int) (K m : mR) (c : Nat → Option am_C) (N nc ns : Nat) : Prop := KTy K ∧ Ty m ∧ IK i K ∧ IM i m ∧ mhp m c = c ∧ (∃ F, c 326 = some (ocl F)) ∧ FRp N K ∧ (327 ≤ N ∧ (N : Int) ≤ 327 + 2 * i ∧ (nc : Int) ≤ 327 + 2 * i ∧ (ns : Int) ≤ 208818 + 200 * i)
def LI4 (i : Int) (K m : mR) (c : Nat → Option am_C) (N nc ns : Nat) : Prop := LI i K m c N nc ns ∧ RX K m ∧ TM K m ∧ PQs K m
theorem Tc_a {w : wX} {D mi : Nat} {av : List Value} {t : af_T} {Q Q' : ag_Re af_T → Prop} (h : TC w D mi av t Q) (g : PC w D mi av t Q') : TC w D mi av t (fun r => Q r ∧ Q' r) := by
  obtain ⟨r, hq, F, hF⟩ := h
  exact ⟨r, ⟨hq, g F r (hF F (Nat.le_refl _))⟩, F, hF⟩
theorem D_k {w : wX} {D mi N : Nat} {av : List Value} {K Kp : mR} {c : Nat → Option am_C} {Q : ag_Re af_T → Prop} (hA : AGk K Kp) (h : PC w D mi av (khp Kp c, N) Q) : PC w D mi av (khp K c, N) Q := by
  rw [← khp_AG hA]
  exact h
theorem D_m {w : wX} {D mi N : Nat} {av : List Value} {M mp : mR} {c : Nat → Option am_C} {Q : ag_Re af_T → Prop} (hB : AGm M mp) (h : PC w D mi av (mhp mp c, N) Q) : PC w D mi av (mhp M c, N) Q := by
  rw [← mhp_AG hB]
  exact h
theorem FK0_n {y : Int × mR} {c : Nat → Option am_C} {N : Nat} {M1 : mR} (h : FK0 c N y ((.inl none, (khp M1 c, N), 0, 0) : ag_Re af_T)) : khp M1 c = khp y.2 c ∧ KCn y.2 := by
  obtain ⟨hc, h3⟩ := h
  exact ⟨(Prod.mk.inj (Prod.mk.inj (Prod.mk.inj h3).2).1).1, hc⟩
theorem FR0_n {y : Int × mR} {c : Nat → Option am_C} {N : Nat} {M1 : mR} (h : FR0 c N y ((.inl none, (mhp M1 c, N), 0, 0) : ag_Re af_T)) : mhp M1 c = mhp y.2 c ∧ Cn y.2 := by
  obtain ⟨hc, h3⟩ := h
  exact ⟨(Prod.mk.inj (Prod.mk.inj (Prod.mk.inj h3).2).1).1, hc⟩
theorem FK1_n {y : Int × mR} {c : Nat → Option am_C} {N : Nat} {a : Int} {M1 : mR} (ha : R32 a) (h : FK1 c N y ((.inl (some (.int (i32 a))), (khp M1 c, N), 0, 0) : ag_Re af_T)) : y.1 = a ∧ khp M1 c = khp y.2 c ∧ KCn y.2 := by
  obtain ⟨h2, hc, h3⟩ := h
  exact ⟨(i32_inj ha h2 (Value.int.inj (Option.some.inj (Sum.inl.inj (Prod.mk.inj h3).1)))).symm, (Prod.mk.inj (Prod.mk.inj (Prod.mk.inj h3).2).1).1, hc⟩
theorem FR1_n {y : Int × mR} {c : Nat → Option am_C} {N : Nat} {a : Int} {M1 : mR} (ha : R32 a) (h : FR1 c N y ((.inl (some (.int (i32 a))), (mhp M1 c, N), 0, 0) : ag_Re af_T)) : y.1 = a ∧ mhp M1 c = mhp y.2 c ∧ Cn y.2 := by
  obtain ⟨h2, hc, h3⟩ := h
  exact ⟨(i32_inj ha h2 (Value.int.inj (Option.some.inj (Sum.inl.inj (Prod.mk.inj h3).1)))).symm, (Prod.mk.inj (Prod.mk.inj (Prod.mk.inj h3).2).1).1, hc⟩
theorem FX1_n {y : Int × Int × mR} {c : Nat → Option am_C} {N : Nat} {a : Int} {M1 : mR} (ha : R32 a) (h : FX1 c N y ((.inl (some (.int (i32 a))), (khp M1 c, N), 0, 0) : ag_Re af_T)) : y.1 = 0 ∧ y.2.1 = a ∧ khp M1 c = khp y.2.2 c ∧ KCn y.2.2 := by
  obtain ⟨hc, h⟩ := h
  rcases h with ⟨h1, h2, h3⟩ | ⟨x, h1, h3⟩
  · have e1 := (Prod.mk.inj h3).1
    have e2 := (Prod.mk.inj (Prod.mk.inj (Prod.mk.inj h3).2).1).1
    have e3 := Value.int.inj (Option.some.inj (Sum.inl.inj e1))
    exact ⟨h1, (i32_inj ha h2 e3).symm, e2, hc⟩
  · exact absurd (Prod.mk.inj h3).1 (fun q => nomatch q)
theorem FX1_x {y : Int × Int × mR} {c : Nat → Option am_C} {N x1 : Nat} {M1 : mR} (h : FX1 c N y ((.inr x1, (khp M1 c, N), 1, 6) : ag_Re af_T)) : y.1 = (x1 : Int) + 1 ∧ khp M1 c = khp y.2.2 c ∧ KCn y.2.2 := by
  obtain ⟨hc, h⟩ := h
  rcases h with ⟨h1, h2, h3⟩ | ⟨x, h1, h3⟩
  · exact absurd (Prod.mk.inj h3).1 (fun q => nomatch q)
  · have e1 := Sum.inr.inj (Prod.mk.inj h3).1
    have e2 := (Prod.mk.inj (Prod.mk.inj (Prod.mk.inj h3).2).1).1
    rw [e1]
    exact ⟨h1, e2, hc⟩
abbrev LV (i : Int) : List (Nat × Value) := [(4, .int (i32 i)), (3, .ref 326), (2, .ref 189), (1, .ref 0), (0, .ref 1000000)]
theorem FX2_n {y : Int × Int × mR} {c : Nat → Option am_C} {N : Nat} {a : Int} {M1 : mR} (ha : R64 a) (h : FX2 c N y ((.inl (some (.long (i64 a))), (khp M1 c, N), 0, 0) : ag_Re af_T)) : y.1 = 0 ∧ y.2.1 = a ∧ khp M1 c = khp y.2.2 c ∧ KCn y.2.2 := by
  obtain ⟨hc, h⟩ := h
  rcases h with ⟨h1, h2, h3⟩ | ⟨x, h1, h3⟩
  · have e1 := (Prod.mk.inj h3).1
    have e2 := (Prod.mk.inj (Prod.mk.inj (Prod.mk.inj h3).2).1).1
    have e3 := Value.long.inj (Option.some.inj (Sum.inl.inj e1))
    exact ⟨h1, (i64_inj ha h2 e3).symm, e2, hc⟩
  · exact absurd (Prod.mk.inj h3).1 (fun q => nomatch q)
theorem FX2_x {y : Int × Int × mR} {c : Nat → Option am_C} {N x1 : Nat} {M1 : mR} (h : FX2 c N y ((.inr x1, (khp M1 c, N), 1, 6) : ag_Re af_T)) : y.1 = (x1 : Int) + 1 ∧ khp M1 c = khp y.2.2 c ∧ KCn y.2.2 := by
  obtain ⟨hc, h⟩ := h
  rcases h with ⟨h1, h2, h3⟩ | ⟨x, h1, h3⟩
  · exact absurd (Prod.mk.inj h3).1 (fun q => nomatch q)
  · have e1 := Sum.inr.inj (Prod.mk.inj h3).1
    have e2 := (Prod.mk.inj (Prod.mk.inj (Prod.mk.inj h3).2).1).1
    rw [e1]
    exact ⟨h1, e2, hc⟩
theorem FR2_n {y : Int × mR} {c : Nat → Option am_C} {N : Nat} {a : Int} {M1 : mR} (ha : R64 a) (h : FR2 c N y ((.inl (some (.long (i64 a))), (mhp M1 c, N), 0, 0) : ag_Re af_T)) : y.1 = a ∧ mhp M1 c = mhp y.2 c ∧ Cn y.2 := by
  obtain ⟨h2, hc, h3⟩ := h
  exact ⟨(i64_inj ha h2 (Value.long.inj (Option.some.inj (Sum.inl.inj (Prod.mk.inj h3).1)))).symm, (Prod.mk.inj (Prod.mk.inj (Prod.mk.inj h3).2).1).1, hc⟩
theorem D_kh {K Kj : mR} {c : Nat → Option am_C} {w : wX} {D mi N : Nat} {av : List Value} {Q : ag_Re af_T → Prop} (h : khp Kj c = khp K c) (h9 : PC w D mi av (khp Kj c, N) Q) : PC w D mi av (khp K c, N) Q := by
  rw [← h]
  exact h9
