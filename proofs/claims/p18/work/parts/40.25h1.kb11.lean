section KSTG
variable {w : wX} {D : Nat} {me : am_M} {Q : ag_Re af_T → Prop} {pc nc ns N : Nat} {lv : List (Nat × Value)} {st : List Value} {h : Nat → Option am_C} {c : Nat → Option am_C} {m : mR} {l : List (Nat × Int)} {a : List (Nat × (Int → Int))}
theorem K_aasn (pc' : Nat) {a' : List (Nat × (Int → Int))} (f : Int → Int) {len p p' p'' : Nat} {n : Int} (hi : me.2.2.2.2.2 pc = some (.aastore, len, p, p', p'')) (hp : pc + 1 = pc') (h0 : 0 ≤ n) (h1 : n < 12) (hK : KTy (mO m l a)) (hf : (mO m l a).2 106 = f) (ha : ins 106 (upI f n (-1)) a = a') (H : TT w D me (pc', lv, st, (khp (mO m l a') c, N), nc, ns) Q) : TT w D me (pc, lv, .null :: .int (i32 n) :: .ref 187 :: st, (khp (mO m l a) c, N), nc, ns) Q := by
  subst hf ha
  have hc : khp (mO m l a) c 187 = some (kfx (mO m l a) (7, 12, [])) := by
    rw [khp_lo _ c (by omega), klo_fx _ (by decide), kd_187]
  refine G_astn pc' hi hc (Or.inr rfl) h0 (by omega) (by omega) ?_ hp H
  rw [← mO_a]
  refine khp_sets _ c hK.2.2 ?_
  rw [khp_lo _ c (by omega), klo_fx _ (by decide), kd_187]
  have e := kst_up (K := mO m l a) (x := -1) h0
  show some (Sum.inl (5, 12, Sum.inr (Sum.inr (Sum.inr (Sum.inr _))))) = _
  rw [e]
  try rfl
theorem kst_ok {K : mR} {r : Int} (hr : OKr K r) : ksv K r = some (obr K r) := by
  obtain ⟨h0, h1, h2, h3, h4⟩ := hr
  unfold ksv kor
  rw [if_neg (by omega), if_neg (by omega)]
  rfl
theorem K_aaso (pc' : Nat) {a' : List (Nat × (Int → Int))} (f : Int → Int) {len p p' p'' q : Nat} {n r : Int} (hi : me.2.2.2.2.2 pc = some (.aastore, len, p, p', p'')) (hp : pc + 1 = pc') (h0 : 0 ≤ n) (h1 : n < 12) (hK : KTy (mO m l a)) (hr : OKr (mO m l a) r) (hq : obr (mO m l a) r = q) (hf : (mO m l a).2 106 = f) (ha : ins 106 (upI f n r) a = a') (H : TT w D me (pc', lv, st, (khp (mO m l a') c, N), nc, ns) Q) : TT w D me (pc, lv, .ref q :: .int (i32 n) :: .ref 187 :: st, (khp (mO m l a) c, N), nc, ns) Q := by
  subst hf ha hq
  have hc : khp (mO m l a) c 187 = some (kfx (mO m l a) (7, 12, [])) := by
    rw [khp_lo _ c (by omega), klo_fx _ (by decide), kd_187]
  refine G_aast pc' hi (khp_o0 _ hr) hc h0 (by omega) (by omega) ?_ hp H
  rw [← mO_a]
  refine khp_sets _ c hK.2.2 ?_
  rw [khp_lo _ c (by omega), klo_fx _ (by decide), kd_187]
  have e := kst_up (K := mO m l a) (x := r) h0
  rw [kst_ok hr] at e
  show some (Sum.inl (5, 12, Sum.inr (Sum.inr (Sum.inr (Sum.inr _))))) = _
  rw [e]
  try rfl
/-- a row's cell, if it stands: what lies in a stage, what lies in operations -/
theorem kor_cs {K : mR} (hT : KTy K) {r : Int} (h0 : 0 ≤ r) (h1 : r < 128) : kor K r = none ∨ (OKr K r ∧ kor K r = some (obr K r)) := by
  rcases hT.2.2.2.1 r h0 h1 with h | h
  · left
    unfold kor
    rw [if_pos (by omega)]
  · right
    refine ⟨h, ?_⟩
    obtain ⟨-, -, h2, -, -⟩ := h
    unfold kor
    rw [if_neg (by omega)]
    rfl
theorem K_aaisF (pc' : Nat) (f g : Int → Int) {len p p' p'' : Nat} {n : Int} (hi : me.2.2.2.2.2 pc = some (.aaload, len, p, p', p'')) (hp : pc + 1 = pc') (h0 : 0 ≤ n) (h1 : n < 12) (hT : KTy (mO m l a)) (hf : (mO m l a).2 106 = f) (hg : (mO m l a).2 107 = g)
    (H0 : TT w D me (pc', lv, .null :: st, (khp (mO m l a) c, N), nc, ns) Q) (H1 : 0 ≤ f n → f n < 128 → OKr (mO m l a) (f n) → TT w D me (pc', lv, .ref (obq g (f n)) :: st, (khp (mO m l a) c, N), nc, ns) Q) : TT w D me (pc, lv, .int (i32 n) :: .ref 187 :: st, (khp (mO m l a) c, N), nc, ns) Q := by
  subst hf hg
  have hr := hT.2.1 106 n
  have e1 : kelo 106 = -1 := by decide +kernel
  have e2 : kehi 106 = 127 := by decide +kernel
  by_cases hn : (mO m l a).2 106 n < 0
  · exact K_aais pc' .null hi h0 h1 (by rw [if_pos hn]; rfl) hp H0
  · rcases kor_cs hT (r := (mO m l a).2 106 n) (by omega) (by omega) with h | ⟨h, e⟩
    · exact K_aais pc' .null hi h0 h1 (by rw [if_neg hn, h]; rfl) hp H0
    · exact K_aais pc' _ hi h0 h1 (by rw [if_neg hn, e]; rfl) hp (H1 (by omega) (by omega) h)
theorem K_aaopF (pc' : Nat) (g : Int → Int) {len p p' p'' : Nat} {n : Int} (hi : me.2.2.2.2.2 pc = some (.aaload, len, p, p', p'')) (hp : pc + 1 = pc') (h0 : 0 ≤ n) (h1 : n < 128) (hT : KTy (mO m l a)) (hg : (mO m l a).2 107 = g)
    (H0 : g n = 0 → TT w D me (pc', lv, .null :: st, (khp (mO m l a) c, N), nc, ns) Q) (H1 : OKr (mO m l a) n → TT w D me (pc', lv, .ref (obq g n) :: st, (khp (mO m l a) c, N), nc, ns) Q) : TT w D me (pc, lv, .int (i32 n) :: .ref 186 :: st, (khp (mO m l a) c, N), nc, ns) Q := by
  subst hg
  rcases hT.2.2.2.1 n h0 h1 with h | h
  · exact K_aaop pc' .null hi h0 h1 (by unfold kor; rw [if_pos (by omega)]; rfl) hp (H0 h)
  · have h2 := h.2.2.1
    exact K_aaop pc' _ hi h0 h1 (by unfold kor; rw [if_neg (by omega)]; rfl) hp (H1 h)
/-! arraycopy -/
def cpI (f g : Int → Int) (s d n : Int) : Int → Int := fun j => if d ≤ j ∧ j < d + n then f (s + (j - d)) else g j
theorem cpI_rg {f g : Int → Int} {s d n lo hi : Int} (hf : ∀ j, lo ≤ f j ∧ f j ≤ hi) (hg : ∀ j, lo ≤ g j ∧ g j ≤ hi) : ∀ j, lo ≤ cpI f g s d n j ∧ cpI f g s d n j ≤ hi := fun j => by
  unfold cpI
  split
  · exact hf _
  · exact hg _
theorem G_cpy (pc' : Nat) {h' : Nat → Option am_C} {idx len x y q q0 : Nat} {n dp sp : Int32} {c0 c1 c' : am_C} (hi : me.2.2.2.2.2 pc = some (.invokestatic idx, len, x, y, 9)) (h0 : h q0 = some c0) (h1 : h q = some c1) (hc : am_cpc n dp sp st c0 c1 = some c') (hh : up1 h q c' = h') (hp : pc + 3 = pc') (H : TT w D me (pc', lv, st, (h', N), nc, ns) Q) : TT w D me (pc, lv, .int n :: .int dp :: .ref q :: .int sp :: .ref q0 :: st, (h, N), nc, ns) Q := by
  subst hp hh
  refine Tm_step hi (fun call => ?_) H
  show ag_liftH (ag_copy af_O pc lv (.int n :: .int dp :: .ref q :: .int sp :: .ref q0 :: st) (h, N)) nc ns = _
  unfold ag_copy
  dsimp only
  rw [show af_O.1 (h, N) q0 = _ from h0, show af_O.1 (h, N) q = _ from h1]
  dsimp only
  rw [hc]
  rfl
theorem khp_setw (K : mR) (c : Nat → Option am_C) {r : Int} {i : Nat} {F : Int → Int} {x : am_C} (hu : OWu K) (hi : i < 6) (hF : ∀ (r' : Int) (n : Nat), n < 65536 → r' ≠ r → F (65536 * r' + n) = K.2 (100 + i) (65536 * r' + n)) (hx : khp (mO K [] [(100 + i, F)]) c (obr K r + (i + 1)) = some x) : up1 (khp K c) (obr K r + (i + 1)) x = khp (mO K [] [(100 + i, F)]) c := by
  refine khp_upd K _ c _ _ hx (fun p hp => khp_c (fun _ => rfl) (mO2_n (by omega)) (mO2_n (by omega)) (mO2_n (by omega)) (fun k' h1 h2 => mO2_n (by omega)) (fun t j ht hj _ => ktb_c hj (fun _ i hi => by rw [mO2_n (by omega)]) (fun i _ n _ => by rw [mO2_n (by omega)])) (fun h189 hpos => kob_c (by omega) (mO2_n (by omega)) (fun _ i' hi' => by rw [mO2_n (by omega)]) (fun i' e' n' hn' => ?_)))
  rw [mO2]
  split
  · next h9 =>
    have hup := hu p hpos
    rw [e'] at hup
    rw [hF _ _ hn' ?_, h9]
    intro e
    rw [e] at hup
    exact hp (by rw [hup]; omega)
  · rfl
theorem fits_b {x : Int} (h : -128 ≤ x ∧ x ≤ 127) : fits .byte (.int (i32 x)) = true := by
  have e : (i32 x).toInt = x := i32_to ⟨by omega, by omega⟩
  show (decide ((-128 : Int32) ≤ i32 x) && decide (i32 x ≤ 127)) = true
  rw [Bool.and_eq_true, decide_eq_true_eq, decide_eq_true_eq, Int32.le_iff_toInt_le, Int32.le_iff_toInt_le, e]
  exact h
theorem i32_nn {n : Int} (h0 : 0 ≤ n) (h1 : n < 1000000) : ¬ i32 n < 0 ∧ (i32 n).toNatClampNeg = n.toNat := by
  have e : (i32 n).toInt = n := i32_to ⟨by omega, by omega⟩
  refine ⟨fun hl => ?_, ?_⟩
  · have := Int32.lt_iff_toInt_lt.mp hl
    rw [e] at this
    have : n < 0 := this
    omega
  · show (i32 n).toInt.toNat = _
    rw [e]
theorem K_cpb (pc' i : Nat) {a' : List (Nat × (Int → Int))} (f g : Int → Int) (s0 : Int) {idx len x y q q0 n0 : Nat} {F0 : Nat → Int32} {r sp dp n : Int} (hi : me.2.2.2.2.2 pc = some (.invokestatic idx, len, x, y, 9)) (hp : pc + 3 = pc') (hk : (decide (i < 6) && (decide (oty i = 2) && decide (oln i < 65536))) = true) (h8 : decide (am_cat st ≤ 8) = true)
    (hs : khp (mO m l a) c q0 = some (.inl (2, n0, .inl F0))) (hF0 : ∀ j : Nat, j < n.toNat → F0 (sp.toNat + j) = i32 (f (s0 + sp + j))) (hfr : ∀ j, -128 ≤ f j ∧ f j ≤ 127) (hr : OKr (mO m l a) r) (hu : OWu (mO m l a)) (hq : obr (mO m l a) r = q) (b0 : 0 ≤ sp) (b1 : 0 ≤ dp) (b2 : 0 ≤ n) (b3 : sp + n ≤ n0) (b4 : dp + n ≤ oln i) (b5 : n0 < 65536) (hg : (mO m l a).2 (100 + i) = g) (ha : ins (100 + i) (cpI f g (s0 + sp) (65536 * r + dp) n) a = a')
    (H : TT w D me (pc', lv, st, (khp (mO m l a') c, N), nc, ns) Q) : TT w D me (pc, lv, .int (i32 n) :: .int (i32 dp) :: .ref (q + (i + 1)) :: .int (i32 sp) :: .ref q0 :: st, (khp (mO m l a) c, N), nc, ns) Q := by
  simp only [Bool.and_eq_true, decide_eq_true_eq] at hk
  obtain ⟨k1, k2, k3⟩ := hk
  subst hg ha hq
  have hc := khp_o1 (c := c) (mO m l a) hr k1
  rw [k2] at hc
  obtain ⟨n1, n2⟩ := i32_nn b2 (by omega)
  obtain ⟨d1, d2⟩ := i32_nn b1 (by omega)
  obtain ⟨s1, s2⟩ := i32_nn b0 (by omega)
  refine G_cpy (c' := .inl (2, oln i, .inl (va_cpy F0 (fun j => i32 (ka1 (mO m l a) (100 + i) r j)) sp.toNat dp.toNat n.toNat))) pc' hi hs hc ?_ ?_ hp H
  · show (if _ then _ else _) = _
    rw [if_pos ⟨⟨rfl, rfl, of_decide_eq_true h8⟩, ⟨s1, d1, n1, by rw [s2, n2]; omega, by rw [d2, n2]; omega⟩, fun j hj => by rw [s2, hF0 j (by rw [n2] at hj; exact hj)]; exact fits_b (hfr _)⟩, s2, d2, n2]
  · rw [← mO_a]
    refine khp_setw (mO m l a) c (r := r) (i := i) hu k1 (fun r' j hj hne => ?_) ?_
    · unfold cpI
      rw [if_neg (by omega)]
    · have hc2 := khp_o1 (c := c) _ (OKr_a (k := 100 + i) (f := cpI f ((mO m l a).2 (100 + i)) (s0 + sp) (65536 * r + dp) n) (by omega) (by omega) hr) k1
      rw [k2, obr_a (by omega)] at hc2
      rw [hc2]
      show some (Sum.inl (2, oln i, Sum.inl (fun j => i32 (ka1 _ (100 + i) r j)))) = _
      congr 5
      funext j
      unfold va_cpy ka1
      rw [mO2_s]
      unfold cpI
      by_cases hj : dp.toNat ≤ j ∧ j < dp.toNat + n.toNat
      · rw [if_pos hj, if_pos (by omega), if_pos (by omega), hF0 _ (by omega)]
        congr 2
        omega
      · rw [if_neg hj]
        by_cases h9 : j < 65536
        · rw [if_pos h9, if_neg (by omega)]
          show _ = i32 (if j < 65536 then _ else 0)
          rw [if_pos h9]
        · rw [if_neg h9]
          show _ = i32 (if j < 65536 then _ else 0)
          rw [if_neg h9]
theorem K_cpl (pc' i : Nat) {a' : List (Nat × (Int → Int))} (f g : Int → Int) (s0 : Int) {idx len x y q q0 n0 : Nat} {F0 : Nat → Int64} {r sp dp n : Int} (hi : me.2.2.2.2.2 pc = some (.invokestatic idx, len, x, y, 9)) (hp : pc + 3 = pc') (hk : (decide (i < 6) && (decide (oty i = 1) && decide (oln i < 65536))) = true) (h8 : decide (am_cat st ≤ 8) = true)
    (hs : khp (mO m l a) c q0 = some (.inl (1, n0, .inr (.inl F0)))) (hF0 : ∀ j : Nat, j < n.toNat → F0 (sp.toNat + j) = i64 (f (s0 + sp + j))) (hr : OKr (mO m l a) r) (hu : OWu (mO m l a)) (hq : obr (mO m l a) r = q) (b0 : 0 ≤ sp) (b1 : 0 ≤ dp) (b2 : 0 ≤ n) (b3 : sp + n ≤ n0) (b4 : dp + n ≤ oln i) (b5 : n0 < 65536) (hg : (mO m l a).2 (100 + i) = g) (ha : ins (100 + i) (cpI f g (s0 + sp) (65536 * r + dp) n) a = a')
    (H : TT w D me (pc', lv, st, (khp (mO m l a') c, N), nc, ns) Q) : TT w D me (pc, lv, .int (i32 n) :: .int (i32 dp) :: .ref (q + (i + 1)) :: .int (i32 sp) :: .ref q0 :: st, (khp (mO m l a) c, N), nc, ns) Q := by
  simp only [Bool.and_eq_true, decide_eq_true_eq] at hk
  obtain ⟨k1, k2, k3⟩ := hk
  subst hg ha hq
  have hc := khp_o1 (c := c) (mO m l a) hr k1
  rw [k2] at hc
  obtain ⟨n1, n2⟩ := i32_nn b2 (by omega)
  obtain ⟨d1, d2⟩ := i32_nn b1 (by omega)
  obtain ⟨s1, s2⟩ := i32_nn b0 (by omega)
  refine G_cpy (c' := .inl (1, oln i, .inr (.inl (va_cpy F0 (fun j => i64 (ka1 (mO m l a) (100 + i) r j)) sp.toNat dp.toNat n.toNat)))) pc' hi hs hc ?_ ?_ hp H
  · show (if _ then _ else _) = _
    rw [if_pos ⟨⟨rfl, rfl, of_decide_eq_true h8⟩, s1, d1, n1, by rw [s2, n2]; omega, by rw [d2, n2]; omega⟩, s2, d2, n2]
  · rw [← mO_a]
    refine khp_setw (mO m l a) c (r := r) (i := i) hu k1 (fun r' j hj hne => ?_) ?_
    · unfold cpI
      rw [if_neg (by omega)]
    · have hc2 := khp_o1 (c := c) _ (OKr_a (k := 100 + i) (f := cpI f ((mO m l a).2 (100 + i)) (s0 + sp) (65536 * r + dp) n) (by omega) (by omega) hr) k1
      rw [k2, obr_a (by omega)] at hc2
      rw [hc2]
      show some (Sum.inl (1, oln i, Sum.inr (Sum.inl (fun j => i64 (ka1 _ (100 + i) r j))))) = _
      congr 6
      funext j
      unfold va_cpy ka1
      rw [mO2_s]
      unfold cpI
      by_cases hj : dp.toNat ≤ j ∧ j < dp.toNat + n.toNat
      · rw [if_pos hj, if_pos (by omega), if_pos (by omega), hF0 _ (by omega)]
        congr 2
        omega
      · rw [if_neg hj]
        by_cases h9 : j < 65536
        · rw [if_pos h9, if_neg (by omega)]
          show _ = i64 (if j < 65536 then _ else 0)
          rw [if_pos h9]
        · rw [if_neg h9]
          show _ = i64 (if j < 65536 then _ else 0)
          rw [if_neg h9]
/-! sources -/
theorem src_fl (K : mR) {k q : Nat} {n0 : Nat} {sp : Int} (hq : (decide (q < 74) || (decide (178 ≤ q) && decide (q < 189))) = true) (hd : kdt q = (2, n0, [k])) (b0 : 0 ≤ sp) : ∃ F0 : Nat → Int64, khp K c q = some (.inl (1, n0, .inr (.inl F0))) ∧ ∀ j : Nat, F0 (sp.toNat + j) = i64 (K.2 k (0 + sp + j)) := by
  simp only [Bool.or_eq_true, Bool.and_eq_true, decide_eq_true_eq] at hq
  refine ⟨fun j => i64 (K.2 k j), ?_, fun j => ?_⟩
  · rw [khp_lo _ c (by omega), klo_fx _ (by simp only [Bool.or_eq_true, decide_eq_true_eq]; omega), hd]
    rfl
  · show i64 (K.2 k ((sp.toNat + j : Nat) : Int)) = _
    rw [show ((sp.toNat + j : Nat) : Int) = 0 + sp + j by omega]
theorem src_fb (K : mR) {k q : Nat} {n0 : Nat} {sp : Int} (hq : (decide (q < 74) || (decide (178 ≤ q) && decide (q < 189))) = true) (hd : kdt q = (3, n0, [k])) (b0 : 0 ≤ sp) : ∃ F0 : Nat → Int32, khp K c q = some (.inl (2, n0, .inl F0)) ∧ ∀ j : Nat, F0 (sp.toNat + j) = i32 (K.2 k (0 + sp + j)) := by
  simp only [Bool.or_eq_true, Bool.and_eq_true, decide_eq_true_eq] at hq
  refine ⟨fun j => i32 (K.2 k j), ?_, fun j => ?_⟩
  · rw [khp_lo _ c (by omega), klo_fx _ (by simp only [Bool.or_eq_true, decide_eq_true_eq]; omega), hd]
    rfl
  · show i32 (K.2 k ((sp.toNat + j : Nat) : Int)) = _
    rw [show ((sp.toNat + j : Nat) : Int) = 0 + sp + j by omega]
theorem src_t (K : mR) {i : Nat} {t sp n : Int} (hk : (decide (i < 12) && decide (tty i = 1)) = true) (h0 : 0 ≤ t) (h1 : t < 8) (b0 : 0 ≤ sp) (b1 : sp + n < 65536) : ∃ F0 : Nat → Int64, khp K c (tbr t + (i + 1)) = some (.inl (1, tln i, .inr (.inl F0))) ∧ ∀ j : Nat, j < n.toNat → F0 (sp.toNat + j) = i64 (K.2 (79 + i) (65536 * t + sp + j)) := by
  simp only [Bool.and_eq_true, decide_eq_true_eq] at hk
  have hc := khp_t1 (c := c) K h0 h1 hk.1
  rw [hk.2] at hc
  refine ⟨_, hc, fun j hj => ?_⟩
  show i64 (ka1 K (79 + i) t (sp.toNat + j)) = _
  unfold ka1
  rw [if_pos (by omega), show 65536 * t + ((sp.toNat + j : Nat) : Int) = 65536 * t + sp + j by omega]
theorem src_o (K : mR) {i : Nat} {r sp n : Int} (hk : (decide (i < 6) && decide (oty i = 2)) = true) (hr : OKr K r) (b0 : 0 ≤ sp) (b1 : sp + n < 65536) : ∃ F0 : Nat → Int32, khp K c (obr K r + (i + 1)) = some (.inl (2, oln i, .inl F0)) ∧ ∀ j : Nat, j < n.toNat → F0 (sp.toNat + j) = i32 (K.2 (100 + i) (65536 * r + sp + j)) := by
  simp only [Bool.and_eq_true, decide_eq_true_eq] at hk
  have hc := khp_o1 (c := c) K hr hk.1
  rw [hk.2] at hc
  refine ⟨_, hc, fun j hj => ?_⟩
  show i32 (ka1 K (100 + i) r (sp.toNat + j)) = _
  unfold ka1
  rw [if_pos (by omega), show 65536 * r + ((sp.toNat + j : Nat) : Int) = 65536 * r + sp + j by omega]
end KSTG
theorem TC_cast {w : wX} {D mi : Nat} {t : af_T} {Q : ag_Re af_T → Prop} {x y : Int → Int} (F : (Int → Int) → List Value) (e : x = y) (h : TC w D mi (F x) t Q) : TC w D mi (F y) t Q := by
  subst e
  exact h
