/-! ===== STEPS over the reference's object ===== -/
def cz (c : ClassFile.Cond) (x y : Int) : Prop := match c with
  | .eq => x = y
  | .ne => x ≠ y
  | .lt => x < y
  | .ge => y ≤ x
  | .gt => y < x
  | .le => x ≤ y
theorem cz_c2 {c : ClassFile.Cond} {x y : Int} (hx : R32 x) (hy : R32 y) : am_c2 c (i32 x) (i32 y) = true ↔ cz c x y := by
  cases c <;> unfold am_c2 cz <;> dsimp only <;> rw [decide_eq_true_eq]
  · exact i32_eq hx hy
  · exact not_congr (i32_eq hx hy)
  · exact i32_lt hx hy
  · exact i32_le hy hx
  · exact i32_lt hy hx
  · exact i32_le hx hy
theorem cz_c0 {c : ClassFile.Cond} {x : Int} (hx : R32 x) : am_c0 c (i32 x) = true ↔ cz c x 0 := by
  cases c <;> unfold am_c0 cz <;> dsimp only <;> rw [decide_eq_true_eq, i32_0]
  · exact i32_eq hx R32_0
  · exact not_congr (i32_eq hx R32_0)
  · exact i32_lt hx R32_0
  · exact i32_le R32_0 hx
  · exact i32_lt R32_0 hx
  · exact i32_le hx R32_0
section MST
variable {X : ag_X} {E : am_En} {cn : Nat → Nat} {pg : Nat → am_M} {d : Nat} {me : am_M} {Q : ag_Re af_T → Prop} {pc nc ns N : Nat} {lv : List (Nat × Value)} {st : List Value} {t : af_T} {m : mR} {c : Nat → Option am_C} {l l' : List (Nat × Int)} {a a' : List (Nat × (Int → Int))}
theorem Tm_if {cd : ClassFile.Cond} {off x : Int} {n len p q r : Nat} (hi : me.2.2.2.2.2 pc = some (.ifCond cd off, len, p, q, r)) (ht : am_to pc off = some n) (hx : R32 x) (h1 : cz cd x 0 → Tm X E cn pg d me (n, lv, st, t, nc, ns) Q) (h2 : ¬ cz cd x 0 → Tm X E cn pg d me (pc + 3, lv, st, t, nc, ns) Q) : Tm X E cn pg d me (pc, lv, .int (i32 x) :: st, t, nc, ns) Q := by
  by_cases hc : cz cd x 0
  · refine Tm_step hi (fun call => ?_) (h1 hc)
    show ag_lift (am_br (am_c0 cd (i32 x)) pc off lv st) t nc ns = _
    rw [(cz_c0 hx).mpr hc]
    unfold am_br
    rw [ht]
    rfl
  · refine Tm_step hi (fun call => ?_) (h2 hc)
    show ag_lift (am_br (am_c0 cd (i32 x)) pc off lv st) t nc ns = _
    rw [Bool.eq_false_iff.mpr (fun h => hc ((cz_c0 hx).mp h))]
    unfold am_br
    rw [ht]
    rfl
theorem Tm_icmp {cd : ClassFile.Cond} {off x y : Int} {n len p q r : Nat} (hi : me.2.2.2.2.2 pc = some (.if_icmp cd off, len, p, q, r)) (ht : am_to pc off = some n) (hx : R32 x) (hy : R32 y) (h1 : cz cd x y → Tm X E cn pg d me (n, lv, st, t, nc, ns) Q) (h2 : ¬ cz cd x y → Tm X E cn pg d me (pc + 3, lv, st, t, nc, ns) Q) : Tm X E cn pg d me (pc, lv, .int (i32 y) :: .int (i32 x) :: st, t, nc, ns) Q := by
  by_cases hc : cz cd x y
  · refine Tm_step hi (fun call => ?_) (h1 hc)
    show ag_lift (am_br (am_c2 cd (i32 x) (i32 y)) pc off lv st) t nc ns = _
    rw [(cz_c2 hx hy).mpr hc]
    unfold am_br
    rw [ht]
    rfl
  · refine Tm_step hi (fun call => ?_) (h2 hc)
    show ag_lift (am_br (am_c2 cd (i32 x) (i32 y)) pc off lv st) t nc ns = _
    rw [Bool.eq_false_iff.mpr (fun h => hc ((cz_c2 hx hy).mp h))]
    unfold am_br
    rw [ht]
    rfl
theorem Tm_ev {v w : Int32} (e : v = w) (h : Tm X E cn pg d me (pc, lv, .int v :: st, t, nc, ns) Q) : Tm X E cn pg d me (pc, lv, .int w :: st, t, nc, ns) Q := e ▸ h
theorem Tm_iadd {x y : Int} {len p q r : Nat} (hi : me.2.2.2.2.2 pc = some (.iadd, len, p, q, r)) (h : Tm X E cn pg d me (pc + 1, lv, .int (i32 (x + y)) :: st, t, nc, ns) Q) : Tm X E cn pg d me (pc, lv, .int (i32 y) :: .int (i32 x) :: st, t, nc, ns) Q := Tm_step hi (fun call => rfl) (Tm_ev (i32_add x y).symm h)
theorem Tm_isub {x y : Int} {len p q r : Nat} (hi : me.2.2.2.2.2 pc = some (.isub, len, p, q, r)) (h : Tm X E cn pg d me (pc + 1, lv, .int (i32 (x - y)) :: st, t, nc, ns) Q) : Tm X E cn pg d me (pc, lv, .int (i32 y) :: .int (i32 x) :: st, t, nc, ns) Q := Tm_step hi (fun call => rfl) (Tm_ev (i32_sub x y).symm h)
theorem Tm_imul {x y : Int} {len p q r : Nat} (hi : me.2.2.2.2.2 pc = some (.imul, len, p, q, r)) (h : Tm X E cn pg d me (pc + 1, lv, .int (i32 (x * y)) :: st, t, nc, ns) Q) : Tm X E cn pg d me (pc, lv, .int (i32 y) :: .int (i32 x) :: st, t, nc, ns) Q := Tm_step hi (fun call => rfl) (Tm_ev (i32_mul x y).symm h)
theorem Tm_push {x : Int} {i : am_I} {v : Int32} {len : Nat} (hi : me.2.2.2.2.2 pc = some i) (hs : ∀ call, ag_step af_O 8192 X E cn (d + 1) call me i (pc, lv, st, t, nc, ns) = some (.inl (pc + len, lv, .int v :: st, t, nc, ns))) (hv : v = i32 x) (h : Tm X E cn pg d me (pc + len, lv, .int (i32 x) :: st, t, nc, ns) Q) : Tm X E cn pg d me (pc, lv, st, t, nc, ns) Q := Tm_step hi hs (by rw [hv]; exact h)
theorem Tm_getf {idx k len r : Nat} {v : Value} (hi : me.2.2.2.2.2 pc = some (.getfield idx, len, 12, k, 0)) (hk : k < 179) (hv : mfv (mO m l a) k = v) (h : Tm X E cn pg d me (pc + 3, lv, v :: st, (mhp (mO m l a) c, N), nc, ns) Q) : Tm X E cn pg d me (pc, lv, .ref 189 :: st, (mhp (mO m l a) c, N), nc, ns) Q := by
  refine Tm_step hi (fun call => ?_) h
  show ag_liftH (ag_getfield af_O E 12 k 0 pc lv (Value.ref 189 :: st) (mhp (mO m l a) c, N)) nc ns = _
  unfold ag_getfield ag_do ad_getf
  dsimp only
  unfold ag_acc
  rw [show af_O.1 (mhp (mO m l a) c, N) 189 = _ from mhp_o _ c]
  dsimp only
  rw [if_pos rfl, mfl_at _ hk, hv]
  rfl
theorem Tm_putf {idx k len : Nat} {x : Int} {v : Value} (hi : me.2.2.2.2.2 pc = some (.putfield idx, len, 12, k, 0)) (hk : k < 179) (hf : am_fit (E.2.2.1 12 k) v = true) (hv : mfv (mO (mO m l a) [(k, x)] []) k = v) (hl : ins k x l = l') (h : Tm X E cn pg d me (pc + 3, lv, st, (mhp (mO m l' a) c, N), nc, ns) Q) : Tm X E cn pg d me (pc, lv, v :: .ref 189 :: st, (mhp (mO m l a) c, N), nc, ns) Q := by
  subst hl
  refine Tm_step hi (fun call => ?_) h
  show ag_liftH (ag_do af_O (ad_putf 12 k (E.2.2.1 12 k)) 3 pc lv (v :: Value.ref 189 :: st) (mhp (mO m l a) c, N)) nc ns = _
  unfold ag_do ad_putf
  dsimp only
  unfold ag_acc
  rw [show af_O.1 (mhp (mO m l a) c, N) 189 = _ from mhp_o _ c]
  dsimp only
  rw [if_pos ⟨rfl, by rw [mfl_len]; exact hk, hf⟩, mfl_set _ hk hv]
  show some (Sum.inl (pc + 3, lv, st, (fun j => if j = 189 then some (.inr (12, mfl (mO (mO m l a) [(k, x)] []))) else mhp (mO m l a) c j, N), nc, ns)) = _
  rw [mhp_setf, mO_f]
theorem mce3 (M : mR) {k : Nat} (h : mkd k = 3) : mce M k = .inl (0, mln k, .inl (fun j => i32 (M.2 k j))) := by unfold mce; rw [h]; rfl
theorem mce5 (M : mR) {k : Nat} (h : mkd k = 5) : mce M k = .inl (3, mln k, .inl (fun j => i32 (M.2 k j))) := by unfold mce; rw [h]; rfl
theorem mce4 (M : mR) {k : Nat} (h : mkd k = 4) : mce M k = .inl (1, mln k, .inr (.inl (fun j => i64 (M.2 k j)))) := by unfold mce; rw [h]; rfl
theorem idx_in {i : Int} {n : Nat} (h0 : 0 ≤ i) (h1 : i < n) (hn : n < 1000000) : ¬ (i32 i < 0 ∨ n ≤ (i32 i).toNatClampNeg) := by
  have e := i32_nat h0 (by omega)
  intro h
  rcases h with h | h
  · rw [i32_0, i32_lt ⟨by omega, by omega⟩ R32_0] at h
    omega
  · omega
theorem mok_lt {k : Nat} (hk : mok k = true) : mcl k < 1000000 := by
  unfold mok at hk
  simp only [Bool.and_eq_true, decide_eq_true_eq] at hk
  omega
theorem Tm_iald {k q len p p' p'' : Nat} {i : Int} (hi : me.2.2.2.2.2 pc = some (.iaload, len, p, p', p'')) (hk : (mok k && (decide (mkd k = 3) && (decide (mcl k = q) && decide (mln k < 1000000)))) = true) (h0 : 0 ≤ i) (h1 : i < mln k) {f : Int → Int} (hf : (mO m l a).2 k = f) (h : Tm X E cn pg d me (pc + 1, lv, .int (i32 (f i)) :: st, (mhp (mO m l a) c, N), nc, ns) Q) : Tm X E cn pg d me (pc, lv, .int (i32 i) :: .ref q :: st, (mhp (mO m l a) c, N), nc, ns) Q := by
  subst hf
  simp only [Bool.and_eq_true, decide_eq_true_eq] at hk
  obtain ⟨k1, k2, rfl, k4⟩ := hk
  refine Tm_step hi (fun call => ?_) h
  show ag_liftH (ag_iaload af_O X pc lv (.int (i32 i) :: .ref (mcl k) :: st) (mhp (mO m l a) c, N)) nc ns = _
  unfold ag_iaload
  dsimp only
  rw [if_pos (mok_lt k1)]
  unfold ag_do ad_iald
  dsimp only
  unfold ag_acc
  rw [show af_O.1 (mhp (mO m l a) c, N) (mcl k) = _ from mhp_a _ c k1, mce3 _ k2]
  dsimp only
  rw [if_pos ⟨rfl, idx_in h0 h1 k4⟩, i32_nat h0 (by omega)]
  rfl
theorem Tm_bald {k q len p p' p'' : Nat} {i : Int} (hi : me.2.2.2.2.2 pc = some (.baload, len, p, p', p'')) (hk : (mok k && (decide (mkd k = 5) && (decide (mcl k = q) && decide (mln k < 1000000)))) = true) (h0 : 0 ≤ i) (h1 : i < mln k) {f : Int → Int} (hf : (mO m l a).2 k = f) (h : Tm X E cn pg d me (pc + 1, lv, .int (i32 (f i)) :: st, (mhp (mO m l a) c, N), nc, ns) Q) : Tm X E cn pg d me (pc, lv, .int (i32 i) :: .ref q :: st, (mhp (mO m l a) c, N), nc, ns) Q := by
  subst hf
  simp only [Bool.and_eq_true, decide_eq_true_eq] at hk
  obtain ⟨k1, k2, rfl, k4⟩ := hk
  refine Tm_step hi (fun call => ?_) h
  show ag_liftH (ag_baload af_O E pc lv (.int (i32 i) :: .ref (mcl k) :: st) (mhp (mO m l a) c, N)) nc ns = _
  unfold ag_baload
  dsimp only
  rw [if_pos (mok_lt k1)]
  unfold ag_do ad_bald
  dsimp only
  unfold ag_acc
  rw [show af_O.1 (mhp (mO m l a) c, N) (mcl k) = _ from mhp_a _ c k1, mce5 _ k2]
  dsimp only
  rw [if_pos ⟨Or.inr rfl, idx_in h0 h1 k4⟩, i32_nat h0 (by omega)]
  rfl
theorem Tm_lald {k q len p p' p'' : Nat} {i : Int} (hi : me.2.2.2.2.2 pc = some (.laload, len, p, p', p'')) (hk : (mok k && (decide (mkd k = 4) && (decide (mcl k = q) && decide (mln k < 1000000)))) = true) (h0 : 0 ≤ i) (h1 : i < mln k) {f : Int → Int} (hf : (mO m l a).2 k = f) (h : Tm X E cn pg d me (pc + 1, lv, .long (i64 (f i)) :: st, (mhp (mO m l a) c, N), nc, ns) Q) : Tm X E cn pg d me (pc, lv, .int (i32 i) :: .ref q :: st, (mhp (mO m l a) c, N), nc, ns) Q := by
  subst hf
  simp only [Bool.and_eq_true, decide_eq_true_eq] at hk
  obtain ⟨k1, k2, rfl, k4⟩ := hk
  refine Tm_step hi (fun call => ?_) h
  show ag_liftH (ag_do af_O ad_lald 1 pc lv (.int (i32 i) :: .ref (mcl k) :: st) (mhp (mO m l a) c, N)) nc ns = _
  unfold ag_do ad_lald
  dsimp only
  unfold ag_acc
  rw [show af_O.1 (mhp (mO m l a) c, N) (mcl k) = _ from mhp_a _ c k1, mce4 _ k2]
  dsimp only
  rw [if_pos ⟨rfl, idx_in h0 h1 k4⟩, i32_nat h0 (by omega)]
  rfl
theorem upd_i32 {f : Int → Int} {i x : Int} (h0 : 0 ≤ i) (h1 : i < 2147483648) : upd (fun j : Nat => i32 (f j)) (i32 i).toNatClampNeg (i32 x) = fun j : Nat => i32 (upI f i x j) := by
  have e := i32_nat h0 h1
  funext j
  unfold upd upI
  by_cases h : j = (i32 i).toNatClampNeg
  · rw [if_pos h, if_pos (by omega)]
  · rw [if_neg h, if_neg (by omega)]
theorem upd_i64 {f : Int → Int} {i x : Int} (h0 : 0 ≤ i) (h1 : i < 2147483648) : vp_updL (fun j : Nat => i64 (f j)) (i32 i).toNatClampNeg (i64 x) = fun j : Nat => i64 (upI f i x j) := by
  have e := i32_nat h0 h1
  funext j
  unfold vp_updL upI
  by_cases h : j = (i32 i).toNatClampNeg
  · rw [if_pos h, if_pos (by omega)]
  · rw [if_neg h, if_neg (by omega)]
theorem Tm_iast {k q len p p' p'' : Nat} {i x : Int} (hi : me.2.2.2.2.2 pc = some (.iastore, len, p, p', p'')) (hk : (mok k && (decide (mkd k = 3) && (decide (mcl k = q) && decide (mln k < 1000000)))) = true) (h0 : 0 ≤ i) (h1 : i < mln k) {f : Int → Int} (hf : (mO m l a).2 k = f) (ha : ins k (upI f i x) a = a') (h : Tm X E cn pg d me (pc + 1, lv, st, (mhp (mO m l a') c, N), nc, ns) Q) : Tm X E cn pg d me (pc, lv, .int (i32 x) :: .int (i32 i) :: .ref q :: st, (mhp (mO m l a) c, N), nc, ns) Q := by
  subst hf ha
  simp only [Bool.and_eq_true, decide_eq_true_eq] at hk
  obtain ⟨k1, k2, rfl, k4⟩ := hk
  refine Tm_step hi (fun call => ?_) h
  show ag_liftH (ag_do af_O ad_iast 1 pc lv (.int (i32 x) :: .int (i32 i) :: .ref (mcl k) :: st) (mhp (mO m l a) c, N)) nc ns = _
  unfold ag_do ad_iast
  dsimp only
  unfold ag_acc
  rw [show af_O.1 (mhp (mO m l a) c, N) (mcl k) = _ from mhp_a _ c k1, mce3 _ k2]
  dsimp only
  rw [if_pos ⟨rfl, idx_in h0 h1 k4⟩, upd_i32 h0 (by omega)]
  have e : (.inl (0, mln k, .inl (fun j : Nat => i32 (upI ((mO m l a).2 k) i x j))) : am_C) = mce (mO (mO m l a) [] [(k, upI ((mO m l a).2 k) i x)]) k := by
    rw [mce3 _ k2]
    show _ = (.inl (0, mln k, .inl (fun j : Nat => i32 ((if k = k then upI ((mO m l a).2 k) i x else _) j))) : am_C)
    rw [if_pos rfl]
  rw [e]
  show some (Sum.inl (pc + 1, lv, st, (fun j => if j = mcl k then some (mce (mO (mO m l a) [] [(k, upI ((mO m l a).2 k) i x)]) k) else mhp (mO m l a) c j, N), nc, ns)) = _
  rw [mhp_seta _ c k1, mO_a]
theorem Tm_last {k q len p p' p'' : Nat} {i x : Int} (hi : me.2.2.2.2.2 pc = some (.lastore, len, p, p', p'')) (hk : (mok k && (decide (mkd k = 4) && (decide (mcl k = q) && decide (mln k < 1000000)))) = true) (h0 : 0 ≤ i) (h1 : i < mln k) {f : Int → Int} (hf : (mO m l a).2 k = f) (ha : ins k (upI f i x) a = a') (h : Tm X E cn pg d me (pc + 1, lv, st, (mhp (mO m l a') c, N), nc, ns) Q) : Tm X E cn pg d me (pc, lv, .long (i64 x) :: .int (i32 i) :: .ref q :: st, (mhp (mO m l a) c, N), nc, ns) Q := by
  subst hf ha
  simp only [Bool.and_eq_true, decide_eq_true_eq] at hk
  obtain ⟨k1, k2, rfl, k4⟩ := hk
  refine Tm_step hi (fun call => ?_) h
  show ag_liftH (ag_do af_O ad_last 1 pc lv (.long (i64 x) :: .int (i32 i) :: .ref (mcl k) :: st) (mhp (mO m l a) c, N)) nc ns = _
  unfold ag_do ad_last
  dsimp only
  unfold ag_acc
  rw [show af_O.1 (mhp (mO m l a) c, N) (mcl k) = _ from mhp_a _ c k1, mce4 _ k2]
  dsimp only
  rw [if_pos ⟨rfl, idx_in h0 h1 k4⟩, upd_i64 h0 (by omega)]
  have e : (.inl (1, mln k, .inr (.inl (fun j : Nat => i64 (upI ((mO m l a).2 k) i x j)))) : am_C) = mce (mO (mO m l a) [] [(k, upI ((mO m l a).2 k) i x)]) k := by
    rw [mce4 _ k2]
    show _ = (.inl (1, mln k, .inr (.inl (fun j : Nat => i64 ((if k = k then upI ((mO m l a).2 k) i x else _) j)))) : am_C)
    rw [if_pos rfl]
  rw [e]
  show some (Sum.inl (pc + 1, lv, st, (fun j => if j = mcl k then some (mce (mO (mO m l a) [] [(k, upI ((mO m l a).2 k) i x)]) k) else mhp (mO m l a) c j, N), nc, ns)) = _
  rw [mhp_seta _ c k1, mO_a]
theorem nar01 {x : Int} (h : x = 0 ∨ x = 1) : vp_nar (am_ty 3) (i32 x) = i32 x := by
  rcases h with rfl | rfl <;> decide
theorem Tm_bast {k q len p p' p'' : Nat} {i x : Int} (hi : me.2.2.2.2.2 pc = some (.bastore, len, p, p', p'')) (hk : (mok k && (decide (mkd k = 5) && (decide (mcl k = q) && decide (mln k < 1000000)))) = true) (h0 : 0 ≤ i) (h1 : i < mln k) (hx : x = 0 ∨ x = 1) {f : Int → Int} (hf : (mO m l a).2 k = f) (ha : ins k (upI f i x) a = a') (h : Tm X E cn pg d me (pc + 1, lv, st, (mhp (mO m l a') c, N), nc, ns) Q) : Tm X E cn pg d me (pc, lv, .int (i32 x) :: .int (i32 i) :: .ref q :: st, (mhp (mO m l a) c, N), nc, ns) Q := by
  subst hf ha
  simp only [Bool.and_eq_true, decide_eq_true_eq] at hk
  obtain ⟨k1, k2, rfl, k4⟩ := hk
  refine Tm_step hi (fun call => ?_) h
  show ag_liftH (ag_do af_O ad_bast 1 pc lv (.int (i32 x) :: .int (i32 i) :: .ref (mcl k) :: st) (mhp (mO m l a) c, N)) nc ns = _
  unfold ag_do ad_bast
  dsimp only
  unfold ag_acc
  rw [show af_O.1 (mhp (mO m l a) c, N) (mcl k) = _ from mhp_a _ c k1, mce5 _ k2]
  dsimp only
  rw [if_pos ⟨Or.inr rfl, idx_in h0 h1 k4⟩, nar01 hx, upd_i32 h0 (by omega)]
  have e : (.inl (3, mln k, .inl (fun j : Nat => i32 (upI ((mO m l a).2 k) i x j))) : am_C) = mce (mO (mO m l a) [] [(k, upI ((mO m l a).2 k) i x)]) k := by
    rw [mce5 _ k2]
    show _ = (.inl (3, mln k, .inl (fun j : Nat => i32 ((if k = k then upI ((mO m l a).2 k) i x else _) j))) : am_C)
    rw [if_pos rfl]
  rw [e]
  show some (Sum.inl (pc + 1, lv, st, (fun j => if j = mcl k then some (mce (mO (mO m l a) [] [(k, upI ((mO m l a).2 k) i x)]) k) else mhp (mO m l a) c j, N), nc, ns)) = _
  rw [mhp_seta _ c k1, mO_a]
end MST
