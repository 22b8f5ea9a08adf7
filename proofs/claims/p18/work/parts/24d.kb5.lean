/-! ===== STEPS over a table, by its number ===== -/
def tbr (t : Int) : Nat := 74 + 13 * t.toNat
section KTB
variable {w : wX} {D : Nat} {me : am_M} {Q : ag_Re af_T → Prop} {pc nc ns N : Nat} {lv : List (Nat × Value)} {st : List Value} {c : Nat → Option am_C} {m : mR} {l : List (Nat × Int)} {a : List (Nat × (Int → Int))}
theorem khp_t0 (K : mR) {t : Int} (h0 : 0 ≤ t) (h1 : t < 8) : khp K c (tbr t) = some (.inr (10, ktf K t.toNat)) := by
  unfold tbr
  rw [khp_lo _ c (by omega)]
  have := klo_tb K (t := t.toNat) (j := 0) (by omega) (by omega)
  rw [show 74 + 13 * t.toNat + 0 = 74 + 13 * t.toNat by omega] at this
  rw [this]
  rfl
theorem khp_t1 (K : mR) {t : Int} {i : Nat} (h0 : 0 ≤ t) (h1 : t < 8) (hi : i < 12) : khp K c (tbr t + (i + 1)) = some (kar1 K (tty i) (tln i) (79 + i) t) := by
  unfold tbr
  rw [khp_lo _ c (by omega), klo_tb K (t := t.toNat) (j := i + 1) (by omega) (by omega)]
  show some (kar1 K (tty i) (tln i) (79 + i) ((t.toNat : Nat) : Int)) = _
  rw [tn_c h0]
theorem ktf_at (K : mR) {t j : Nat} (hj : j < 19) : (ktf K t)[j]? = some (ktv K t j) := by
  unfold ktf
  rw [List.getElem?_map, List.getElem?_range hj]
  rfl
theorem K_gfr (pc' : Nat) {idx j len : Nat} {t : Int} (hi : me.2.2.2.2.2 pc = some (.getfield idx, len, 10, j, 0)) (hj : decide (j < 12) = true) (h0 : 0 ≤ t) (h1 : t < 8) (hp : pc + 3 = pc') (H : TT w D me (pc', lv, .ref (tbr t + (j + 1)) :: st, (khp (mO m l a) c, N), nc, ns) Q) : TT w D me (pc, lv, .ref (tbr t) :: st, (khp (mO m l a) c, N), nc, ns) Q := by
  have hj := of_decide_eq_true hj
  refine G_getf pc' (.ref (tbr t + (j + 1))) hi (khp_t0 _ h0 h1) ?_ hp H
  rw [ktf_at _ (by omega)]
  unfold ktv tbr
  rw [if_pos hj, show 74 + 13 * t.toNat + 1 + j = 74 + 13 * t.toNat + (j + 1) by omega]
theorem K_gfi (pc' k : Nat) (f : Int → Int) {idx j len : Nat} {t : Int} (hi : me.2.2.2.2.2 pc = some (.getfield idx, len, 10, j, 0)) (hj : (decide (12 ≤ j) && (decide (j < 19) && decide (60 + j = k))) = true) (h0 : 0 ≤ t) (h1 : t < 8) (hf : (mO m l a).2 k = f) (hp : pc + 3 = pc') (H : TT w D me (pc', lv, .int (i32 (f t)) :: st, (khp (mO m l a) c, N), nc, ns) Q) : TT w D me (pc, lv, .ref (tbr t) :: st, (khp (mO m l a) c, N), nc, ns) Q := by
  simp only [Bool.and_eq_true, decide_eq_true_eq] at hj
  obtain ⟨j1, j2, rfl⟩ := hj
  subst hf
  refine G_getf pc' _ hi (khp_t0 _ h0 h1) ?_ hp H
  rw [ktf_at _ j2]
  unfold ktv
  rw [if_neg (by omega), tn_c h0]
theorem K_pfi (pc' k : Nat) {a' : List (Nat × (Int → Int))} (f : Int → Int) {idx j len : Nat} {t x : Int} (hi : me.2.2.2.2.2 pc = some (.putfield idx, len, 10, j, 0)) (hj : (decide (12 ≤ j) && (decide (j < 19) && decide (60 + j = k))) = true) (hft : nm_ft 10 j = FieldType.int) (h0 : 0 ≤ t) (h1 : t < 8) (hf : (mO m l a).2 k = f) (ha : ins k (upI f t x) a = a') (hp : pc + 3 = pc') (H : TT w D me (pc', lv, st, (khp (mO m l a') c, N), nc, ns) Q) : TT w D me (pc, lv, .int (i32 x) :: .ref (tbr t) :: st, (khp (mO m l a) c, N), nc, ns) Q := by
  simp only [Bool.and_eq_true, decide_eq_true_eq] at hj
  obtain ⟨j1, j2, rfl⟩ := hj
  subst hf ha
  refine G_putf pc' hi (khp_t0 _ h0 h1) (by unfold ktf; rw [List.length_map, List.length_range]; exact j2) (by rw [hft]; rfl) ?_ hp H
  rw [← mO_a]
  have e := khp_sett (mO m l a) c (t := t.toNat) (i := j - 12) (y := x) (x := .inr (10, (ktf (mO m l a) t.toNat).set j (.int (i32 x)))) (by omega) (by omega)
  rw [show 72 + (j - 12) = 60 + j by omega, tn_c h0] at e
  refine e ?_
  have e2 := khp_t0 (c := c) (mO (mO m l a) [] [(60 + j, upI ((mO m l a).2 (60 + j)) t x)]) h0 h1
  unfold tbr at e2
  rw [e2]
  congr 3
  apply List.ext_getElem?
  intro n
  by_cases hn : n < 19
  · rw [ktf_at _ hn]
    by_cases hnj : n = j
    · subst hnj
      rw [List.getElem?_set_self (by unfold ktf; rw [List.length_map, List.length_range]; exact j2)]
      unfold ktv
      rw [if_neg (by omega), mO2_s, tn_c h0, upI_s]
    · rw [List.getElem?_set_ne (fun e => hnj e.symm), ktf_at _ hn]
      unfold ktv
      split
      · rfl
      · rw [mO2_n (by omega)]
  · rw [List.getElem?_eq_none (by unfold ktf; rw [List.length_map, List.length_range]; omega), List.getElem?_eq_none (by rw [List.length_set]; unfold ktf; rw [List.length_map, List.length_range]; omega)]
theorem K_ialt (pc' i : Nat) (f : Int → Int) {len p p' p'' : Nat} {t n : Int} (hi : me.2.2.2.2.2 pc = some (.iaload, len, p, p', p'')) (hp : pc + 1 = pc') (hk : (decide (i < 12) && (decide (tty i = 0) && decide (tln i < 65536))) = true) (h0 : 0 ≤ t) (h1 : t < 8) (n0 : 0 ≤ n) (n1 : n < tln i) (hf : (mO m l a).2 (79 + i) = f) (H : TT w D me (pc', lv, .int (i32 (f (65536 * t + n))) :: st, (khp (mO m l a) c, N), nc, ns) Q) : TT w D me (pc, lv, .int (i32 n) :: .ref (tbr t + (i + 1)) :: st, (khp (mO m l a) c, N), nc, ns) Q := by
  simp only [Bool.and_eq_true, decide_eq_true_eq] at hk
  obtain ⟨k1, k2, k3⟩ := hk
  subst hf
  have hc := khp_t1 (c := c) (mO m l a) h0 h1 k1
  rw [k2] at hc
  refine G_iald pc' hi (by unfold tbr; omega) hc n0 n1 (by omega) ?_ hp H
  show i32 (ka1 (mO m l a) (79 + i) t n.toNat) = _
  unfold ka1
  rw [if_pos (by omega), tn_c n0]
theorem K_lalt (pc' i : Nat) (f : Int → Int) {len p p' p'' : Nat} {t n : Int} (hi : me.2.2.2.2.2 pc = some (.laload, len, p, p', p'')) (hp : pc + 1 = pc') (hk : (decide (i < 12) && (decide (tty i = 1) && decide (tln i < 65536))) = true) (h0 : 0 ≤ t) (h1 : t < 8) (n0 : 0 ≤ n) (n1 : n < tln i) (hf : (mO m l a).2 (79 + i) = f) (H : TT w D me (pc', lv, .long (i64 (f (65536 * t + n))) :: st, (khp (mO m l a) c, N), nc, ns) Q) : TT w D me (pc, lv, .int (i32 n) :: .ref (tbr t + (i + 1)) :: st, (khp (mO m l a) c, N), nc, ns) Q := by
  simp only [Bool.and_eq_true, decide_eq_true_eq] at hk
  obtain ⟨k1, k2, k3⟩ := hk
  subst hf
  have hc := khp_t1 (c := c) (mO m l a) h0 h1 k1
  rw [k2] at hc
  refine G_lald pc' hi hc n0 n1 (by omega) ?_ hp H
  show i64 (ka1 (mO m l a) (79 + i) t n.toNat) = _
  unfold ka1
  rw [if_pos (by omega), tn_c n0]
theorem upd_t {K : mR} {k : Nat} {t n x : Int} (n0 : 0 ≤ n) (n1 : n < 65536) : upd (fun j : Nat => i32 (ka1 K k t j)) n.toNat (i32 x) = fun j : Nat => i32 (ka1 (mO K [] [(k, upI (K.2 k) (65536 * t + n) x)]) k t j) := by
  funext j
  unfold upd ka1
  rw [mO2_s]
  unfold upI
  by_cases h : j = n.toNat
  · rw [if_pos h, if_pos (by omega), if_pos (by omega)]
  · rw [if_neg h]
    show i32 (if j < 65536 then K.2 k (65536 * t + j) else 0) = _
    by_cases hj : j < 65536
    · rw [if_pos hj, if_pos hj, if_neg (by omega)]
    · rw [if_neg hj, if_neg hj]
theorem updl_t {K : mR} {k : Nat} {t n x : Int} (n0 : 0 ≤ n) (n1 : n < 65536) : vp_updL (fun j : Nat => i64 (ka1 K k t j)) n.toNat (i64 x) = fun j : Nat => i64 (ka1 (mO K [] [(k, upI (K.2 k) (65536 * t + n) x)]) k t j) := by
  funext j
  unfold vp_updL ka1
  rw [mO2_s]
  unfold upI
  by_cases h : j = n.toNat
  · rw [if_pos h, if_pos (by omega), if_pos (by omega)]
  · rw [if_neg h]
    show i64 (if j < 65536 then K.2 k (65536 * t + j) else 0) = _
    by_cases hj : j < 65536
    · rw [if_pos hj, if_pos hj, if_neg (by omega)]
    · rw [if_neg hj, if_neg hj]
theorem K_iastt (pc' i : Nat) {a' : List (Nat × (Int → Int))} (f : Int → Int) {len p p' p'' : Nat} {t n x : Int} (hi : me.2.2.2.2.2 pc = some (.iastore, len, p, p', p'')) (hp : pc + 1 = pc') (hk : (decide (i < 12) && (decide (tty i = 0) && decide (tln i < 65536))) = true) (h0 : 0 ≤ t) (h1 : t < 8) (n0 : 0 ≤ n) (n1 : n < tln i) (hf : (mO m l a).2 (79 + i) = f) (ha : ins (79 + i) (upI f (65536 * t + n) x) a = a') (H : TT w D me (pc', lv, st, (khp (mO m l a') c, N), nc, ns) Q) : TT w D me (pc, lv, .int (i32 x) :: .int (i32 n) :: .ref (tbr t + (i + 1)) :: st, (khp (mO m l a) c, N), nc, ns) Q := by
  simp only [Bool.and_eq_true, decide_eq_true_eq] at hk
  obtain ⟨k1, k2, k3⟩ := hk
  subst hf ha
  have hc := khp_t1 (c := c) (mO m l a) h0 h1 k1
  rw [k2] at hc
  refine G_iast pc' hi hc n0 n1 (by omega) ?_ hp H
  rw [← mO_a]
  have e := khp_setu (mO m l a) c (t := t.toNat) (i := i) (n := n) (y := x) (x := .inl (0, tln i, .inl (upd (fun j : Nat => i32 (ka1 (mO m l a) (79 + i) t j)) n.toNat (i32 x)))) (by omega) k1 n0 (by omega)
  rw [tn_c h0] at e
  refine e ?_
  have hc2 := khp_t1 (c := c) (mO (mO m l a) [] [(79 + i, upI ((mO m l a).2 (79 + i)) (65536 * t + n) x)]) h0 h1 k1
  rw [k2] at hc2
  unfold tbr at hc2
  rw [hc2, upd_t n0 (by omega)]
  rfl
theorem K_lastt (pc' i : Nat) {a' : List (Nat × (Int → Int))} (f : Int → Int) {len p p' p'' : Nat} {t n x : Int} (hi : me.2.2.2.2.2 pc = some (.lastore, len, p, p', p'')) (hp : pc + 1 = pc') (hk : (decide (i < 12) && (decide (tty i = 1) && decide (tln i < 65536))) = true) (h0 : 0 ≤ t) (h1 : t < 8) (n0 : 0 ≤ n) (n1 : n < tln i) (hf : (mO m l a).2 (79 + i) = f) (ha : ins (79 + i) (upI f (65536 * t + n) x) a = a') (H : TT w D me (pc', lv, st, (khp (mO m l a') c, N), nc, ns) Q) : TT w D me (pc, lv, .long (i64 x) :: .int (i32 n) :: .ref (tbr t + (i + 1)) :: st, (khp (mO m l a) c, N), nc, ns) Q := by
  simp only [Bool.and_eq_true, decide_eq_true_eq] at hk
  obtain ⟨k1, k2, k3⟩ := hk
  subst hf ha
  have hc := khp_t1 (c := c) (mO m l a) h0 h1 k1
  rw [k2] at hc
  refine G_last pc' hi hc n0 n1 (by omega) ?_ hp H
  rw [← mO_a]
  have e := khp_setu (mO m l a) c (t := t.toNat) (i := i) (n := n) (y := x) (x := .inl (1, tln i, .inr (.inl (vp_updL (fun j : Nat => i64 (ka1 (mO m l a) (79 + i) t j)) n.toNat (i64 x))))) (by omega) k1 n0 (by omega)
  rw [tn_c h0] at e
  refine e ?_
  have hc2 := khp_t1 (c := c) (mO (mO m l a) [] [(79 + i, upI ((mO m l a).2 (79 + i)) (65536 * t + n) x)]) h0 h1 k1
  rw [k2] at hc2
  unfold tbr at hc2
  rw [hc2, updl_t n0 (by omega)]
  rfl
end KTB
