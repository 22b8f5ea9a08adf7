/-! ===== STEPS over an operation, by its row ===== -/
def obr (K : mR) (r : Int) : Nat := (K.2 107 r).toNat
def OKr (K : mR) (r : Int) : Prop := 0 ≤ r ∧ r < 128 ∧ 327 ≤ K.2 107 r ∧ K.2 107 r < 900000 ∧ ∀ j : Nat, j < 7 → K.2 108 (K.2 107 r + j) = 1 + 8 * r + j
def OWu (K : mR) : Prop := ∀ p : Nat, 0 < K.2 108 p → p = obr K ((K.2 108 p - 1) / 8) + ((K.2 108 p - 1) % 8).toNat
theorem khp_seto (K : mR) (c : Nat → Option am_C) {r : Int} {i : Nat} {y : Int} {x : am_C} (hu : OWu K) (hi : i < 9) (hx : khp (mO K [] [(91 + i, upI (K.2 (91 + i)) r y)]) c (obr K r) = some x) : up1 (khp K c) (obr K r) x = khp (mO K [] [(91 + i, upI (K.2 (91 + i)) r y)]) c := by
  refine khp_upd K _ c _ _ hx (fun p hp => khp_c (fun _ => rfl) (mO2_n (by omega)) (mO2_n (by omega)) (mO2_n (by omega)) (fun k' h1 h2 => mO2_n (by omega)) (fun t j ht hj _ => ktb_c hj (fun _ i hi => by rw [mO2_n (by omega)]) (fun i _ n _ => by rw [mO2_n (by omega)])) (fun h189 hpos => kob_c (by omega) (mO2_n (by omega)) (fun h0 i' hi' => ?_) (fun i _ n _ => by rw [mO2_n (by omega)])))
  rw [mO2]
  split
  · next h9 =>
    have hup := hu p hpos
    rw [h0] at hup
    rw [upI_n (fun e => hp (by rw [hup, e]; rfl)), h9]
  · rfl
theorem khp_setv (K : mR) (c : Nat → Option am_C) {r : Int} {i : Nat} {n y : Int} {x : am_C} (hu : OWu K) (hi : i < 6) (h0 : 0 ≤ n) (h1 : n < 65536) (hx : khp (mO K [] [(100 + i, upI (K.2 (100 + i)) (65536 * r + n) y)]) c (obr K r + (i + 1)) = some x) : up1 (khp K c) (obr K r + (i + 1)) x = khp (mO K [] [(100 + i, upI (K.2 (100 + i)) (65536 * r + n) y)]) c := by
  refine khp_upd K _ c _ _ hx (fun p hp => khp_c (fun _ => rfl) (mO2_n (by omega)) (mO2_n (by omega)) (mO2_n (by omega)) (fun k' h1 h2 => mO2_n (by omega)) (fun t j ht hj _ => ktb_c hj (fun _ i hi => by rw [mO2_n (by omega)]) (fun i _ n _ => by rw [mO2_n (by omega)])) (fun h189 hpos => kob_c (by omega) (mO2_n (by omega)) (fun _ i' hi' => by rw [mO2_n (by omega)]) (fun i' e' n' hn' => ?_)))
  rw [mO2]
  split
  · next h9 =>
    have hup := hu p hpos
    rw [e'] at hup
    rw [upI_n ?_, h9]
    intro e
    have e2 : (K.2 108 p - 1) / 8 = r := by omega
    rw [e2] at hup
    exact hp (by rw [hup]; omega)
  · rfl
section KOP
variable {w : wX} {D : Nat} {me : am_M} {Q : ag_Re af_T → Prop} {pc nc ns N : Nat} {lv : List (Nat × Value)} {st : List Value} {c : Nat → Option am_C} {m : mR} {l : List (Nat × Int)} {a : List (Nat × (Int → Int))}
theorem khp_o0 (K : mR) {r : Int} (h : OKr K r) : khp K c (obr K r) = some (.inr (4, kof K r)) := by
  obtain ⟨h0, h1, h2, h3, h4⟩ := h
  have := khp_ob K c (j := 0) h0 h2 (by omega) (h4 0 (by omega))
  exact this
theorem khp_o1 (K : mR) {r : Int} {i : Nat} (h : OKr K r) (hi : i < 6) : khp K c (obr K r + (i + 1)) = some (kar1 K (oty i) (oln i) (100 + i) r) := by
  obtain ⟨h0, h1, h2, h3, h4⟩ := h
  exact khp_ob K c (j := i + 1) h0 h2 (by omega) (h4 (i + 1) (by omega))
theorem kof_at (K : mR) {r : Int} {j : Nat} (hj : j < 15) : (kof K r)[j]? = some (kov K r j) := by
  unfold kof
  rw [List.getElem?_map, List.getElem?_range hj]
  rfl
theorem K_gor (pc' : Nat) {idx j len q : Nat} {r : Int} (hi : me.2.2.2.2.2 pc = some (.getfield idx, len, 4, j, 0)) (hj : decide (j < 6) = true) (hr : OKr (mO m l a) r) (hq : obr (mO m l a) r = q) (hp : pc + 3 = pc') (H : TT w D me (pc', lv, .ref (q + (j + 1)) :: st, (khp (mO m l a) c, N), nc, ns) Q) : TT w D me (pc, lv, .ref q :: st, (khp (mO m l a) c, N), nc, ns) Q := by
  have hj := of_decide_eq_true hj
  subst hq
  refine G_getf pc' (.ref (obr (mO m l a) r + (j + 1))) hi (khp_o0 _ hr) ?_ hp H
  rw [kof_at _ (by omega)]
  unfold kov obr
  rw [if_pos hj, show ((mO m l a).2 107 r).toNat + 1 + j = ((mO m l a).2 107 r).toNat + (j + 1) by omega]
theorem K_goi (pc' k : Nat) (f : Int → Int) {idx j len q : Nat} {r : Int} (hi : me.2.2.2.2.2 pc = some (.getfield idx, len, 4, j, 0)) (hj : (decide (6 ≤ j) && (decide (j < 15) && decide (85 + j = k))) = true) (hr : OKr (mO m l a) r) (hq : obr (mO m l a) r = q) (hf : (mO m l a).2 k = f) (hp : pc + 3 = pc') (H : TT w D me (pc', lv, .int (i32 (f r)) :: st, (khp (mO m l a) c, N), nc, ns) Q) : TT w D me (pc, lv, .ref q :: st, (khp (mO m l a) c, N), nc, ns) Q := by
  simp only [Bool.and_eq_true, decide_eq_true_eq] at hj
  obtain ⟨j1, j2, rfl⟩ := hj
  subst hf hq
  refine G_getf pc' _ hi (khp_o0 _ hr) ?_ hp H
  rw [kof_at _ j2]
  unfold kov
  rw [if_neg (by omega)]
theorem K_poi (pc' k : Nat) {a' : List (Nat × (Int → Int))} (f : Int → Int) {idx j len q : Nat} {r x : Int} (hi : me.2.2.2.2.2 pc = some (.putfield idx, len, 4, j, 0)) (hj : (decide (6 ≤ j) && (decide (j < 15) && decide (85 + j = k))) = true) (hft : nm_ft 4 j = FieldType.int) (hr : OKr (mO m l a) r) (hu : OWu (mO m l a)) (hq : obr (mO m l a) r = q) (hf : (mO m l a).2 k = f) (ha : ins k (upI f r x) a = a') (hp : pc + 3 = pc') (H : TT w D me (pc', lv, st, (khp (mO m l a') c, N), nc, ns) Q) : TT w D me (pc, lv, .int (i32 x) :: .ref q :: st, (khp (mO m l a) c, N), nc, ns) Q := by
  simp only [Bool.and_eq_true, decide_eq_true_eq] at hj
  obtain ⟨j1, j2, rfl⟩ := hj
  subst hf ha hq
  refine G_putf pc' hi (khp_o0 _ hr) (by unfold kof; rw [List.length_map, List.length_range]; exact j2) (by rw [hft]; rfl) ?_ hp H
  rw [← mO_a]
  have e := khp_seto (mO m l a) c (r := r) (i := j - 6) (y := x) (x := .inr (4, (kof (mO m l a) r).set j (.int (i32 x)))) hu (by omega)
  rw [show 91 + (j - 6) = 85 + j by omega] at e
  refine e ?_
  have hr2 : OKr (mO (mO m l a) [] [(85 + j, upI ((mO m l a).2 (85 + j)) r x)]) r := by
    unfold OKr
    rw [mO2_n (show 85 + j ≠ 107 by omega), mO2_n (show 85 + j ≠ 108 by omega)]
    exact hr
  have e2 := khp_o0 (c := c) _ hr2
  have e3 : obr (mO (mO m l a) [] [(85 + j, upI ((mO m l a).2 (85 + j)) r x)]) r = obr (mO m l a) r := by
    unfold obr
    rw [mO2_n (show 85 + j ≠ 107 by omega)]
  rw [e3] at e2
  rw [e2]
  congr 3
  apply List.ext_getElem?
  intro n
  by_cases hn : n < 15
  · rw [kof_at _ hn]
    by_cases hnj : n = j
    · subst hnj
      rw [List.getElem?_set_self (by unfold kof; rw [List.length_map, List.length_range]; exact j2)]
      unfold kov
      rw [if_neg (by omega), mO2_s, upI_s]
    · rw [List.getElem?_set_ne (fun e => hnj e.symm), kof_at _ hn]
      unfold kov
      split
      · rw [mO2_n (show 85 + j ≠ 107 by omega)]
      · rw [mO2_n (by omega)]
  · rw [List.getElem?_eq_none (by unfold kof; rw [List.length_map, List.length_range]; omega), List.getElem?_eq_none (by rw [List.length_set]; unfold kof; rw [List.length_map, List.length_range]; omega)]
theorem K_ialo (pc' i : Nat) (f : Int → Int) {len p p' p'' q : Nat} {r n : Int} (hi : me.2.2.2.2.2 pc = some (.iaload, len, p, p', p'')) (hp : pc + 1 = pc') (hk : (decide (i < 6) && (decide (oty i = 0) && decide (oln i < 65536))) = true) (hr : OKr (mO m l a) r) (hq : obr (mO m l a) r = q) (n0 : 0 ≤ n) (n1 : n < oln i) (hf : (mO m l a).2 (100 + i) = f) (H : TT w D me (pc', lv, .int (i32 (f (65536 * r + n))) :: st, (khp (mO m l a) c, N), nc, ns) Q) : TT w D me (pc, lv, .int (i32 n) :: .ref (q + (i + 1)) :: st, (khp (mO m l a) c, N), nc, ns) Q := by
  simp only [Bool.and_eq_true, decide_eq_true_eq] at hk
  obtain ⟨k1, k2, k3⟩ := hk
  subst hf hq
  have hc := khp_o1 (c := c) (mO m l a) hr k1
  rw [k2] at hc
  have hb := hr.2.2.2.1
  refine G_iald pc' hi (by unfold obr; omega) hc n0 n1 (by omega) ?_ hp H
  show i32 (ka1 (mO m l a) (100 + i) r n.toNat) = _
  unfold ka1
  rw [if_pos (by omega), tn_c n0]
theorem K_balo (pc' i : Nat) (f : Int → Int) {len p p' p'' q : Nat} {r n : Int} (hi : me.2.2.2.2.2 pc = some (.baload, len, p, p', p'')) (hp : pc + 1 = pc') (hk : (decide (i < 6) && (decide (oty i = 2) && decide (oln i < 65536))) = true) (hr : OKr (mO m l a) r) (hq : obr (mO m l a) r = q) (n0 : 0 ≤ n) (n1 : n < oln i) (hf : (mO m l a).2 (100 + i) = f) (H : TT w D me (pc', lv, .int (i32 (f (65536 * r + n))) :: st, (khp (mO m l a) c, N), nc, ns) Q) : TT w D me (pc, lv, .int (i32 n) :: .ref (q + (i + 1)) :: st, (khp (mO m l a) c, N), nc, ns) Q := by
  simp only [Bool.and_eq_true, decide_eq_true_eq] at hk
  obtain ⟨k1, k2, k3⟩ := hk
  subst hf hq
  have hc := khp_o1 (c := c) (mO m l a) hr k1
  rw [k2] at hc
  have hb := hr.2.2.2.1
  refine G_bald pc' hi (by unfold obr; omega) hc (Or.inl rfl) n0 n1 (by omega) ?_ hp H
  show i32 (ka1 (mO m l a) (100 + i) r n.toNat) = _
  unfold ka1
  rw [if_pos (by omega), tn_c n0]
theorem K_lalo (pc' i : Nat) (f : Int → Int) {len p p' p'' q : Nat} {r n : Int} (hi : me.2.2.2.2.2 pc = some (.laload, len, p, p', p'')) (hp : pc + 1 = pc') (hk : (decide (i < 6) && (decide (oty i = 1) && decide (oln i < 65536))) = true) (hr : OKr (mO m l a) r) (hq : obr (mO m l a) r = q) (n0 : 0 ≤ n) (n1 : n < oln i) (hf : (mO m l a).2 (100 + i) = f) (H : TT w D me (pc', lv, .long (i64 (f (65536 * r + n))) :: st, (khp (mO m l a) c, N), nc, ns) Q) : TT w D me (pc, lv, .int (i32 n) :: .ref (q + (i + 1)) :: st, (khp (mO m l a) c, N), nc, ns) Q := by
  simp only [Bool.and_eq_true, decide_eq_true_eq] at hk
  obtain ⟨k1, k2, k3⟩ := hk
  subst hf hq
  have hc := khp_o1 (c := c) (mO m l a) hr k1
  rw [k2] at hc
  refine G_lald pc' hi hc n0 n1 (by omega) ?_ hp H
  show i64 (ka1 (mO m l a) (100 + i) r n.toNat) = _
  unfold ka1
  rw [if_pos (by omega), tn_c n0]
theorem OKr_a {K : mR} {r : Int} {k : Nat} {f : Int → Int} (h7 : k ≠ 107) (h8 : k ≠ 108) (h : OKr K r) : OKr (mO K [] [(k, f)]) r := by
  unfold OKr
  rw [mO2_n h7, mO2_n h8]
  exact h
theorem obr_a {K : mR} {r : Int} {k : Nat} {f : Int → Int} (h7 : k ≠ 107) : obr (mO K [] [(k, f)]) r = obr K r := by
  unfold obr
  rw [mO2_n h7]
theorem K_iasto (pc' i : Nat) {a' : List (Nat × (Int → Int))} (f : Int → Int) {len p p' p'' q : Nat} {r n x : Int} (hi : me.2.2.2.2.2 pc = some (.iastore, len, p, p', p'')) (hp : pc + 1 = pc') (hk : (decide (i < 6) && (decide (oty i = 0) && decide (oln i < 65536))) = true) (hr : OKr (mO m l a) r) (hu : OWu (mO m l a)) (hq : obr (mO m l a) r = q) (n0 : 0 ≤ n) (n1 : n < oln i) (hf : (mO m l a).2 (100 + i) = f) (ha : ins (100 + i) (upI f (65536 * r + n) x) a = a') (H : TT w D me (pc', lv, st, (khp (mO m l a') c, N), nc, ns) Q) : TT w D me (pc, lv, .int (i32 x) :: .int (i32 n) :: .ref (q + (i + 1)) :: st, (khp (mO m l a) c, N), nc, ns) Q := by
  simp only [Bool.and_eq_true, decide_eq_true_eq] at hk
  obtain ⟨k1, k2, k3⟩ := hk
  subst hf ha hq
  have hc := khp_o1 (c := c) (mO m l a) hr k1
  rw [k2] at hc
  refine G_iast pc' hi hc n0 n1 (by omega) ?_ hp H
  rw [← mO_a]
  refine khp_setv (mO m l a) c (r := r) (i := i) (n := n) (y := x) hu k1 n0 (by omega) ?_
  have hc2 := khp_o1 (c := c) _ (OKr_a (k := 100 + i) (f := upI ((mO m l a).2 (100 + i)) (65536 * r + n) x) (by omega) (by omega) hr) k1
  rw [k2, obr_a (by omega)] at hc2
  rw [hc2, upd_t n0 (by omega)]
  rfl
theorem K_lasto (pc' i : Nat) {a' : List (Nat × (Int → Int))} (f : Int → Int) {len p p' p'' q : Nat} {r n x : Int} (hi : me.2.2.2.2.2 pc = some (.lastore, len, p, p', p'')) (hp : pc + 1 = pc') (hk : (decide (i < 6) && (decide (oty i = 1) && decide (oln i < 65536))) = true) (hr : OKr (mO m l a) r) (hu : OWu (mO m l a)) (hq : obr (mO m l a) r = q) (n0 : 0 ≤ n) (n1 : n < oln i) (hf : (mO m l a).2 (100 + i) = f) (ha : ins (100 + i) (upI f (65536 * r + n) x) a = a') (H : TT w D me (pc', lv, st, (khp (mO m l a') c, N), nc, ns) Q) : TT w D me (pc, lv, .long (i64 x) :: .int (i32 n) :: .ref (q + (i + 1)) :: st, (khp (mO m l a) c, N), nc, ns) Q := by
  simp only [Bool.and_eq_true, decide_eq_true_eq] at hk
  obtain ⟨k1, k2, k3⟩ := hk
  subst hf ha hq
  have hc := khp_o1 (c := c) (mO m l a) hr k1
  rw [k2] at hc
  refine G_last pc' hi hc n0 n1 (by omega) ?_ hp H
  rw [← mO_a]
  refine khp_setv (mO m l a) c (r := r) (i := i) (n := n) (y := x) hu k1 n0 (by omega) ?_
  have hc2 := khp_o1 (c := c) _ (OKr_a (k := 100 + i) (f := upI ((mO m l a).2 (100 + i)) (65536 * r + n) x) (by omega) (by omega) hr) k1
  rw [k2, obr_a (by omega)] at hc2
  rw [hc2, updl_t n0 (by omega)]
  rfl
theorem K_basto (pc' i : Nat) {a' : List (Nat × (Int → Int))} (f : Int → Int) {len p p' p'' q : Nat} {r n x : Int} (hi : me.2.2.2.2.2 pc = some (.bastore, len, p, p', p'')) (hp : pc + 1 = pc') (hk : (decide (i < 6) && (decide (oty i = 2) && decide (oln i < 65536))) = true) (hr : OKr (mO m l a) r) (hu : OWu (mO m l a)) (hq : obr (mO m l a) r = q) (n0 : 0 ≤ n) (n1 : n < oln i) (hx : -128 ≤ x ∧ x ≤ 127) (hf : (mO m l a).2 (100 + i) = f) (ha : ins (100 + i) (upI f (65536 * r + n) x) a = a') (H : TT w D me (pc', lv, st, (khp (mO m l a') c, N), nc, ns) Q) : TT w D me (pc, lv, .int (i32 x) :: .int (i32 n) :: .ref (q + (i + 1)) :: st, (khp (mO m l a) c, N), nc, ns) Q := by
  simp only [Bool.and_eq_true, decide_eq_true_eq] at hk
  obtain ⟨k1, k2, k3⟩ := hk
  subst hf ha hq
  have hc := khp_o1 (c := c) (mO m l a) hr k1
  rw [k2] at hc
  refine G_bast pc' hi hc (Or.inl rfl) n0 n1 (by omega) ?_ hp H
  rw [← mO_a, nar_b hx]
  refine khp_setv (mO m l a) c (r := r) (i := i) (n := n) (y := x) hu k1 n0 (by omega) ?_
  have hc2 := khp_o1 (c := c) _ (OKr_a (k := 100 + i) (f := upI ((mO m l a).2 (100 + i)) (65536 * r + n) x) (by omega) (by omega) hr) k1
  rw [k2, obr_a (by omega)] at hc2
  rw [hc2, upd_t n0 (by omega)]
  rfl
end KOP
