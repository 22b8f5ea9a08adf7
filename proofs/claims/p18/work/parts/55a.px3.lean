/-! ===== operations, for the functions ===== -/
def neg64 (x : Int) : Int := (-(i64 x)).toInt
def rem64 (x y : Int) : Int := (i64 x - i64 x / i64 y * i64 y).toInt
abbrev oB : Type := (Int → Int) × (Int → Int)
def obo (B : oB) (r : Int) : Nat := (B.1 r).toNat
def OKo (B : oB) (r : Int) : Prop := 0 ≤ r ∧ r < 128 ∧ 327 ≤ B.1 r ∧ B.1 r < 900000 ∧ ∀ j : Nat, j < 7 → B.2 (B.1 r + j) = 1 + 8 * r + j
def Rno (B : oB) (e : Int) : Prop := -1 ≤ e ∧ (¬ e < 0 → OKo B e)
def obv (B : oB) (e : Int) : Value := if e < 0 then .null else .ref (obo B e)
theorem obv_n {B : oB} {e : Int} (h : e < 0) : obv B e = .null := if_pos h
theorem obv_t {B : oB} {e : Int} (h : OKo B e) : obv B e = .ref (obo B e) := if_neg (by have := h.1; omega)
theorem rno_1 {B : oB} : Rno B (-1) := ⟨by decide, fun h => absurd (by decide) h⟩
theorem Rno_o {B : oB} {e : Int} (h : OKo B e) : Rno B e := ⟨by have := h.1; omega, fun _ => h⟩
theorem Rno_n {B : oB} {e : Int} (h : Rno B e) (g : ¬ e < 0) : OKo B e := h.2 g
theorem Rno_l {B : oB} {e : Int} (h : Rno B e) : e < 128 := by
  by_cases g : e < 0
  · omega
  · exact (h.2 g).2.1
theorem Rno_r {B : oB} {e : Int} (h : Rno B e) : R32 e := ⟨by have := h.1; omega, by have := Rno_l h; omega⟩
def KCo (B : oB) (m : mR) : Prop := KCn m ∧ m.2 107 = B.1 ∧ m.2 108 = B.2 ∧ ∀ n, m.2 106 n < 128
def kopn (g : Int → Int) (n : Int) : Int := if g n ≤ 0 then -1 else n
section KOS
variable {B : oB} {m : mR} {c : Nat → Option am_C} {l : List (Nat × Int)} {a : List (Nat × (Int → Int))} {r n : Int}
theorem KCo_mO (hm : KCo B m) (h7 : (mO m l a).2 107 = m.2 107) (h8 : (mO m l a).2 108 = m.2 108) (h6 : ∀ n, (mO m l a).2 106 n < 128) (hl : kF l) (ha : kA a) : KCo B (mO m l a) := ⟨KCn_mO hm.1 h7 h8 hl ha, h7.trans hm.2.1, h8.trans hm.2.2.1, h6⟩
theorem KC6 (hm : KCo B m) (e : (mO m l a).2 106 = m.2 106) : ∀ n, (mO m l a).2 106 n < 128 := fun n => by rw [e]; exact hm.2.2.2 n
theorem KC6u {f : Int → Int} {i x : Int} (e : (mO m l a).2 106 = upI f i x) (hf : ∀ n, f n < 128) (hx : x < 128) : ∀ n, (mO m l a).2 106 n < 128 := fun n => by
  rw [e]
  unfold upI
  split
  · exact hx
  · exact hf n
theorem up6 {f : Int → Int} {i x : Int} (hf : ∀ n, f n < 128) (hx : x < 128) : ∀ n, upI f i x n < 128 := fun n => by
  unfold upI
  split
  · exact hx
  · exact hf n
theorem KC6e {f : Int → Int} (e : (mO m l a).2 106 = f) (hf : ∀ n, f n < 128) : ∀ n, (mO m l a).2 106 n < 128 := fun n => by rw [e]; exact hf n
theorem OKr_o (hm : KCo B m) (h7 : (mO m l a).2 107 = m.2 107) (h8 : (mO m l a).2 108 = m.2 108) (hr : OKo B r) : OKr (mO m l a) r := by
  unfold OKr
  rw [h7, h8, hm.2.1, hm.2.2.1]
  exact hr
theorem obr_o (hm : KCo B m) (h7 : (mO m l a).2 107 = m.2 107) : obr (mO m l a) r = obo B r := by
  unfold obr
  rw [h7, hm.2.1]
  rfl
theorem OWu_o (hm : KCo B m) (h7 : (mO m l a).2 107 = m.2 107) (h8 : (mO m l a).2 108 = m.2 108) : OWu (mO m l a) := (KO_c h7 h8 hm.1.2.2).1
theorem khp_oo (hm : KCo B m) (h7 : (mO m l a).2 107 = m.2 107) (h8 : (mO m l a).2 108 = m.2 108) (hr : OKo B r) : khp (mO m l a) c (obo B r) = some (.inr (4, kof (mO m l a) r)) := by
  rw [← obr_o (l := l) (a := a) hm h7]
  exact khp_o0 _ (OKr_o hm h7 h8 hr)
theorem kop_o (hm : KCo B m) (h0 : 0 ≤ n) (h1 : n < 128) : Rno B (kopn (m.2 107) n) := by
  unfold kopn
  split
  · exact rno_1
  · next h =>
    rcases hm.1.2.2.2.1 n h0 h1 with h2 | h2
    · omega
    · unfold OKr at h2
      rw [hm.2.1, hm.2.2.1] at h2
      exact Rno_o h2
theorem koi_o {f : Int → Int} (hm : KCo B m) (hf : f n < 128) : Rno B (kopi f (m.2 107) n) := by
  unfold kopi
  split
  · exact rno_1
  · next h =>
    have := kop_o hm (n := f n) (by omega) hf
    unfold kopn at this
    exact this
theorem kop_v (hm : KCo B m) (h0 : 0 ≤ n) (h1 : n < 128) (h7 : (mO m l a).2 107 = m.2 107) : va_rf (kor (mO m l a) n) = obv B (kopn (m.2 107) n) := by
  unfold kor kopn
  rw [h7]
  by_cases h : m.2 107 n ≤ 0
  · rw [if_pos h, if_pos h]
    rfl
  · rw [if_neg h, if_neg h]
    unfold obv
    rw [if_neg (by omega)]
    unfold obo
    rw [← hm.2.1]
    rfl
theorem koi_v {f : Int → Int} (hm : KCo B m) (hf : f n < 128) (h6 : (mO m l a).2 106 = f) (h7 : (mO m l a).2 107 = m.2 107) : va_rf (if (mO m l a).2 106 n < 0 then none else kor (mO m l a) ((mO m l a).2 106 n)) = obv B (kopi f (m.2 107) n) := by
  rw [h6]
  by_cases h : f n < 0
  · rw [if_pos h]
    unfold kopi
    rw [if_pos h]
    rfl
  · rw [if_neg h, kop_v hm (by omega) hf h7]
    unfold kopi kopn
    rw [if_neg h]
end KOS
section PKO
variable {B : oB} {bb : Nat} {w : wX} {D : Nat} {me : am_M} {Q : ag_Re af_T → Prop} {pc nc ns N : Nat} {lv : List (Nat × Value)} {st : List Value} {t : af_T} {h : Nat → Option am_C} {c : Nat → Option am_C} {m : mR} {l : List (Nat × Int)} {a : List (Nat × (Int → Int))} {i9 : am_I} {α β : Type} {F9 : β → ag_Re af_T → Prop}
theorem PK_gor (pc' : Nat) {idx j len q : Nat} {r : Int} (hi : me.2.2.2.2.2 pc = some (.getfield idx, len, 4, j, 0)) (hj : decide (j < 6) = true) (hr : OKr (mO m l a) r) (hq : obr (mO m l a) r = q) (hp : pc + 3 = pc') (H : PP bb w D me (pc', lv, .ref (q + (j + 1)) :: st, (khp (mO m l a) c, N), nc, ns) Q) : PP bb w D me (pc, lv, .ref q :: st, (khp (mO m l a) c, N), nc, ns) Q := by
  have hj := of_decide_eq_true hj
  subst hq
  refine PG_getf pc' (.ref (obr (mO m l a) r + (j + 1))) hi (khp_o0 _ hr) ?_ hp H
  rw [kof_at _ (by omega)]
  unfold kov obr
  rw [if_pos hj, show ((mO m l a).2 107 r).toNat + 1 + j = ((mO m l a).2 107 r).toNat + (j + 1) by omega]
theorem PK_goi (pc' k : Nat) (f : Int → Int) {idx j len q : Nat} {r : Int} (hi : me.2.2.2.2.2 pc = some (.getfield idx, len, 4, j, 0)) (hj : (decide (6 ≤ j) && (decide (j < 15) && decide (85 + j = k))) = true) (hr : OKr (mO m l a) r) (hq : obr (mO m l a) r = q) (hf : (mO m l a).2 k = f) (hp : pc + 3 = pc') (H : PP bb w D me (pc', lv, .int (i32 (f r)) :: st, (khp (mO m l a) c, N), nc, ns) Q) : PP bb w D me (pc, lv, .ref q :: st, (khp (mO m l a) c, N), nc, ns) Q := by
  simp only [Bool.and_eq_true, decide_eq_true_eq] at hj
  obtain ⟨j1, j2, rfl⟩ := hj
  subst hf hq
  refine PG_getf pc' _ hi (khp_o0 _ hr) ?_ hp H
  rw [kof_at _ j2]
  unfold kov
  rw [if_neg (by omega)]
theorem PK_poi (pc' k : Nat) {a' : List (Nat × (Int → Int))} (f : Int → Int) {idx j len q : Nat} {r x : Int} (hi : me.2.2.2.2.2 pc = some (.putfield idx, len, 4, j, 0)) (hj : (decide (6 ≤ j) && (decide (j < 15) && decide (85 + j = k))) = true) (hft : nm_ft 4 j = FieldType.int) (hr : OKr (mO m l a) r) (hu : OWu (mO m l a)) (hq : obr (mO m l a) r = q) (hf : (mO m l a).2 k = f) (ha : ins k (upI f r x) a = a') (hp : pc + 3 = pc') (H : PP bb w D me (pc', lv, st, (khp (mO m l a') c, N), nc, ns) Q) : PP bb w D me (pc, lv, .int (i32 x) :: .ref q :: st, (khp (mO m l a) c, N), nc, ns) Q := by
  simp only [Bool.and_eq_true, decide_eq_true_eq] at hj
  obtain ⟨j1, j2, rfl⟩ := hj
  subst hf ha hq
  refine PG_putf pc' hi (khp_o0 _ hr) (by unfold kof; rw [List.length_map, List.length_range]; exact j2) (by rw [hft]; rfl) ?_ hp H
  rw [← mO_a]
  have e := khp_seto (mO m l a) c (r := r) (i := j - 6) (y := x) (x := .inr (4, (kof (mO m l a) r).set j (.int (i32 x)))) hu (by omega)
  rw [show 91 + (j - 6) = 85 + j by omega] at e
  refine e ?_
  have hr2 : OKr (mO (mO m l a) [] [(85 + j, upI ((mO m l a).2 (85 + j)) r x)]) r := by
    unfold OKr
    rw [mO2_n (show 85 + j ≠ 107 by omega), mO2_n (show 85 + j ≠ 108 by omega)]
    exact hr
  have e2 := khp_o0 (c := c) _ hr2
  have e3 : obr (mO (mO m l a) [] [(85 + j, upI ((mO m l a).2 (85 + j)) r x)]) r = obr (mO m l a) r := by
    unfold obr
    rw [mO2_n (show 85 + j ≠ 107 by omega)]
  rw [e3] at e2
  rw [e2]
  congr 3
  apply List.ext_getElem?
  intro n
  by_cases hn : n < 15
  · rw [kof_at _ hn]
    by_cases hnj : n = j
    · subst hnj
      rw [List.getElem?_set_self (by unfold kof; rw [List.length_map, List.length_range]; exact j2)]
      unfold kov
      rw [if_neg (by omega), mO2_s, upI_s]
    · rw [List.getElem?_set_ne (fun e => hnj e.symm), kof_at _ hn]
      unfold kov
      split
      · rw [mO2_n (show 85 + j ≠ 107 by omega)]
      · rw [mO2_n (by omega)]
  · rw [List.getElem?_eq_none (by unfold kof; rw [List.length_map, List.length_range]; omega), List.getElem?_eq_none (by rw [List.length_set]; unfold kof; rw [List.length_map, List.length_range]; omega)]
theorem PK_ialo (pc' i : Nat) (f : Int → Int) {len p p' p'' q : Nat} {r n : Int} (hi : me.2.2.2.2.2 pc = some (.iaload, len, p, p', p'')) (hp : pc + 1 = pc') (hk : (decide (i < 6) && (decide (oty i = 0) && decide (oln i < 65536))) = true) (hr : OKr (mO m l a) r) (hq : obr (mO m l a) r = q) (n0 : 0 ≤ n) (n1 : n < oln i) (hf : (mO m l a).2 (100 + i) = f) (H : PP bb w D me (pc', lv, .int (i32 (f (65536 * r + n))) :: st, (khp (mO m l a) c, N), nc, ns) Q) : PP bb w D me (pc, lv, .int (i32 n) :: .ref (q + (i + 1)) :: st, (khp (mO m l a) c, N), nc, ns) Q := by
  simp only [Bool.and_eq_true, decide_eq_true_eq] at hk
  obtain ⟨k1, k2, k3⟩ := hk
  subst hf hq
  have hc := khp_o1 (c := c) (mO m l a) hr k1
  rw [k2] at hc
  have hb := hr.2.2.2.1
  refine PG_iald pc' hi (by unfold obr; omega) hc n0 n1 (by omega) ?_ hp H
  show i32 (ka1 (mO m l a) (100 + i) r n.toNat) = _
  unfold ka1
  rw [if_pos (by omega), tn_c n0]
theorem PK_balo (pc' i : Nat) (f : Int → Int) {len p p' p'' q : Nat} {r n : Int} (hi : me.2.2.2.2.2 pc = some (.baload, len, p, p', p'')) (hp : pc + 1 = pc') (hk : (decide (i < 6) && (decide (oty i = 2) && decide (oln i < 65536))) = true) (hr : OKr (mO m l a) r) (hq : obr (mO m l a) r = q) (n0 : 0 ≤ n) (n1 : n < oln i) (hf : (mO m l a).2 (100 + i) = f) (H : PP bb w D me (pc', lv, .int (i32 (f (65536 * r + n))) :: st, (khp (mO m l a) c, N), nc, ns) Q) : PP bb w D me (pc, lv, .int (i32 n) :: .ref (q + (i + 1)) :: st, (khp (mO m l a) c, N), nc, ns) Q := by
  simp only [Bool.and_eq_true, decide_eq_true_eq] at hk
  obtain ⟨k1, k2, k3⟩ := hk
  subst hf hq
  have hc := khp_o1 (c := c) (mO m l a) hr k1
  rw [k2] at hc
  have hb := hr.2.2.2.1
  refine PG_bald pc' hi (by unfold obr; omega) hc (Or.inl rfl) n0 n1 (by omega) ?_ hp H
  show i32 (ka1 (mO m l a) (100 + i) r n.toNat) = _
  unfold ka1
  rw [if_pos (by omega), tn_c n0]
theorem PK_lalo (pc' i : Nat) (f : Int → Int) {len p p' p'' q : Nat} {r n : Int} (hi : me.2.2.2.2.2 pc = some (.laload, len, p, p', p'')) (hp : pc + 1 = pc') (hk : (decide (i < 6) && (decide (oty i = 1) && decide (oln i < 65536))) = true) (hr : OKr (mO m l a) r) (hq : obr (mO m l a) r = q) (n0 : 0 ≤ n) (n1 : n < oln i) (hf : (mO m l a).2 (100 + i) = f) (H : PP bb w D me (pc', lv, .long (i64 (f (65536 * r + n))) :: st, (khp (mO m l a) c, N), nc, ns) Q) : PP bb w D me (pc, lv, .int (i32 n) :: .ref (q + (i + 1)) :: st, (khp (mO m l a) c, N), nc, ns) Q := by
  simp only [Bool.and_eq_true, decide_eq_true_eq] at hk
  obtain ⟨k1, k2, k3⟩ := hk
  subst hf hq
  have hc := khp_o1 (c := c) (mO m l a) hr k1
  rw [k2] at hc
  refine PG_lald pc' hi hc n0 n1 (by omega) ?_ hp H
  show i64 (ka1 (mO m l a) (100 + i) r n.toNat) = _
  unfold ka1
  rw [if_pos (by omega), tn_c n0]
theorem PK_iasto (pc' i : Nat) {a' : List (Nat × (Int → Int))} (f : Int → Int) {len p p' p'' q : Nat} {r n x : Int} (hi : me.2.2.2.2.2 pc = some (.iastore, len, p, p', p'')) (hp : pc + 1 = pc') (hk : (decide (i < 6) && (decide (oty i = 0) && decide (oln i < 65536))) = true) (hr : OKr (mO m l a) r) (hu : OWu (mO m l a)) (hq : obr (mO m l a) r = q) (n0 : 0 ≤ n) (n1 : n < oln i) (hf : (mO m l a).2 (100 + i) = f) (ha : ins (100 + i) (upI f (65536 * r + n) x) a = a') (H : PP bb w D me (pc', lv, st, (khp (mO m l a') c, N), nc, ns) Q) : PP bb w D me (pc, lv, .int (i32 x) :: .int (i32 n) :: .ref (q + (i + 1)) :: st, (khp (mO m l a) c, N), nc, ns) Q := by
  simp only [Bool.and_eq_true, decide_eq_true_eq] at hk
  obtain ⟨k1, k2, k3⟩ := hk
  subst hf ha hq
  have hc := khp_o1 (c := c) (mO m l a) hr k1
  rw [k2] at hc
  refine PG_iast pc' hi hc n0 n1 (by omega) ?_ hp H
  rw [← mO_a]
  refine khp_setv (mO m l a) c (r := r) (i := i) (n := n) (y := x) hu k1 n0 (by omega) ?_
  have hc2 := khp_o1 (c := c) _ (OKr_a (k := 100 + i) (f := upI ((mO m l a).2 (100 + i)) (65536 * r + n) x) (by omega) (by omega) hr) k1
  rw [k2, obr_a (by omega)] at hc2
  rw [hc2, upd_t n0 (by omega)]
  rfl
theorem PK_lasto (pc' i : Nat) {a' : List (Nat × (Int → Int))} (f : Int → Int) {len p p' p'' q : Nat} {r n x : Int} (hi : me.2.2.2.2.2 pc = some (.lastore, len, p, p', p'')) (hp : pc + 1 = pc') (hk : (decide (i < 6) && (decide (oty i = 1) && decide (oln i < 65536))) = true) (hr : OKr (mO m l a) r) (hu : OWu (mO m l a)) (hq : obr (mO m l a) r = q) (n0 : 0 ≤ n) (n1 : n < oln i) (hf : (mO m l a).2 (100 + i) = f) (ha : ins (100 + i) (upI f (65536 * r + n) x) a = a') (H : PP bb w D me (pc', lv, st, (khp (mO m l a') c, N), nc, ns) Q) : PP bb w D me (pc, lv, .long (i64 x) :: .int (i32 n) :: .ref (q + (i + 1)) :: st, (khp (mO m l a) c, N), nc, ns) Q := by
  simp only [Bool.and_eq_true, decide_eq_true_eq] at hk
  obtain ⟨k1, k2, k3⟩ := hk
  subst hf ha hq
  have hc := khp_o1 (c := c) (mO m l a) hr k1
  rw [k2] at hc
  refine PG_last pc' hi hc n0 n1 (by omega) ?_ hp H
  rw [← mO_a]
  refine khp_setv (mO m l a) c (r := r) (i := i) (n := n) (y := x) hu k1 n0 (by omega) ?_
  have hc2 := khp_o1 (c := c) _ (OKr_a (k := 100 + i) (f := upI ((mO m l a).2 (100 + i)) (65536 * r + n) x) (by omega) (by omega) hr) k1
  rw [k2, obr_a (by omega)] at hc2
  rw [hc2, updl_t n0 (by omega)]
  rfl
theorem PK_bastno (pc' i : Nat) {a' : List (Nat × (Int → Int))} (f : Int → Int) {len p p' p'' q : Nat} {r n x : Int} (hi : me.2.2.2.2.2 pc = some (.bastore, len, p, p', p'')) (hp : pc + 1 = pc') (hk : (decide (i < 6) && (decide (oty i = 2) && decide (oln i < 65536))) = true) (hr : OKr (mO m l a) r) (hu : OWu (mO m l a)) (hq : obr (mO m l a) r = q) (n0 : 0 ≤ n) (n1 : n < oln i) (hf : (mO m l a).2 (100 + i) = f) (ha : ins (100 + i) (upI f (65536 * r + n) (nar2 x)) a = a') (H : PP bb w D me (pc', lv, st, (khp (mO m l a') c, N), nc, ns) Q) : PP bb w D me (pc, lv, .int (i32 x) :: .int (i32 n) :: .ref (q + (i + 1)) :: st, (khp (mO m l a) c, N), nc, ns) Q := by
  simp only [Bool.and_eq_true, decide_eq_true_eq] at hk
  obtain ⟨k1, k2, k3⟩ := hk
  subst hf ha hq
  have hc := khp_o1 (c := c) (mO m l a) hr k1
  rw [k2] at hc
  refine PG_bast pc' hi hc (Or.inl rfl) n0 n1 (by omega) ?_ hp H
  rw [← mO_a, show vp_nar (am_ty 2) (i32 x) = i32 (nar2 x) from (i32_of _).symm]
  refine khp_setv (mO m l a) c (r := r) (i := i) (n := n) (y := nar2 x) hu k1 n0 (by omega) ?_
  have hc2 := khp_o1 (c := c) _ (OKr_a (k := 100 + i) (f := upI ((mO m l a).2 (100 + i)) (65536 * r + n) (nar2 x)) (by omega) (by omega) hr) k1
  rw [k2, obr_a (by omega)] at hc2
  rw [hc2, upd_t n0 (by omega)]
  rfl
theorem PK_aaop (pc' : Nat) (v : Value) {len p p' p'' : Nat} {n : Int} (hi : me.2.2.2.2.2 pc = some (.aaload, len, p, p', p'')) (h0 : 0 ≤ n) (h1 : n < 128) (hv : va_rf (kor (mO m l a) n) = v) (hp : pc + 1 = pc') (H : PP bb w D me (pc', lv, v :: st, (khp (mO m l a) c, N), nc, ns) Q) : PP bb w D me (pc, lv, .int (i32 n) :: .ref 186 :: st, (khp (mO m l a) c, N), nc, ns) Q := by
  have hc : khp (mO m l a) c 186 = some (kfx (mO m l a) (6, 128, [])) := by
    rw [khp_lo _ c (by omega), klo_fx _ (by decide), kd_186]
  refine PG_aald pc' v hi hc (Or.inr rfl) h0 (by omega) (by omega) ?_ hp H
  show va_rf (kor (mO m l a) ((n.toNat : Nat) : Int)) = _
  rw [tn_c h0]
  exact hv
theorem PK_aais (pc' : Nat) (v : Value) {len p p' p'' : Nat} {n : Int} (hi : me.2.2.2.2.2 pc = some (.aaload, len, p, p', p'')) (h0 : 0 ≤ n) (h1 : n < 12) (hv : va_rf (if (mO m l a).2 106 n < 0 then none else kor (mO m l a) ((mO m l a).2 106 n)) = v) (hp : pc + 1 = pc') (H : PP bb w D me (pc', lv, v :: st, (khp (mO m l a) c, N), nc, ns) Q) : PP bb w D me (pc, lv, .int (i32 n) :: .ref 187 :: st, (khp (mO m l a) c, N), nc, ns) Q := by
  have hc : khp (mO m l a) c 187 = some (kfx (mO m l a) (7, 12, [])) := by
    rw [khp_lo _ c (by omega), klo_fx _ (by decide), kd_187]
  refine PG_aald pc' v hi hc (Or.inr rfl) h0 (by omega) (by omega) ?_ hp H
  show va_rf (if (mO m l a).2 106 ((n.toNat : Nat) : Int) < 0 then none else kor (mO m l a) ((mO m l a).2 106 ((n.toNat : Nat) : Int))) = _
  rw [tn_c h0]
  exact hv
theorem PK_aleno (pc' i : Nat) {len p p' p'' q : Nat} {r L : Int} (hi : me.2.2.2.2.2 pc = some (.arraylength, len, p, p', p'')) (hk : (decide (i < 6) && decide (oty i < 6)) = true) (hr : OKr (mO m l a) r) (hq : obr (mO m l a) r = q) (hL : Int32.ofNat (oln i) = i32 L) (hp : pc + 1 = pc') (H : PP bb w D me (pc', lv, .int (i32 L) :: st, (khp (mO m l a) c, N), nc, ns) Q) : PP bb w D me (pc, lv, .ref (q + (i + 1)) :: st, (khp (mO m l a) c, N), nc, ns) Q := by
  simp only [Bool.and_eq_true, decide_eq_true_eq] at hk
  subst hq
  obtain ⟨B, hB⟩ := kar1_k (mO m l a) (oty i) (oln i) (100 + i) r
  have hc := khp_o1 (c := c) (mO m l a) hr hk.1
  rw [hB] at hc
  have hb := hr.2.2.2.1
  exact PG_alen pc' hi (by unfold obr; omega) hc hk.2 hL hp H
theorem PG_aast (pc' : Nat) {h' : Nat → Option am_C} {len p p' p'' q x n : Nat} {fs : List Value} {i : Int} {F : Nat → Option Nat} (hi : me.2.2.2.2.2 pc = some (.aastore, len, p, p', p'')) (hx : h x = some (.inr (4, fs))) (hc : h q = some (.inl (5, n, .inr (.inr (.inr (.inr F)))))) (h0 : 0 ≤ i) (h1 : i < n) (hn : n < 1000000) (hh : up1 h q (.inl (5, n, .inr (.inr (.inr (.inr (va_up F i.toNat (some x))))))) = h') (hp : pc + 1 = pc') (H : PP bb w D me (pc', lv, st, (h', N), nc, ns) Q) : PP bb w D me (pc, lv, .ref x :: .int (i32 i) :: .ref q :: st, (h, N), nc, ns) Q := by
  subst hp hh
  refine Pm_step hi (fun call => ?_) H
  show ag_liftH (ag_aast af_O 10 4 pc lv (.ref x :: .int (i32 i) :: .ref q :: st) (h, N)) nc ns = _
  unfold ag_aast
  dsimp only
  rw [show af_O.1 (h, N) x = _ from hx]
  dsimp only
  unfold ag_do ad_aast
  dsimp only
  unfold ag_acc
  rw [show af_O.1 (h, N) q = _ from hc]
  dsimp only
  rw [if_pos ⟨Or.inr ⟨rfl, rfl⟩, idx_in h0 h1 hn⟩, show (i32 i).toNatClampNeg = i.toNat by have := i32_nat h0 (by omega : i < 2147483648); omega]
  rfl
theorem PK_aaso (pc' : Nat) {a' : List (Nat × (Int → Int))} (f : Int → Int) {len p p' p'' q : Nat} {n r : Int} (hi : me.2.2.2.2.2 pc = some (.aastore, len, p, p', p'')) (hp : pc + 1 = pc') (h0 : 0 ≤ n) (h1 : n < 12) (hK : KCn (mO m l a)) (hr : OKr (mO m l a) r) (hq : obr (mO m l a) r = q) (hf : (mO m l a).2 106 = f) (ha : ins 106 (upI f n r) a = a') (H : PP bb w D me (pc', lv, st, (khp (mO m l a') c, N), nc, ns) Q) : PP bb w D me (pc, lv, .ref q :: .int (i32 n) :: .ref 187 :: st, (khp (mO m l a) c, N), nc, ns) Q := by
  subst hf ha hq
  have hc : khp (mO m l a) c 187 = some (kfx (mO m l a) (7, 12, [])) := by
    rw [khp_lo _ c (by omega), klo_fx _ (by decide), kd_187]
  refine PG_aast pc' hi (khp_o0 _ hr) hc h0 (by omega) (by omega) ?_ hp H
  rw [← mO_a]
  refine khp_sets _ c hK.2.2 ?_
  rw [khp_lo _ c (by omega), klo_fx _ (by decide), kd_187]
  have e := kst_up (K := mO m l a) (x := r) h0
  rw [kst_ok hr] at e
  show some (Sum.inl (5, 12, Sum.inr (Sum.inr (Sum.inr (Sum.inr _))))) = _
  rw [e]
  try rfl
theorem PK_ialo2 (pc' i : Nat) (f : Int → Int) {len p p' p'' : Nat} {r n : Int} (hi : me.2.2.2.2.2 pc = some (.iaload, len, p, p', p'')) (hp : pc + 1 = pc') (hk : (decide (i < 6) && (decide (oty i = 0) && decide (oln i < 65536))) = true) (hm : KCo B m) (h7 : (mO m l a).2 107 = m.2 107) (h8 : (mO m l a).2 108 = m.2 108) (hr : OKo B r) (hn : R32 n) (hf : (mO m l a).2 (100 + i) = f) (H : PP bb w D me (pc', lv, .int (i32 (f (65536 * r + n))) :: st, (khp (mO m l a) c, N), nc, ns) Q) : PP bb w D me (pc, lv, .int (i32 n) :: .ref (obo B r + (i + 1)) :: st, (khp (mO m l a) c, N), nc, ns) Q := by
  by_cases hb : 0 ≤ n ∧ n < oln i
  · exact PK_ialo pc' i f hi hp hk (OKr_o hm h7 h8 hr) (obr_o hm h7) hb.1 hb.2 hf H
  · simp only [Bool.and_eq_true, decide_eq_true_eq] at hk
    obtain ⟨k1, k2, k3⟩ := hk
    have hc := khp_o1 (c := c) (mO m l a) (OKr_o hm h7 h8 hr) k1
    rw [k2, obr_o hm h7] at hc
    have h1 := hr.2.2.2.1
    exact PG_ialdN hi (by unfold obo; omega) hc hn hb
theorem PK_balo2 (pc' i : Nat) (f : Int → Int) {len p p' p'' : Nat} {r n : Int} (hi : me.2.2.2.2.2 pc = some (.baload, len, p, p', p'')) (hp : pc + 1 = pc') (hk : (decide (i < 6) && (decide (oty i = 2) && decide (oln i < 65536))) = true) (hm : KCo B m) (h7 : (mO m l a).2 107 = m.2 107) (h8 : (mO m l a).2 108 = m.2 108) (hr : OKo B r) (hn : R32 n) (hf : (mO m l a).2 (100 + i) = f) (H : PP bb w D me (pc', lv, .int (i32 (f (65536 * r + n))) :: st, (khp (mO m l a) c, N), nc, ns) Q) : PP bb w D me (pc, lv, .int (i32 n) :: .ref (obo B r + (i + 1)) :: st, (khp (mO m l a) c, N), nc, ns) Q := by
  by_cases hb : 0 ≤ n ∧ n < oln i
  · exact PK_balo pc' i f hi hp hk (OKr_o hm h7 h8 hr) (obr_o hm h7) hb.1 hb.2 hf H
  · simp only [Bool.and_eq_true, decide_eq_true_eq] at hk
    obtain ⟨k1, k2, k3⟩ := hk
    have hc := khp_o1 (c := c) (mO m l a) (OKr_o hm h7 h8 hr) k1
    rw [k2, obr_o hm h7] at hc
    have h1 := hr.2.2.2.1
    exact PG_baldN hi (by unfold obo; omega) hc hn hb
theorem PK_lalo2 (pc' i : Nat) (f : Int → Int) {len p p' p'' : Nat} {r n : Int} (hi : me.2.2.2.2.2 pc = some (.laload, len, p, p', p'')) (hp : pc + 1 = pc') (hk : (decide (i < 6) && (decide (oty i = 1) && decide (oln i < 65536))) = true) (hm : KCo B m) (h7 : (mO m l a).2 107 = m.2 107) (h8 : (mO m l a).2 108 = m.2 108) (hr : OKo B r) (hn : R32 n) (hf : (mO m l a).2 (100 + i) = f) (H : PP bb w D me (pc', lv, .long (i64 (f (65536 * r + n))) :: st, (khp (mO m l a) c, N), nc, ns) Q) : PP bb w D me (pc, lv, .int (i32 n) :: .ref (obo B r + (i + 1)) :: st, (khp (mO m l a) c, N), nc, ns) Q := by
  by_cases hb : 0 ≤ n ∧ n < oln i
  · exact PK_lalo pc' i f hi hp hk (OKr_o hm h7 h8 hr) (obr_o hm h7) hb.1 hb.2 hf H
  · simp only [Bool.and_eq_true, decide_eq_true_eq] at hk
    obtain ⟨k1, k2, k3⟩ := hk
    have hc := khp_o1 (c := c) (mO m l a) (OKr_o hm h7 h8 hr) k1
    rw [k2, obr_o hm h7] at hc
    have h1 := hr.2.2.2.1
    exact PG_laldN hi hc hn hb
theorem PK_iasto2 (pc' i : Nat) {a' : List (Nat × (Int → Int))} (f : Int → Int) {len p p' p'' : Nat} {r n x : Int} (hi : me.2.2.2.2.2 pc = some (.iastore, len, p, p', p'')) (hp : pc + 1 = pc') (hk : (decide (i < 6) && (decide (oty i = 0) && decide (oln i < 65536))) = true) (hm : KCo B m) (h7 : (mO m l a).2 107 = m.2 107) (h8 : (mO m l a).2 108 = m.2 108) (hr : OKo B r) (hn : R32 n) (hf : (mO m l a).2 (100 + i) = f) (ha : ins (100 + i) (upI f (65536 * r + n) x) a = a') (H : PP bb w D me (pc', lv, st, (khp (mO m l a') c, N), nc, ns) Q) : PP bb w D me (pc, lv, .int (i32 x) :: .int (i32 n) :: .ref (obo B r + (i + 1)) :: st, (khp (mO m l a) c, N), nc, ns) Q := by
  by_cases hb : 0 ≤ n ∧ n < oln i
  · exact PK_iasto pc' i f hi hp hk (OKr_o hm h7 h8 hr) (OWu_o hm h7 h8) (obr_o hm h7) hb.1 hb.2 hf ha H
  · simp only [Bool.and_eq_true, decide_eq_true_eq] at hk
    obtain ⟨k1, k2, k3⟩ := hk
    have hc := khp_o1 (c := c) (mO m l a) (OKr_o hm h7 h8 hr) k1
    rw [k2, obr_o hm h7] at hc
    have h1 := hr.2.2.2.1
    exact PG_iastN hi hc hn hb
theorem PK_lasto2 (pc' i : Nat) {a' : List (Nat × (Int → Int))} (f : Int → Int) {len p p' p'' : Nat} {r n x : Int} (hi : me.2.2.2.2.2 pc = some (.lastore, len, p, p', p'')) (hp : pc + 1 = pc') (hk : (decide (i < 6) && (decide (oty i = 1) && decide (oln i < 65536))) = true) (hm : KCo B m) (h7 : (mO m l a).2 107 = m.2 107) (h8 : (mO m l a).2 108 = m.2 108) (hr : OKo B r) (hn : R32 n) (hf : (mO m l a).2 (100 + i) = f) (ha : ins (100 + i) (upI f (65536 * r + n) x) a = a') (H : PP bb w D me (pc', lv, st, (khp (mO m l a') c, N), nc, ns) Q) : PP bb w D me (pc, lv, .long (i64 x) :: .int (i32 n) :: .ref (obo B r + (i + 1)) :: st, (khp (mO m l a) c, N), nc, ns) Q := by
  by_cases hb : 0 ≤ n ∧ n < oln i
  · exact PK_lasto pc' i f hi hp hk (OKr_o hm h7 h8 hr) (OWu_o hm h7 h8) (obr_o hm h7) hb.1 hb.2 hf ha H
  · simp only [Bool.and_eq_true, decide_eq_true_eq] at hk
    obtain ⟨k1, k2, k3⟩ := hk
    have hc := khp_o1 (c := c) (mO m l a) (OKr_o hm h7 h8 hr) k1
    rw [k2, obr_o hm h7] at hc
    have h1 := hr.2.2.2.1
    exact PG_lastN hi hc hn hb
theorem PK_basto2 (pc' i : Nat) {a' : List (Nat × (Int → Int))} (f : Int → Int) {len p p' p'' : Nat} {r n x : Int} (hi : me.2.2.2.2.2 pc = some (.bastore, len, p, p', p'')) (hp : pc + 1 = pc') (hk : (decide (i < 6) && (decide (oty i = 2) && decide (oln i < 65536))) = true) (hm : KCo B m) (h7 : (mO m l a).2 107 = m.2 107) (h8 : (mO m l a).2 108 = m.2 108) (hr : OKo B r) (hn : R32 n) (hf : (mO m l a).2 (100 + i) = f) (ha : ins (100 + i) (upI f (65536 * r + n) (nar2 x)) a = a') (H : PP bb w D me (pc', lv, st, (khp (mO m l a') c, N), nc, ns) Q) : PP bb w D me (pc, lv, .int (i32 x) :: .int (i32 n) :: .ref (obo B r + (i + 1)) :: st, (khp (mO m l a) c, N), nc, ns) Q := by
  by_cases hb : 0 ≤ n ∧ n < oln i
  · exact PK_bastno pc' i f hi hp hk (OKr_o hm h7 h8 hr) (OWu_o hm h7 h8) (obr_o hm h7) hb.1 hb.2 hf ha H
  · simp only [Bool.and_eq_true, decide_eq_true_eq] at hk
    obtain ⟨k1, k2, k3⟩ := hk
    have hc := khp_o1 (c := c) (mO m l a) (OKr_o hm h7 h8 hr) k1
    rw [k2, obr_o hm h7] at hc
    have h1 := hr.2.2.2.1
    exact PG_bastN hi hc hn hb
theorem PK_aaop2 (pc' : Nat) (v : Value) {len p p' p'' : Nat} {n : Int} (hi : me.2.2.2.2.2 pc = some (.aaload, len, p, p', p'')) (hm : KCo B m) (h7 : (mO m l a).2 107 = m.2 107) (hr : R32 n) (hp : pc + 1 = pc') (H : Rno B (kopn (m.2 107) n) → PP bb w D me (pc', lv, obv B (kopn (m.2 107) n) :: st, (khp (mO m l a) c, N), nc, ns) Q) : PP bb w D me (pc, lv, .int (i32 n) :: .ref 186 :: st, (khp (mO m l a) c, N), nc, ns) Q := by
  by_cases hb : 0 ≤ n ∧ n < 128
  · exact PK_aaop pc' _ hi hb.1 hb.2 (kop_v hm hb.1 hb.2 h7) hp (H (kop_o hm hb.1 hb.2))
  · have hc : khp (mO m l a) c 186 = some (kfx (mO m l a) (kdt 186)) := by
      rw [khp_lo _ c (by decide), klo_fx _ (by decide)]
    rw [kd_186] at hc
    exact PG_aaldN hi hc hr hb
theorem PK_aais2 (pc' : Nat) (v : Value) (f : Int → Int) {len p p' p'' : Nat} {n : Int} (hi : me.2.2.2.2.2 pc = some (.aaload, len, p, p', p'')) (hm : KCo B m) (h6 : (mO m l a).2 106 = f) (hf : ∀ n, f n < 128) (h7 : (mO m l a).2 107 = m.2 107) (hr : R32 n) (hp : pc + 1 = pc') (H : Rno B (kopi f (m.2 107) n) → PP bb w D me (pc', lv, obv B (kopi f (m.2 107) n) :: st, (khp (mO m l a) c, N), nc, ns) Q) : PP bb w D me (pc, lv, .int (i32 n) :: .ref 187 :: st, (khp (mO m l a) c, N), nc, ns) Q := by
  by_cases hb : 0 ≤ n ∧ n < 12
  · exact PK_aais pc' _ hi hb.1 hb.2 (koi_v hm (hf n) h6 h7) hp (H (koi_o hm (hf n)))
  · have hc : khp (mO m l a) c 187 = some (kfx (mO m l a) (kdt 187)) := by
      rw [khp_lo _ c (by decide), klo_fx _ (by decide)]
    rw [kd_187] at hc
    exact PG_aaldN hi hc hr hb
theorem PG_aastN {len p p' p'' q x n : Nat} {fs : List Value} {i : Int} {F : Nat → Option Nat} (hi : me.2.2.2.2.2 pc = some (.aastore, len, p, p', p'')) (hx : h x = some (.inr (4, fs))) (hc : h q = some (.inl (5, n, .inr (.inr (.inr (.inr F)))))) (hr : R32 i) (hb : ¬ (0 ≤ i ∧ i < n)) : PP bb w D me (pc, lv, .ref x :: .int (i32 i) :: .ref q :: st, (h, N), nc, ns) Q := by
  refine Pm_no hi (fun call => ?_)
  show ag_liftH (ag_aast af_O 10 4 pc lv (.ref x :: .int (i32 i) :: .ref q :: st) (h, N)) nc ns = _
  unfold ag_aast
  dsimp only
  rw [show af_O.1 (h, N) x = _ from hx]
  dsimp only
  unfold ag_do ad_aast
  dsimp only
  unfold ag_acc
  rw [show af_O.1 (h, N) q = _ from hc]
  dsimp only
  rw [if_neg (fun e => e.2 (idx_out hr hb))]
  rfl
/-- a row, or none, into a stage -/
theorem PK_aasv (pc' : Nat) {a' : List (Nat × (Int → Int))} (f : Int → Int) {len p p' p'' : Nat} {n e : Int} (hi : me.2.2.2.2.2 pc = some (.aastore, len, p, p', p'')) (hp : pc + 1 = pc') (hr : R32 n) (hm : KCo B m) (h7 : (mO m l a).2 107 = m.2 107) (h8 : (mO m l a).2 108 = m.2 108) (hK : KCn (mO m l a)) (he : Rno B e) (hf : (mO m l a).2 106 = f) (ha : ins 106 (upI f n e) a = a') (H : PP bb w D me (pc', lv, st, (khp (mO m l a') c, N), nc, ns) Q) : PP bb w D me (pc, lv, obv B e :: .int (i32 n) :: .ref 187 :: st, (khp (mO m l a) c, N), nc, ns) Q := by
  by_cases h : e < 0
  · rw [obv_n h]
    have e1 : e = -1 := by have := he.1; omega
    rw [e1] at ha
    exact PK_aasn2 pc' f hi hp hr hK hf ha H
  · have ho := he.2 h
    rw [obv_t ho]
    by_cases hb : 0 ≤ n ∧ n < 12
    · exact PK_aaso pc' f hi hp hb.1 hb.2 hK (OKr_o hm h7 h8 ho) (obr_o hm h7) hf ha H
    · have hc : khp (mO m l a) c 187 = some (kfx (mO m l a) (7, 12, [])) := by
        rw [khp_lo _ c (by omega), klo_fx _ (by decide), kd_187]
      exact PG_aastN hi (khp_oo hm h7 h8 ho) hc hr hb
end PKO
theorem nn32 {n : Int} (h : R32 n) : (i32 n < 0 ↔ n < 0) ∧ (i32 n).toNatClampNeg = n.toNat := by
  have e : (i32 n).toInt = n := i32_to h
  refine ⟨?_, ?_⟩
  · rw [Int32.lt_iff_toInt_lt, e]
    exact Iff.rfl
  · show (i32 n).toInt.toNat = _
    rw [e]
theorem fits_b2 {x : Int} (hx : R32 x) (h : fits .byte (.int (i32 x)) = true) : -128 ≤ x ∧ x ≤ 127 := by
  have e : (i32 x).toInt = x := i32_to hx
  have h2 : (decide ((-128 : Int32) ≤ i32 x) && decide (i32 x ≤ 127)) = true := h
  rw [Bool.and_eq_true, decide_eq_true_eq, decide_eq_true_eq, Int32.le_iff_toInt_le, Int32.le_iff_toInt_le, e] at h2
  exact h2
section PKD
variable {B : oB} {bb : Nat} {w : wX} {D : Nat} {me : am_M} {Q : ag_Re af_T → Prop} {pc nc ns N : Nat} {lv : List (Nat × Value)} {st : List Value} {t : af_T} {h : Nat → Option am_C} {c : Nat → Option am_C} {m : mR} {l : List (Nat × Int)} {a : List (Nat × (Int → Int))} {i9 : am_I} {α β : Type} {F9 : β → ag_Re af_T → Prop}
theorem PG_cpy (pc' : Nat) {h' : Nat → Option am_C} {idx len x y q q0 : Nat} {n dp sp : Int32} {c0 c1 c' : am_C} (hi : me.2.2.2.2.2 pc = some (.invokestatic idx, len, x, y, 9)) (h0 : h q0 = some c0) (h1 : h q = some c1) (hc : am_cpc n dp sp st c0 c1 = some c') (hh : up1 h q c' = h') (hp : pc + 3 = pc') (H : PP bb w D me (pc', lv, st, (h', N), nc, ns) Q) : PP bb w D me (pc, lv, .int n :: .int dp :: .ref q :: .int sp :: .ref q0 :: st, (h, N), nc, ns) Q := by
  subst hp hh
  refine Pm_step hi (fun call => ?_) H
  show ag_liftH (ag_copy af_O pc lv (.int n :: .int dp :: .ref q :: .int sp :: .ref q0 :: st) (h, N)) nc ns = _
  unfold ag_copy
  dsimp only
  rw [show af_O.1 (h, N) q0 = _ from h0, show af_O.1 (h, N) q = _ from h1]
  dsimp only
  rw [hc]
  rfl
theorem PK_cpb (pc' i : Nat) {a' : List (Nat × (Int → Int))} (f g : Int → Int) (s0 : Int) {idx len x y q q0 n0 : Nat} {F0 : Nat → Int32} {r sp dp n : Int} (hi : me.2.2.2.2.2 pc = some (.invokestatic idx, len, x, y, 9)) (hp : pc + 3 = pc') (hk : (decide (i < 6) && (decide (oty i = 2) && decide (oln i < 65536))) = true) (h8 : decide (am_cat st ≤ 8) = true)
    (hs : khp (mO m l a) c q0 = some (.inl (2, n0, .inl F0))) (hF0 : ∀ j : Nat, j < n.toNat → F0 (sp.toNat + j) = i32 (f (s0 + sp + j))) (hfr : ∀ j : Nat, j < n.toNat → -128 ≤ f (s0 + sp + j) ∧ f (s0 + sp + j) ≤ 127) (hr : OKr (mO m l a) r) (hu : OWu (mO m l a)) (hq : obr (mO m l a) r = q) (b0 : 0 ≤ sp) (b1 : 0 ≤ dp) (b2 : 0 ≤ n) (b3 : sp + n ≤ n0) (b4 : dp + n ≤ oln i) (b5 : n0 < 65536) (hg : (mO m l a).2 (100 + i) = g) (ha : ins (100 + i) (cpI f g (s0 + sp) (65536 * r + dp) n) a = a')
    (H : PP bb w D me (pc', lv, st, (khp (mO m l a') c, N), nc, ns) Q) : PP bb w D me (pc, lv, .int (i32 n) :: .int (i32 dp) :: .ref (q + (i + 1)) :: .int (i32 sp) :: .ref q0 :: st, (khp (mO m l a) c, N), nc, ns) Q := by
  simp only [Bool.and_eq_true, decide_eq_true_eq] at hk
  obtain ⟨k1, k2, k3⟩ := hk
  subst hg ha hq
  have hc := khp_o1 (c := c) (mO m l a) hr k1
  rw [k2] at hc
  obtain ⟨n1, n2⟩ := i32_nn b2 (by omega)
  obtain ⟨d1, d2⟩ := i32_nn b1 (by omega)
  obtain ⟨s1, s2⟩ := i32_nn b0 (by omega)
  refine PG_cpy (c' := .inl (2, oln i, .inl (va_cpy F0 (fun j => i32 (ka1 (mO m l a) (100 + i) r j)) sp.toNat dp.toNat n.toNat))) pc' hi hs hc ?_ ?_ hp H
  · show (if _ then _ else _) = _
    rw [if_pos ⟨⟨rfl, rfl, of_decide_eq_true h8⟩, ⟨s1, d1, n1, by rw [s2, n2]; omega, by rw [d2, n2]; omega⟩, fun j hj => by rw [s2, hF0 j (by rw [n2] at hj; exact hj)]; exact fits_b (hfr j (by rw [n2] at hj; exact hj))⟩, s2, d2, n2]
  · rw [← mO_a]
    refine khp_setw (mO m l a) c (r := r) (i := i) hu k1 (fun r' j hj hne => ?_) ?_
    · unfold cpI
      rw [if_neg (by omega)]
    · have hc2 := khp_o1 (c := c) _ (OKr_a (k := 100 + i) (f := cpI f ((mO m l a).2 (100 + i)) (s0 + sp) (65536 * r + dp) n) (by omega) (by omega) hr) k1
      rw [k2, obr_a (by omega)] at hc2
      rw [hc2]
      show some (Sum.inl (2, oln i, Sum.inl (fun j => i32 (ka1 _ (100 + i) r j)))) = _
      congr 5
      funext j
      unfold va_cpy ka1
      rw [mO2_s]
      unfold cpI
      by_cases hj : dp.toNat ≤ j ∧ j < dp.toNat + n.toNat
      · rw [if_pos hj, if_pos (by omega), if_pos (by omega), hF0 _ (by omega)]
        congr 2
        omega
      · rw [if_neg hj]
        by_cases h9 : j < 65536
        · rw [if_pos h9, if_neg (by omega)]
          show _ = i32 (if j < 65536 then _ else 0)
          rw [if_pos h9]
        · rw [if_neg h9]
          show _ = i32 (if j < 65536 then _ else 0)
          rw [if_neg h9]
theorem PK_cpl (pc' i : Nat) {a' : List (Nat × (Int → Int))} (f g : Int → Int) (s0 : Int) {idx len x y q q0 n0 : Nat} {F0 : Nat → Int64} {r sp dp n : Int} (hi : me.2.2.2.2.2 pc = some (.invokestatic idx, len, x, y, 9)) (hp : pc + 3 = pc') (hk : (decide (i < 6) && (decide (oty i = 1) && decide (oln i < 65536))) = true) (h8 : decide (am_cat st ≤ 8) = true)
    (hs : khp (mO m l a) c q0 = some (.inl (1, n0, .inr (.inl F0)))) (hF0 : ∀ j : Nat, j < n.toNat → F0 (sp.toNat + j) = i64 (f (s0 + sp + j))) (hr : OKr (mO m l a) r) (hu : OWu (mO m l a)) (hq : obr (mO m l a) r = q) (b0 : 0 ≤ sp) (b1 : 0 ≤ dp) (b2 : 0 ≤ n) (b3 : sp + n ≤ n0) (b4 : dp + n ≤ oln i) (b5 : n0 < 65536) (hg : (mO m l a).2 (100 + i) = g) (ha : ins (100 + i) (cpI f g (s0 + sp) (65536 * r + dp) n) a = a')
    (H : PP bb w D me (pc', lv, st, (khp (mO m l a') c, N), nc, ns) Q) : PP bb w D me (pc, lv, .int (i32 n) :: .int (i32 dp) :: .ref (q + (i + 1)) :: .int (i32 sp) :: .ref q0 :: st, (khp (mO m l a) c, N), nc, ns) Q := by
  simp only [Bool.and_eq_true, decide_eq_true_eq] at hk
  obtain ⟨k1, k2, k3⟩ := hk
  subst hg ha hq
  have hc := khp_o1 (c := c) (mO m l a) hr k1
  rw [k2] at hc
  obtain ⟨n1, n2⟩ := i32_nn b2 (by omega)
  obtain ⟨d1, d2⟩ := i32_nn b1 (by omega)
  obtain ⟨s1, s2⟩ := i32_nn b0 (by omega)
  refine PG_cpy (c' := .inl (1, oln i, .inr (.inl (va_cpy F0 (fun j => i64 (ka1 (mO m l a) (100 + i) r j)) sp.toNat dp.toNat n.toNat)))) pc' hi hs hc ?_ ?_ hp H
  · show (if _ then _ else _) = _
    rw [if_pos ⟨⟨rfl, rfl, of_decide_eq_true h8⟩, s1, d1, n1, by rw [s2, n2]; omega, by rw [d2, n2]; omega⟩, s2, d2, n2]
  · rw [← mO_a]
    refine khp_setw (mO m l a) c (r := r) (i := i) hu k1 (fun r' j hj hne => ?_) ?_
    · unfold cpI
      rw [if_neg (by omega)]
    · have hc2 := khp_o1 (c := c) _ (OKr_a (k := 100 + i) (f := cpI f ((mO m l a).2 (100 + i)) (s0 + sp) (65536 * r + dp) n) (by omega) (by omega) hr) k1
      rw [k2, obr_a (by omega)] at hc2
      rw [hc2]
      show some (Sum.inl (1, oln i, Sum.inr (Sum.inl (fun j => i64 (ka1 _ (100 + i) r j))))) = _
      congr 6
      funext j
      unfold va_cpy ka1
      rw [mO2_s]
      unfold cpI
      by_cases hj : dp.toNat ≤ j ∧ j < dp.toNat + n.toNat
      · rw [if_pos hj, if_pos (by omega), if_pos (by omega), hF0 _ (by omega)]
        congr 2
        omega
      · rw [if_neg hj]
        by_cases h9 : j < 65536
        · rw [if_pos h9, if_neg (by omega)]
          show _ = i64 (if j < 65536 then _ else 0)
          rw [if_pos h9]
        · rw [if_neg h9]
          show _ = i64 (if j < 65536 then _ else 0)
          rw [if_neg h9]
/-! sources -/
theorem PG_cpyN {idx len x y q q0 : Nat} {n dp sp : Int32} {c0 c1 : am_C} (hi : me.2.2.2.2.2 pc = some (.invokestatic idx, len, x, y, 9)) (h0 : h q0 = some c0) (h1 : h q = some c1) (hc : am_cpc n dp sp st c0 c1 = none) : PP bb w D me (pc, lv, .int n :: .int dp :: .ref q :: .int sp :: .ref q0 :: st, (h, N), nc, ns) Q := by
  refine Pm_no hi (fun call => ?_)
  show ag_liftH (ag_copy af_O pc lv (.int n :: .int dp :: .ref q :: .int sp :: .ref q0 :: st) (h, N)) nc ns = _
  unfold ag_copy
  dsimp only
  rw [show af_O.1 (h, N) q0 = _ from h0, show af_O.1 (h, N) q = _ from h1]
  dsimp only
  rw [hc]
  rfl
theorem cp_ix (s0 sp : Int) (j : Nat) (h : 0 ≤ sp) : s0 + ((sp.toNat + j : Nat) : Int) = s0 + sp + (j : Int) := by omega
theorem PK_cpb2 (pc' i : Nat) {a' : List (Nat × (Int → Int))} (f g : Int → Int) (s0 : Int) {idx len x y q0 n0 : Nat} {F0 : Nat → Int32} {r sp dp n : Int} (hi : me.2.2.2.2.2 pc = some (.invokestatic idx, len, x, y, 9)) (hp : pc + 3 = pc') (hk : (decide (i < 6) && (decide (oty i = 2) && decide (oln i < 65536))) = true) (h8 : decide (am_cat st ≤ 8) = true)
    (hs : khp (mO m l a) c q0 = some (.inl (2, n0, .inl F0))) (hF0 : ∀ j : Nat, j < n0 → F0 j = i32 (f (s0 + j))) (hR : ∀ j, R32 (f j)) (hm : KCo B m) (h7 : (mO m l a).2 107 = m.2 107) (h88 : (mO m l a).2 108 = m.2 108) (hr : OKo B r) (r1 : R32 sp) (r2 : R32 dp) (r3 : R32 n) (b5 : n0 < 65536) (hg : (mO m l a).2 (100 + i) = g) (ha : ins (100 + i) (cpI f g (s0 + sp) (65536 * r + dp) n) a = a')
    (H : PP bb w D me (pc', lv, st, (khp (mO m l a') c, N), nc, ns) Q) : PP bb w D me (pc, lv, .int (i32 n) :: .int (i32 dp) :: .ref (obo B r + (i + 1)) :: .int (i32 sp) :: .ref q0 :: st, (khp (mO m l a) c, N), nc, ns) Q := by
  have hk0 := hk
  simp only [Bool.and_eq_true, decide_eq_true_eq] at hk
  obtain ⟨k1, k2, k3⟩ := hk
  have hc := khp_o1 (c := c) (mO m l a) (OKr_o hm h7 h88 hr) k1
  rw [k2, obr_o hm h7] at hc
  cases hcp : am_cpc (i32 n) (i32 dp) (i32 sp) st (.inl (2, n0, .inl F0)) (kar1 (mO m l a) 2 (oln i) (100 + i) r) with
  | none => exact PG_cpyN hi hs hc hcp
  | some c' =>
    obtain ⟨n1, n2⟩ := nn32 r3
    obtain ⟨d1, d2⟩ := nn32 r2
    obtain ⟨s1, s2⟩ := nn32 r1
    obtain ⟨-, ⟨z1, z2, z3⟩, z4⟩ := am_cpc_n hcp
    rw [s1] at z1
    rw [d1] at z2
    rw [n1] at z3
    have q : sp.toNat + n.toNat ≤ n0 ∧ dp.toNat + n.toNat ≤ oln i ∧ (∀ j : Nat, j < n.toNat → -128 ≤ f (s0 + sp + j) ∧ f (s0 + sp + j) ≤ 127) := by
      rcases z4 with ⟨a1, a2, a3, a4, e1, e2, e3, e4, e5, -⟩ | ⟨a1, a2, a3, a4, e1, e2, e3, e4, -⟩
      · cases e1
        cases e2
        rw [s2, n2] at e3
        rw [d2, n2] at e4
        refine ⟨e3, e4, fun j hj => ?_⟩
        have e6 := e5 j (by rw [n2]; exact hj)
        rw [s2, hF0 _ (by omega)] at e6
        have e7 := fits_b2 (hR _) e6
        rw [show s0 + sp + (j : Int) = s0 + ((sp.toNat + j : Nat) : Int) by omega]
        exact e7
      · cases e1
    obtain ⟨q1, q2, q3⟩ := q
    refine PK_cpb pc' i f g s0 hi hp hk0 h8 hs (fun j hj => ?_) q3 (OKr_o hm h7 h88 hr) (OWu_o hm h7 h88) (obr_o hm h7) (by omega) (by omega) (by omega) (by omega) (by omega) b5 hg ha H
    rw [hF0 _ (by omega), cp_ix s0 sp j (by omega)]
theorem PK_cpl2 (pc' i : Nat) {a' : List (Nat × (Int → Int))} (f g : Int → Int) (s0 : Int) {idx len x y q0 n0 : Nat} {F0 : Nat → Int64} {r sp dp n : Int} (hi : me.2.2.2.2.2 pc = some (.invokestatic idx, len, x, y, 9)) (hp : pc + 3 = pc') (hk : (decide (i < 6) && (decide (oty i = 1) && decide (oln i < 65536))) = true) (h8 : decide (am_cat st ≤ 8) = true)
    (hs : khp (mO m l a) c q0 = some (.inl (1, n0, .inr (.inl F0)))) (hF0 : ∀ j : Nat, j < n0 → F0 j = i64 (f (s0 + j))) (hm : KCo B m) (h7 : (mO m l a).2 107 = m.2 107) (h88 : (mO m l a).2 108 = m.2 108) (hr : OKo B r) (r1 : R32 sp) (r2 : R32 dp) (r3 : R32 n) (b5 : n0 < 65536) (hg : (mO m l a).2 (100 + i) = g) (ha : ins (100 + i) (cpI f g (s0 + sp) (65536 * r + dp) n) a = a')
    (H : PP bb w D me (pc', lv, st, (khp (mO m l a') c, N), nc, ns) Q) : PP bb w D me (pc, lv, .int (i32 n) :: .int (i32 dp) :: .ref (obo B r + (i + 1)) :: .int (i32 sp) :: .ref q0 :: st, (khp (mO m l a) c, N), nc, ns) Q := by
  have hk0 := hk
  simp only [Bool.and_eq_true, decide_eq_true_eq] at hk
  obtain ⟨k1, k2, k3⟩ := hk
  have hc := khp_o1 (c := c) (mO m l a) (OKr_o hm h7 h88 hr) k1
  rw [k2, obr_o hm h7] at hc
  cases hcp : am_cpc (i32 n) (i32 dp) (i32 sp) st (.inl (1, n0, .inr (.inl F0))) (kar1 (mO m l a) 1 (oln i) (100 + i) r) with
  | none => exact PG_cpyN hi hs hc hcp
  | some c' =>
    obtain ⟨n1, n2⟩ := nn32 r3
    obtain ⟨d1, d2⟩ := nn32 r2
    obtain ⟨s1, s2⟩ := nn32 r1
    obtain ⟨-, ⟨z1, z2, z3⟩, z4⟩ := am_cpc_n hcp
    rw [s1] at z1
    rw [d1] at z2
    rw [n1] at z3
    have q : sp.toNat + n.toNat ≤ n0 ∧ dp.toNat + n.toNat ≤ oln i := by
      rcases z4 with ⟨a1, a2, a3, a4, e1, e2, e3, e4, e5, -⟩ | ⟨a1, a2, a3, a4, e1, e2, e3, e4, -⟩
      · cases e1
      · cases e1
        cases e2
        rw [s2, n2] at e3
        rw [d2, n2] at e4
        exact ⟨e3, e4⟩
    obtain ⟨q1, q2⟩ := q
    refine PK_cpl pc' i f g s0 hi hp hk0 h8 hs (fun j hj => ?_) (OKr_o hm h7 h88 hr) (OWu_o hm h7 h88) (obr_o hm h7) (by omega) (by omega) (by omega) (by omega) (by omega) b5 hg ha H
    rw [hF0 _ (by omega), cp_ix s0 sp j (by omega)]
theorem kar_to (hm : KCo B m) (h7 : (mO m l a).2 107 = m.2 107) (h8 : (mO m l a).2 108 = m.2 108) {r : Int} (i : Nat) (hk : (decide (i < 6) && decide (oty i = 2)) = true) (hr : OKo B r) : khp (mO m l a) c (obo B r + (i + 1)) = some (.inl (2, oln i, .inl (fun j => i32 (ka1 (mO m l a) (100 + i) r j)))) := by
  simp only [Bool.and_eq_true, decide_eq_true_eq] at hk
  have hc := khp_o1 (c := c) (mO m l a) (OKr_o hm h7 h8 hr) hk.1
  rw [hk.2, obr_o hm h7] at hc
  exact hc
theorem kar_tt {t : Int} (i : Nat) (hk : (decide (i < 12) && decide (tty i = 1)) = true) (ht : Rt t) : khp (mO m l a) c (tbr t + (i + 1)) = some (.inl (1, tln i, .inr (.inl (fun j => i64 (ka1 (mO m l a) (79 + i) t j))))) := by
  simp only [Bool.and_eq_true, decide_eq_true_eq] at hk
  have hc := khp_t1 (c := c) (mO m l a) ht.1 ht.2 hk.1
  rw [hk.2] at hc
  exact hc
theorem ka1_o {K : mR} {k n : Nat} {r : Int} {f : Int → Int} (hn : n < 65536) (hf : K.2 k = f) : ∀ j : Nat, j < n → i32 (ka1 K k r j) = i32 (f (65536 * r + j)) := fun j hj => by
  unfold ka1
  rw [if_pos (by omega), hf]
theorem ka1_p {K : mR} {k n : Nat} {r : Int} {f : Int → Int} (hn : n < 65536) (hf : K.2 k = f) : ∀ j : Nat, j < n → i64 (ka1 K k r j) = i64 (f (65536 * r + j)) := fun j hj => by
  unfold ka1
  rw [if_pos (by omega), hf]
theorem kE_cp {k k' : Nat} {f g : Int → Int} {s d n : Int} (hf : kE k' f) (hg : kE k g) (e : klg k' = klg k) : kE k (cpI f g s d n) := fun j => by
  unfold cpI
  split
  · have := hf (s + (j - d))
    rw [e] at this
    exact this
  · exact hg j
theorem P_lrem (pc' : Nat) {x y : Int} {len p q r : Nat} (hi : me.2.2.2.2.2 pc = some (.lrem, len, p, q, r)) (hp : pc + 1 = pc') (H : PP bb w D me (pc', lv, .long (i64 (rem64 x y)) :: st, t, nc, ns) Q) : PP bb w D me (pc, lv, .long (i64 y) :: .long (i64 x) :: st, t, nc, ns) Q := by
  subst hp
  by_cases h0 : i64 y = 0
  · refine Pm_no hi (fun call => ?_)
    show ag_lift (if i64 y = 0 then none else some (pc + 1, lv, .long (i64 x - i64 x / i64 y * i64 y) :: st)) t nc ns = _
    rw [if_pos h0]
    rfl
  · refine Pm_step (S' := (pc + 1, lv, .long (i64 x - i64 x / i64 y * i64 y) :: st, t, nc, ns)) hi (fun call => ?_) ?_
    · show ag_lift (if i64 y = 0 then none else some (pc + 1, lv, .long (i64 x - i64 x / i64 y * i64 y) :: st)) t nc ns = _
      rw [if_neg h0]
      rfl
    · rw [show i64 (rem64 x y) = i64 x - i64 x / i64 y * i64 y from Int64.ofInt_toInt _] at H
      exact H
end PKD
def FO0 (B : oB) (c : Nat → Option am_C) (N : Nat) : Int × mR → ag_Re af_T → Prop := fun y r => KCo B y.2 ∧ r = (.inl none, (khp y.2 c, N), 0, 0)
def FO1 (B : oB) (c : Nat → Option am_C) (N : Nat) : Int × mR → ag_Re af_T → Prop := fun y r => R32 y.1 ∧ KCo B y.2 ∧ r = (.inl (some (.int (i32 y.1))), (khp y.2 c, N), 0, 0)
def FO2 (B : oB) (c : Nat → Option am_C) (N : Nat) : Int × mR → ag_Re af_T → Prop := fun y r => R64 y.1 ∧ KCo B y.2 ∧ r = (.inl (some (.long (i64 y.1))), (khp y.2 c, N), 0, 0)
section PKO2
variable {B : oB} {bb : Nat} {w : wX} {D : Nat} {me : am_M} {pc N : Nat} {lv : List (Nat × Value)} {st : List Value} {t : af_T} {c : Nat → Option am_C} {m : mR} {i : am_I} {β : Type} {F : β → ag_Re af_T → Prop}
theorem P_co0 (pc' mi : Nat) (av rest : List Value) {M : mR} {T : Option (Int × mR)} {k : Int × mR → Option β} (hi : me.2.2.2.2.2 pc = some i) (hs : ∀ call, ag_step af_O 8192 w.1 (nm_E w.2.1 w.2.2.1 w.2.2.2) nm_cn (D + 1) call me i (pc, lv, st, (khp M c, N), 0, 0) = ag_back af_O 8192 (nm_E w.2.1 w.2.2.1 w.2.2.2) me.2.2.2.2.1 pc lv rest 0 0 (call mi av (khp M c, N))) (hp : pc + 3 = pc')
    (hc : PC w D mi av (khp M c, N) (QS (FO0 B c N) T)) (h : ∀ y : Int × mR, KCo B y.2 → PP bb w D me (pc', lv, rest, (khp (mO y.2 [] []) c, N), 0, 0) (QS F (k y))) : PP bb w D me (pc, lv, st, (khp M c, N), 0, 0) (QS F (bnd T k)) := by
  subst hp
  refine Pm_call hi hs hc (fun r hr => Or.inl ?_)
  obtain ⟨y, rfl, h1, rfl⟩ := hr
  exact ⟨_, _, 0, 0, rfl, h y h1⟩
theorem P_co1 (pc' mi : Nat) (av rest : List Value) {M : mR} {T : Option (Int × mR)} {k : Int × mR → Option β} (hi : me.2.2.2.2.2 pc = some i) (hs : ∀ call, ag_step af_O 8192 w.1 (nm_E w.2.1 w.2.2.1 w.2.2.2) nm_cn (D + 1) call me i (pc, lv, st, (khp M c, N), 0, 0) = ag_back af_O 8192 (nm_E w.2.1 w.2.2.1 w.2.2.2) me.2.2.2.2.1 pc lv rest 0 0 (call mi av (khp M c, N))) (hp : pc + 3 = pc')
    (hc : PC w D mi av (khp M c, N) (QS (FO1 B c N) T)) (h : ∀ y : Int × mR, R32 y.1 → KCo B y.2 → PP bb w D me (pc', lv, .int (i32 y.1) :: rest, (khp (mO y.2 [] []) c, N), 0, 0) (QS F (k y))) : PP bb w D me (pc, lv, st, (khp M c, N), 0, 0) (QS F (bnd T k)) := by
  subst hp
  refine Pm_call hi hs hc (fun r hr => Or.inl ?_)
  obtain ⟨y, rfl, h0, h1, rfl⟩ := hr
  exact ⟨_, _, 0, 0, rfl, h y h0 h1⟩
theorem P_ro0 {len p q r : Nat} (hi : me.2.2.2.2.2 pc = some (.return_, len, p, q, r)) (hr : me.2.2.2.1 = none) (hm : KCo B m) : PP bb w D me (pc, lv, [], (khp m c, N), 0, 0) (QS (FO0 B c N) (some (0, m))) := by
  refine Pm_end (r := (.inl none, (khp m c, N), 0, 0)) hi (fun call => ?_) ⟨_, rfl, hm, rfl⟩
  show ag_end (am_return me.2.2.2.1 [] [] 0 0) _ = _
  rw [hr]
  rfl
theorem P_ro1 {x : Int} {len p q r : Nat} (hi : me.2.2.2.2.2 pc = some (.ireturn, len, p, q, r)) (hx : R32 x) (hm : KCo B m) : PP bb w D me (pc, lv, [.int (i32 x)], (khp m c, N), 0, 0) (QS (FO1 B c N) (some (x, m))) := P_reI hi ⟨_, rfl, hx, hm, rfl⟩
theorem P_co2 (pc' mi : Nat) (av rest : List Value) {M : mR} {T : Option (Int × mR)} {k : Int × mR → Option β} (hi : me.2.2.2.2.2 pc = some i) (hs : ∀ call, ag_step af_O 8192 w.1 (nm_E w.2.1 w.2.2.1 w.2.2.2) nm_cn (D + 1) call me i (pc, lv, st, (khp M c, N), 0, 0) = ag_back af_O 8192 (nm_E w.2.1 w.2.2.1 w.2.2.2) me.2.2.2.2.1 pc lv rest 0 0 (call mi av (khp M c, N))) (hp : pc + 3 = pc')
    (hc : PC w D mi av (khp M c, N) (QS (FO2 B c N) T)) (h : ∀ y : Int × mR, R64 y.1 → KCo B y.2 → PP bb w D me (pc', lv, .long (i64 y.1) :: rest, (khp (mO y.2 [] []) c, N), 0, 0) (QS F (k y))) : PP bb w D me (pc, lv, st, (khp M c, N), 0, 0) (QS F (bnd T k)) := by
  subst hp
  refine Pm_call hi hs hc (fun r hr => Or.inl ?_)
  obtain ⟨y, rfl, h0, h1, rfl⟩ := hr
  exact ⟨_, _, 0, 0, rfl, h y h0 h1⟩
theorem P_ro2 {x : Int} {len p q r : Nat} (hi : me.2.2.2.2.2 pc = some (.lreturn, len, p, q, r)) (hr : me.2.2.2.1 = some .long) (hx : R64 x) (hm : KCo B m) : PP bb w D me (pc, lv, [.long (i64 x)], (khp m c, N), 0, 0) (QS (FO2 B c N) (some (x, m))) := by
  refine Pm_end (r := (.inl (some (.long (i64 x))), (khp m c, N), 0, 0)) hi (fun call => ?_) ⟨_, rfl, hx, hm, rfl⟩
  show ag_end (am_lreturn me.2.2.2.1 [.long (i64 x)] [] 0 0) _ = _
  rw [hr]
  rfl
def FPn (B : oB) (t : af_T) : Int → ag_Re af_T → Prop := fun y r => Rno B y ∧ r = (.inl (some (obv B y)), t, 0, 0)
theorem P_cpn (pc' mi : Nat) (av rest : List Value) {T : Option Int} {k : Int → Option β} (hi : me.2.2.2.2.2 pc = some i) (hs : ∀ call, ag_step af_O 8192 w.1 (nm_E w.2.1 w.2.2.1 w.2.2.2) nm_cn (D + 1) call me i (pc, lv, st, t, 0, 0) = ag_back af_O 8192 (nm_E w.2.1 w.2.2.1 w.2.2.2) me.2.2.2.2.1 pc lv rest 0 0 (call mi av t)) (hp : pc + 3 = pc')
    (hc : PC w D mi av t (QS (FPn B t) T)) (h : ∀ y : Int, Rno B y → PP bb w D me (pc', lv, obv B y :: rest, t, 0, 0) (QS F (k y))) : PP bb w D me (pc, lv, st, t, 0, 0) (QS F (bnd T k)) := by
  subst hp
  refine Pm_call hi hs hc (fun r hr => Or.inl ?_)
  obtain ⟨y, rfl, h0, rfl⟩ := hr
  exact ⟨_, _, 0, 0, rfl, h y h0⟩
theorem P_rpn {x : Int} {len p q r : Nat} {C : String} (hi : me.2.2.2.2.2 pc = some (.areturn, len, p, q, r)) (hr : me.2.2.2.1 = some (.object C)) (hx : Rno B x) : PP bb w D me (pc, lv, [obv B x], t, 0, 0) (QS (FPn B t) (some x)) := by
  refine Pm_end (r := (.inl (some (obv B x)), t, 0, 0)) hi (fun call => ?_) ⟨_, rfl, hx, rfl⟩
  show ag_end (am_areturn me.2.2.2.1 [obv B x] [] 0 0) _ = _
  rw [hr]
  by_cases h : x < 0
  · rw [obv_n h]
    rfl
  · rw [obv_t (hx.2 h)]
    rfl
end PKO2
theorem KCo_1 {B : oB} {m : mR} (h : KCo B m) : KCn m := h.1
