/-! ===== NAMES as two longs ===== -/
def bt (z : Int) (k : Nat) : Bool := (i64 z).toBitVec.getLsbD k
theorem bt_toNat {c : Int} (h0 : 0 ≤ c) (h1 : c < 9223372036854775808) : (i64 c).toBitVec.toNat = c.toNat := by
  have e1 := i64_to (z := c) ⟨by omega, h1⟩
  have e2 : (i64 c).toBitVec.toInt = c := e1
  have e3 := BitVec.toInt_eq_toNat_cond (i64 c).toBitVec
  have := (i64 c).toBitVec.isLt
  split at e3 <;> omega
theorem bt_nat {c : Int} (h0 : 0 ≤ c) (h1 : c < 9223372036854775808) (k : Nat) : bt c k = c.toNat.testBit k := by
  unfold bt BitVec.getLsbD
  rw [bt_toNat h0 h1]
theorem bt_hi {c : Int} (h0 : 0 ≤ c) (h1 : c < 128) {k : Nat} (hk : 7 ≤ k) : bt c k = false := by
  rw [bt_nat h0 (by omega)]
  refine Nat.testBit_lt_two_pow ?_
  have : 2 ^ 7 ≤ 2 ^ k := Nat.pow_le_pow_right (by decide) hk
  omega
theorem bt_0 (k : Nat) : bt 0 k = false := by
  rw [bt_nat (by decide) (by decide)]
  exact Nat.zero_testBit k
theorem bt_or (x y : Int) (k : Nat) : bt (or64 x y) k = (bt x k || bt y k) := by
  unfold bt or64
  rw [show i64 ((i64 x ||| i64 y).toInt) = i64 x ||| i64 y from Int64.ofInt_toInt _, Int64.toBitVec_or, BitVec.getLsbD_or]
theorem shl_s : ∀ s : Fin 64, (((i32 ((s.val : Nat) : Int)).toInt64 &&& 63).toBitVec.smod 64) = BitVec.ofNat 64 s.val := by decide +kernel
theorem bt_shl (x : Int) {s k : Nat} (hs : s < 64) (hk : k < 64) : bt (shl64 x (s : Int)) k = (decide (s ≤ k) && bt x (k - s)) := by
  unfold bt shl64
  rw [show i64 ((i64 x <<< ((i32 (s : Int)).toInt64 &&& 63)).toInt) = i64 x <<< ((i32 (s : Int)).toInt64 &&& 63) from Int64.ofInt_toInt _, Int64.toBitVec_shiftLeft, shl_s ⟨s, hs⟩, BitVec.shiftLeft_eq', BitVec.getLsbD_shiftLeft]
  rw [show (BitVec.ofNat 64 s).toNat = s by rw [BitVec.toNat_ofNat]; exact Nat.mod_eq_of_lt (by omega)]
  by_cases h : s ≤ k
  · rw [decide_eq_true hk, decide_eq_true h, decide_eq_false (by omega)]
    rfl
  · rw [decide_eq_true hk, decide_eq_false h, decide_eq_true (by omega)]
    rfl
theorem bt_ext {x y : Int} (hx : R64 x) (hy : R64 y) (h : ∀ k, k < 64 → bt x k = bt y k) : x = y := by
  have e : (i64 x).toBitVec = (i64 y).toBitVec := BitVec.eq_of_getLsbD_eq (fun k hk => h k hk)
  have e2 : i64 x = i64 y := by
    cases hx' : i64 x
    cases hy' : i64 y
    rw [hx', hy'] at e
    congr 1
    exact UInt64.toBitVec_inj.mp e
  rw [← i64_to hx, ← i64_to hy, e2]
theorem bt_ext7 {c d : Int} (hc : 0 ≤ c ∧ c < 128) (hd : 0 ≤ d ∧ d < 128) (h : ∀ k, k < 8 → bt c k = bt d k) : c = d := by
  have e : c.toNat = d.toNat := by
    apply Nat.eq_of_testBit_eq
    intro k
    by_cases hk : k < 8
    · have := h k hk
      rw [bt_nat hc.1 (by omega), bt_nat hd.1 (by omega)] at this
      exact this
    · have h1 := bt_hi hc.1 hc.2 (k := k) (by omega)
      have h2 := bt_hi hd.1 hd.2 (k := k) (by omega)
      rw [bt_nat hc.1 (by omega)] at h1
      rw [bt_nat hd.1 (by omega)] at h2
      rw [h1, h2]
  omega
def pkH (h : Int) (f : Int → Int) (n b : Int) : Prop := ∀ k : Nat, k < 64 → bt h k = (decide (b + 7 - ((k / 8 : Nat) : Int) < n) && bt (f (b + 7 - ((k / 8 : Nat) : Int))) (k % 8))
/-- h and l hold the first n characters of f, a byte each -/
def PK (h l : Int) (f : Int → Int) (n : Int) : Prop := pkH h f n 0 ∧ pkH l f n 8
theorem pkH_0 (f : Int → Int) {n b : Int} (h0 : n ≤ b) : pkH 0 f n b := by
  intro k hk
  rw [bt_0, decide_eq_false (by omega)]
  rfl
theorem PK_0 (f : Int → Int) : PK 0 0 f 0 := ⟨pkH_0 f (by omega), pkH_0 f (by omega)⟩
theorem or64_0 {x : Int} (hx : R64 x) : or64 x 0 = x := bt_ext t64_r hx (fun k _ => by rw [bt_or, bt_0, Bool.or_false])
theorem pkH_o {h : Int} {f : Int → Int} {n b : Int} (hp : pkH h f n b) (hn : n < b ∨ b + 8 ≤ n) : pkH (or64 h 0) f (n + 1) b := by
  intro k hk
  rw [bt_or, bt_0, Bool.or_false, hp k hk]
  have : ((k / 8 : Nat) : Int) < 8 := by omega
  congr 1
  rw [decide_eq_decide]
  omega
theorem pkH_s {h : Int} {f : Int → Int} {n b : Int} (hp : pkH h f n b) (h0 : b ≤ n) (h1 : n < b + 8) (hf : 0 ≤ f n ∧ f n < 128) : pkH (or64 h (shl64 (f n) (8 * (b + 7 - n)))) f (n + 1) b := by
  intro k hk
  obtain ⟨s, hs⟩ : ∃ s : Nat, (s : Int) = 8 * (b + 7 - n) := ⟨(8 * (b + 7 - n)).toNat, by omega⟩
  rw [bt_or, hp k hk, ← hs, bt_shl _ (by omega) hk]
  by_cases hj : b + 7 - ((k / 8 : Nat) : Int) = n
  · rw [hj, decide_eq_false (by omega), Bool.false_and, Bool.false_or, decide_eq_true (by omega), decide_eq_true (by omega), show k - s = k % 8 by omega]
  · by_cases hl : b + 7 - ((k / 8 : Nat) : Int) < n
    · rw [decide_eq_true hl, decide_eq_true (show b + 7 - ((k / 8 : Nat) : Int) < n + 1 by omega), bt_hi hf.1 hf.2 (k := k - s) (by omega), Bool.and_false, Bool.or_false]
    · rw [decide_eq_false hl, decide_eq_false (show ¬ b + 7 - ((k / 8 : Nat) : Int) < n + 1 by omega), decide_eq_false (show ¬ s ≤ k by omega)]
      rfl
/-- the byte number i of the sixteen -/
theorem pkH_b {h : Int} {f g : Int → Int} {n m b : Int} (hp : pkH h f n b) (hq : pkH h g m b) {i : Int} (i0 : b ≤ i) (i1 : i < b + 8) (hf : i < n → 0 ≤ f i ∧ f i < 128) (hg : i < m → 0 ≤ g i ∧ g i < 128) : (if i < n then f i else 0) = (if i < m then g i else 0) := by
  have key : ∀ k, k < 8 → bt (if i < n then f i else 0) k = bt (if i < m then g i else 0) k := by
    intro k hk
    obtain ⟨q, hq2⟩ : ∃ q : Nat, (q : Int) = 8 * (b + 7 - i) + k := ⟨(8 * (b + 7 - i) + k).toNat, by omega⟩
    have e1 := hp q (by omega)
    have e2 := hq q (by omega)
    rw [e1] at e2
    rw [show b + 7 - ((q / 8 : Nat) : Int) = i by omega, show q % 8 = k by omega] at e2
    by_cases h1 : i < n
    · rw [if_pos h1]
      rw [decide_eq_true h1, Bool.true_and] at e2
      by_cases h2 : i < m
      · rw [if_pos h2]
        rw [decide_eq_true h2, Bool.true_and] at e2
        exact e2
      · rw [if_neg h2, bt_0]
        rw [decide_eq_false h2, Bool.false_and] at e2
        exact e2
    · rw [if_neg h1, bt_0]
      rw [decide_eq_false h1, Bool.false_and] at e2
      by_cases h2 : i < m
      · rw [if_pos h2]
        rw [decide_eq_true h2, Bool.true_and] at e2
        exact e2
      · rw [if_neg h2, bt_0]
  refine bt_ext7 ?_ ?_ key
  · split
    · rename_i h1
      exact hf h1
    · exact ⟨by decide, by decide⟩
  · split
    · rename_i h1
      exact hg h1
    · exact ⟨by decide, by decide⟩
theorem PK_inj {h l : Int} {f g : Int → Int} {n m : Int} (hp : PK h l f n) (hq : PK h l g m) (n0 : 0 ≤ n) (m0 : 0 ≤ m) (n1 : n ≤ 16) (m1 : m ≤ 16) (hf : ∀ i, 0 ≤ i → i < n → 0 < f i ∧ f i < 128) (hg : ∀ i, 0 ≤ i → i < m → 0 < g i ∧ g i < 128) : n = m ∧ ∀ i, 0 ≤ i → i < n → f i = g i := by
  have key : ∀ i, 0 ≤ i → i < 16 → (if i < n then f i else 0) = (if i < m then g i else 0) := by
    intro i i0 i1
    have hf' : i < n → 0 ≤ f i ∧ f i < 128 := fun h => ⟨by have := (hf i i0 h).1; omega, (hf i i0 h).2⟩
    have hg' : i < m → 0 ≤ g i ∧ g i < 128 := fun h => ⟨by have := (hg i i0 h).1; omega, (hg i i0 h).2⟩
    by_cases h8 : i < 8
    · exact pkH_b hp.1 hq.1 i0 (by omega) hf' hg'
    · exact pkH_b hp.2 hq.2 (by omega) (by omega) hf' hg'
  have hnm : n = m := by
    apply Classical.byContradiction
    intro hne
    rcases Int.lt_or_gt_of_ne hne with hlt | hlt
    · have := key n n0 (by omega)
      rw [if_neg (by omega), if_pos hlt] at this
      have := (hg n n0 hlt).1
      omega
    · have := key m m0 (by omega)
      rw [if_pos hlt, if_neg (by omega)] at this
      have := (hf m m0 hlt).1
      omega
  refine ⟨hnm, fun i i0 i1 => ?_⟩
  have := key i i0 (by omega)
  rw [if_pos i1, if_pos (by omega)] at this
  exact this
theorem pkH_c {h h' : Int} {f g : Int → Int} {n b : Int} (hh : R64 h) (hh' : R64 h') (hp : pkH h f n b) (hq : pkH h' g n b) (b0 : 0 ≤ b) (e : ∀ i, 0 ≤ i → i < n → f i = g i) : h = h' := by
  refine bt_ext hh hh' (fun k hk => ?_)
  rw [hp k hk, hq k hk]
  by_cases hl : b + 7 - ((k / 8 : Nat) : Int) < n
  · rw [e _ (by omega) hl]
  · rw [decide_eq_false hl, Bool.false_and, Bool.false_and]
theorem PK_c {h l h' l' : Int} {f g : Int → Int} {n : Int} (hh : R64 h) (hl : R64 l) (hh' : R64 h') (hl' : R64 l') (hp : PK h l f n) (hq : PK h' l' g n) (e : ∀ i, 0 ≤ i → i < n → f i = g i) : h = h' ∧ l = l' := ⟨pkH_c hh hh' hp.1 hq.1 (by decide) e, pkH_c hl hl' hp.2 hq.2 (by decide) e⟩
/-! ===== RUNS of characters ===== -/
def Run (C : Int → Prop) (n p q : Int) : Prop := p ≤ q ∧ q ≤ n ∧ (∀ i, p ≤ i → i < q → C i) ∧ (q < n → ¬ C q)
theorem Run_u {C : Int → Prop} {n p q r : Int} (h : Run C n p q) (g : Run C n p r) : q = r := by
  obtain ⟨h1, h2, h3, h4⟩ := h
  obtain ⟨g1, g2, g3, g4⟩ := g
  apply Classical.byContradiction
  intro hne
  rcases Int.lt_or_gt_of_ne hne with hlt | hlt
  · exact h4 (by omega) (g3 q h1 hlt)
  · exact g4 (by omega) (h3 r g1 hlt)
theorem Run_c {C D : Int → Prop} {n p q : Int} (e : ∀ i, p ≤ i → i < n → (C i ↔ D i)) (h : Run C n p q) : Run D n p q := ⟨h.1, h.2.1, fun i h1 h2 => (e i h1 (by have := h.2.1; omega)).mp (h.2.2.1 i h1 h2), fun h1 h2 => h.2.2.2 h1 ((e q h.1 h1).mpr h2)⟩
