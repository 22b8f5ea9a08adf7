/-! ===== longs bit by bit (not compiled yet) ===== -/
def bt64 (x : Int) (i : Nat) : Bool := (i64 x).toBitVec.getLsbD i
theorem i64_t (v : Int64) : i64 v.toInt = v := Int64.ofInt_toInt v
theorem bt_eq {x y : Int} (hx : R64 x) (hy : R64 y) (h : ∀ i, i < 64 → bt64 x i = bt64 y i) : x = y := by
  have e : i64 x = i64 y := Int64.toBitVec_inj.mp (BitVec.eq_of_getLsbD_eq (fun i hi => h i hi))
  rw [← i64_to hx, ← i64_to hy, e]
theorem bq_and (x y : Int) (i : Nat) : bt64 (and64 x y) i = (bt64 x i && bt64 y i) := by
  unfold bt64 and64
  rw [i64_t, Int64.toBitVec_and, BitVec.getLsbD_and]
theorem bq_or (x y : Int) (i : Nat) : bt64 (or64 x y) i = (bt64 x i || bt64 y i) := by
  unfold bt64 or64
  rw [i64_t, Int64.toBitVec_or, BitVec.getLsbD_or]
theorem bq_xor (x y : Int) (i : Nat) : bt64 (xor64 x y) i = (bt64 x i ^^ bt64 y i) := by
  unfold bt64 xor64
  rw [i64_t, Int64.toBitVec_xor, BitVec.getLsbD_xor]
theorem bt_64 {x : Int} {i : Nat} (h : 64 ≤ i) : bt64 x i = false := BitVec.getLsbD_of_ge _ _ h
theorem bt_n (n i : Nat) : bt64 (n : Int) i = (decide (i < 64) && n.testBit i) := by
  unfold bt64
  show (BitVec.ofInt 64 (n : Int)).getLsbD i = _
  rw [BitVec.ofInt_natCast, BitVec.getLsbD_ofNat]
/-- the mask of a width -/
def mk64 (w : Int) : Int := if w = 64 then -1 else cutl (shl64 1 w - 1)
theorem mk_f : ∀ k : Fin 64, cutl (shl64 1 ((k.val : Nat) : Int) - 1) = ((2 ^ k.val - 1 : Nat) : Int) := by decide
theorem bt_m {w : Int} (h0 : 0 ≤ w) (h1 : w ≤ 64) (i : Nat) : bt64 (mk64 w) i = (decide (i < 64) && decide ((i : Int) < w)) := by
  unfold mk64
  by_cases e : w = 64
  · rw [if_pos e]
    by_cases hi : i < 64
    · have : ∀ k : Fin 64, bt64 (-1) k.val = true := by decide
      rw [this ⟨i, hi⟩, decide_eq_true hi, decide_eq_true (show (i : Int) < w by omega)]
      rfl
    · rw [bt_64 (by omega), decide_eq_false hi]
      rfl
  · rw [if_neg e]
    have k := mk_f ⟨w.toNat, by omega⟩
    have ew : ((w.toNat : Nat) : Int) = w := by omega
    have k : cutl (shl64 1 ((w.toNat : Nat) : Int) - 1) = ((2 ^ w.toNat - 1 : Nat) : Int) := k
    rw [ew] at k
    rw [k, bt_n, Nat.testBit_two_pow_sub_one]
    congr 1
    by_cases hi : i < w.toNat
    · rw [decide_eq_true hi, decide_eq_true (show (i : Int) < w by omega)]
    · rw [decide_eq_false hi, decide_eq_false (show ¬ (i : Int) < w by omega)]
/-- no bit stands at w or above -/
def VW (x w : Int) : Prop := R64 x ∧ ∀ i : Nat, w ≤ i → bt64 x i = false
theorem and_r {x y : Int} : R64 (and64 x y) := t64_r
theorem VW_m {x w : Int} (h0 : 0 ≤ w) (h1 : w ≤ 64) : VW (and64 x (mk64 w)) w := ⟨and_r, fun i hi => by rw [bq_and, bt_m h0 h1, decide_eq_false (show ¬ (i : Int) < w by omega), Bool.and_false, Bool.and_false]⟩
theorem VW_k {x w : Int} (h : VW x w) (h0 : 0 ≤ w) (h1 : w ≤ 64) : and64 x (mk64 w) = x := by
  refine bt_eq and_r h.1 (fun i hi => ?_)
  rw [bq_and, bt_m h0 h1, decide_eq_true hi, Bool.true_and]
  by_cases e : (i : Int) < w
  · rw [decide_eq_true e, Bool.and_true]
  · rw [h.2 i (by omega), Bool.false_and]
theorem VW_and {x y w : Int} (h : VW x w) : VW (and64 x y) w := ⟨and_r, fun i hi => by rw [bq_and, h.2 i hi, Bool.false_and]⟩
theorem VW_or {x y w : Int} (h : VW x w) (g : VW y w) : VW (or64 x y) w := ⟨t64_r, fun i hi => by rw [bq_or, h.2 i hi, g.2 i hi]; rfl⟩
theorem VW_xor {x y w : Int} (h : VW x w) (g : VW y w) : VW (xor64 x y) w := ⟨t64_r, fun i hi => by rw [bq_xor, h.2 i hi, g.2 i hi]; rfl⟩
/-- one bit -/
theorem VW_1 {x : Int} (h : VW x 1) : x = 0 ∨ x = 1 := by
  cases e : bt64 x 0 with
  | false =>
    refine Or.inl (bt_eq h.1 (l64 0 rfl) (fun i hi => ?_))
    have z : ∀ k : Fin 64, bt64 0 k.val = false := by decide
    rw [z ⟨i, hi⟩]
    by_cases q : i = 0
    · rw [q, e]
    · exact h.2 i (by omega)
  | true =>
    refine Or.inr (bt_eq h.1 (l64 1 rfl) (fun i hi => ?_))
    have z : ∀ k : Fin 64, bt64 1 k.val = decide (k.val = 0) := by decide
    rw [z ⟨i, hi⟩]
    show bt64 x i = decide (i = 0)
    by_cases q : i = 0
    · rw [decide_eq_true q, q, e]
    · rw [h.2 i (by omega)]
      show false = decide (i = 0)
      rw [decide_eq_false q]
