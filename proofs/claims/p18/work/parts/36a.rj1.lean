/-! ===== bits of the class's sets ===== -/
section BT1
def btt (x b : Int) : Prop := ¬ and32 (ushr32 x b) 1 = 0
theorem sh_b32 : ∀ n : Nat, n < 32 → (((i32 (n : Int)).toUInt32 &&& Int32.toUInt32 31).toBitVec % 32).toNat = n := by decide +kernel
theorem z32 (x : Int32) : x.toInt = 0 ↔ x.toBitVec = 0#32 := by
  constructor
  · intro h
    apply BitVec.eq_of_toInt_eq
    exact h
  · intro h
    show x.toBitVec.toInt = 0
    rw [h]
    rfl
theorem lsb_0 (A : BitVec 32) : A &&& 1#32 = 0#32 ↔ A.getLsbD 0 = false := by
  constructor
  · intro h
    have := congrArg (fun b => b.getLsbD 0) h
    simpa using this
  · intro h
    apply BitVec.eq_of_getLsbD_eq
    intro i hi
    rw [BitVec.getLsbD_and, BitVec.getLsbD_one]
    by_cases e : i = 0
    · rw [e, h]; simp
    · simp [e]
theorem btt_i {x : Int} {n : Nat} (hn : n < 32) : btt x n ↔ (i32 x).toBitVec.getLsbD n = true := by
  have e : ((i32 x).toUInt32 >>> ((i32 (n : Int)).toUInt32 &&& Int32.toUInt32 31)).toInt32.toBitVec = (i32 x).toBitVec >>> n := by
    show ((i32 x).toUInt32 >>> ((i32 (n : Int)).toUInt32 &&& Int32.toUInt32 31)).toBitVec = _
    rw [UInt32.toBitVec_shiftRight]
    show (i32 x).toBitVec >>> (((i32 (n : Int)).toUInt32 &&& Int32.toUInt32 31).toBitVec % 32).toNat = _
    rw [sh_b32 n hn]
  unfold btt and32 ushr32
  rw [show i32 ((((i32 x).toUInt32 >>> ((i32 (n : Int)).toUInt32 &&& Int32.toUInt32 31)).toInt32).toInt) = ((i32 x).toUInt32 >>> ((i32 (n : Int)).toUInt32 &&& Int32.toUInt32 31)).toInt32 from Int32.ofInt_toInt _, z32, Int32.toBitVec_and, e, show (i32 1).toBitVec = 1#32 from rfl, lsb_0, BitVec.getLsbD_ushiftRight, Nat.add_zero]
  cases (i32 x).toBitVec.getLsbD n <;> simp
theorem btt_or {x y b : Int} (b0 : 0 ≤ b) (b1 : b < 32) : btt (or32 x y) b ↔ btt x b ∨ btt y b := by
  have eb : b = ((b.toNat : Nat) : Int) := by omega
  rw [eb, btt_i (by omega), btt_i (by omega), btt_i (by omega)]
  unfold or32
  rw [show i32 ((i32 x ||| i32 y).toInt) = i32 x ||| i32 y from Int32.ofInt_toInt _, Int32.toBitVec_or, BitVec.getLsbD_or]
  simp
theorem btt_sh0 : ∀ g : Nat, g < 18 → ∀ b : Nat, b < 18 → (and32 (ushr32 (shl32 1 (g : Int)) (b : Int)) 1 = 0 ↔ b ≠ g) := by decide +kernel
theorem btt_sh {g b : Int} (g0 : 0 ≤ g) (g1 : g < 18) (b0 : 0 ≤ b) (b1 : b < 18) : btt (shl32 1 g) b ↔ b = g := by
  have q := btt_sh0 g.toNat (by omega) b.toNat (by omega)
  rw [show ((g.toNat : Nat) : Int) = g by omega, show ((b.toNat : Nat) : Int) = b by omega] at q
  unfold btt
  rw [q]
  omega
theorem btt_00 : ∀ b : Nat, b < 18 → and32 (ushr32 0 (b : Int)) 1 = 0 := by decide +kernel
theorem btt_0 {b : Int} (b0 : 0 ≤ b) (b1 : b < 18) : ¬ btt 0 b := by
  have q := btt_00 b.toNat (by omega)
  rw [show ((b.toNat : Nat) : Int) = b by omega] at q
  exact fun h => h q
/-- by edges, once at least -/
def TCl (E : Int → Int → Prop) (a b : Int) : Prop := ∀ P : Int → Prop, (∀ g, E a g → P g) → (∀ c g, P c → E c g → P g) → P b
variable {E : Int → Int → Prop} {a b c : Int}
theorem TCl_1 (h : E a b) : TCl E a b := fun P h1 _ => h1 b h
theorem TCl_s (h : TCl E a b) (h2 : E b c) : TCl E a c := fun P p1 p2 => p2 b c (h P p1 p2) h2
theorem TCl_t (h : TCl E a b) (h2 : TCl E b c) : TCl E a c := h2 (fun x => TCl E a x) (fun g hg => TCl_s h hg) (fun x g hx hg => TCl_s hx hg)
end BT1
