
def un (x : Int) : Nat := (i64 x).toBitVec.toNat
theorem un_lt (x : Int) : un x < 18446744073709551616 := (i64 x).toBitVec.isLt
theorem un_and (x y : Int) : un (and64 x y) = un x &&& un y := by
  unfold un and64
  rw [i64_t, Int64.toBitVec_and, BitVec.toNat_and]
theorem un_ushr (x : Int) {k : Nat} (hk : k < 64) : un (ushr64 x (k : Int)) = un x >>> k := by
  unfold un ushr64
  rw [i64_t, su_f ⟨k, hk⟩]
  show ((i64 x).toUInt64 >>> UInt64.ofNat k).toBitVec.toNat = _
  rw [UInt64.toBitVec_shiftRight]
  have e : ((UInt64.ofNat k).toBitVec % 64) = BitVec.ofNat 64 k := by
    have z : ∀ j : Fin 64, ((UInt64.ofNat j.val).toBitVec % 64) = BitVec.ofNat 64 j.val := by decide +kernel
    exact z ⟨k, hk⟩
  rw [e, BitVec.ushiftRight_eq', BitVec.toNat_ushiftRight, BitVec.toNat_ofNat, Nat.mod_eq_of_lt (by omega)]
  rfl
theorem un_cutl (z : Int) : un (cutl z) = un z := by
  unfold un cutl
  rw [i64_t]
theorem un_add (x y : Int) : un (cutl (x + y)) = (un x + un y) % 18446744073709551616 := by
  rw [un_cutl]
  unfold un
  rw [← i64_add, Int64.toBitVec_add, BitVec.toNat_add]
theorem un_sub (x y : Int) (h : un y ≤ un x) : un (cutl (x - y)) = un x - un y := by
  have a := un_lt x
  have b := un_lt y
  rw [un_cutl]
  unfold un at h a b ⊢
  rw [← i64_sub, Int64.toBitVec_sub, BitVec.toNat_sub]
  omega

def mm (m : Nat) : Nat → Nat
  | 0 => 0
  | n + 1 => 256 * mm m n + m
theorem and_b (u U b m : Nat) (hb : b < 256) (hm : m < 256) : (256 * u + b) &&& (256 * U + m) = 256 * (u &&& U) + (b &&& m) := by
  apply Nat.eq_of_testBit_eq
  intro j
  have h1 : (b &&& m) < 2 ^ 8 := Nat.and_lt_two_pow b hm
  have hb : b < 2 ^ 8 := hb
  have hm : m < 2 ^ 8 := hm
  show ((2 ^ 8 * u + b) &&& (2 ^ 8 * U + m)).testBit j = (2 ^ 8 * (u &&& U) + (b &&& m)).testBit j
  rw [Nat.testBit_and, Nat.testBit_two_pow_mul_add _ hb, Nat.testBit_two_pow_mul_add _ hm, Nat.testBit_two_pow_mul_add _ h1]
  by_cases q : j < 8
  · rw [if_pos q, if_pos q, if_pos q, Nat.testBit_and]
  · rw [if_neg q, if_neg q, if_neg q, Nat.testBit_and]
theorem shr_b (u U b m k : Nat) (hb : b < 256) (hm : m < 2 ^ (8 - k)) (hk : k < 8) : ((256 * u + b) >>> k) &&& (256 * U + m) = 256 * ((u >>> k) &&& U) + ((b >>> k) &&& m) := by
  apply Nat.eq_of_testBit_eq
  intro j
  have m8 : m < 2 ^ 8 := Nat.lt_of_lt_of_le hm (Nat.pow_le_pow_right (by decide) (by omega))
  have h1 : ((b >>> k) &&& m) < 2 ^ 8 := Nat.and_lt_two_pow _ m8
  have hb : b < 2 ^ 8 := hb
  show (((2 ^ 8 * u + b) >>> k) &&& (2 ^ 8 * U + m)).testBit j = (2 ^ 8 * ((u >>> k) &&& U) + ((b >>> k) &&& m)).testBit j
  rw [Nat.testBit_and, Nat.testBit_shiftRight, Nat.testBit_two_pow_mul_add _ hb, Nat.testBit_two_pow_mul_add _ m8, Nat.testBit_two_pow_mul_add _ h1]
  by_cases q : j < 8
  · rw [if_pos q, if_pos q, Nat.testBit_and, Nat.testBit_shiftRight]
    by_cases q2 : k + j < 8
    · rw [if_pos q2]
    · have z : m.testBit j = false := Nat.testBit_lt_two_pow (Nat.lt_of_lt_of_le hm (Nat.pow_le_pow_right (by decide) (by omega)))
      rw [z, Bool.and_false, Bool.and_false]
  · rw [if_neg q, if_neg q, if_neg (by omega), Nat.testBit_and, Nat.testBit_shiftRight, show k + j - 8 = k + (j - 8) by omega]
def FAc (n v : Nat) : Nat := (v &&& mm 85 n) + ((v >>> 1) &&& mm 85 n)
def FBc (n v : Nat) : Nat := (v &&& mm 51 n) + ((v >>> 2) &&& mm 51 n)
def FC (n v : Nat) : Nat := (v + (v >>> 4)) &&& mm 15 n
def gb (b : Nat) : Nat := FC 1 (FBc 1 (FAc 1 b))
def pcb : Nat → Nat → Nat
  | 0, _ => 0
  | n + 1, v => 256 * pcb n (v / 256) + gb (v % 256)
theorem gb_f : ∀ b : Fin 256, FAc 1 b.val < 256 ∧ FBc 1 (FAc 1 b.val) ≤ 68 ∧ FBc 1 (FAc 1 b.val) % 16 ≤ 4 ∧ gb b.val ≤ 8 ∧ gb b.val = (b.val >>> 0) % 2 + (b.val >>> 1) % 2 + (b.val >>> 2) % 2 + (b.val >>> 3) % 2 + (b.val >>> 4) % 2 + (b.val >>> 5) % 2 + (b.val >>> 6) % 2 + (b.val >>> 7) % 2 ∧ (b.val &&& 85) + 2 * ((b.val >>> 1) &&& 85) = b.val := by decide +kernel
theorem FAc_b (n u b : Nat) (hb : b < 256) : FAc (n + 1) (256 * u + b) = 256 * FAc n u + FAc 1 b := by
  unfold FAc
  show ((256 * u + b) &&& (256 * mm 85 n + 85)) + (((256 * u + b) >>> 1) &&& (256 * mm 85 n + 85)) = 256 * ((u &&& mm 85 n) + ((u >>> 1) &&& mm 85 n)) + ((b &&& 85) + ((b >>> 1) &&& 85))
  rw [and_b _ _ _ _ hb (by decide), shr_b _ _ _ _ _ hb (by decide) (by decide)]
  omega
theorem FBc_b (n u b : Nat) (hb : b < 256) : FBc (n + 1) (256 * u + b) = 256 * FBc n u + FBc 1 b := by
  unfold FBc
  show ((256 * u + b) &&& (256 * mm 51 n + 51)) + (((256 * u + b) >>> 2) &&& (256 * mm 51 n + 51)) = 256 * ((u &&& mm 51 n) + ((u >>> 2) &&& mm 51 n)) + ((b &&& 51) + ((b >>> 2) &&& 51))
  rw [and_b _ _ _ _ hb (by decide), shr_b _ _ _ _ _ hb (by decide) (by decide)]
  omega
theorem and15 (x : Nat) : x &&& 15 = x % 16 := Nat.and_two_pow_sub_one_eq_mod x 4
theorem FC_b (n y c : Nat) (hc : c ≤ 68) (hy : y % 16 ≤ 4) : FC (n + 1) (256 * y + c) = 256 * FC n y + FC 1 c := by
  unfold FC
  show ((256 * y + c) + ((256 * y + c) >>> 4)) &&& (256 * mm 15 n + 15) = 256 * ((y + (y >>> 4)) &&& mm 15 n) + ((c + (c >>> 4)) &&& 15)
  rw [Nat.shiftRight_eq_div_pow, Nat.shiftRight_eq_div_pow, Nat.shiftRight_eq_div_pow]
  have e : (256 * y + c) + (256 * y + c) / 2 ^ 4 = 256 * (y + y / 2 ^ 4) + (c + c / 16 + 16 * (y % 16)) := by
    show (256 * y + c) + (256 * y + c) / 16 = 256 * (y + y / 16) + (c + c / 16 + 16 * (y % 16))
    omega
  rw [e, and_b _ _ _ _ (by omega) (by decide), and15, and15]
  show 256 * ((y + y / 2 ^ 4) &&& mm 15 n) + (c + c / 16 + 16 * (y % 16)) % 16 = 256 * ((y + y / 2 ^ 4) &&& mm 15 n) + (c + c / 16) % 16
  omega
theorem m16_b {X Y : Nat} (h : Y % 16 ≤ 4) : (256 * X + Y) % 16 ≤ 4 := by omega
theorem sum_b {v A B C D : Nat} (h1 : v / 256 = A + 2 * C) (h2 : B + 2 * D = v % 256) : v = 256 * A + B + 2 * (256 * C + D) := by omega
theorem pcb_v : ∀ (n v : Nat), v < 256 ^ n → FC n (FBc n (FAc n v)) = pcb n v ∧ FBc n (FAc n v) % 16 ≤ 4 ∧ v = (v &&& mm 85 n) + 2 * ((v >>> 1) &&& mm 85 n) := by
  intro n
  induction n with
  | zero =>
    intro v hv
    have e : v = 0 := by
      have : (256 : Nat) ^ 0 = 1 := rfl
      omega
    subst e
    decide
  | succ n ih =>
    intro v hv
    have hu : v / 256 < 256 ^ n := by
      rw [Nat.pow_succ] at hv
      exact Nat.div_lt_of_lt_mul (by rw [Nat.mul_comm]; exact hv)
    obtain ⟨i1, i2, i3⟩ := ih (v / 256) hu
    obtain ⟨g1, g2, g3, g4, g5, g6⟩ := gb_f ⟨v % 256, Nat.mod_lt _ (by decide)⟩
    dsimp only at g1 g2 g3 g4 g5 g6
    have ev : v = 256 * (v / 256) + v % 256 := (Nat.div_add_mod v 256).symm
    have lt : v % 256 < 256 := Nat.mod_lt _ (by decide)
    have eA : FAc (n + 1) v = 256 * FAc n (v / 256) + FAc 1 (v % 256) := by
      rw [show FAc (n + 1) v = FAc (n + 1) (256 * (v / 256) + v % 256) by rw [← ev], FAc_b n _ _ lt]
    have eB : FBc (n + 1) (FAc (n + 1) v) = 256 * FBc n (FAc n (v / 256)) + FBc 1 (FAc 1 (v % 256)) := by rw [eA, FBc_b n _ _ g1]
    refine ⟨?_, ?_, ?_⟩
    · rw [eB, FC_b n _ _ g2 i2, i1]
      rfl
    · rw [eB]
      exact m16_b g3
    · have a1 : v &&& mm 85 (n + 1) = 256 * ((v / 256) &&& mm 85 n) + ((v % 256) &&& 85) := by
        rw [show v &&& mm 85 (n + 1) = (256 * (v / 256) + v % 256) &&& (256 * mm 85 n + 85) by rw [← ev]; rfl, and_b _ _ _ _ lt (by decide)]
      have a2 : (v >>> 1) &&& mm 85 (n + 1) = 256 * (((v / 256) >>> 1) &&& mm 85 n) + (((v % 256) >>> 1) &&& 85) := by
        rw [show (v >>> 1) &&& mm 85 (n + 1) = ((256 * (v / 256) + v % 256) >>> 1) &&& (256 * mm 85 n + 85) by rw [← ev]; rfl, shr_b _ _ _ _ _ lt (by decide) (by decide)]
      rw [a1, a2]
      exact sum_b i3 g6

def cbt (v : Nat) : Nat → Nat
  | 0 => 0
  | k + 1 => cbt v k + (v >>> k) % 2
theorem q256 (w : Nat) : w % 256 / 1 % 2 = w % 2 ∧ w % 256 / 2 % 2 = w / 2 % 2 ∧ w % 256 / 4 % 2 = w / 4 % 2 ∧ w % 256 / 8 % 2 = w / 8 % 2 ∧ w % 256 / 16 % 2 = w / 16 % 2 ∧ w % 256 / 32 % 2 = w / 32 % 2 ∧ w % 256 / 64 % 2 = w / 64 % 2 ∧ w % 256 / 128 % 2 = w / 128 % 2 := ⟨by omega, by omega, by omega, by omega, by omega, by omega, by omega, by omega⟩
theorem add9 (c a0 a1 a2 a3 a4 a5 a6 a7 : Nat) : c + a0 + a1 + a2 + a3 + a4 + a5 + a6 + a7 = c + (a0 + a1 + a2 + a3 + a4 + a5 + a6 + a7) := by omega
theorem cbt_8 (v k : Nat) : cbt v (k + 8) = cbt v k + gb ((v >>> k) % 256) := by
  obtain ⟨-, -, -, -, g5, -⟩ := gb_f ⟨(v >>> k) % 256, Nat.mod_lt _ (by decide)⟩
  dsimp only at g5
  rw [g5]
  have e : ∀ t, (v >>> (k + t)) = (v >>> k) >>> t := fun t => Nat.shiftRight_add v k t
  show cbt v k + (v >>> k) % 2 + (v >>> (k + 1)) % 2 + (v >>> (k + 2)) % 2 + (v >>> (k + 3)) % 2 + (v >>> (k + 4)) % 2 + (v >>> (k + 5)) % 2 + (v >>> (k + 6)) % 2 + (v >>> (k + 7)) % 2 = _
  rw [e 1, e 2, e 3, e 4, e 5, e 6, e 7]
  simp only [Nat.shiftRight_eq_div_pow]
  obtain ⟨w, hw⟩ : ∃ w, w = v / 2 ^ k := ⟨_, rfl⟩
  rw [← hw]
  obtain ⟨q0, q1, q2, q3, q4, q5, q6, q7⟩ := q256 w
  show cbt v k + w % 2 + w / 2 % 2 + w / 4 % 2 + w / 8 % 2 + w / 16 % 2 + w / 32 % 2 + w / 64 % 2 + w / 128 % 2 = cbt v k + (w % 256 / 1 % 2 + w % 256 / 2 % 2 + w % 256 / 4 % 2 + w % 256 / 8 % 2 + w % 256 / 16 % 2 + w % 256 / 32 % 2 + w % 256 / 64 % 2 + w % 256 / 128 % 2)
  rw [q0, q1, q2, q3, q4, q5, q6, q7]
  exact add9 _ _ _ _ _ _ _ _ _
theorem sr_8 (x : Nat) : x >>> 8 = x / 256 := Nat.shiftRight_eq_div_pow x 8
theorem sr_16 (x : Nat) : x >>> 16 = x / 65536 := Nat.shiftRight_eq_div_pow x 16
theorem sr_32 (x : Nat) : x >>> 32 = x / 4294967296 := Nat.shiftRight_eq_div_pow x 32
theorem dv_m {a X m : Nat} (h : a < m) : (a + m * X) / m = X := by
  rw [Nat.add_mul_div_left _ _ (Nat.lt_of_le_of_lt (Nat.zero_le _) h), Nat.div_eq_of_lt h, Nat.zero_add]
theorem pcb_8 (v : Nat) : ∃ g0 g1 g2 g3 g4 g5 g6 g7 : Nat, (g0 ≤ 8 ∧ g1 ≤ 8 ∧ g2 ≤ 8 ∧ g3 ≤ 8 ∧ g4 ≤ 8 ∧ g5 ≤ 8 ∧ g6 ≤ 8 ∧ g7 ≤ 8) ∧ pcb 8 v = g0 + 256 * (g1 + 256 * (g2 + 256 * (g3 + 256 * (g4 + 256 * (g5 + 256 * (g6 + 256 * g7)))))) ∧ cbt v 64 = g0 + g1 + g2 + g3 + g4 + g5 + g6 + g7 := by
  have b : ∀ x : Nat, gb (x % 256) ≤ 8 := fun x => (gb_f ⟨x % 256, Nat.mod_lt _ (by decide)⟩).2.2.2.1
  refine ⟨gb (v % 256), gb (v / 256 % 256), gb (v / 256 / 256 % 256), gb (v / 256 / 256 / 256 % 256), gb (v / 256 / 256 / 256 / 256 % 256), gb (v / 256 / 256 / 256 / 256 / 256 % 256), gb (v / 256 / 256 / 256 / 256 / 256 / 256 % 256), gb (v / 256 / 256 / 256 / 256 / 256 / 256 / 256 % 256), ⟨b _, b _, b _, b _, b _, b _, b _, b _⟩, ?_, ?_⟩
  · show 256 * (256 * (256 * (256 * (256 * (256 * (256 * (256 * 0 + gb _) + gb _) + gb _) + gb _) + gb _) + gb _) + gb _) + gb _ = _
    omega
  · have s : ∀ k : Nat, (v >>> (k + 8)) = (v >>> k) / 256 := fun k => by rw [Nat.shiftRight_add, sr_8]
    have s0 : v >>> 0 = v := rfl
    rw [show (64 : Nat) = 0 + 8 + 8 + 8 + 8 + 8 + 8 + 8 + 8 from rfl, cbt_8, cbt_8, cbt_8, cbt_8, cbt_8, cbt_8, cbt_8, cbt_8]
    simp only [s, s0]
    show 0 + _ + _ + _ + _ + _ + _ + _ + _ = _
    omega
theorem un_k {n : Nat} (h : n < 18446744073709551616) : un (n : Int) = n := by
  unfold un
  show (BitVec.ofInt 64 (n : Int)).toNat = n
  rw [BitVec.ofInt_natCast, BitVec.toNat_ofNat]
  exact Nat.mod_eq_of_lt h
theorem bc_fin (g0 g1 g2 g3 g4 g5 g6 g7 : Nat) (l : g0 ≤ 8 ∧ g1 ≤ 8 ∧ g2 ≤ 8 ∧ g3 ≤ 8 ∧ g4 ≤ 8 ∧ g5 ≤ 8 ∧ g6 ≤ 8 ∧ g7 ≤ 8) (x3 x4 x5 x6 : Nat) (h3 : x3 = g0 + 256 * (g1 + 256 * (g2 + 256 * (g3 + 256 * (g4 + 256 * (g5 + 256 * (g6 + 256 * g7))))))) (h4 : x4 = (x3 + x3 / 256) % 18446744073709551616) (h5 : x5 = (x4 + x4 / 65536) % 18446744073709551616) (h6 : x6 = (x5 + x5 / 4294967296) % 18446744073709551616) : x6 % 128 = g0 + g1 + g2 + g3 + g4 + g5 + g6 + g7 := by
  obtain ⟨l0, l1, l2, l3, l4, l5, l6, l7⟩ := l
  have s4 : x4 = (g0 + g1 + 256 * (g1 + g2)) + 65536 * (g2 + g3 + 256 * (g3 + g4 + 256 * (g4 + g5 + 256 * (g5 + g6 + 256 * (g6 + g7 + 256 * g7))))) := by
    have d : x3 / 256 = g1 + 256 * (g2 + 256 * (g3 + 256 * (g4 + 256 * (g5 + 256 * (g6 + 256 * g7))))) := by
      rw [h3]
      exact dv_m (Nat.lt_of_le_of_lt l0 (by decide))
    rw [h4, d, h3]
    clear d h4 h5 h6 h3
    rw [Nat.mod_eq_of_lt (by omega)]
    omega
  clear h3 h4
  have s5 : x5 = (g0 + g1 + (g2 + g3) + 256 * (g1 + g2 + (g3 + g4) + 256 * (g2 + g3 + (g4 + g5) + 256 * (g3 + g4 + (g5 + g6))))) + 4294967296 * (g4 + g5 + (g6 + g7) + 256 * (g5 + g6 + g7 + 256 * (g6 + g7 + 256 * g7))) := by
    have d : x4 / 65536 = g2 + g3 + 256 * (g3 + g4 + 256 * (g4 + g5 + 256 * (g5 + g6 + 256 * (g6 + g7 + 256 * g7)))) := by
      rw [s4]
      clear s4 h5 h6
      exact dv_m (by omega)
    rw [h5, d, s4]
    clear d s4 h5 h6
    rw [Nat.mod_eq_of_lt (by omega)]
    omega
  clear s4 h5
  have d : x5 / 4294967296 = g4 + g5 + (g6 + g7) + 256 * (g5 + g6 + g7 + 256 * (g6 + g7 + 256 * g7)) := by
    rw [s5]
    clear s5 h6
    exact dv_m (by omega)
  rw [h6, d, s5]
  clear d s5 h6
  rw [Nat.mod_eq_of_lt (b := 18446744073709551616) (by omega)]
  omega
theorem sub_h {x A B : Nat} (h : x = A + 2 * B) : B ≤ x ∧ x - B = A + B := ⟨by omega, by omega⟩
theorem lt_h {a b : Nat} (h1 : a < 4611686018427387904) (h2 : b < 4611686018427387904) : (a + b) % 18446744073709551616 = a + b ∧ a + b < 9223372036854775808 := ⟨Nat.mod_eq_of_lt (by omega), by omega⟩
theorem lt_g {x y : Nat} (h : x < 9223372036854775808) (d : y ≤ x) : (x + y) % 18446744073709551616 = x + y := Nat.mod_eq_of_lt (by omega)
theorem tn32 (x : Int) : (((BitVec.ofInt 32 x).toNat : Nat) : Int) = x % 4294967296 := by
  rw [BitVec.toNat_ofInt]
  omega
theorem tn64 (x : Int) : (((BitVec.ofInt 64 x).toNat : Nat) : Int) = x % 18446744073709551616 := by
  rw [BitVec.toNat_ofInt]
  omega
theorem lo7 {x : Int} {a b : Nat} (e3 : (a : Int) = x % 4294967296) (e4 : (b : Int) = x % 18446744073709551616) : a % 128 = b % 128 := by omega

theorem bitc_k (v : Int) (K : mR) : kf_Long_bitCount v K = some ((cbt (un v) 64 : Nat) : Int) := by
  have lt := un_lt v
  obtain ⟨p1, -, p3⟩ := pcb_v 8 (un v) lt
  obtain ⟨g0, g1, g2, g3, g4, g5, g6, g7, ⟨l0, l1, l2, l3, l4, l5, l6, l7⟩, e1, e2⟩ := pcb_8 (un v)
  have M5 : un 6148914691236517205 = mm 85 8 := by decide +kernel
  have M3 : un 3689348814741910323 = mm 51 8 := by decide +kernel
  have M0 : un 1085102592571150095 = mm 15 8 := by decide +kernel
  unfold kf_Long_bitCount
  obtain ⟨x1, hx1⟩ : ∃ x1, x1 = cutl (v - (and64 (ushr64 v 1) 6148914691236517205)) := ⟨_, rfl⟩
  rw [← hx1]
  have u1 : un x1 = FAc 8 (un v) := by
    have m : un (and64 (ushr64 v 1) 6148914691236517205) = (un v >>> 1) &&& mm 85 8 := by
      rw [un_and, M5, show (1 : Int) = ((1 : Nat) : Int) from rfl, un_ushr v (by decide)]
    rw [hx1, un_sub _ _ (by rw [m]; exact (sub_h p3).1), m]
    exact (sub_h p3).2
  obtain ⟨x2, hx2⟩ : ∃ x2, x2 = cutl ((and64 x1 3689348814741910323) + (and64 (ushr64 x1 2) 3689348814741910323)) := ⟨_, rfl⟩
  rw [← hx2]
  have ba : ∀ x y : Nat, y < 4611686018427387904 → x &&& y < 4611686018427387904 := fun x y h => Nat.and_lt_two_pow (n := 62) x h
  have u2 : un x2 = FBc 8 (FAc 8 (un v)) := by
    have m1 : un (and64 x1 3689348814741910323) = FAc 8 (un v) &&& mm 51 8 := by rw [un_and, M3, u1]
    have m2 : un (and64 (ushr64 x1 2) 3689348814741910323) = (FAc 8 (un v) >>> 2) &&& mm 51 8 := by
      rw [un_and, M3, show (2 : Int) = ((2 : Nat) : Int) from rfl, un_ushr x1 (by decide), u1]
    have q1 := ba (FAc 8 (un v)) (mm 51 8) (by decide)
    have q2 := ba (FAc 8 (un v) >>> 2) (mm 51 8) (by decide)
    rw [hx2, un_add, m1, m2]
    exact (lt_h q1 q2).1
  have b2 : FBc 8 (FAc 8 (un v)) < 9223372036854775808 := by
    unfold FBc
    have q1 := ba (FAc 8 (un v)) (mm 51 8) (by decide)
    have q2 := ba (FAc 8 (un v) >>> 2) (mm 51 8) (by decide)
    exact (lt_h q1 q2).2
  obtain ⟨x3, hx3⟩ : ∃ x3, x3 = and64 (cutl (x2 + (ushr64 x2 4))) 1085102592571150095 := ⟨_, rfl⟩
  rw [← hx3]
  have u3 : un x3 = pcb 8 (un v) := by
    rw [hx3, un_and, M0, un_add, show (4 : Int) = ((4 : Nat) : Int) from rfl, un_ushr x2 (by decide), u2, ← p1]
    have d : FBc 8 (FAc 8 (un v)) >>> 4 ≤ FBc 8 (FAc 8 (un v)) := by
      rw [Nat.shiftRight_eq_div_pow]
      exact Nat.div_le_self _ _
    rw [lt_g b2 d]
    rfl
  obtain ⟨x4, hx4⟩ : ∃ x4, x4 = cutl (x3 + (ushr64 x3 8)) := ⟨_, rfl⟩
  rw [← hx4]
  obtain ⟨x5, hx5⟩ : ∃ x5, x5 = cutl (x4 + (ushr64 x4 16)) := ⟨_, rfl⟩
  rw [← hx5]
  obtain ⟨x6, hx6⟩ : ∃ x6, x6 = cutl (x5 + (ushr64 x5 32)) := ⟨_, rfl⟩
  rw [← hx6]
  have u4 : un x4 = (un x3 + un x3 / 256) % 18446744073709551616 := by
    rw [hx4, un_add, show (8 : Int) = ((8 : Nat) : Int) from rfl, un_ushr x3 (by decide), sr_8]
  have u5 : un x5 = (un x4 + un x4 / 65536) % 18446744073709551616 := by
    rw [hx5, un_add, show (16 : Int) = ((16 : Nat) : Int) from rfl, un_ushr x4 (by decide), sr_16]
  have u6 : un x6 = (un x5 + un x5 / 4294967296) % 18446744073709551616 := by
    rw [hx6, un_add, show (32 : Int) = ((32 : Nat) : Int) from rfl, un_ushr x5 (by decide), sr_32]
  have u7 : un x6 % 128 = cbt (un v) 64 := (bc_fin g0 g1 g2 g3 g4 g5 g6 g7 ⟨l0, l1, l2, l3, l4, l5, l6, l7⟩ (un x3) (un x4) (un x5) (un x6) (u3.trans e1) u4 u5 u6).trans e2.symm
  refine congrArg some ?_
  rw [← u7]
 
  unfold and32 cut
  rw [show i32 ((i32 x6).toInt) = i32 x6 from Int32.ofInt_toInt _]
  have e9 : ((i32 x6 &&& i32 127).toBitVec).toNat = un x6 % 128 := by
    rw [Int32.toBitVec_and, BitVec.toNat_and]
    have e2 : (i32 127).toBitVec.toNat = 2 ^ 7 - 1 := by decide +kernel
    rw [e2, Nat.and_two_pow_sub_one_eq_mod]
    exact lo7 (tn32 x6) (tn64 x6)
  show (i32 x6 &&& i32 127).toBitVec.toInt = _
  rw [BitVec.toInt_eq_toNat_of_lt (by rw [e9]; omega), e9]

theorem ones_r (v : Int) (M : mR) : rf_ones v M = some ((cbt (un v) 64 : Nat) : Int) := by
  have b1 : ∀ k : Nat, cbt (un v) k ≤ k := by
    intro k
    induction k with
    | zero => exact Nat.le_refl _
    | succ k ih =>
      show cbt (un v) k + (un v >>> k) % 2 ≤ k + 1
      omega
  have bit : ∀ k : Nat, k < 64 → and64 (ushr64 v (k : Int)) 1 = (((un v >>> k) % 2 : Nat) : Int) := fun k hk => by
    have e : un (and64 (ushr64 v (k : Int)) 1) = (un v >>> k) % 2 := by
      rw [un_and, un_ushr v hk, show un 1 = 2 ^ 1 - 1 by decide +kernel, Nat.and_two_pow_sub_one_eq_mod]
    have w : VW (and64 (ushr64 v (k : Int)) 1) 1 := ⟨and_r, fun i hi => by rw [bq_and, bt_01.2, decide_eq_false (by omega), Bool.and_false]⟩
    rcases VW_1 w with q | q
    · rw [q] at e ⊢
      have : un 0 = 0 := by decide +kernel
      omega
    · rw [q] at e ⊢
      have : un 1 = 1 := by decide +kernel
      omega
  unfold rf_ones
  have lp : ∀ n k : Nat, k + n = 64 → whl (rfb_ones_4 v M) (((cbt (un v) k : Nat) : Int), (k : Int)) = some ((cbt (un v) 64 : Nat) : Int) := by
    intro n
    induction n with
    | zero =>
      intro k hk
      rw [show k = 64 by omega]
      have x : rfb_ones_4 v M (((cbt (un v) 64 : Nat) : Int), ((64 : Nat) : Int)) = some (Sum.inr ((cbt (un v) 64 : Nat) : Int)) := by
        unfold rfb_ones_4
        exact if_pos (show (64 : Int) ≤ ((64 : Nat) : Int) by decide)
      rw [whl_eq, x, bnd_some]
      rfl
    | succ n ih =>
      intro k hk
      have b := b1 k
      have s : rfb_ones_4 v M (((cbt (un v) k : Nat) : Int), (k : Int)) = some (Sum.inl (((cbt (un v) (k + 1) : Nat) : Int), ((k + 1 : Nat) : Int))) := by
        unfold rfb_ones_4
        show (if (64 : Int) ≤ (k : Int) then _ else _) = _
        rw [if_neg (by omega)]
        show some (Sum.inl (cut (((cbt (un v) k : Nat) : Int) + cut (and64 (ushr64 v (k : Int)) 1)), cut ((k : Int) + 1))) = _
        rw [bit k (by omega), cut_i (z := (((un v >>> k) % 2 : Nat) : Int)) (by omega) (by omega), cut_i (by omega) (by omega), cut_i (by omega) (by omega)]
        rfl
      rw [whl_eq, s, bnd_some]
      exact ih (k + 1) (by omega)
  have l0 := lp 64 0 rfl
  have l0 : whl (rfb_ones_4 v M) (0, 0) = some ((cbt (un v) 64 : Nat) : Int) := l0
  rw [l0, bnd_some]
