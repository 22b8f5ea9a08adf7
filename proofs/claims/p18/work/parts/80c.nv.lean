
theorem sh_f : ∀ k : Fin 64, ((i32 ((k.val : Nat) : Int)).toInt64 &&& 63 : Int64) = Int64.ofNat k.val := by decide +kernel
theorem su_f : ∀ k : Fin 64, ((i32 ((k.val : Nat) : Int)).toInt64.toUInt64 &&& Int64.toUInt64 63 : UInt64) = UInt64.ofNat k.val := by decide +kernel
theorem bq_shl {x : Int} {k : Nat} (hk : k < 64) (i : Nat) : bt64 (shl64 x (k : Int)) i = (decide (i < 64) && !decide (i < k) && bt64 x (i - k)) := by
  unfold bt64 shl64
  rw [i64_t, sh_f ⟨k, hk⟩, Int64.toBitVec_shiftLeft]
  show ((i64 x).toBitVec <<< ((Int64.ofNat k).toBitVec.smod 64)).getLsbD i = _
  have e : ((Int64.ofNat k).toBitVec.smod 64) = BitVec.ofNat 64 k := by
    have z : ∀ j : Fin 64, ((Int64.ofNat j.val).toBitVec.smod 64) = BitVec.ofNat 64 j.val := by decide +kernel
    exact z ⟨k, hk⟩
  rw [e, BitVec.shiftLeft_eq', BitVec.getLsbD_shiftLeft, BitVec.toNat_ofNat, Nat.mod_eq_of_lt (by omega)]
theorem bq_ushr {x : Int} {k : Nat} (hk : k < 64) (i : Nat) : bt64 (ushr64 x (k : Int)) i = bt64 x (k + i) := by
  unfold bt64 ushr64
  rw [i64_t, su_f ⟨k, hk⟩]
  show ((i64 x).toUInt64 >>> UInt64.ofNat k).toBitVec.getLsbD i = _
  rw [UInt64.toBitVec_shiftRight]
  have e : ((UInt64.ofNat k).toBitVec % 64) = BitVec.ofNat 64 k := by
    have z : ∀ j : Fin 64, ((UInt64.ofNat j.val).toBitVec % 64) = BitVec.ofNat 64 j.val := by decide +kernel
    exact z ⟨k, hk⟩
  rw [e, BitVec.ushiftRight_eq', BitVec.getLsbD_ushiftRight, BitVec.toNat_ofNat, Nat.mod_eq_of_lt (by omega)]
  rfl

theorem sh_any (w : Int) : ∃ k : Nat, k < 64 ∧ ∀ x, shl64 x w = shl64 x (k : Int) ∧ ushr64 x w = ushr64 x (k : Int) := by
  have b : ((i32 w).toInt64 &&& 63 : Int64).toBitVec.toNat < 64 := by
    rw [Int64.toBitVec_and, BitVec.toNat_and]
    exact Nat.lt_of_le_of_lt Nat.and_le_right (by decide)
  refine ⟨((i32 w).toInt64 &&& 63 : Int64).toBitVec.toNat, b, fun x => ?_⟩
  have e1 : ((i32 w).toInt64 &&& 63 : Int64) = Int64.ofNat (((i32 w).toInt64 &&& 63 : Int64).toBitVec.toNat) := by
    apply Int64.toBitVec_inj.mp
    rw [Int64.toBitVec_ofNat', BitVec.ofNat_toNat, BitVec.setWidth_eq]
  have e2 : ((i32 w).toInt64.toUInt64 &&& Int64.toUInt64 63 : UInt64) = UInt64.ofNat (((i32 w).toInt64 &&& 63 : Int64).toBitVec.toNat) := by
    apply UInt64.toBitVec_inj.mp
    show ((i32 w).toInt64 &&& 63 : Int64).toBitVec = _
    rw [UInt64.toBitVec_ofNat', BitVec.ofNat_toNat, BitVec.setWidth_eq]
  constructor
  · unfold shl64
    rw [sh_f ⟨_, b⟩, ← e1]
  · unfold ushr64
    rw [su_f ⟨_, b⟩, ← e2]
theorem btm_1 : ∀ k : Fin 64, bt64 (-1) k.val = true := by decide +kernel

def onk (w : Int) : Int := if w < 64 then cutl (shl64 1 w - 1) else -1
theorem onk_v (w : Int) (K : mR) : kf_pw_ones w K = some (onk w) := by
  unfold kf_pw_ones kfl_pw_ones_17 onk
  by_cases h : w < 64
  · rw [if_pos h, if_pos h]
  · rw [if_neg h, if_neg h]
theorem onk_m {w : Int} (h1 : w ≤ 64) : onk w = mk64 w := by
  unfold onk mk64
  by_cases h : w = 64
  · rw [if_pos h, if_neg (by omega)]
  · rw [if_neg h, if_pos (by omega)]

theorem fit_m {v w : Int} (hv : R64 v) (h : fitv_nx v w) : and64 v (onk w) = v := by
  unfold onk
  by_cases e : w < 64
  · rw [if_pos e]
    rcases h with h | h
    · omega
    · obtain ⟨k, hk, sh⟩ := sh_any w
      rw [(sh 1).1]
      rw [(sh v).2] at h
      have m := bt_m (w := (k : Int)) (by omega) (by omega)
      unfold mk64 at m
      rw [if_neg (by omega)] at m
      refine bt_eq and_r hv (fun i hi => ?_)
      rw [bq_and, m i, decide_eq_true hi, Bool.true_and]
      by_cases q : (i : Int) < (k : Int)
      · rw [decide_eq_true q, Bool.and_true]
      · have z := bq_ushr (x := v) hk (i - k)
        rw [h, show k + (i - k) = i by omega] at z
        have z0 : ∀ j : Nat, bt64 0 j = false := fun j => by
          by_cases g : j < 64
          · have y : ∀ k : Fin 64, bt64 0 k.val = false := by decide +kernel
            exact y ⟨j, g⟩
          · exact bt_64 (by omega)
        rw [z0] at z
        rw [← z, Bool.false_and]
  · rw [if_neg e]
    exact and_m1 hv
theorem VW_le {x w w' : Int} (h : VW x w) (hw : w ≤ w') : VW x w' := ⟨h.1, fun i hi => h.2 i (by omega)⟩
theorem VW_fit {v w : Int} (hv : R64 v) (h : fitv_nx v w) (w0 : 0 ≤ w) (w1 : w ≤ 64) : VW v w := by
  rw [← fit_m hv h, onk_m w1]
  exact VW_m w0 w1
theorem bt_01 : (∀ j : Nat, bt64 0 j = false) ∧ ∀ j : Nat, bt64 1 j = decide (j = 0) := by
  refine ⟨fun j => ?_, fun j => ?_⟩
  · by_cases g : j < 64
    · have y : ∀ k : Fin 64, bt64 0 k.val = false := by decide +kernel
      exact y ⟨j, g⟩
    · exact bt_64 (by omega)
  · by_cases g : j < 64
    · have y : ∀ k : Fin 64, bt64 1 k.val = decide (k.val = 0) := by decide +kernel
      exact y ⟨j, g⟩
    · rw [bt_64 (by omega)]
      exact (decide_eq_false (by omega)).symm
theorem VW_01 {x : Int} (h : x = 0 ∨ x = 1) : VW x 1 := by
  rcases h with rfl | rfl
  · exact ⟨l64 0 rfl, fun i _ => bt_01.1 i⟩
  · exact ⟨l64 1 rfl, fun i hi => by rw [bt_01.2]; exact decide_eq_false (by omega)⟩
theorem rcut_v {v w : Int} (hv : R64 v) (w1 : w ≤ 64) : rf_cut v w = some (and64 v (mk64 w)) := by
  unfold rf_cut rfl_cut_17 mk64
  by_cases h : w = 64
  · rw [if_pos h, if_pos h, and_m1 hv]
  · rw [if_neg h, if_neg h]
theorem VW_ushr {x w : Int} {k : Nat} (hk : k < 64) (h : VW x w) : VW (ushr64 x (k : Int)) w := ⟨t64_r, fun i hi => by rw [bq_ushr hk]; exact h.2 (k + i) (by omega)⟩
theorem VW_join {x y a b : Int} (hx : VW x a) (hy : VW y b) (b0 : 0 ≤ b) (b1 : b < 64) (a0 : 0 ≤ a) : VW (or64 (shl64 x b) y) (a + b) := ⟨t64_r, fun i hi => by
  have e : b = ((b.toNat : Nat) : Int) := by omega
  rw [bq_or, e, bq_shl (by omega), hy.2 i (by omega), Bool.or_false, hx.2 (i - b.toNat) (by omega), Bool.and_false]⟩
theorem not_1 {x : Int} (h : x = 0 ∨ x = 1) : and64 (xor64 x 1) (mk64 1) = cutl (1 - x) := by
  rcases h with rfl | rfl <;> decide +kernel
