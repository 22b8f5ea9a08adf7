/-! ===== numbers that fit ===== -/
theorem ones_b : ∀ n : Nat, n < 64 → (i64 (cutl (shl64 1 (n : Int) - 1))).toBitVec = BitVec.ofNat 64 (2 ^ n - 1) := by decide +kernel
theorem sh_b : ∀ n : Nat, n < 64 → (((i32 (n : Int)).toInt64.toUInt64 &&& Int64.toUInt64 63).toBitVec % 64).toNat = n := by decide +kernel
theorem fit_bv (B : BitVec 64) (n : Nat) (hn : n < 64) : (B &&& (BitVec.ofNat 64 (2 ^ n - 1) ^^^ BitVec.allOnes 64)) = 0#64 ↔ B >>> n = 0#64 := by
  have mb : ∀ j, (BitVec.ofNat 64 (2 ^ n - 1)).getLsbD j = decide (j < n) := by
    intro j
    rw [BitVec.getLsbD_ofNat, Nat.testBit_two_pow_sub_one]
    by_cases e : j < n
    · simp [e]; omega
    · simp [e]
  constructor
  · intro h
    apply BitVec.eq_of_getLsbD_eq
    intro i hi
    rw [BitVec.getLsbD_ushiftRight]
    by_cases e : n + i < 64
    · have h2 : (B &&& (BitVec.ofNat 64 (2 ^ n - 1) ^^^ BitVec.allOnes 64)).getLsbD (n + i) = (0#64).getLsbD (n + i) := by rw [h]
      rw [BitVec.getLsbD_and, BitVec.getLsbD_xor, mb, BitVec.getLsbD_allOnes, decide_eq_false (show ¬ n + i < n by omega), decide_eq_true e, BitVec.getLsbD_zero] at h2
      rw [BitVec.getLsbD_zero]
      cases hb : B.getLsbD (n + i) with
      | false => rfl
      | true => rw [hb] at h2; cases h2
    · rw [BitVec.getLsbD_of_ge _ _ (by omega)]
      simp
  · intro h
    apply BitVec.eq_of_getLsbD_eq
    intro i hi
    rw [BitVec.getLsbD_and, BitVec.getLsbD_xor, mb, BitVec.getLsbD_allOnes]
    by_cases e : i < n
    · simp [e, hi]
    · have := congrArg (fun b => b.getLsbD (i - n)) h
      simp [BitVec.getLsbD_ushiftRight, show n + (i - n) = i by omega] at this
      simp [this]
theorem z64 (x : Int64) : x.toInt = 0 ↔ x.toBitVec = 0#64 := by
  constructor
  · intro h
    apply BitVec.eq_of_toInt_eq
    exact h
  · intro h
    show x.toBitVec.toInt = 0
    rw [h]
    rfl
theorem fit_and {v w : Int} (w0 : 1 ≤ w) (w1 : w < 64) : and64 v (xor64 (cutl (shl64 1 w - 1)) (-1)) = 0 ↔ ushr64 v w = 0 := by
  have ew : w = ((w.toNat : Nat) : Int) := by omega
  have hn : w.toNat < 64 := by omega
  rw [ew]
  generalize w.toNat = n at hn
  have e1 : (i64 (xor64 (cutl (shl64 1 (n : Int) - 1)) (-1))).toBitVec = BitVec.ofNat 64 (2 ^ n - 1) ^^^ BitVec.allOnes 64 := by
    unfold xor64
    rw [show i64 ((i64 (cutl (shl64 1 (n : Int) - 1)) ^^^ i64 (-1)).toInt) = i64 (cutl (shl64 1 (n : Int) - 1)) ^^^ i64 (-1) from Int64.ofInt_toInt _]
    rw [Int64.toBitVec_xor, ones_b n hn]
    rfl
  unfold and64 ushr64
  rw [z64, z64, Int64.toBitVec_and, e1, fit_bv _ n hn]
  constructor
  · intro h
    show ((i64 v).toUInt64 >>> ((i32 (n : Int)).toInt64.toUInt64 &&& Int64.toUInt64 63)).toBitVec = 0#64
    rw [UInt64.toBitVec_shiftRight]
    show (i64 v).toBitVec >>> (((i32 (n : Int)).toInt64.toUInt64 &&& Int64.toUInt64 63).toBitVec % 64).toNat = 0#64
    rw [sh_b n hn]
    exact h
  · intro h
    have h : ((i64 v).toUInt64 >>> ((i32 (n : Int)).toInt64.toUInt64 &&& Int64.toUInt64 63)).toBitVec = 0#64 := h
    rw [UInt64.toBitVec_shiftRight] at h
    have h : (i64 v).toBitVec >>> (((i32 (n : Int)).toInt64.toUInt64 &&& Int64.toUInt64 63).toBitVec % 64).toNat = 0#64 := h
    rw [sh_b n hn] at h
    exact h
theorem ones_k {v w : Int} {m : mR} (w0 : 1 ≤ w) (w1 : w ≤ 64) : RP (kf_pw_ones w m) (fun o => and64 v (xor64 o (-1)) = 0 ↔ fitv v w) := by
  unfold kf_pw_ones kfl_pw_ones_17
  refine RP_ite (fun g => RP_some ?_) (fun g => RP_some ?_)
  · rw [fit_and w0 g]
    exact ⟨fun h => Or.inr h, fun h => by
      rcases h with h | h
      · omega
      · exact h⟩
  · refine ⟨fun _ => Or.inl (by omega), fun _ => ?_⟩
    unfold and64 xor64
    rw [show i64 ((i64 (-1) ^^^ i64 (-1)).toInt) = 0 from rfl, z64, Int64.toBitVec_and]
    show (i64 v).toBitVec &&& 0#64 = 0#64
    simp
section CAS
variable {K M : mR}
/-- a number of a width -/
theorem fitn_s (h : LR K M) {w : Int} (w0 : 1 ≤ w) (w1 : w ≤ 64) : RR (kf_rd_fittingNumber w K) (rf_caseNumber w M) (fun y z => (y.1 = 0 ∧ (y.2.1 = z.1 ∧ LR y.2.2 z.2 ∧ fr kF_rd_fittingNumber kA_rd_fittingNumber K y.2.2 ∧ fr rF_caseNumber rA_caseNumber M z.2 ∧ M.1 8 + 1 ≤ z.2.1 8)) ∨ (y.1 ≠ 0 ∧ 0 < z.2.1 10)) := by
  have hX := h.2.1
  have hf := h.2.2.2.2
  intro y z hy hz
  have f1 := u_kf_rd_fittingNumber w K y hy
  have f2 := (u_rf_caseNumber w M z hz).1
  unfold kf_rd_fittingNumber at hy
  unfold rf_caseNumber at hz
  rw [if_pos (show M.1 10 ≤ 0 by omega)] at hz
  by_cases wn : M.1 7 = 2
  · rw [if_pos wn] at hz
    have e8 : K.1 208 = M.1 12 := hX.2.2.2.2.2.2.2.1 wn
    cases hk : kf_tx_expect 257 K with
    | none => rw [hk] at hy; cases hy
    | some x =>
      cases hm : rf_next M with
      | none => rw [hm] at hz; cases hz
      | some q =>
        rw [hk, bnd_some] at hy
        rw [hm, bnd_some] at hz
        rcases exn_s h wn x q hk hm with ⟨a1, a2, a3, a4, a5⟩ | ⟨a1, a2⟩
        · rw [if_pos a1] at hy
          unfold rfl_caseNumber_37 rfl_caseNumber_54 at hz
          rw [if_pos a2.2.2.2.2] at hz
          cases ho : kf_pw_ones w x.2.2 with
          | none => rw [ho] at hy; cases hy
          | some o =>
            rw [ho, bnd_some, e8] at hy
            have ok := ones_k (v := M.1 12) w0 w1 o ho
            cases hr : rf_fits (M.1 12) w with
            | none => rw [hr] at hz; cases hz
            | some r =>
              rw [hr, bnd_some] at hz
              cases hw : rf_want r (M.1 8) q.2 with
              | none => rw [hw] at hz; cases hz
              | some p =>
                rw [hw, bnd_some] at hz
                cases hz
                rcases fits_r w1 r hr with ⟨r1, r2⟩ | ⟨r1, r2⟩
                · rw [if_pos (cmp64_0.mpr (ok.mpr r2))] at hy
                  unfold kfl_rd_fittingNumber_53 at hy
                  cases hy
                  rcases want_r p hw with ⟨-, p2⟩ | ⟨p1, -⟩
                  · refine Or.inl ⟨rfl, rfl, ?_, f1, f2, ?_⟩
                    · show LR x.2.2 p.2
                      rw [p2]
                      exact a2
                    · show M.1 8 + 1 ≤ p.2.1 8
                      rw [p2]
                      exact a5
                  · omega
                · rw [if_neg (fun q => r2 (ok.mp (cmp64_0.mp q)))] at hy
                  have ht := (thr_l (A := fun y8 => kfl_rd_fittingNumber_53 (M.1 12) y8.2.2) (fail_1 7 (K.1 207) x.2.2)) y hy
                  rcases want_r p hw with ⟨p1, -⟩ | ⟨-, p2⟩
                  · omega
                  · exact Or.inr ⟨ht, p2⟩
        · rw [if_neg a1] at hy
          cases hy
          exact Or.inr ⟨a1, (u_rfl_caseNumber_37 w (M.1 8) (M.1 12) q.2 z hz).2 a2⟩
  · rw [if_neg wn] at hz
    refine Or.inr ⟨?_, ?_⟩
    · exact RP_e (P := fun y : Int × Int × mR => y.1 ≠ 0) hy (RP_bnd (exn_x h wn) (fun q hq => by rw [if_neg hq]; exact RP_some hq))
    · exact RP_e (P := fun z : Int × mR => 0 < z.2.1 10) hz (RP_bnd (bad_1 M) (fun q hq => RP_w (u_rfl_caseNumber_21 q.2) (fun v hv => hv.2 hq)))
end CAS
