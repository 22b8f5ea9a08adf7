theorem T_lit2 {w : wX} {D : Nat} {me : am_M} {Q : ag_Re af_T → Prop} {pc nc ns : Nat} {lv : List (Nat × Value)} {st : List Value} {t : af_T} {i : am_I} (pc' : Nat) (v : Value) {u u' : Value} (hi : me.2.2.2.2.2 pc = some i) (hs : ∀ call, ag_step af_O 8192 w.1 (nm_E w.2.1 w.2.2.1 w.2.2.2) nm_cn (D + 1) call me i (pc, lv, u :: u' :: st, t, nc, ns) = some (.inl (pc', lv, v :: st, t, nc, ns))) (h : TT w D me (pc', lv, v :: st, t, nc, ns) Q) : TT w D me (pc, lv, u :: u' :: st, t, nc, ns) Q := Tm_step hi hs h
theorem T_i2c {w : wX} {D : Nat} {me : am_M} {Q : ag_Re af_T → Prop} {pc nc ns : Nat} {lv : List (Nat × Value)} {st : List Value} {t : af_T} (pc' : Nat) {x : Int} {len p q r : Nat} (hi : me.2.2.2.2.2 pc = some (.i2c, len, p, q, r)) (hp : pc + 1 = pc') (h : ∀ z, 0 ≤ z ∧ z ≤ 65535 → TT w D me (pc', lv, .int (i32 z) :: st, t, nc, ns) Q) : TT w D me (pc, lv, .int (i32 x) :: st, t, nc, ns) Q := by
  subst hp
  have hb : ((i32 x).toUInt32 % 65536).toBitVec.toNat < 65536 := by
    show ((i32 x).toUInt32 % 65536).toNat < 65536
    rw [UInt32.toNat_mod]
    exact Nat.mod_lt _ (by decide)
  have e : ((i32 x).toUInt32 % 65536).toInt32.toInt = (((i32 x).toUInt32 % 65536).toBitVec.toNat : Int) := by
    show ((i32 x).toUInt32 % 65536).toBitVec.toInt = _
    rw [BitVec.toInt_eq_toNat_of_lt (by omega)]
  exact Tm_step (S' := (pc + 1, lv, .int ((i32 x).toUInt32 % 65536).toInt32 :: st, t, nc, ns)) hi (fun call => rfl) (Tm_ev (i32_of _) (h _ ⟨by omega, by omega⟩))
theorem T_xbald {w : wX} {D : Nat} {me : am_M} {Q : ag_Re af_T → Prop} {pc nc ns : Nat} {lv : List (Nat × Value)} {st : List Value} {t : af_T} (pc' a L : Nat) {i : Int} {q len p p' p'' : Nat} (hi : me.2.2.2.2.2 pc = some (.baload, len, p, p', p'')) (hp : pc + 1 = pc') (hq : (Nat.beq q (1000002 + 2 * a) && (Nat.blt a nm_len.length && (Nat.beq (nm_len.getD a 0) L && Nat.blt L 1000000))) = true) (h0 : 0 ≤ i) (h1 : i < L) (h : ∀ z, R32 z → TT w D me (pc', lv, .int (i32 z) :: st, t, nc, ns) Q) : TT w D me (pc, lv, .int (i32 i) :: .ref q :: st, t, nc, ns) Q := by
  subst hp
  obtain ⟨q1, hq⟩ := Bool.and_eq_true_iff.mp hq
  obtain ⟨q2, hq⟩ := Bool.and_eq_true_iff.mp hq
  obtain ⟨q3, q4⟩ := Bool.and_eq_true_iff.mp hq
  rw [Nat.blt_eq] at q2 q4
  have e1 := Nat.eq_of_beq_eq_true q1
  have e3 := Nat.eq_of_beq_eq_true q3
  obtain ⟨z, hz, e⟩ := i32_ex ((nm_byt.getD a []).getD (i32 i).toNatClampNeg 0)
  refine Tm_step (S' := (pc + 1, lv, .int ((nm_byt.getD a []).getD (i32 i).toNatClampNeg 0) :: st, t, nc, ns)) hi (fun call => ?_) (by rw [e]; exact h z hz)
  show ag_liftH (ag_baload af_O (nm_E w.2.1 w.2.2.1 w.2.2.2) pc lv (.int (i32 i) :: .ref q :: st) t) nc ns = _
  unfold ag_baload
  dsimp only
  rw [if_neg (show ¬ q < 1000000 by omega)]
  unfold am_xbald
  dsimp only
  have e5 : (q - 1000002) / 2 = a := by omega
  rw [e5, if_pos ⟨by unfold am_kB; omega, q2, by
    have h9 : nm_len.getD a 0 = L := e3
    show ¬ (i32 i < 0 ∨ nm_len.getD a 0 ≤ (i32 i).toNatClampNeg)
    rw [h9]
    exact idx_in h0 h1 q4⟩]
  rfl
theorem T_retc {w : wX} {D : Nat} {me : am_M} {Q : ag_Re af_T → Prop} {pc nc ns : Nat} {lv : List (Nat × Value)} {t : af_T} {z : Int} {len p q r : Nat} (hi : me.2.2.2.2.2 pc = some (.ireturn, len, p, q, r)) (hr : me.2.2.2.1 = some .char) (hz : 0 ≤ z ∧ z ≤ 65535) (h : Q (.inl (some (.int (i32 z))), t, nc, ns)) : TT w D me (pc, lv, [.int (i32 z)], t, nc, ns) Q := by
  refine Tm_end hi (fun call => ?_) h
  show ag_end (am_ireturn me.2.2.2.1 [.int (i32 z)] [] nc ns) t = _
  rw [hr]
  unfold am_ireturn
  dsimp only
  have hc : ¬ i32 z < 0 ∧ (i32 z).toNatClampNeg < 65536 := by
    constructor
    · rw [i32_0, i32_lt ⟨by omega, by omega⟩ R32_0]
      omega
    · have := i32_nat hz.1 (by omega)
      omega
  rw [if_pos hc]
  rfl
