/-! ===== REFERENCES into the stages; System.arraycopy ===== -/
def kch7 : Bool := (List.range 189).all (fun p => !(Nat.beq (kdt p).1 7) || Nat.beq p 187)
theorem kch7_ok : kch7 = true := by decide +kernel
theorem kow7 {p : Nat} (hp : p < 189) (h : p ≠ 187) : (kdt p).1 ≠ 7 := fun e => by
  have h1 := List.all_eq_true.mp kch7_ok p (List.mem_range.mpr hp)
  rw [e] at h1
  rcases Bool.or_eq_true_iff.mp h1 with h2 | h2
  · exact absurd h2 (by decide)
  · exact h (Nat.eq_of_beq_eq_true h2)
theorem kfx_6 {K : mR} {f : Int → Int} {p : Nat} (hp : p < 189) (h : p ≠ 187) : kfx (mO K [] [(106, f)]) (kdt p) = kfx K (kdt p) := by
  have h7 := kow7 hp h
  rcases hd : kdt p with ⟨d, ci, xs⟩
  rw [hd] at h7
  unfold kfx
  split
  · next c2 xs2 he =>
    congr 2
  · next n k xs2 he =>
    cases he
    have hk := kowA hp hd (by decide) (by decide) List.mem_cons_self
    exact kar_c (mO2_n (by omega))
  · next n k xs2 he =>
    cases he
    have hk := kowA hp hd (by decide) (by decide) List.mem_cons_self
    exact kar_c (mO2_n (by omega))
  · next n k xs2 he =>
    cases he
    have hk := kowA hp hd (by decide) (by decide) List.mem_cons_self
    exact kar_c (mO2_n (by omega))
  · rfl
  · congr 7
  · next he =>
    cases he
    exact absurd rfl h7
  · rfl
theorem khp_sets (K : mR) (c : Nat → Option am_C) (hK : KO K) {f : Int → Int} {x : am_C} (hx : khp (mO K [] [(106, f)]) c 187 = some x) : up1 (khp K c) 187 x = khp (mO K [] [(106, f)]) c := by
  refine khp_upd K _ c _ _ hx (fun p hp => ?_)
  unfold khp
  by_cases h9 : p < 189
  · rw [if_pos h9, if_pos h9]
    unfold klo
    split
    · next h => exact congrArg some (ktb_c (by omega) (fun _ i hi => by rw [mO2_n (by omega)]) (fun i e n _ => by rw [mO2_n (by omega)]))
    · rw [kfx_6 h9 hp]
  · rw [if_neg h9, if_neg h9, show (mO K [] [(106, f)]).2 108 = K.2 108 from mO2_n (by omega)]
    split
    · next h =>
      have h7 := hK.2.2.2 p h
      exact congrArg some (kob_c (by omega) (mO2_n (by omega)) (fun _ i hi => by rw [mO2_n (by omega)]) (fun i e n _ => by rw [mO2_n (by omega)]))
    · rfl
def ksv (K : mR) (x : Int) : Option Nat := if x < 0 then none else kor K x
theorem kst_up {K : mR} {n x : Int} (h0 : 0 ≤ n) : (fun j : Nat => if (mO K [] [(106, upI (K.2 106) n x)]).2 106 j < 0 then none else kor (mO K [] [(106, upI (K.2 106) n x)]) ((mO K [] [(106, upI (K.2 106) n x)]).2 106 j)) = va_up (fun j : Nat => if K.2 106 j < 0 then none else kor K (K.2 106 j)) n.toNat (ksv K x) := by
  funext j
  rw [mO2_s, kor_c (mO2_n (by omega))]
  by_cases e : j = n.toNat
  · rw [e, va_up_self, show ((n.toNat : Nat) : Int) = n by omega, upI_s]
    rfl
  · rw [va_up_ne _ _ e, upI_n (by omega)]
