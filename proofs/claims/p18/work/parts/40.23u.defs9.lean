/-! ===== WHAT THE PIPE NEEDS ===== -/
theorem ar_1b {s : Int} (h : s = 405 ∨ s = 406 ∨ s = 408 ∨ s = 126 ∨ s = 33) : ar s = 1 := by
  rcases h with rfl | rfl | rfl | rfl | rfl <;> decide
theorem ar_3 {s : Int} (h : s = 407) : ar s = 3 := by
  subst h
  decide
theorem ar_2b {s : Int} (h : s ≠ 33 ∧ s ≠ 126 ∧ s ≠ 400 ∧ s ≠ 401 ∧ s ≠ 402 ∧ s ≠ 403 ∧ s ≠ 404 ∧ s ≠ 405 ∧ s ≠ 406 ∧ s ≠ 407 ∧ s ≠ 408) : ar s = 2 := by
  unfold ar
  rw [if_neg (by omega), if_neg (by omega), if_neg (by omega)]
theorem smN_mo {f : Int → Int} (hf : ∀ j, 0 ≤ f j ∧ f j ≤ 64) (a : Int) (k d : Nat) : smN f a k ≤ smN f a (k + d) := by
  induction d with
  | zero => exact Int.le_refl _
  | succ d ih =>
    have e : smN f a (k + (d + 1)) = smN f a (k + d) + f (a + (k + d : Nat)) := rfl
    have := (hf (a + (k + d : Nat))).1
    omega
theorem sm_mo {f : Int → Int} (hf : ∀ j, 0 ≤ f j ∧ f j ≤ 64) {a k n : Int} (h0 : 0 ≤ k) (h1 : k ≤ n) : sm f a k ≤ sm f a n := by
  have := smN_mo hf a k.toNat (n.toNat - k.toNat)
  rw [show k.toNat + (n.toNat - k.toNat) = n.toNat by omega] at this
  exact this
theorem ct_v {f g : Int → Int} {i : Int} (h : g = upI f i 1) (h0 : f i = 0) (a : 0 ≤ i) (b : i ≤ 11) {C k : Int} (hc : C + k ≤ ct f 12) : C + (k + 1) ≤ ct g 12 := by
  have h1 := ctN_set (f := f) (i := i) (x := 1) a 12 (by omega)
  have h2 : C + k ≤ ctN f 12 := hc
  show C + (k + 1) ≤ ctN g 12
  rw [h]
  omega
theorem ctN_lt {f g : Int → Int} (h : ∀ j, f j ≤ g j) {i : Int} (h0 : 0 ≤ i) (hf : f i + 1 ≤ g i) (n : Nat) : ctN f n ≤ ctN g n ∧ (i < n → ctN f n + 1 ≤ ctN g n) := by
  induction n with
  | zero => exact ⟨Int.le_refl _, fun a => by omega⟩
  | succ n ih =>
    have e1 : ctN f (n + 1) = ctN f n + f n := rfl
    have e2 : ctN g (n + 1) = ctN g n + g n := rfl
    have h1 := h n
    refine ⟨by omega, fun a => ?_⟩
    by_cases e : i = n
    · subst e
      omega
    · have := ih.2 (by omega)
      omega
theorem rk_ex {et so cs cg ex : Int → Int} {de : Int} (hde : de ≤ 16) (H : ∀ q, 0 ≤ q → q < de → 0 < ex q ∨ NR et so cs cg ex de q) : ∃ rk : Int → Int, (∀ d, -1 ≤ rk d ∧ rk d ≤ 16) ∧ (∀ d, d < 0 → rk d = -1) ∧ (∀ d, 0 ≤ d → 0 ≤ rk d) ∧ (∀ d j, 0 ≤ d → d < de → ex d ≤ 0 → 0 ≤ j → j < de → Ld et so cs cg d j → rk j < rk d) := by
  have key : ∀ d : Int, ∃ f : Int → Int, ∀ j, (f j = 1 ∧ ∀ C : Int → Int, (∀ k, 0 ≤ k → k < de → Ld et so cs cg d k → C k = 1) → CLk et so cs cg ex C de de → C j = 1) ∨ (f j = 0 ∧ ¬ ∀ C : Int → Int, (∀ k, 0 ≤ k → k < de → Ld et so cs cg d k → C k = 1) → CLk et so cs cg ex C de de → C j = 1) := fun d => by
    classical
    refine ⟨fun j => if ∀ C : Int → Int, (∀ k, 0 ≤ k → k < de → Ld et so cs cg d k → C k = 1) → CLk et so cs cg ex C de de → C j = 1 then 1 else 0, fun j => ?_⟩
    by_cases h : ∀ C : Int → Int, (∀ k, 0 ≤ k → k < de → Ld et so cs cg d k → C k = 1) → CLk et so cs cg ex C de de → C j = 1
    · exact Or.inl ⟨if_pos h, h⟩
    · exact Or.inr ⟨if_neg h, h⟩
  obtain ⟨F, hF⟩ := Classical.axiomOfChoice key
  have h01 : ∀ d j, 0 ≤ F d j ∧ F d j ≤ 1 := fun d j => by
    rcases hF d j with ⟨h, _⟩ | ⟨h, _⟩ <;> omega
  have hct : ∀ d, 0 ≤ ctN (F d) 16 ∧ ctN (F d) 16 ≤ 16 := fun d => ctN_le (h01 d) 16
  refine ⟨fun d => if d < 0 then -1 else if 0 < ex d then 0 else ctN (F d) 16, ?_, ?_, ?_, ?_⟩
  · intro d
    have := hct d
    show -1 ≤ (if d < 0 then -1 else if 0 < ex d then 0 else ctN (F d) 16) ∧ (if d < 0 then -1 else if 0 < ex d then 0 else ctN (F d) 16) ≤ 16
    split
    · omega
    · split <;> omega
  · intro d h
    exact if_pos h
  · intro d h
    have := hct d
    show 0 ≤ (if d < 0 then -1 else if 0 < ex d then 0 else ctN (F d) 16)
    rw [if_neg (by omega)]
    split <;> omega
  · intro d j a b c e f g
    show (if j < 0 then -1 else if 0 < ex j then 0 else ctN (F j) 16) < (if d < 0 then -1 else if 0 < ex d then 0 else ctN (F d) 16)
    rw [if_neg (show ¬ j < 0 by omega), if_neg (show ¬ d < 0 by omega), if_neg (show ¬ 0 < ex d by omega)]
    have hj : F d j = 1 := by
      rcases hF d j with ⟨h, _⟩ | ⟨_, h⟩
      · exact h
      · exact absurd (fun C s1 _ => s1 j e f g) h
    by_cases hx : 0 < ex j
    · rw [if_pos hx]
      have h1 := (ctN_lt (f := fun _ => 0) (g := F d) (fun q => (h01 d q).1) e (by show (0 : Int) + 1 ≤ F d j; omega) 16).2 (by omega)
      have h2 : ctN (fun _ => 0) 16 = 0 := ctN_z 16 (fun _ _ _ => rfl)
      omega
    · rw [if_neg hx]
      obtain ⟨C, c1, c2, c3⟩ := (H j e f).resolve_left hx
      have hj0 : F j j = 0 := by
        rcases hF j j with ⟨_, h⟩ | ⟨h, _⟩
        · exact absurd (h C c1 c2) c3
        · exact h
      have hle : ∀ q, F j q ≤ F d q := by
        intro q
        rcases hF j q with ⟨h1, h2⟩ | ⟨h1, _⟩
        · rcases hF d q with ⟨h3, _⟩ | ⟨_, h3⟩
          · omega
          · exact absurd (fun C' s1 s2 => h2 C' (fun k k0 k1 k2 => s2 j k e f k0 k1 (s1 j e f g) (by omega) k2) s2) h3
        · have := (h01 d q).1
          omega
      have := (ctN_lt hle e (by omega) 16).2 (by omega)
      omega
theorem i64_shr1 (x : Int64) : ∃ z, (x.toUInt64 >>> ((i32 1).toInt64.toUInt64 &&& Int64.toUInt64 63)).toInt64 = i64 z ∧ 0 ≤ z ∧ z < 9223372036854775808 := by
  have e : ((i32 1).toInt64.toUInt64 &&& Int64.toUInt64 63) = (1 : UInt64) := by decide
  rw [e]
  refine ⟨((x.toUInt64 >>> 1).toInt64).toInt, (Int64.ofInt_toInt _).symm, ?_⟩
  have h1 : ((x.toUInt64 >>> 1).toInt64).toInt = (x.toUInt64 >>> 1).toBitVec.toInt := rfl
  have h2 : (x.toUInt64 >>> 1).toBitVec.toNat < 9223372036854775808 := by
    show (x.toUInt64 >>> 1).toNat < _
    rw [UInt64.toNat_shiftRight]
    have := x.toUInt64.toNat_lt
    show x.toUInt64.toNat >>> 1 < _
    rw [Nat.shiftRight_eq_div_pow]
    omega
  rw [h1, BitVec.toInt_eq_toNat_of_lt (by omega)]
  omega
theorem T_lushr1 {w : wX} {D : Nat} {me : am_M} {Q : ag_Re af_T → Prop} {pc nc ns : Nat} {lv : List (Nat × Value)} {st : List Value} {t : af_T} (pc' : Nat) {x : Int} {len p q r : Nat} (hi : me.2.2.2.2.2 pc = some (.lushr, len, p, q, r)) (hp : pc + 1 = pc') (h : ∀ z, 0 ≤ z ∧ z < 9223372036854775808 → TT w D me (pc', lv, .long (i64 z) :: st, t, nc, ns) Q) : TT w D me (pc, lv, .int (i32 1) :: .long (i64 x) :: st, t, nc, ns) Q := by
  subst hp
  obtain ⟨z, e, hz⟩ := i64_shr1 (i64 x)
  exact Tm_step (S' := (pc + 1, lv, .long ((i64 x).toUInt64 >>> ((i32 1).toInt64.toUInt64 &&& Int64.toUInt64 63)).toInt64 :: st, t, nc, ns)) hi (fun call => rfl) (Tm_el e.symm (h z hz))
