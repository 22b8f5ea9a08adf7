/-! ===== what steps read and write: sets of both ===== -/
section STS
def th (x : Int) : Int := if x < 204 then (if x % 17 = 0 then 192 + x / 17 else 16 * (x / 17) + x % 17 - 1) else x
theorem th_v {x : Int} (h : x < 204) (h2 : x % 17 = 0) : th x = 192 + x / 17 := by unfold th; rw [if_pos h, if_pos h2]
theorem th_f {x : Int} (h : x < 204) (h2 : x % 17 ≠ 0) : th x = 16 * (x / 17) + x % 17 - 1 := by unfold th; rw [if_pos h, if_neg h2]
theorem th_m {x : Int} (h : 204 ≤ x) : th x = x := by unfold th; rw [if_neg (by omega)]
theorem th_c (x : Int) : (x < 204 ∧ x % 17 = 0 ∧ th x = 192 + x / 17) ∨ (x < 204 ∧ x % 17 ≠ 0 ∧ th x = 16 * (x / 17) + x % 17 - 1) ∨ (204 ≤ x ∧ th x = x) := by
  by_cases h : x < 204
  · by_cases h2 : x % 17 = 0
    · exact Or.inl ⟨h, h2, th_v h h2⟩
    · exact Or.inr (Or.inl ⟨h, h2, th_f h h2⟩)
  · exact Or.inr (Or.inr ⟨by omega, th_m (by omega)⟩)
theorem th_inj {x y : Int} (x0 : 0 ≤ x) (x1 : x < 221) (y0 : 0 ≤ y) (y1 : y < 221) (h : th x = th y) : x = y := by
  rcases th_c x with ⟨a1, a2, a3⟩ | ⟨a1, a2, a3⟩ | ⟨a1, a3⟩ <;> rcases th_c y with ⟨b1, b2, b3⟩ | ⟨b1, b2, b3⟩ | ⟨b1, b3⟩ <;> rw [a3, b3] at h <;> omega
theorem th_r {x : Int} (x0 : 0 ≤ x) (x1 : x < 221) : 0 ≤ th x ∧ th x < 221 := by
  rcases th_c x with ⟨a1, a2, a3⟩ | ⟨a1, a2, a3⟩ | ⟨a1, a3⟩ <;> rw [a3] <;> omega
theorem bt_1 (j : Nat) : bt 1 j = decide (j = 0) := by
  rw [bt_nat (by decide) (by decide)]
  show Nat.testBit 1 j = _
  cases j with
  | zero => rfl
  | succ n => rw [Nat.testBit_succ]; simp
def xb (k : Int → Int) (s x : Int) : Prop := bt (k (4 * s + x / 64)) (x % 64).toNat = true
def MK (k : Int → Int) (s x : Int) : Int → Int := upI k (4 * s + x / 64) (or64 (k (4 * s + x / 64)) (shl64 1 (x % 64)))
theorem xb_MK {k : Int → Int} {s x y : Int} (x0 : 0 ≤ x) (y0 : 0 ≤ y) : xb (MK k s x) s y ↔ xb k s y ∨ y = x := by
  unfold xb MK
  by_cases e : y / 64 = x / 64
  · rw [e, upI_s, bt_or, show x % 64 = (((x % 64).toNat : Nat) : Int) by omega, bt_shl 1 (by omega) (by omega), bt_1]
    simp only [Bool.or_eq_true, Bool.and_eq_true, decide_eq_true_eq]
    constructor
    · intro h
      rcases h with h | ⟨h1, h2⟩
      · exact Or.inl h
      · exact Or.inr (by omega)
    · intro h
      rcases h with h | h
      · exact Or.inl h
      · exact Or.inr ⟨by omega, by omega⟩
  · rw [upI_n (by omega)]
    constructor
    · exact Or.inl
    · intro h
      rcases h with h | h
      · exact h
      · rw [h] at e
        exact absurd rfl e
theorem MK_o {k : Int → Int} {s x r : Int} (x0 : 0 ≤ x) (x1 : x < 256) (hr : r < 4 * s ∨ 4 * s + 4 ≤ r) : MK k s x r = k r := by
  unfold MK
  rw [upI_n (by omega)]
variable {K M : mR} {s : Int}
theorem mk_i {x : Int} (s0 : 0 ≤ s) (s1 : s < 48) (x0 : 0 ≤ x) (x1 : x < 256) : cut ((cut (s * 4)) + x.tdiv 64) = 4 * s + x / 64 := by
  rw [Int.tdiv_eq_ediv_of_nonneg x0, cut_i (show -2147483648 ≤ s * 4 by omega) (by omega), cut_i (by omega) (by omega)]
  omega
theorem mark60 {x : Int} (s0 : 0 ≤ s) (s1 : s < 48) (x0 : 0 ≤ x) (x1 : x < 256) : kf_sp_mark_b60 s x K = some (0, mO K [] [(60, MK (K.2 60) s x)]) := by
  unfold kf_sp_mark_b60
  rw [mk_i s0 s1 x0 x1, Int.tmod_eq_emod_of_nonneg x0]
  rfl
theorem mark61 {x : Int} (s0 : 0 ≤ s) (s1 : s < 48) (x0 : 0 ≤ x) (x1 : x < 256) : kf_sp_mark_b61 s x K = some (0, mO K [] [(61, MK (K.2 61) s x)]) := by
  unfold kf_sp_mark_b61
  rw [mk_i s0 s1 x0 x1, Int.tmod_eq_emod_of_nonneg x0]
  rfl
theorem upI_dup {f : Int → Int} {i x : Int} : upI (upI f i x) i x = upI f i x := by
  funext j
  by_cases e : j = i
  · rw [e, upI_s, upI_s]
  · rw [upI_n e]
/-- a field that its header doesn't have, of an instance whose validity is written -/
def XF (M0 : mR) (x : Int) : Prop := x < 204 ∧ x % 17 ≠ 0 ∧ M0.2 29 (M0.2 34 (x / 17)) ≤ x % 17 - 1
def SR1 (s : Int) (K0 M0 : mR) (k60 m135 : Int → Int) : Prop := (∀ r, (r < 4 * s ∨ 4 * s + 4 ≤ r) → k60 r = K0.2 60 r) ∧ (∀ x, 0 ≤ x → x < 221 → (xb k60 s x ↔ m135 (221 * s + th x) ≠ 0)) ∧ (∀ x, 0 ≤ x → x < 204 → x % 17 ≠ 0 → m135 (221 * s + th x) ≠ 0 → x % 17 - 1 < M0.2 29 (M0.2 34 (x / 17))) ∧ ∀ x, 221 ≤ x → x < 256 → ¬ xb k60 s x
def SW1 (s : Int) (K0 M0 : mR) (k61 m136 : Int → Int) : Prop := (∀ r, (r < 4 * s ∨ 4 * s + 4 ≤ r) → k61 r = K0.2 61 r) ∧ (∀ x, 0 ≤ x → x < 221 → (xb k61 s x ↔ (m136 (221 * s + th x) ≠ 0 ∨ (XF M0 x ∧ m136 (221 * s + 192 + x / 17) ≠ 0)))) ∧ (∀ x, 0 ≤ x → x < 204 → x % 17 ≠ 0 → m136 (221 * s + th x) ≠ 0 → x % 17 - 1 < M0.2 29 (M0.2 34 (x / 17))) ∧ ∀ x, 221 ≤ x → x < 256 → ¬ xb k61 s x
def SA1 (s : Int) (K0 : mR) (k62 m137 : Int → Int) : Prop := (∀ r, r ≠ s → k62 r = K0.2 62 r) ∧ (∀ a, 0 ≤ a → a < 32 → (btt (k62 s) a ↔ (a < 8 ∧ m137 (8 * s + a) ≠ 0)))
variable {K0 M0 : mR} {k60 k61 k62 m135 m136 m137 : Int → Int}
theorem SET_r (h : SR1 s K0 M0 k60 m135) {x : Int} (x0 : 0 ≤ x) (x1 : x < 221) (hf : x < 204 → x % 17 ≠ 0 → x % 17 - 1 < M0.2 29 (M0.2 34 (x / 17))) : SR1 s K0 M0 (MK k60 s x) (upI m135 (221 * s + th x) 1) := by
  obtain ⟨a1, a5, a8, a9⟩ := h
  refine ⟨fun r hr => (MK_o x0 (by omega) hr).trans (a1 r hr), fun y y0 y1 => ?_, fun y y0 y1 yn hy => ?_, fun y y0 y1 => by rw [xb_MK x0 (by omega)]; exact fun q => q.elim (a9 y y0 y1) (by omega)⟩
  · rw [xb_MK x0 y0, a5 y y0 y1]
    by_cases e : y = x
    · subst e
      rw [upI_s]
      exact ⟨fun _ => by decide, fun _ => Or.inr rfl⟩
    · rw [upI_n (fun q => e (th_inj y0 y1 x0 x1 (by omega)))]
      exact ⟨fun q => q.elim id (fun w => absurd w e), Or.inl⟩
  · by_cases e : y = x
    · subst e
      exact hf y1 yn
    · rw [upI_n (fun q => e (th_inj y0 (by omega) x0 x1 (by omega)))] at hy
      exact a8 y y0 y1 yn hy
theorem SET_w (h : SW1 s K0 M0 k61 m136) {x : Int} (x0 : 0 ≤ x) (x1 : x < 221) (hv : x < 204 → x % 17 ≠ 0) (hf : x < 204 → x % 17 ≠ 0 → x % 17 - 1 < M0.2 29 (M0.2 34 (x / 17))) : SW1 s K0 M0 (MK k61 s x) (upI m136 (221 * s + th x) 1) := by
  obtain ⟨a1, a6, a8, a9⟩ := h
  refine ⟨fun r hr => (MK_o x0 (by omega) hr).trans (a1 r hr), fun y y0 y1 => ?_, fun y y0 y1 yn hy => ?_, fun y y0 y1 => by rw [xb_MK x0 (by omega)]; exact fun q => q.elim (a9 y y0 y1) (by omega)⟩
  · rw [xb_MK x0 y0, a6 y y0 y1]
    have hn : y < 204 → upI m136 (221 * s + th x) 1 (221 * s + 192 + y / 17) = m136 (221 * s + 192 + y / 17) := by
      intro hy
      apply upI_n
      rcases th_c x with ⟨b1, b2, b3⟩ | ⟨b1, b2, b3⟩ | ⟨b1, b3⟩
      · exact absurd b2 (hv b1)
      · rw [b3]; omega
      · rw [b3]; omega
    by_cases e : y = x
    · subst e
      rw [upI_s]
      exact ⟨fun _ => Or.inl (by decide), fun _ => Or.inr rfl⟩
    · rw [upI_n (fun q => e (th_inj y0 y1 x0 x1 (by omega)))]
      constructor
      · intro q
        rcases q with (q | ⟨q1, q2⟩) | q
        · exact Or.inl q
        · exact Or.inr ⟨q1, by rw [hn q1.1]; exact q2⟩
        · exact absurd q e
      · intro q
        rcases q with q | ⟨q1, q2⟩
        · exact Or.inl (Or.inl q)
        · exact Or.inl (Or.inr ⟨q1, by rw [hn q1.1] at q2; exact q2⟩)
  · by_cases e : y = x
    · subst e
      exact hf y1 yn
    · rw [upI_n (fun q => e (th_inj y0 (by omega) x0 x1 (by omega)))] at hy
      exact a8 y y0 y1 yn hy
/-- add and take -/
theorem SET_a (h : SW1 s K0 M0 k61 m136) {i n : Int} {k61' m136' : Int → Int} (i0 : 0 ≤ i) (i1 : i < 12) (hn : n = M0.2 29 (M0.2 34 i)) (n0 : 0 ≤ n) (n1 : n ≤ 16) (hk : ∀ y, 0 ≤ y → (xb k61' s y ↔ xb k61 s y ∨ (17 * i ≤ y ∧ y ≤ 17 * i + 16))) (hr : ∀ r, (r < 4 * s ∨ 4 * s + 4 ≤ r) → k61' r = k61 r) (hm : ∀ y, m136' y = if y = 221 * s + 192 + i ∨ (221 * s + 16 * i ≤ y ∧ y < 221 * s + 16 * i + n) then 1 else m136 y) : SW1 s K0 M0 k61' m136' := by
  obtain ⟨a1, a6, a8, a9⟩ := h
  refine ⟨fun r h => (hr r h).trans (a1 r h), fun y y0 y1 => ?_, fun y y0 y1 yn hy => ?_, fun y y0 y1 => by rw [hk y (by omega)]; exact fun q => q.elim (a9 y y0 y1) (by omega)⟩
  · rw [hk y y0, a6 y y0 y1, hm, hm]
    by_cases g : y < 204
    · by_cases e : y / 17 = i
      · constructor
        · intro _
          by_cases v : y % 17 = 0
          · exact Or.inl (by rw [if_pos (Or.inl (by rw [th_v g v]; omega))]; decide)
          · by_cases f : y % 17 - 1 < n
            · exact Or.inl (by rw [if_pos (Or.inr (by rw [th_f g v]; omega))]; decide)
            · exact Or.inr ⟨⟨g, v, by rw [e, ← hn]; omega⟩, by rw [if_pos (Or.inl (by omega))]; decide⟩
        · intro _
          exact Or.inr (by omega)
      · have n1' : ¬ (221 * s + th y = 221 * s + 192 + i ∨ (221 * s + 16 * i ≤ 221 * s + th y ∧ 221 * s + th y < 221 * s + 16 * i + n)) := by
          rcases th_c y with ⟨b1, b2, b3⟩ | ⟨b1, b2, b3⟩ | ⟨b1, b3⟩ <;> rw [b3] <;> omega
        rw [if_neg n1', if_neg (by omega)]
        constructor
        · intro q
          rcases q with q | q
          · exact q
          · omega
        · exact Or.inl
    · have ex : ¬ XF M0 y := fun q => g q.1
      have n1' : ¬ (221 * s + th y = 221 * s + 192 + i ∨ (221 * s + 16 * i ≤ 221 * s + th y ∧ 221 * s + th y < 221 * s + 16 * i + n)) := by
        rw [th_m (by omega)]; omega
      rw [if_neg n1']
      constructor
      · intro q
        rcases q with (q | q) | q
        · exact Or.inl q
        · exact absurd q.1 ex
        · omega
      · intro q
        rcases q with q | q
        · exact Or.inl (Or.inl q)
        · exact absurd q.1 ex
  · by_cases c : 221 * s + th y = 221 * s + 192 + i ∨ (221 * s + 16 * i ≤ 221 * s + th y ∧ 221 * s + th y < 221 * s + 16 * i + n)
    · rw [th_f y1 yn] at c
      have e : y / 17 = i := by omega
      rw [e, ← hn]
      omega
    · rw [hm, if_neg c] at hy
      exact a8 y y0 y1 yn hy
theorem btt_sh9 : ∀ g : Nat, g < 8 → ∀ b : Nat, b < 32 → (and32 (ushr32 (shl32 1 (g : Int)) (b : Int)) 1 = 0 ↔ b ≠ g) := by decide +kernel
theorem btt_s8 {g b : Int} (g0 : 0 ≤ g) (g1 : g < 8) (b0 : 0 ≤ b) (b1 : b < 32) : btt (shl32 1 g) b ↔ b = g := by
  have q := btt_sh9 g.toNat (by omega) b.toNat (by omega)
  rw [show ((g.toNat : Nat) : Int) = g by omega, show ((b.toNat : Nat) : Int) = b by omega] at q
  unfold btt
  rw [q]
  omega
theorem btt_09 : ∀ b : Nat, b < 32 → and32 (ushr32 0 (b : Int)) 1 = 0 := by decide +kernel
theorem btt_z {b : Int} (b0 : 0 ≤ b) (b1 : b < 32) : ¬ btt 0 b := by
  have q := btt_09 b.toNat (by omega)
  rw [show ((b.toNat : Nat) : Int) = b by omega] at q
  exact fun h => h q
theorem SET_y (h : SA1 s K0 k62 m137) {a : Int} (a0 : 0 ≤ a) (a1 : a < 8) : SA1 s K0 (upI k62 s (or32 (k62 s) (shl32 1 a))) (upI m137 (8 * s + a) 1) := by
  obtain ⟨b2, b7⟩ := h
  refine ⟨fun r hr => by rw [upI_n hr]; exact b2 r hr, fun y y0 y1 => ?_⟩
  rw [upI_s, btt_or y0 y1, btt_s8 a0 a1 y0 y1, b7 y y0 y1]
  by_cases e : y = a
  · subst e
    rw [upI_s]
    exact ⟨fun _ => ⟨a1, by decide⟩, fun _ => Or.inr rfl⟩
  · rw [upI_n (by omega)]
    exact ⟨fun q => q.elim id (fun w => absurd w e), Or.inl⟩
/-- empty rows -/
theorem SR_0 (h1 : ∀ r, (r < 4 * s ∨ 4 * s + 4 ≤ r) → k60 r = K0.2 60 r) (h3 : ∀ j, 0 ≤ j → j < 4 → k60 (4 * s + j) = 0) (h5 : ∀ y, 0 ≤ y → y < 221 → m135 (221 * s + y) = 0) : SR1 s K0 M0 k60 m135 := by
  refine ⟨h1, fun x x0 x1 => ?_, fun x x0 x1 xn hx => ?_, fun x x0 x1 => by unfold xb; rw [h3 (x / 64) (by omega) (by omega), bt_0]; exact fun q => by cases q⟩
  · unfold xb
    rw [h3 (x / 64) (by omega) (by omega), h5 _ (th_r x0 x1).1 (th_r x0 x1).2, bt_0]
    exact ⟨(fun q => by cases q), fun q => absurd rfl q⟩
  · rw [h5 _ (th_r x0 (show x < 221 by omega)).1 (th_r x0 (by omega)).2] at hx
    exact absurd rfl hx
theorem SW_0 (h1 : ∀ r, (r < 4 * s ∨ 4 * s + 4 ≤ r) → k61 r = K0.2 61 r) (h3 : ∀ j, 0 ≤ j → j < 4 → k61 (4 * s + j) = 0) (h5 : ∀ y, 0 ≤ y → y < 221 → m136 (221 * s + y) = 0) : SW1 s K0 M0 k61 m136 := by
  refine ⟨h1, fun x x0 x1 => ?_, fun x x0 x1 xn hx => ?_, fun x x0 x1 => by unfold xb; rw [h3 (x / 64) (by omega) (by omega), bt_0]; exact fun q => by cases q⟩
  · unfold xb
    rw [h3 (x / 64) (by omega) (by omega), h5 _ (th_r x0 x1).1 (th_r x0 x1).2, bt_0]
    refine ⟨(fun q => by cases q), fun q => ?_⟩
    rcases q with q | ⟨q1, q2⟩
    · exact absurd rfl q
    · have := q1.1
      rw [Int.add_assoc, h5 (192 + x / 17) (by omega) (by omega)] at q2
      exact absurd rfl q2
  · rw [h5 _ (th_r x0 (show x < 221 by omega)).1 (th_r x0 (by omega)).2] at hx
    exact absurd rfl hx
theorem SA_0 (h2 : ∀ r, r ≠ s → k62 r = K0.2 62 r) (h4 : k62 s = 0) (h6 : ∀ a, 0 ≤ a → a < 8 → m137 (8 * s + a) = 0) : SA1 s K0 k62 m137 := by
  refine ⟨h2, fun a a0 a1 => ?_⟩
  rw [h4]
  exact ⟨fun q => absurd q (btt_z a0 a1), fun q => absurd (h6 a a0 q.1) q.2⟩
end STS
