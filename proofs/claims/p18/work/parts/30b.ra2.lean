/-! ===== THE LEXERS: what each loop does ===== -/
theorem bnd_some {α β : Type} (x : α) (f : α → Option β) : bnd (some x) f = f x := rfl
theorem mO_1 (K : mR) (k : Nat) : mO K [(k, K.1 k)] [] = K := (mO_pad K [k] []).symm
def bA (m : mR) (p : Int) : Int := if m.1 6 ≤ p then -1 else m.2 4 p
theorem byteAt_eq (v : Int) (m : mR) : rf_byteAt1 v m = some (bA m v) := by
  unfold rf_byteAt1 rfl_byteAt1_18 bA
  split <;> rfl
theorem bA_eq {m : mR} {p c : Int} (h : bA m p = c) (hc : c ≠ -1) : p < m.1 6 ∧ m.2 4 p = c := by
  unfold bA at h
  split at h
  · exact absurd h.symm hc
  · exact ⟨by omega, h⟩
theorem bA_in {m : mR} {p : Int} (h : p < m.1 6) : bA m p = m.2 4 p := if_neg (by omega)
theorem bA_out {m : mR} {p : Int} (h : m.1 6 ≤ p) : bA m p = -1 := if_pos h
def smallP (c : Int) : Prop := 97 ≤ c ∧ c ≤ 122
def digP (c : Int) : Prop := 48 ≤ c ∧ c ≤ 57
def namP (c : Int) : Prop := smallP c ∨ digP c ∨ c = 95
def hexP (c : Int) : Prop := digP c ∨ (97 ≤ c ∧ c ≤ 102)
def wsP (c : Int) : Prop := c = 32 ∨ c = 10
def hexV (c : Int) : Int := if c ≤ 57 then c - 48 else c - 87
theorem isSmall_1 {v : Int} (h : smallP v) : rf_isSmall v = some 1 := by
  unfold rf_isSmall rfl_isSmall_17
  obtain ⟨h1, h2⟩ := h
  rw [if_neg (by omega), if_neg (by omega)]
theorem isSmall_0 {v : Int} (h : ¬ smallP v) : rf_isSmall v = some 0 := by
  unfold rf_isSmall rfl_isSmall_17
  by_cases h1 : v < 97
  · rw [if_pos h1]
  · rw [if_neg h1, if_pos (by unfold smallP at h; omega)]
theorem isDigit_1 {v : Int} (h : digP v) : rf_isDigit v = some 1 := by
  unfold rf_isDigit rfl_isDigit_17
  obtain ⟨h1, h2⟩ := h
  rw [if_neg (by omega), if_neg (by omega)]
theorem isDigit_0 {v : Int} (h : ¬ digP v) : rf_isDigit v = some 0 := by
  unfold rf_isDigit rfl_isDigit_17
  by_cases h1 : v < 48
  · rw [if_pos h1]
  · rw [if_neg h1, if_pos (by unfold digP at h; omega)]
theorem hex_1 {v : Int} (h : hexP v) : rf_hex v = some (hexV v) := by
  unfold rf_hex rfl_hex_37 hexV
  by_cases hd : digP v
  · rw [isDigit_1 hd, bnd_some, if_neg (by decide), if_pos hd.2, cut_i (by have := hd.1; omega) (by have := hd.2; omega)]
  · have h2 : 97 ≤ v ∧ v ≤ 102 := by
      rcases h with h | h
      · exact absurd h hd
      · exact h
    rw [isDigit_0 hd, bnd_some, if_pos rfl, if_neg (by omega), if_neg (by omega), if_neg (by omega), cut_i (z := v - 97) (by omega) (by omega), cut_i (by omega) (by omega)]
    congr 1
    omega
theorem hex_0 {v : Int} (h : ¬ hexP v) : rf_hex v = some (-1) := by
  unfold rf_hex rfl_hex_37
  rw [isDigit_0 (fun hd => h (Or.inl hd)), bnd_some, if_pos rfl]
  by_cases h1 : v < 97
  · rw [if_pos h1]
  · rw [if_neg h1, if_pos (by
      apply Classical.byContradiction
      intro hn
      exact h (Or.inr ⟨by omega, by omega⟩))]
theorem hexV_r {v : Int} (h : hexP v) : 0 ≤ hexV v ∧ hexV v ≤ 15 := by
  unfold hexV
  rcases h with ⟨h1, h2⟩ | ⟨h1, h2⟩
  · rw [if_pos h2]
    omega
  · rw [if_neg (by omega)]
    omega
/-- the reference's text -/
def SRC (m : mR) : Prop := 0 ≤ m.1 6 ∧ m.1 6 ≤ 4000 ∧ ∀ i, 0 ≤ m.2 4 i ∧ m.2 4 i ≤ 255
theorem ws_r {m : mR} (hS : SRC m) {p : Int} (p0 : 0 ≤ p) (p1 : p ≤ m.1 6) : RP (whl rfb_next_21 (mO m [(8, p)] [])) (fun e => ∃ q, e = mO m [(8, q)] [] ∧ Run (fun i => wsP (m.2 4 i)) (m.1 6) p q) := by
  obtain ⟨s0, s1, s2⟩ := hS
  refine RP_whl (I := fun s => ∃ q, s = mO m [(8, q)] [] ∧ p ≤ q ∧ q ≤ m.1 6 ∧ ∀ i, p ≤ i → i < q → wsP (m.2 4 i)) (fun s hs => ?_) ⟨p, rfl, by omega, p1, fun i h1 h2 => by omega⟩
  obtain ⟨q, rfl, q0, q1, qa⟩ := hs
  unfold rfb_next_21 rfl_next_47
  rw [byteAt_eq, bnd_some, bnd_some]
  have step : wsP (m.2 4 q) → q < m.1 6 → RP (some (Sum.inl (mO (mO m [(8, q)] []) [(8, cut ((mO m [(8, q)] []).1 8 + 1))] [])) : Option (Sum mR mR)) (sel (fun s => ∃ q, s = mO m [(8, q)] [] ∧ p ≤ q ∧ q ≤ m.1 6 ∧ ∀ i, p ≤ i → i < q → wsP (m.2 4 i)) (fun e => ∃ q, e = mO m [(8, q)] [] ∧ Run (fun i => wsP (m.2 4 i)) (m.1 6) p q)) := by
    intro hw hq
    refine RP_some ⟨q + 1, ?_, by omega, by omega, fun i h1 h2 => ?_⟩
    · rw [mO_f, show (mO m [(8, q)] []).1 8 = q from rfl, cut_i (by omega) (by omega)]
      rfl
    · by_cases h3 : i < q
      · exact qa i h1 h3
      · rw [show i = q by omega]
        exact hw
  refine RP_ite (fun h => ?_) (fun h => ?_)
  · obtain ⟨a1, a2⟩ := bA_eq h (by decide)
    exact step (Or.inl a2) a1
  · refine RP_ite (fun g => ?_) (fun g => ?_)
    · obtain ⟨a1, a2⟩ := bA_eq g (by decide)
      exact step (Or.inr a2) a1
    · refine RP_some ⟨q, rfl, q0, q1, qa, fun hq hw => ?_⟩
      have e : bA (mO m [(8, q)] []) ((mO m [(8, q)] []).1 8) = m.2 4 q := bA_in (m := mO m [(8, q)] []) (p := q) hq
      rcases hw with hw | hw
      · exact h (e.trans hw)
      · exact g (e.trans hw)
theorem lx_nr {m : mR} (hS : SRC m) {p : Int} (h8 : m.1 8 = p) (p0 : 0 ≤ p) (p1 : p < m.1 6) (hp : namP (m.2 4 p)) : RP (whl rfb_look_34 (mO m [(9, 1)] [])) (fun e => ∃ q, e = mO m [(9, q - p)] [] ∧ p < q ∧ Run (fun i => namP (m.2 4 i)) (m.1 6) p q) := by
  obtain ⟨s0, s1, s2⟩ := hS
  refine RP_whl (I := fun s => ∃ q, s = mO m [(9, q - p)] [] ∧ p < q ∧ q ≤ m.1 6 ∧ ∀ i, p ≤ i → i < q → namP (m.2 4 i)) (fun s hs => ?_) ⟨p + 1, by rw [show p + 1 - p = 1 by omega], by omega, by omega, fun i h1 h2 => by rw [show i = p by omega]; exact hp⟩
  obtain ⟨q, rfl, q0, q1, qa⟩ := hs
  unfold rfb_look_34 rfl_look_90
  have ei : cut ((mO m [(9, q - p)] []).1 8 + (mO m [(9, q - p)] []).1 9) = q := by
    show cut (m.1 8 + (q - p)) = q
    rw [h8, cut_i (by omega) (by omega)]
    omega
  simp only [ei, byteAt_eq, bnd_some]
  have step : namP (m.2 4 q) → q < m.1 6 → RP (some (Sum.inl (mO (mO m [(9, q - p)] []) [(9, cut ((mO m [(9, q - p)] []).1 9 + 1))] [])) : Option (Sum mR mR)) (sel (fun s => ∃ q, s = mO m [(9, q - p)] [] ∧ p < q ∧ q ≤ m.1 6 ∧ ∀ i, p ≤ i → i < q → namP (m.2 4 i)) (fun e => ∃ q, e = mO m [(9, q - p)] [] ∧ p < q ∧ Run (fun i => namP (m.2 4 i)) (m.1 6) p q)) := by
    intro hw hq
    refine RP_some ⟨q + 1, ?_, by omega, by omega, fun i h1 h2 => ?_⟩
    · rw [mO_f, show (mO m [(9, q - p)] []).1 9 = q - p from rfl, cut_i (by omega) (by omega), show q + 1 - p = q - p + 1 by omega]
      rfl
    · by_cases h3 : i < q
      · exact qa i h1 h3
      · rw [show i = q by omega]
        exact hw
  have eb : q < m.1 6 → bA (mO m [(9, q - p)] []) q = m.2 4 q := fun hq => bA_in (m := mO m [(9, q - p)] []) (p := q) hq
  have eo : ¬ q < m.1 6 → bA (mO m [(9, q - p)] []) q = -1 := fun hq => bA_out (m := mO m [(9, q - p)] []) (p := q) (show m.1 6 ≤ q by omega)
  have fin : (q < m.1 6 → ¬ namP (m.2 4 q)) → RP (some (Sum.inr (mO m [(9, q - p)] [])) : Option (Sum mR mR)) (sel (fun s => ∃ q, s = mO m [(9, q - p)] [] ∧ p < q ∧ q ≤ m.1 6 ∧ ∀ i, p ≤ i → i < q → namP (m.2 4 i)) (fun e => ∃ q, e = mO m [(9, q - p)] [] ∧ p < q ∧ Run (fun i => namP (m.2 4 i)) (m.1 6) p q)) := fun hn => RP_some ⟨q, rfl, q0, by omega, q1, qa, hn⟩
  by_cases hq : q < m.1 6
  · rw [eb hq]
    by_cases h1 : smallP (m.2 4 q)
    · rw [isSmall_1 h1, bnd_some, if_neg (by decide)]
      exact step (Or.inl h1) hq
    · rw [isSmall_0 h1, bnd_some, if_pos rfl]
      by_cases h2 : digP (m.2 4 q)
      · rw [isDigit_1 h2, bnd_some, if_neg (by decide)]
        exact step (Or.inr (Or.inl h2)) hq
      · rw [isDigit_0 h2, bnd_some, if_pos rfl]
        refine RP_ite (fun h3 => step (Or.inr (Or.inr h3)) hq) (fun h3 => fin (fun _ hn => ?_))
        rcases hn with hn | hn | hn
        · exact h1 hn
        · exact h2 hn
        · exact h3 hn
  · rw [eo hq, isSmall_0 (by unfold smallP; omega), bnd_some, if_pos rfl, isDigit_0 (by unfold digP; omega), bnd_some, if_pos rfl, if_neg (by decide)]
    exact fin (fun h => absurd h hq)
/-! the numbers' values -/
theorem i64_ca (a b : Int) : cutl (cutl a + b) = cutl (a + b) := by
  unfold cutl
  rw [← i64_add, show i64 ((i64 a).toInt) = i64 a from Int64.ofInt_toInt _, i64_add]
theorem i64_cs (a b : Int) : cutl (cutl a - b) = cutl (a - b) := by
  unfold cutl
  rw [← i64_sub, show i64 ((i64 a).toInt) = i64 a from Int64.ofInt_toInt _, i64_sub]
def decV (f : Int → Int) (p : Int) (n : Nat) : Int := match n with
  | 0 => 0
  | n + 1 => cutl (10 * decV f p n + (f (p + n) - 48))
def hxV (f : Int → Int) (p : Int) (n : Nat) : Int := match n with
  | 0 => 0
  | n + 1 => or64 (shl64 (hxV f p n) 4) (hexV (f (p + n)))
theorem dc_r {m : mR} (hS : SRC m) {p : Int} (h8 : m.1 8 = p) (p0 : 0 ≤ p) (p1 : p ≤ m.1 6) : RP (whl (rfb_lookNumber_52 0) (mO m [(9, 0), (12, 0)] [])) (fun e => ∃ n : Nat, e = mO m [(9, (n : Int)), (12, decV (m.2 4) p n)] [] ∧ Run (fun i => digP (m.2 4 i)) (m.1 6) p (p + n)) := by
  obtain ⟨s0, s1, s2⟩ := hS
  refine RP_whl (I := fun s => ∃ n : Nat, s = mO m [(9, (n : Int)), (12, decV (m.2 4) p n)] [] ∧ p + n ≤ m.1 6 ∧ ∀ i, p ≤ i → i < p + n → digP (m.2 4 i)) (fun s hs => ?_) ⟨0, rfl, by omega, fun i h1 h2 => by omega⟩
  obtain ⟨n, rfl, q1, qa⟩ := hs
  unfold rfb_lookNumber_52 rfl_lookNumber_97 rfl_lookNumber_156
  rw [if_pos rfl, if_pos rfl]
  have ei : cut ((mO m [(9, (n : Int)), (12, decV (m.2 4) p n)] []).1 8 + (mO m [(9, (n : Int)), (12, decV (m.2 4) p n)] []).1 9) = p + n := by
    show cut (m.1 8 + (n : Int)) = p + n
    rw [h8, cut_i (by omega) (by omega)]
  rw [ei, byteAt_eq, bnd_some, bnd_some]
  by_cases hq : p + n < m.1 6
  · have eb : bA (mO m [(9, (n : Int)), (12, decV (m.2 4) p n)] []) (p + n) = m.2 4 (p + n) := bA_in (m := mO m [(9, (n : Int)), (12, decV (m.2 4) p n)] []) (p := p + n) hq
    rw [eb]
    by_cases h2 : digP (m.2 4 (p + n))
    · rw [isDigit_1 h2, bnd_some, if_neg (by decide)]
      refine RP_some ⟨n + 1, ?_, by omega, fun i h1 h3 => ?_⟩
      · rw [mO_mO _ _ _ _ _ (srt_ok rfl) (srt_ok rfl), show (mO m [(9, (n : Int)), (12, decV (m.2 4) p n)] []).1 9 = (n : Int) from rfl, show (mO m [(9, (n : Int)), (12, decV (m.2 4) p n)] []).1 12 = decV (m.2 4) p n from rfl, cut_i (by omega) (by omega), i64_ca, i64_cs, show 10 * decV (m.2 4) p n + m.2 4 (p + n) - 48 = 10 * decV (m.2 4) p n + (m.2 4 (p + n) - 48) by omega]
        rfl
      · by_cases h4 : i < p + n
        · exact qa i h1 h4
        · rw [show i = p + n by omega]
          exact h2
    · rw [isDigit_0 h2, bnd_some, if_pos rfl]
      exact RP_some ⟨n, rfl, by omega, q1, qa, fun _ => h2⟩
  · have eb : bA (mO m [(9, (n : Int)), (12, decV (m.2 4) p n)] []) (p + n) = -1 := bA_out (m := mO m [(9, (n : Int)), (12, decV (m.2 4) p n)] []) (p := p + n) (show m.1 6 ≤ p + n by omega)
    rw [eb, isDigit_0 (by unfold digP; omega), bnd_some, if_pos rfl]
    exact RP_some ⟨n, rfl, by omega, q1, qa, fun h => absurd h hq⟩
theorem hx_r {m : mR} (hS : SRC m) {p v : Int} (h8 : m.1 8 = p) (p0 : 0 ≤ p) (p1 : p + 2 ≤ m.1 6) (hv : v ≠ 0) : RP (whl (rfb_lookNumber_52 v) (mO m [(9, 2), (12, 0)] [])) (fun e => ∃ n : Nat, e = mO m [(9, (n : Int) + 2), (12, hxV (m.2 4) (p + 2) n)] [] ∧ Run (fun i => hexP (m.2 4 i)) (m.1 6) (p + 2) (p + 2 + n)) := by
  obtain ⟨s0, s1, s2⟩ := hS
  refine RP_whl (I := fun s => ∃ n : Nat, s = mO m [(9, (n : Int) + 2), (12, hxV (m.2 4) (p + 2) n)] [] ∧ p + 2 + n ≤ m.1 6 ∧ ∀ i, p + 2 ≤ i → i < p + 2 + n → hexP (m.2 4 i)) (fun s hs => ?_) ⟨0, rfl, by omega, fun i h1 h2 => by omega⟩
  obtain ⟨n, rfl, q1, qa⟩ := hs
  unfold rfb_lookNumber_52 rfl_lookNumber_97 rfl_lookNumber_156
  rw [if_neg hv, if_neg hv]
  have ei : cut ((mO m [(9, (n : Int) + 2), (12, hxV (m.2 4) (p + 2) n)] []).1 8 + (mO m [(9, (n : Int) + 2), (12, hxV (m.2 4) (p + 2) n)] []).1 9) = p + 2 + n := by
    show cut (m.1 8 + ((n : Int) + 2)) = p + 2 + n
    rw [h8, cut_i (by omega) (by omega)]
    omega
  rw [ei, byteAt_eq, bnd_some, bnd_some]
  by_cases hq : p + 2 + n < m.1 6
  · have eb : bA (mO m [(9, (n : Int) + 2), (12, hxV (m.2 4) (p + 2) n)] []) (p + 2 + n) = m.2 4 (p + 2 + n) := bA_in (m := mO m [(9, (n : Int) + 2), (12, hxV (m.2 4) (p + 2) n)] []) (p := p + 2 + n) hq
    rw [eb]
    by_cases h2 : hexP (m.2 4 (p + 2 + n))
    · rw [hex_1 h2, bnd_some, if_neg (by have := (hexV_r h2).1; omega), bnd_some]
      refine RP_some ⟨n + 1, ?_, by omega, fun i h1 h3 => ?_⟩
      · rw [mO_mO _ _ _ _ _ (srt_ok rfl) (srt_ok rfl), show (mO m [(9, (n : Int) + 2), (12, hxV (m.2 4) (p + 2) n)] []).1 9 = (n : Int) + 2 from rfl, show (mO m [(9, (n : Int) + 2), (12, hxV (m.2 4) (p + 2) n)] []).1 12 = hxV (m.2 4) (p + 2) n from rfl, cut_i (by omega) (by omega), show ((n + 1 : Nat) : Int) + 2 = (n : Int) + 2 + 1 by omega]
        rfl
      · by_cases h4 : i < p + 2 + n
        · exact qa i h1 h4
        · rw [show i = p + 2 + n by omega]
          exact h2
    · rw [hex_0 h2, bnd_some, if_pos (by decide)]
      exact RP_some ⟨n, rfl, by omega, q1, qa, fun _ => h2⟩
  · have eb : bA (mO m [(9, (n : Int) + 2), (12, hxV (m.2 4) (p + 2) n)] []) (p + 2 + n) = -1 := bA_out (m := mO m [(9, (n : Int) + 2), (12, hxV (m.2 4) (p + 2) n)] []) (p := p + 2 + n) (show m.1 6 ≤ p + 2 + n by omega)
    rw [eb, hex_0 (by unfold hexP digP; omega), bnd_some, if_pos (by decide)]
    exact RP_some ⟨n, rfl, by omega, q1, qa, fun h => absurd h hq⟩
