theorem i2c_f : ∀ c : Fin 256, i2c32 (c.val : Int) = (c.val : Int) := by decide +kernel
theorem i2b_f : ∀ c : Fin 256, i2b32 (c.val : Int) = (if (c.val : Int) < 128 then (c.val : Int) else (c.val : Int) - 256) := by decide +kernel
theorem and_f : ∀ c : Fin 256, and32 ((c.val : Int) - 128) 255 = (if (c.val : Int) < 128 then (c.val : Int) + 128 else (c.val : Int) - 128) := by decide +kernel
theorem i2c_c {c : Int} (c0 : 0 ≤ c) (c1 : c ≤ 255) : i2c32 c = c := by
  have := i2c_f ⟨c.toNat, by omega⟩
  rw [show (((⟨c.toNat, by omega⟩ : Fin 256).val : Nat) : Int) = c by show ((c.toNat : Nat) : Int) = c; omega] at this
  exact this
theorem i2b_c {c : Int} (c0 : 0 ≤ c) (c1 : c ≤ 255) : i2b32 c = if c < 128 then c else c - 256 := by
  have := i2b_f ⟨c.toNat, by omega⟩
  rw [show (((⟨c.toNat, by omega⟩ : Fin 256).val : Nat) : Int) = c by show ((c.toNat : Nat) : Int) = c; omega] at this
  exact this
theorem and_c {b : Int} (b0 : -128 ≤ b) (b1 : b ≤ 127) : and32 b 255 = if b < 0 then b + 256 else b := by
  have := and_f ⟨(b + 128).toNat, by omega⟩
  rw [show (((⟨(b + 128).toNat, by omega⟩ : Fin 256).val : Nat) : Int) = b + 128 by show (((b + 128).toNat : Nat) : Int) = b + 128; omega, show b + 128 - 128 = b by omega] at this
  rw [this]
  by_cases h : b < 0
  · rw [if_pos (by omega), if_pos h]
    omega
  · rw [if_neg (by omega), if_neg h]
theorem sgS_r {L : List Int} (hL : L.all (fun d => decide (0 ≤ d) && decide (d < 128)) = true) {c : Int} (h : sgS L c = true) : 0 ≤ c ∧ c < 128 := by
  unfold sgS at h
  obtain ⟨d, hd, he⟩ := List.any_eq_true.mp h
  have he := of_decide_eq_true he
  have := List.all_eq_true.mp hL d hd
  rw [Bool.and_eq_true, decide_eq_true_eq, decide_eq_true_eq] at this
  omega
theorem sg7_n {c : Int} (h : c < 0) : sgS sg7 c = false := Bool.eq_false_iff.mpr (fun e => by have := sgS_r (L := sg7) (by decide) e; omega)
theorem sg7_h {c : Int} (h : 128 ≤ c) : sgS sg7 c = false := Bool.eq_false_iff.mpr (fun e => by have := sgS_r (L := sg7) (by decide) e; omega)
theorem sg8_n {c : Int} (h : c < 0) : sgS sg8 c = false := Bool.eq_false_iff.mpr (fun e => by have := sgS_r (L := sg8) (by decide) e; omega)
theorem sg8_h {c : Int} (h : 128 ≤ c) : sgS sg8 c = false := Bool.eq_false_iff.mpr (fun e => by have := sgS_r (L := sg8) (by decide) e; omega)
theorem sg9_n {c : Int} (h : c < 0) : sgS sg9 c = false := Bool.eq_false_iff.mpr (fun e => by have := sgS_r (L := sg9) (by decide) e; omega)
theorem sg9_h {c : Int} (h : 128 ≤ c) : sgS sg9 c = false := Bool.eq_false_iff.mpr (fun e => by have := sgS_r (L := sg9) (by decide) e; omega)
theorem ixc_7 {m : mR} {v : Int} : RP (kf_StringLatin1_indexOfChar_b10007 v 0 21 m) (fun r => (0 ≤ r ∧ sgS sg7 (i2b32 v) = true) ∨ (r = -1 ∧ sgS sg7 (i2b32 v) = false)) := by
  unfold kf_StringLatin1_indexOfChar_b10007
  refine RP_bnd (P := sel (fun k : Int => 0 ≤ k ∧ sgS sg7 (i2b32 v) = true) (fun _ : Unit => sgS sg7 (i2b32 v) = false)) ?_ (RP_sl (fun e he => RP_some (Or.inl he)) (fun e he => RP_some (Or.inr ⟨rfl, he⟩)))
  refine RP_whl (I := fun s : Int => 0 ≤ s ∧ s ≤ 21 ∧ ∀ i, 0 ≤ i → i < s → chr 7 i ≠ i2b32 v) (fun s hs => ?_) ⟨by decide, by decide, fun i a b => absurd b (by omega)⟩
  obtain ⟨a, b, c⟩ := hs
  unfold kfb_StringLatin1_indexOfChar_b10007_7
  have ch : ∀ i : Int, 0 ≤ i → i < 21 → chr 7 i = sg7.getD i.toNat 0 := by
    intro i i0 i1
    have := ix7 ⟨i.toNat, by omega⟩
    rw [show (((⟨i.toNat, by omega⟩ : Fin 21).val : Nat) : Int) = i by show ((i.toNat : Nat) : Int) = i; omega] at this
    exact this
  refine RP_ite (fun g => RP_some ?_) (fun g => ?_)
  · show sgS sg7 (i2b32 v) = false
    unfold sgS
    rw [List.any_eq_false]
    intro d hd h
    have h := of_decide_eq_true h
    obtain ⟨n, hn, he⟩ := List.mem_iff_getElem.mp hd
    have hn' : n < 21 := hn
    have := c (n : Int) (by omega) (by omega)
    rw [ch (n : Int) (by omega) (by omega), show ((n : Int).toNat) = n by omega, List.getD_eq_getElem?_getD, List.getElem?_eq_getElem hn, Option.getD_some, he] at this
    exact this h
  · refine RP_ite (fun g2 => RP_some ⟨a, ?_⟩) (fun g2 => ?_)
    · unfold sgS
      rw [List.any_eq_true]
      have hn : s.toNat < sg7.length := by show s.toNat < 21; omega
      refine ⟨sg7[s.toNat], List.getElem_mem hn, decide_eq_true ?_⟩
      rw [← g2, ch s a (by omega), List.getD_eq_getElem?_getD, List.getElem?_eq_getElem hn, Option.getD_some]
    · rw [cut_i (by omega) (by omega)]
      refine RP_some ⟨by omega, by omega, fun i i0 i1 => ?_⟩
      by_cases hi : i < s
      · exact c i i0 hi
      · rw [show i = s by omega]
        exact g2
theorem ixo_7 {m : mR} {c : Int} (c0 : 0 ≤ c) (c1 : c ≤ 255) : RP (kf_String_indexOf0_b20007 (i2c32 c) m) (fun r => (0 ≤ r ∧ sgS sg7 c = true) ∨ (r = -1 ∧ sgS sg7 c = false)) := by
  unfold kf_String_indexOf0_b20007 kf_String_indexOf1_b20007 kf_String_length_b20007
  rw [bnd_some, show shr32 21 0 = 21 by decide +kernel, i2c_c c0 c1]
  unfold kf_StringLatin1_indexOf_b10007 kf_StringLatin1_canEncode kfl_StringLatin1_canEncode_16
  rw [if_neg (by omega), if_neg (by omega), bnd_some, if_neg (by decide)]
  rw [show kf_Math_max 0 0 m = some 0 from rfl, bnd_some, show kf_Math_min 21 21 m = some 21 from rfl, bnd_some, if_pos (by decide)]
  refine RP_bnd (P := fun r => (0 ≤ r ∧ sgS sg7 c = true) ∨ (r = -1 ∧ sgS sg7 c = false)) (RP_bnd (P := fun r => (0 ≤ r ∧ sgS sg7 c = true) ∨ (r = -1 ∧ sgS sg7 c = false)) (RP_bnd (ixc_7 (v := c)) (fun r hr => RP_some ?_)) (fun r hr => RP_some hr)) (fun r hr => RP_some hr)
  by_cases h7 : c < 128
  · rw [i2b_c c0 c1, if_pos h7] at hr
    exact hr
  · rw [i2b_c c0 c1, if_neg h7] at hr
    have e1 : sgS sg7 (c - 256) = false := sg7_n (by omega)
    have e2 : sgS sg7 c = false := sg7_h (by omega)
    rcases hr with hr | hr
    · rw [e1] at hr
      exact absurd hr.2 (by decide)
    · exact Or.inr ⟨hr.1, e2⟩
theorem ixc_8 {m : mR} {v : Int} : RP (kf_StringLatin1_indexOfChar_b10008 v 0 6 m) (fun r => (0 ≤ r ∧ sgS sg8 (i2b32 v) = true) ∨ (r = -1 ∧ sgS sg8 (i2b32 v) = false)) := by
  unfold kf_StringLatin1_indexOfChar_b10008
  refine RP_bnd (P := sel (fun k : Int => 0 ≤ k ∧ sgS sg8 (i2b32 v) = true) (fun _ : Unit => sgS sg8 (i2b32 v) = false)) ?_ (RP_sl (fun e he => RP_some (Or.inl he)) (fun e he => RP_some (Or.inr ⟨rfl, he⟩)))
  refine RP_whl (I := fun s : Int => 0 ≤ s ∧ s ≤ 6 ∧ ∀ i, 0 ≤ i → i < s → chr 8 i ≠ i2b32 v) (fun s hs => ?_) ⟨by decide, by decide, fun i a b => absurd b (by omega)⟩
  obtain ⟨a, b, c⟩ := hs
  unfold kfb_StringLatin1_indexOfChar_b10008_7
  have ch : ∀ i : Int, 0 ≤ i → i < 6 → chr 8 i = sg8.getD i.toNat 0 := by
    intro i i0 i1
    have := ix8 ⟨i.toNat, by omega⟩
    rw [show (((⟨i.toNat, by omega⟩ : Fin 6).val : Nat) : Int) = i by show ((i.toNat : Nat) : Int) = i; omega] at this
    exact this
  refine RP_ite (fun g => RP_some ?_) (fun g => ?_)
  · show sgS sg8 (i2b32 v) = false
    unfold sgS
    rw [List.any_eq_false]
    intro d hd h
    have h := of_decide_eq_true h
    obtain ⟨n, hn, he⟩ := List.mem_iff_getElem.mp hd
    have hn' : n < 6 := hn
    have := c (n : Int) (by omega) (by omega)
    rw [ch (n : Int) (by omega) (by omega), show ((n : Int).toNat) = n by omega, List.getD_eq_getElem?_getD, List.getElem?_eq_getElem hn, Option.getD_some, he] at this
    exact this h
  · refine RP_ite (fun g2 => RP_some ⟨a, ?_⟩) (fun g2 => ?_)
    · unfold sgS
      rw [List.any_eq_true]
      have hn : s.toNat < sg8.length := by show s.toNat < 6; omega
      refine ⟨sg8[s.toNat], List.getElem_mem hn, decide_eq_true ?_⟩
      rw [← g2, ch s a (by omega), List.getD_eq_getElem?_getD, List.getElem?_eq_getElem hn, Option.getD_some]
    · rw [cut_i (by omega) (by omega)]
      refine RP_some ⟨by omega, by omega, fun i i0 i1 => ?_⟩
      by_cases hi : i < s
      · exact c i i0 hi
      · rw [show i = s by omega]
        exact g2
theorem ixo_8 {m : mR} {c : Int} (c0 : 0 ≤ c) (c1 : c ≤ 255) : RP (kf_String_indexOf0_b20008 (i2c32 c) m) (fun r => (0 ≤ r ∧ sgS sg8 c = true) ∨ (r = -1 ∧ sgS sg8 c = false)) := by
  unfold kf_String_indexOf0_b20008 kf_String_indexOf1_b20008 kf_String_length_b20008
  rw [bnd_some, show shr32 6 0 = 6 by decide +kernel, i2c_c c0 c1]
  unfold kf_StringLatin1_indexOf_b10008 kf_StringLatin1_canEncode kfl_StringLatin1_canEncode_16
  rw [if_neg (by omega), if_neg (by omega), bnd_some, if_neg (by decide)]
  rw [show kf_Math_max 0 0 m = some 0 from rfl, bnd_some, show kf_Math_min 6 6 m = some 6 from rfl, bnd_some, if_pos (by decide)]
  refine RP_bnd (P := fun r => (0 ≤ r ∧ sgS sg8 c = true) ∨ (r = -1 ∧ sgS sg8 c = false)) (RP_bnd (P := fun r => (0 ≤ r ∧ sgS sg8 c = true) ∨ (r = -1 ∧ sgS sg8 c = false)) (RP_bnd (ixc_8 (v := c)) (fun r hr => RP_some ?_)) (fun r hr => RP_some hr)) (fun r hr => RP_some hr)
  by_cases h7 : c < 128
  · rw [i2b_c c0 c1, if_pos h7] at hr
    exact hr
  · rw [i2b_c c0 c1, if_neg h7] at hr
    have e1 : sgS sg8 (c - 256) = false := sg8_n (by omega)
    have e2 : sgS sg8 c = false := sg8_h (by omega)
    rcases hr with hr | hr
    · rw [e1] at hr
      exact absurd hr.2 (by decide)
    · exact Or.inr ⟨hr.1, e2⟩
theorem ixc_9 {m : mR} {v : Int} : RP (kf_StringLatin1_indexOfChar_b10009 v 0 3 m) (fun r => (0 ≤ r ∧ sgS sg9 (i2b32 v) = true) ∨ (r = -1 ∧ sgS sg9 (i2b32 v) = false)) := by
  unfold kf_StringLatin1_indexOfChar_b10009
  refine RP_bnd (P := sel (fun k : Int => 0 ≤ k ∧ sgS sg9 (i2b32 v) = true) (fun _ : Unit => sgS sg9 (i2b32 v) = false)) ?_ (RP_sl (fun e he => RP_some (Or.inl he)) (fun e he => RP_some (Or.inr ⟨rfl, he⟩)))
  refine RP_whl (I := fun s : Int => 0 ≤ s ∧ s ≤ 3 ∧ ∀ i, 0 ≤ i → i < s → chr 9 i ≠ i2b32 v) (fun s hs => ?_) ⟨by decide, by decide, fun i a b => absurd b (by omega)⟩
  obtain ⟨a, b, c⟩ := hs
  unfold kfb_StringLatin1_indexOfChar_b10009_7
  have ch : ∀ i : Int, 0 ≤ i → i < 3 → chr 9 i = sg9.getD i.toNat 0 := by
    intro i i0 i1
    have := ix9 ⟨i.toNat, by omega⟩
    rw [show (((⟨i.toNat, by omega⟩ : Fin 3).val : Nat) : Int) = i by show ((i.toNat : Nat) : Int) = i; omega] at this
    exact this
  refine RP_ite (fun g => RP_some ?_) (fun g => ?_)
  · show sgS sg9 (i2b32 v) = false
    unfold sgS
    rw [List.any_eq_false]
    intro d hd h
    have h := of_decide_eq_true h
    obtain ⟨n, hn, he⟩ := List.mem_iff_getElem.mp hd
    have hn' : n < 3 := hn
    have := c (n : Int) (by omega) (by omega)
    rw [ch (n : Int) (by omega) (by omega), show ((n : Int).toNat) = n by omega, List.getD_eq_getElem?_getD, List.getElem?_eq_getElem hn, Option.getD_some, he] at this
    exact this h
  · refine RP_ite (fun g2 => RP_some ⟨a, ?_⟩) (fun g2 => ?_)
    · unfold sgS
      rw [List.any_eq_true]
      have hn : s.toNat < sg9.length := by show s.toNat < 3; omega
      refine ⟨sg9[s.toNat], List.getElem_mem hn, decide_eq_true ?_⟩
      rw [← g2, ch s a (by omega), List.getD_eq_getElem?_getD, List.getElem?_eq_getElem hn, Option.getD_some]
    · rw [cut_i (by omega) (by omega)]
      refine RP_some ⟨by omega, by omega, fun i i0 i1 => ?_⟩
      by_cases hi : i < s
      · exact c i i0 hi
      · rw [show i = s by omega]
        exact g2
theorem ixo_9 {m : mR} {c : Int} (c0 : 0 ≤ c) (c1 : c ≤ 255) : RP (kf_String_indexOf0_b20009 (i2c32 c) m) (fun r => (0 ≤ r ∧ sgS sg9 c = true) ∨ (r = -1 ∧ sgS sg9 c = false)) := by
  unfold kf_String_indexOf0_b20009 kf_String_indexOf1_b20009 kf_String_length_b20009
  rw [bnd_some, show shr32 3 0 = 3 by decide +kernel, i2c_c c0 c1]
  unfold kf_StringLatin1_indexOf_b10009 kf_StringLatin1_canEncode kfl_StringLatin1_canEncode_16
  rw [if_neg (by omega), if_neg (by omega), bnd_some, if_neg (by decide)]
  rw [show kf_Math_max 0 0 m = some 0 from rfl, bnd_some, show kf_Math_min 3 3 m = some 3 from rfl, bnd_some, if_pos (by decide)]
  refine RP_bnd (P := fun r => (0 ≤ r ∧ sgS sg9 c = true) ∨ (r = -1 ∧ sgS sg9 c = false)) (RP_bnd (P := fun r => (0 ≤ r ∧ sgS sg9 c = true) ∨ (r = -1 ∧ sgS sg9 c = false)) (RP_bnd (ixc_9 (v := c)) (fun r hr => RP_some ?_)) (fun r hr => RP_some hr)) (fun r hr => RP_some hr)
  by_cases h7 : c < 128
  · rw [i2b_c c0 c1, if_pos h7] at hr
    exact hr
  · rw [i2b_c c0 c1, if_neg h7] at hr
    have e1 : sgS sg9 (c - 256) = false := sg9_n (by omega)
    have e2 : sgS sg9 c = false := sg9_h (by omega)
    rcases hr with hr | hr
    · rw [e1] at hr
      exact absurd hr.2 (by decide)
    · exact Or.inr ⟨hr.1, e2⟩
/-- the class's sign at q -/
theorem sg_k {K : mR} (hS : KSRC K) {q c : Int} (h5 : K.1 205 = q) (q0 : 0 ≤ q) (q1 : q < K.1 204) (c0 : 0 ≤ c) (c1 : c ≤ 255) : RP (kf_tx_scanSign c K) (fun z => z.1 = (clsW c (if K.1 204 ≤ q + 1 then 0 else and32 (K.2 1 (q + 1)) 255)).1 ∧ (z.1 ≠ -1 → z.2 = mO K [(205, q + (clsW c (if K.1 204 ≤ q + 1 then 0 else and32 (K.2 1 (q + 1)) 255)).2)] [])) := by
  obtain ⟨s0, s1, s2⟩ := hS
  unfold kf_tx_scanSign
  refine RP_bnd (ixo_7 c0 c1) (fun y hy => ?_)
  rcases hy with ⟨y1, y2⟩ | ⟨y1, y2⟩
  · rw [if_pos y1, h5, cut_i (z := q + 1) (by omega) (by omega)]
    have main : ∀ d, 0 ≤ d → d ≤ 255 → RP (kfl_tx_scanSign_44 c d K) (fun z => z.1 = (clsW c d).1 ∧ (z.1 ≠ -1 → z.2 = mO K [(205, q + (clsW c d).2)] [])) := by
      intro d d0 d1
      have two : ((decide (d = c) && sgS sg8 c) || (decide (d = 61) && sgS sg9 c)) = true → RP (kfl_tx_scanSign_86 c d K) (fun z => z.1 = (clsW c d).1 ∧ (z.1 ≠ -1 → z.2 = mO K [(205, q + (clsW c d).2)] [])) := by
        intro ht
        unfold clsW
        rw [if_pos y2, if_pos ht]
        unfold kfl_tx_scanSign_86 kfl_tx_scanSign_91 kfl_tx_scanSign_108 kfl_tx_scanSign_128
        rw [if_neg (by decide), if_neg (by decide), h5, cut_i (z := c * 256) (by omega) (by omega), cut_i (z := c * 256 + d) (by omega) (by omega), cut_i (z := q + 2) (by omega) (by omega)]
        exact RP_some ⟨rfl, fun _ => rfl⟩
      have one : ¬ ((decide (d = c) && sgS sg8 c) || (decide (d = 61) && sgS sg9 c)) = true → RP (kfl_tx_scanSign_90 c d K) (fun z => z.1 = (clsW c d).1 ∧ (z.1 ≠ -1 → z.2 = mO K [(205, q + (clsW c d).2)] [])) := by
        intro ht
        unfold clsW
        rw [if_pos y2, if_neg ht]
        unfold kfl_tx_scanSign_90 kfl_tx_scanSign_91 kfl_tx_scanSign_108 kfl_tx_scanSign_128
        rw [if_pos rfl, if_pos rfl, h5, cut_i (z := q + 1) (by omega) (by omega)]
        exact RP_some ⟨rfl, fun _ => rfl⟩
      have snd : (decide (d = c) && sgS sg8 c) = false → RP (kfl_tx_scanSign_64 c d K) (fun z => z.1 = (clsW c d).1 ∧ (z.1 ≠ -1 → z.2 = mO K [(205, q + (clsW c d).2)] [])) := by
        intro hf
        unfold kfl_tx_scanSign_64 kfl_tx_scanSign_65
        rw [if_pos rfl]
        refine RP_ite (fun g => ?_) (fun g => ?_)
        · refine RP_bnd (ixo_9 c0 c1) (fun x hx => ?_)
          rcases hx with ⟨x1, x2⟩ | ⟨x1, x2⟩
          · rw [if_neg (by omega)]
            exact two (by rw [hf, x2, decide_eq_true g]; rfl)
          · rw [if_pos (by omega)]
            exact one (by rw [hf, x2, Bool.and_false]; decide)
        · exact one (by rw [hf, decide_eq_false g, Bool.false_and]; decide)
      unfold kfl_tx_scanSign_44
      refine RP_ite (fun g => ?_) (fun g => ?_)
      · refine RP_bnd (ixo_8 c0 c1) (fun x hx => ?_)
        rcases hx with ⟨x1, x2⟩ | ⟨x1, x2⟩
        · rw [if_neg (by omega)]
          unfold kfl_tx_scanSign_65
          rw [if_neg (by decide)]
          exact two (by rw [x2, decide_eq_true g]; rfl)
        · rw [if_pos (by omega)]
          exact snd (by rw [x2, Bool.and_false])
      · exact snd (by rw [decide_eq_false g, Bool.false_and])
    refine RP_ite (fun g => ?_) (fun g => ?_)
    · rw [if_pos g]
      exact main 0 (by decide) (by decide)
    · rw [if_neg g]
      have := and_c (s2 (q + 1)).1 (s2 (q + 1)).2
      have h9 := s2 (q + 1)
      refine main _ ?_ ?_
      · rw [this]
        split <;> omega
      · rw [this]
        split <;> omega
  · rw [if_neg (by omega)]
    refine RP_some ⟨?_, fun h => absurd rfl h⟩
    unfold clsW
    rw [if_neg (by rw [y2]; decide)]
