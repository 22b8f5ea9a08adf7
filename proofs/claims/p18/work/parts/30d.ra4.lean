/-! ===== keywords ===== -/
def wm (w : Int) : Int := if w = 0 then 258 else if w = 1 then 256 else if w = 2 then 257 else if w = 3 then -1 else if w = 4 then 15677 else if w = 5 then 8509 else if w = 6 then 15421 else if w = 7 then 15933 else if w = 8 then 11051 else if w = 9 then 9766 else if w = 10 then 31868 else if w = 11 then 15420 else if w = 12 then 15934 else w
def sameK (m : mR) (k : Int) : Prop := klen k = m.1 9 ∧ ∀ j, 0 ≤ j → j < klen k → m.2 4 (m.1 8 + j) = kyF (kst k + j)
theorem kwL_r {m : mR} (h0 : m.2 0 = kyF) {k : Int} (k0 : 0 ≤ k) (k1 : k < 31) : RP (whl (rfb_keyword_12 (kst k) k m) 0) (fun e => e = klen k) := by
  have hk := kw_a k k0 k1
  refine RP_whl (I := fun s => 0 ≤ s ∧ s ≤ klen k) (fun s hs => ?_) ⟨by omega, by omega⟩
  obtain ⟨a, b⟩ := hs
  unfold rfb_keyword_12
  rw [h0, cut_i (by omega) (by omega)]
  by_cases hl : s < klen k
  · rw [if_neg (by have := kw_b k s k0 k1 a hl; omega), cut_i (by omega) (by omega)]
    exact RP_some ⟨by omega, by omega⟩
  · rw [show s = klen k by omega, if_pos (by rw [hk.2.2.2.2.1]; decide)]
    exact RP_some rfl
theorem kwS_r {m : mR} (h0 : m.2 0 = kyF) (h8 : 0 ≤ m.1 8 ∧ m.1 8 ≤ 4000) {k u : Int} (k0 : 0 ≤ k) (k1 : k < 31) (hu : (u = 1 ∧ klen k = m.1 9) ∨ (u = 0 ∧ klen k ≠ m.1 9)) : RP (whl (rfb_keyword_47 (kst k) k (klen k) m) (u, 0)) (fun e => (e = 0 ∧ ¬ sameK m k) ∨ (e = 1 ∧ sameK m k)) := by
  have hk := kw_a k k0 k1
  refine RP_whl (I := fun s : Int × Int => 0 ≤ s.2 ∧ s.2 ≤ klen k ∧ ((s.1 = 1 ∧ klen k = m.1 9 ∧ ∀ j, 0 ≤ j → j < s.2 → m.2 4 (m.1 8 + j) = kyF (kst k + j)) ∨ (s.1 = 0 ∧ ¬ sameK m k))) (fun s hs => ?_) ⟨by show (0 : Int) ≤ 0; omega, by show (0 : Int) ≤ _; omega, ?_⟩
  · obtain ⟨x, n⟩ := s
    obtain ⟨a, b, c⟩ := hs
    have a : 0 ≤ n := a
    have b : n ≤ klen k := b
    unfold rfb_keyword_47
    show RP (if klen k ≤ n then some (Sum.inr x) else if x = 0 then some (Sum.inr x) else if m.2 4 (cut (m.1 8 + n)) = m.2 0 (cut (kst k + n)) then rfl_keyword_87 (kst k) k (klen k) n 1 m else rfl_keyword_87 (kst k) k (klen k) n 0 m) _
    refine RP_ite (fun g => ?_) (fun g => ?_)
    · rcases c with ⟨c1, c2, c3⟩ | ⟨c1, c2⟩
      · exact RP_some (Or.inr ⟨c1, c2, fun j j0 j1 => c3 j j0 (show j < n by omega)⟩)
      · exact RP_some (Or.inl ⟨c1, c2⟩)
    · refine RP_ite (fun g2 => ?_) (fun g2 => ?_)
      · rcases c with ⟨c1, c2, c3⟩ | ⟨c1, c2⟩
        · exact absurd (show x = 1 from c1) (by omega)
        · exact RP_some (Or.inl ⟨c1, c2⟩)
      · rcases c with ⟨c1, c2, c3⟩ | ⟨c1, c2⟩
        · rw [h0, cut_i (z := m.1 8 + n) (by omega) (by omega), cut_i (z := kst k + n) (by omega) (by omega)]
          unfold rfl_keyword_87
          rw [cut_i (z := n + 1) (by omega) (by omega)]
          refine RP_ite (fun g3 => ?_) (fun g3 => ?_)
          · refine RP_some ⟨by show 0 ≤ n + 1; omega, by show n + 1 ≤ _; omega, Or.inl ⟨rfl, c2, fun j j0 j1 => ?_⟩⟩
            have j1 : j < n + 1 := j1
            by_cases hj : j < n
            · exact c3 j j0 hj
            · rw [show j = n by omega]
              exact g3
          · refine RP_some ⟨by show 0 ≤ n + 1; omega, by show n + 1 ≤ _; omega, Or.inr ⟨rfl, fun hs => ?_⟩⟩
            exact g3 (hs.2 n a (by omega))
        · exact absurd (show x = 0 from c1) g2
  · rcases hu with ⟨u1, u2⟩ | ⟨u1, u2⟩
    · exact Or.inl ⟨u1, u2, fun j j0 j1 => absurd (show j < 0 from j1) (by omega)⟩
    · exact Or.inr ⟨u1, fun hs => u2 hs.1⟩
theorem kw_r {m : mR} (h0 : m.2 0 = kyF) (h8 : 0 ≤ m.1 8 ∧ m.1 8 ≤ 4000) : RP (rf_keyword m) (fun w => (∃ k, 0 ≤ k ∧ k < 31 ∧ w = 300 + k ∧ sameK m k ∧ ∀ k', 0 ≤ k' → k' < k → ¬ sameK m k') ∨ (w = -1 ∧ ∀ k, 0 ≤ k → k < 31 → ¬ sameK m k)) := by
  unfold rf_keyword
  refine RP_bnd (P := sel (fun k : Int => 0 ≤ k ∧ k < 31 ∧ sameK m k ∧ ∀ k', 0 ≤ k' → k' < k → ¬ sameK m k') (fun _ : Unit => ∀ k, 0 ≤ k → k < 31 → ¬ sameK m k)) ?_ (RP_sl (fun e he => ?_) (fun e he => ?_))
  · refine RP_whl (I := fun s : Int × Int => 0 ≤ s.2 ∧ s.2 ≤ 31 ∧ s.1 = kst s.2 ∧ ∀ k', 0 ≤ k' → k' < s.2 → ¬ sameK m k') (fun s hs => ?_) ⟨by decide, by decide, by decide, fun k' a b => absurd (show k' < 0 from b) (by omega)⟩
    obtain ⟨f, k⟩ := s
    obtain ⟨a, b, c, d⟩ := hs
    have c : f = kst k := c
    have a : 0 ≤ k := a
    have b : k ≤ 31 := b
    subst c
    unfold rfb_keyword_4
    show RP (if (31 : Int) ≤ k then some (Sum.inr (Sum.inr ())) else bnd (whl (rfb_keyword_12 (kst k) k m) 0) (fun e17 : Int => rfl_keyword_29 (kst k) k e17 m)) _
    refine RP_ite (fun g => ?_) (fun g => ?_)
    · exact RP_some (fun k' k0 k1 => d k' k0 (show k' < k by omega))
    · have hk := kw_a k a (by omega)
      refine RP_bnd (kwL_r h0 a (by omega)) (fun e he => ?_)
      subst he
      have main : ∀ u, ((u = 1 ∧ klen k = m.1 9) ∨ (u = 0 ∧ klen k ≠ m.1 9)) → RP (rfl_keyword_42 (kst k) k (klen k) u m) (sel (fun s : Int × Int => 0 ≤ s.2 ∧ s.2 ≤ 31 ∧ s.1 = kst s.2 ∧ ∀ k', 0 ≤ k' → k' < s.2 → ¬ sameK m k') (sel (fun k : Int => 0 ≤ k ∧ k < 31 ∧ sameK m k ∧ ∀ k', 0 ≤ k' → k' < k → ¬ sameK m k') (fun _ : Unit => ∀ k, 0 ≤ k → k < 31 → ¬ sameK m k))) := by
        intro u hu
        unfold rfl_keyword_42
        refine RP_bnd (kwS_r h0 h8 a (by omega) hu) (fun e he => ?_)
        unfold rfl_keyword_95
        rcases he with ⟨e1, e2⟩ | ⟨e1, e2⟩
        · rw [if_pos e1, cut_i (z := klen k + 1) (by omega) (by omega), cut_i (by omega) (by omega), cut_i (z := k + 1) (by omega) (by omega)]
          refine RP_some ⟨by show 0 ≤ k + 1; omega, by show k + 1 ≤ 31; omega, by show kst k + (klen k + 1) = kst (k + 1); rw [hk.2.2.2.2.2]; omega, fun k' k0 k1 => ?_⟩
          have k1 : k' < k + 1 := k1
          by_cases hj : k' < k
          · exact d k' k0 hj
          · rw [show k' = k by omega]
            exact e2
        · rw [if_neg (by omega)]
          exact RP_some ⟨a, by omega, e2, fun k' k0 k1 => d k' k0 k1⟩
      unfold rfl_keyword_29
      exact RP_ite (fun g1 => main 1 (Or.inl ⟨rfl, g1⟩)) (fun g1 => main 0 (Or.inr ⟨rfl, g1⟩))
  · obtain ⟨a, b, c, d⟩ := he
    unfold rfl_keyword_100
    rw [cut_i (by omega) (by omega)]
    exact RP_some (Or.inl ⟨e, a, b, rfl, c, d⟩)
  · exact RP_some (Or.inr ⟨rfl, he⟩)
theorem cmp64_0 {x y : Int} : cmp64 x y = 0 ↔ x = y := by
  unfold cmp64
  split
  · constructor <;> intro h <;> omega
  · split
    · rename_i h
      exact ⟨fun _ => h, fun _ => rfl⟩
    · constructor <;> intro h <;> omega
theorem kw_k {K : mR} : RP (kf_tx_wordOfName K) (fun w => (∃ k, 0 ≤ k ∧ k < 31 ∧ w = 300 + k ∧ K.1 210 = 0 ∧ K.2 5 k = K.1 209 ∧ ∀ k', 0 ≤ k' → k' < k → K.2 5 k' ≠ K.1 209) ∨ (w = 256 ∧ (K.1 210 ≠ 0 ∨ ∀ k, 0 ≤ k → k < 31 → K.2 5 k ≠ K.1 209))) := by
  unfold kf_tx_wordOfName
  refine RP_bnd (P := sel (fun k : Int => 0 ≤ k ∧ k < 31 ∧ K.1 210 = 0 ∧ K.2 5 k = K.1 209 ∧ ∀ k', 0 ≤ k' → k' < k → K.2 5 k' ≠ K.1 209) (fun _ : Unit => K.1 210 ≠ 0 ∨ ∀ k, 0 ≤ k → k < 31 → K.2 5 k ≠ K.1 209)) ?_ (RP_sl (fun e he => ?_) (fun e he => ?_))
  · refine RP_whl (I := fun s : Int => 0 ≤ s ∧ s ≤ 31 ∧ ∀ k', 0 ≤ k' → k' < s → K.2 5 k' ≠ K.1 209) (fun s hs => ?_) ⟨by decide, by decide, fun k' a b => absurd b (by omega)⟩
    obtain ⟨a, b, c⟩ := hs
    unfold kfb_tx_wordOfName_2
    refine RP_ite (fun g => RP_some (Or.inr (fun k k0 k1 => c k k0 (by omega)))) (fun g => ?_)
    refine RP_ite (fun g1 => ?_) (fun g1 => RP_some (Or.inl (fun h => g1 (cmp64_0.mpr h))))
    refine RP_ite (fun g2 => RP_some ⟨a, by omega, cmp64_0.mp g1, cmp64_0.mp g2, c⟩) (fun g2 => ?_)
    rw [cut_i (by omega) (by omega)]
    refine RP_some ⟨by omega, by omega, fun k' k0 k1 => ?_⟩
    by_cases hj : k' < s
    · exact c k' k0 hj
    · rw [show k' = s by omega]
      exact fun h => g2 (cmp64_0.mpr h)
  · obtain ⟨a, b, c⟩ := he
    unfold kfl_tx_wordOfName_31
    rw [cut_i (by omega) (by omega)]
    exact RP_some (Or.inl ⟨e, a, b, rfl, c⟩)
  · exact RP_some (Or.inr ⟨rfl, he⟩)
/-- the class's keywords -/
def KWD (K : mR) : Prop := ∀ k, 0 ≤ k → k < 31 → R64 (K.2 5 k) ∧ pkH (K.2 5 k) (fun j => kyF (kst k + j)) (klen k) 0
theorem kyF_7 : ∀ n : Nat, n < 178 → kyF n < 128 := by decide +kernel
theorem kw_eq {K m : mR} (hW : KWD K) {k : Int} (k0 : 0 ≤ k) (k1 : k < 31) (rh : R64 (K.1 209)) (rl : R64 (K.1 210)) (n1 : m.1 9 ≤ 16) (n0 : 0 ≤ m.1 9) (hc : ∀ i, 0 ≤ i → i < m.1 9 → 0 < m.2 4 (m.1 8 + i) ∧ m.2 4 (m.1 8 + i) < 128) (hp : PK (K.1 209) (K.1 210) (fun i => m.2 4 (m.1 8 + i)) (m.1 9)) : sameK m k ↔ (K.1 210 = 0 ∧ K.2 5 k = K.1 209) := by
  obtain ⟨w1, w2⟩ := hW k k0 k1
  have hk := kw_a k k0 k1
  have hq : PK (K.2 5 k) 0 (fun j => kyF (kst k + j)) (klen k) := ⟨w2, pkH_0 _ (by omega)⟩
  constructor
  · intro hs
    have hp2 : PK (K.1 209) (K.1 210) (fun i => m.2 4 (m.1 8 + i)) (klen k) := by
      rw [hs.1]
      exact hp
    have := PK_c w1 ⟨by decide, by decide⟩ rh rl hq hp2 (fun i i0 i1 => (hs.2 i i0 i1).symm)
    exact ⟨this.2.symm, this.1⟩
  · intro h
    rw [h.1, ← h.2] at hp
    have := PK_inj hp hq n0 (by omega) n1 (by omega) hc (fun i i0 i1 => ⟨kw_b k i k0 k1 i0 i1, by
      have := kyF_7 (kst k + i).toNat (by omega)
      rw [show (((kst k + i).toNat : Nat) : Int) = kst k + i by omega] at this
      exact this⟩)
    exact ⟨this.1.symm, fun j j0 j1 => this.2 j j0 (by omega)⟩
/-! ===== signs ===== -/
def sgS (L : List Int) (c : Int) : Bool := L.any (fun d => decide (d = c))
def sg7 : List Int := [123, 125, 40, 41, 91, 93, 58, 59, 44, 46, 63, 61, 60, 62, 43, 45, 38, 124, 94, 126, 33]
def sg8 : List Int := [61, 43, 38, 124, 60, 62]
def sg9 : List Int := [33, 60, 62]
def refW (c d : Int) : Int × Int := match rf_twice c d with
  | some t => if t ≤ 0 then (match rf_isSign c with
    | some s => if s = 0 then (3, 1) else (c, 1)
    | none => (0, 0)) else (t, 2)
  | none => (0, 0)
def clsW (c d : Int) : Int × Int := if sgS sg7 c = true then (if ((decide (d = c) && sgS sg8 c) || (decide (d = 61) && sgS sg9 c)) = true then (c * 256 + d, 2) else (c, 1)) else (-1, 1)
def sgnB (c d : Int) : Bool := decide (wm (refW c d).1 = (clsW c (if d < 0 then 0 else d)).1) && (decide ((refW c d).2 = (clsW c (if d < 0 then 0 else d)).2) && (decide ((refW c d).1 = 3) || ((decide (4 ≤ (refW c d).1) && decide ((refW c d).1 ≤ 12) || decide (33 ≤ (refW c d).1) && decide ((refW c d).1 ≤ 126)) && (decide ((refW c d).2 = 1) || decide ((refW c d).2 = 2) && decide (0 ≤ d)))))
theorem sgn_f1 : ∀ c : Fin 256, sgnB (c.val : Int) 61 = true := by decide +kernel
theorem sgn_f2 : ∀ c : Fin 256, sgnB (c.val : Int) (c.val : Int) = true := by decide +kernel
theorem sgn_f3 : ∀ c : Fin 256, sgnB (c.val : Int) (-1) = true := by decide +kernel
theorem refW_o {c d : Int} (c0 : 0 ≤ c) (h1 : d ≠ 61) (h2 : d ≠ c) : refW c d = refW c (-1) := by
  have e : rf_twice c d = rf_twice c (-1) := by
    unfold rf_twice
    rw [if_neg h1, if_neg (show ¬ c = d by omega), if_neg (show ¬ (-1 : Int) = 61 by decide), if_neg (show ¬ c = -1 by omega)]
  unfold refW
  rw [e]
theorem clsW_o {c d : Int} (h : sgS sg7 c = false ∨ (d ≠ 61 ∧ d ≠ c)) : clsW c d = if sgS sg7 c = true then (c, 1) else (-1, 1) := by
  unfold clsW
  by_cases h7 : sgS sg7 c = true
  · rw [if_pos h7, if_pos h7]
    rcases h with h | ⟨h1, h2⟩
    · rw [h] at h7
      cases h7
    · rw [decide_eq_false h1, decide_eq_false h2, Bool.false_and, Bool.false_and, if_neg (by decide)]
  · rw [if_neg h7, if_neg h7]
theorem sgn_u {c d : Int} (h : sgnB c d = true) : wm (refW c d).1 = (clsW c (if d < 0 then 0 else d)).1 ∧ (refW c d).2 = (clsW c (if d < 0 then 0 else d)).2 ∧ ((refW c d).1 = 3 ∨ (((4 ≤ (refW c d).1 ∧ (refW c d).1 ≤ 12) ∨ (33 ≤ (refW c d).1 ∧ (refW c d).1 ≤ 126)) ∧ ((refW c d).2 = 1 ∨ ((refW c d).2 = 2 ∧ 0 ≤ d)))) := by
  unfold sgnB at h
  simp only [Bool.and_eq_true, Bool.or_eq_true, decide_eq_true_eq] at h
  exact h
theorem sgn_c {c d : Int} (c0 : 0 ≤ c) (c1 : c ≤ 255) (d0 : -1 ≤ d) (d1 : d ≤ 255) : wm (refW c d).1 = (clsW c (if d < 0 then 0 else d)).1 ∧ (refW c d).2 = (clsW c (if d < 0 then 0 else d)).2 ∧ ((refW c d).1 = 3 ∨ (((4 ≤ (refW c d).1 ∧ (refW c d).1 ≤ 12) ∨ (33 ≤ (refW c d).1 ∧ (refW c d).1 ≤ 126)) ∧ ((refW c d).2 = 1 ∨ ((refW c d).2 = 2 ∧ 0 ≤ d)))) := by
  have ec : (((⟨c.toNat, by omega⟩ : Fin 256).val : Nat) : Int) = c := by
    show ((c.toNat : Nat) : Int) = c
    omega
  by_cases h1 : d = 61
  · have h := sgn_f1 ⟨c.toNat, by omega⟩
    rw [ec] at h
    rw [h1]
    exact sgn_u h
  · by_cases h2 : d = c
    · have h := sgn_f2 ⟨c.toNat, by omega⟩
      rw [ec] at h
      rw [h2]
      exact sgn_u h
    · have h := sgn_f3 ⟨c.toNat, by omega⟩
      rw [ec] at h
      have q := sgn_u h
      rw [if_pos (by decide)] at q
      have e0 : sgS sg7 c = false ∨ ((0 : Int) ≠ 61 ∧ (0 : Int) ≠ c) := by
        by_cases hc : c = 0
        · left
          rw [hc]
          decide
        · exact Or.inr ⟨by decide, fun e => hc e.symm⟩
      have e1 : sgS sg7 c = false ∨ ((if d < 0 then 0 else d) ≠ 61 ∧ (if d < 0 then 0 else d) ≠ c) := by
        by_cases hd : d < 0
        · rw [if_pos hd]
          exact e0
        · rw [if_neg hd]
          exact Or.inr ⟨h1, h2⟩
      rw [clsW_o e0] at q
      rw [clsW_o e1, refW_o c0 h1 h2]
      refine ⟨q.1, q.2.1, ?_⟩
      rcases q.2.2 with q3 | ⟨q3, q4⟩
      · exact Or.inl q3
      · refine Or.inr ⟨q3, ?_⟩
        rcases q4 with q4 | q4
        · exact Or.inl q4
        · exact absurd q4.2 (by decide)
theorem ix7 : ∀ i : Fin 21, chr 7 (i.val : Int) = sg7.getD i.val 0 := by decide +kernel
theorem ix8 : ∀ i : Fin 6, chr 8 (i.val : Int) = sg8.getD i.val 0 := by decide +kernel
theorem ix9 : ∀ i : Fin 3, chr 9 (i.val : Int) = sg9.getD i.val 0 := by decide +kernel
