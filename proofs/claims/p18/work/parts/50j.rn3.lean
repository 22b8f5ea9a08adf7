/-! ===== lists ===== -/
section NIN
theorem nin_cs {a k : Nat} {l : List Nat} (h : nin (a :: l) k = true) : a ≠ k ∧ nin l k = true := by
  obtain ⟨h1, h2⟩ := nin_c h
  refine ⟨fun e => ?_, h2⟩
  rw [e, Nat.beq_refl] at h1
  cases h1
theorem nin_tl {a k : Nat} {l : List Nat} (h : nin (a :: l) k = false) (e : a ≠ k) : nin l k = false := by
  have h' : (bif Nat.beq a k then false else nin l k) = false := h
  cases hb : Nat.beq a k with
  | true => exact absurd (Nat.eq_of_beq_eq_true hb) e
  | false => rw [hb] at h'; exact h'
theorem nin_mem {l : List Nat} {k : Nat} (h : nin l k = false) : k ∈ l := by
  induction l with
  | nil => cases h
  | cons a l ih =>
    by_cases e : a = k
    · rw [e]; exact List.mem_cons_self ..
    · refine List.mem_cons_of_mem a (ih ?_)
      exact nin_tl h e
theorem nin_not {l : List Nat} {k : Nat} (h : nin l k = true) : ¬ k ∈ l := by
  intro hm
  induction l with
  | nil => cases hm
  | cons a l ih =>
    obtain ⟨h1, h2⟩ := nin_cs h
    rcases List.mem_cons.mp hm with e | e
    · exact h1 e.symm
    · exact ih h2 e
theorem nin_of {l : List Nat} {k : Nat} (h : ¬ k ∈ l) : nin l k = true := by
  cases hn : nin l k with
  | true => rfl
  | false => exact absurd (nin_mem hn) h
theorem nin_fil {A A2 R : List Nat} {k : Nat} (h : nin ((A ++ A2).filter (nin R)) k = true) (hr : nin R k = true) : nin A k = true ∧ nin A2 k = true := by
  have h := nin_not h
  constructor
  · refine nin_of (fun q => h ?_)
    exact List.mem_filter.mpr ⟨List.mem_append_left _ q, hr⟩
  · refine nin_of (fun q => h ?_)
    exact List.mem_filter.mpr ⟨List.mem_append_right _ q, hr⟩
end NIN
/-! ===== records that agree; the relation between calls ===== -/
section AGR
variable {K K1 K2 K' M M1 M2 M' : mR} {c : Nat → Option am_C} {F A G C : List Nat}
def RAk : List Nat := [0, 1, 5, 10, 11, 12, 13, 14, 15, 16, 17, 18, 19, 26, 30, 33, 34, 35, 36, 37, 39, 40, 41, 42, 43, 44, 45, 46, 47, 48, 49, 50, 51, 52, 53, 54, 55, 56, 57, 58, 59, 63, 64, 65, 72, 73, 74, 75, 76, 77, 79, 80, 81, 82, 83]
def RAx : List Nat := [0, 2, 3, 4, 16, 17, 18, 29, 30, 31, 32, 33, 34, 35, 36, 37, 38, 39, 41, 42, 44, 45, 46, 47, 48, 49, 50, 51, 52, 53, 54, 55, 56, 57, 58, 60, 61, 62, 63, 65, 67, 93, 101, 102, 103, 104, 105, 106, 107, 108, 109, 110, 111, 112, 113, 114, 120, 121, 122, 124, 131, 132, 133, 134]
def RFk : List Nat := [200, 201, 202, 226, 232, 233, 235, 214, 215, 216, 217, 218, 219, 220, 221, 222, 223, 224, 225]
def RFm : List Nat := [5, 6, 13, 19, 20, 21, 22, 23, 24, 25, 26, 27, 28, 99, 125, 127, 128, 129, 130, 148, 150, 152]
def dom (k : Nat) (i : Int) : Prop := 0 ≤ i ∧ (72 ≤ k → k ≤ 78 → i < 8) ∧ (79 ≤ k → i < 524288)
def AGk (K K' : mR) : Prop := K'.1 = K.1 ∧ (∀ k, nin RAk k = true → K'.2 k = K.2 k) ∧ (∀ k, nin RAk k = false → ∀ i, dom k i → K'.2 k i = K.2 k i) ∧ ∀ k i, rV (klg k) (K'.2 k i)
def AGm (M M' : mR) : Prop := M'.1 = M.1 ∧ (∀ k, nin RAx k = true → M'.2 k = M.2 k) ∧ (∀ k, nin RAx k = false → ∀ i, 0 ≤ i → M'.2 k i = M.2 k i) ∧ ∀ k i, rV (lg k) (M'.2 k i)
theorem AGk_d (h : AGk K K') {k : Nat} {i : Int} (hd : dom k i) : K'.2 k i = K.2 k i := by
  cases hk : nin RAk k with
  | true => rw [h.2.1 k hk]
  | false => exact h.2.2.1 k hk i hd
theorem AGm_d (h : AGm M M') {k : Nat} {i : Int} (hd : 0 ≤ i) : M'.2 k i = M.2 k i := by
  cases hk : nin RAx k with
  | true => rw [h.2.1 k hk]
  | false => exact h.2.2.1 k hk i hd
theorem kda : (List.range 189).all (fun q => decide ((kdt q).1 = 0) || (decide (4 ≤ (kdt q).1) || decide ((kdt q).2.2.headD 0 < 72))) = true := by decide +kernel
theorem kval_AG (h : K'.1 = K.1) : kval K' = kval K := by
  funext x
  unfold kval
  rw [h]
theorem kor_AG (h : K'.2 107 = K.2 107) : kor K' = kor K := by
  funext r
  unfold kor
  rw [h]
theorem kar_AG {y n k : Nat} (h : ∀ j : Nat, K'.2 k j = K.2 k j) : kar K' y n k = kar K y n k := by
  unfold kar
  have e : (fun j : Nat => K'.2 k (j : Int)) = (fun j : Nat => K.2 k (j : Int)) := funext h
  have e1 : (fun j : Nat => i64 (K'.2 k (j : Int))) = (fun j : Nat => i64 (K.2 k (j : Int))) := funext (fun j => by rw [h j])
  have e2 : (fun j : Nat => i32 (K'.2 k (j : Int))) = (fun j : Nat => i32 (K.2 k (j : Int))) := funext (fun j => by rw [h j])
  split
  · rw [e1]
  · rw [e2]
theorem kar1_AG {y n k : Nat} {t : Int} (h : ∀ j : Nat, j < 65536 → K'.2 k (65536 * t + j) = K.2 k (65536 * t + j)) : kar1 K' y n k t = kar1 K y n k t := by
  have e : ka1 K' k t = ka1 K k t := by
    funext j
    unfold ka1
    by_cases hj : j < 65536
    · rw [if_pos hj, if_pos hj, h j hj]
    · rw [if_neg hj, if_neg hj]
  unfold kar1
  rw [e]
theorem klo_AG (h : AGk K K') {q : Nat} (hq : q < 189) : klo K' q = klo K q := by
  have e107 : K'.2 107 = K.2 107 := h.2.1 107 (by decide)
  have e106 : K'.2 106 = K.2 106 := h.2.1 106 (by decide)
  unfold klo
  by_cases g : 74 ≤ q ∧ q < 178
  · rw [if_pos g, if_pos g]
    have ht : (q - 74) / 13 < 8 := by omega
    have hj : (q - 74) % 13 < 13 := by omega
    generalize (q - 74) / 13 = t at *
    generalize (q - 74) % 13 = j at *
    unfold ktb
    match j, hj with
    | 0, _ =>
      show (Sum.inr (10, ktf K' t) : am_C) = Sum.inr (10, ktf K t)
      have e : ktf K' t = ktf K t := by
        unfold ktf
        refine List.map_congr_left (fun n hn => ?_)
        have hn := List.mem_range.mp hn
        unfold ktv
        by_cases g2 : n < 12
        · rw [if_pos g2, if_pos g2]
        · rw [if_neg g2, if_neg g2, AGk_d h (k := 60 + n) (i := (t : Int)) ⟨by omega, fun _ _ => by omega, fun q => by omega⟩]
      rw [e]
    | i + 1, hi => exact kar1_AG (fun n hn => AGk_d h ⟨by omega, fun q1 q2 => by omega, fun _ => by omega⟩)
  · rw [if_neg g, if_neg g]
    have hk := List.all_eq_true.mp kda q (List.mem_range.mpr hq)
    generalize kdt q = d at *
    obtain ⟨y, n, xs⟩ := d
    have kb : ∀ k r, xs = k :: r → (y = 1 ∨ y = 2 ∨ y = 3) → ∀ j : Nat, K'.2 k j = K.2 k j := by
      intro k r e hy j
      rw [e] at hk
      have hk2 : y = 0 ∨ 4 ≤ y ∨ k < 72 := by simpa using hk
      exact AGk_d h ⟨by omega, fun q1 q2 => by omega, fun q1 => by omega⟩
    unfold kfx
    split
    · rw [kval_AG h.1]
    · rename_i e
      cases e
      exact kar_AG (kb _ _ rfl (Or.inl rfl))
    · rename_i e
      cases e
      exact kar_AG (kb _ _ rfl (Or.inr (Or.inl rfl)))
    · rename_i e
      cases e
      exact kar_AG (kb _ _ rfl (Or.inr (Or.inr rfl)))
    · rfl
    · rw [kor_AG e107]
    · rw [kor_AG e107, e106]
    · rfl
theorem kob_AG (h : ∀ k, 91 ≤ k → K'.2 k = K.2 k) {r : Int} {j : Nat} : kob K' r j = kob K r j := by
  unfold kob
  match j with
  | 0 =>
    show (Sum.inr (4, kof K' r) : am_C) = Sum.inr (4, kof K r)
    have e : kof K' r = kof K r := by
      unfold kof
      refine List.map_congr_left (fun n hn => ?_)
      unfold kov
      rw [h 107 (by omega)]
      by_cases g2 : n < 6
      · rw [if_pos g2, if_pos g2]
      · rw [if_neg g2, if_neg g2, h (85 + n) (by omega)]
    rw [e]
  | i + 1 => exact kar1_AG (fun n hn => by rw [h (100 + i) (by omega)])
theorem nin_hi : ∀ k, 91 ≤ k → nin RAk k = true := by
  intro k hk
  by_cases h : nin RAk k = true
  · exact h
  · exfalso
    have h2 : nin RAk k = false := by cases hh : nin RAk k with
      | true => exact absurd hh h
      | false => rfl
    have := nin_mem h2
    have hb : ∀ x ∈ RAk, x < 91 := by decide
    have := hb k this
    omega
theorem khp_AG (h : AGk K K') : khp K' c = khp K c := by
  funext q
  have hh : ∀ k, 91 ≤ k → K'.2 k = K.2 k := fun k hk => h.2.1 k (nin_hi k hk)
  unfold khp
  by_cases g : q < 189
  · rw [if_pos g, if_pos g, klo_AG h g]
  · rw [if_neg g, if_neg g, hh 108 (by omega)]
    by_cases g2 : 0 < K.2 108 q
    · rw [if_pos g2, if_pos g2, kob_AG hh]
    · rw [if_neg g2, if_neg g2]
theorem mhp_AG (h : AGm M M') : mhp M' c = mhp M c := by
  have e1 : mfl M' = mfl M := by
    unfold mfl
    refine List.map_congr_left (fun n hn => ?_)
    unfold mfv
    rw [h.1]
  have e2 : ∀ k, mce M' k = mce M k := by
    intro k
    have q1 : (fun j : Nat => i64 (M'.2 k (j : Int))) = (fun j : Nat => i64 (M.2 k (j : Int))) := funext (fun j => by rw [AGm_d h (by omega)])
    have q2 : (fun j : Nat => i32 (M'.2 k (j : Int))) = (fun j : Nat => i32 (M.2 k (j : Int))) := funext (fun j => by rw [AGm_d h (by omega)])
    unfold mce
    split
    · rw [q2]
    · rw [q2]
    · rw [q1]
  funext q
  unfold mhp
  by_cases g : q < 189
  · rw [if_pos g, if_pos g]
  · rw [if_neg g, if_neg g, e1, e2]
/-- patched records -/
def ptk (K' K1 : mR) : mR := (K1.1, fun k => if nin RAk k = true then K1.2 k else K'.2 k)
def ptm (M' M1 : mR) : mR := (M1.1, fun k => if nin RAx k = true then M1.2 k else M'.2 k)
theorem ptk_o {k : Nat} (h : nin RAk k = true) : (ptk K' K1).2 k = K1.2 k := if_pos h
theorem ptk_i {k : Nat} (h : nin RAk k = false) : (ptk K' K1).2 k = K'.2 k := if_neg (by rw [h]; decide)
theorem ptm_o {k : Nat} (h : nin RAx k = true) : (ptm M' M1).2 k = M1.2 k := if_pos h
theorem ptm_i {k : Nat} (h : nin RAx k = false) : (ptm M' M1).2 k = M'.2 k := if_neg (by rw [h]; decide)
theorem AGk_f (h : AGk K K') (f : fr F A K K1) (ha : RAk.all (nin A) = true) (hv : ∀ k i, rV (klg k) (K1.2 k i)) : AGk K1 (ptk K' K1) ∧ fr F A K' (ptk K' K1) := by
  have ra : ∀ k, nin RAk k = false → nin A k = true := fun k hk => List.all_eq_true.mp ha k (nin_mem hk)
  refine ⟨⟨rfl, fun k hk => ptk_o hk, fun k hk i hd => ?_, fun k i => ?_⟩, fun k hk => ?_, fun k hk => ?_⟩
  · rw [ptk_i hk, h.2.2.1 k hk i hd, f.2 k (ra k hk)]
  · cases hk : nin RAk k with
    | true => rw [ptk_o hk]; exact hv k i
    | false => rw [ptk_i hk]; exact h.2.2.2 k i
  · show K1.1 k = K'.1 k
    rw [h.1]
    exact f.1 k hk
  · cases hr : nin RAk k with
    | true => rw [ptk_o hr, h.2.1 k hr]; exact f.2 k hk
    | false => rw [ptk_i hr]
theorem AGm_f (h : AGm M M') (f : fr F A M M1) (ha : RAx.all (nin A) = true) (hv : ∀ k i, rV (lg k) (M1.2 k i)) : AGm M1 (ptm M' M1) ∧ fr F A M' (ptm M' M1) := by
  have ra : ∀ k, nin RAx k = false → nin A k = true := fun k hk => List.all_eq_true.mp ha k (nin_mem hk)
  refine ⟨⟨rfl, fun k hk => ptm_o hk, fun k hk i hd => ?_, fun k i => ?_⟩, fun k hk => ?_, fun k hk => ?_⟩
  · rw [ptm_i hk, h.2.2.1 k hk i hd, f.2 k (ra k hk)]
  · cases hk : nin RAx k with
    | true => rw [ptm_o hk]; exact hv k i
    | false => rw [ptm_i hk]; exact h.2.2.2 k i
  · show M1.1 k = M'.1 k
    rw [h.1]
    exact f.1 k hk
  · cases hr : nin RAx k with
    | true => rw [ptm_o hr, h.2.1 k hr]; exact f.2 k hk
    | false => rw [ptm_i hr]
/-- a call that both the contract and the function speak of: K to K1 by the one, K' to K2 by the other -/
theorem AGk_h {F2 A2 : List Nat} {c c' : Nat → Option am_C} (h : AGk K K') (f1 : fr F A K K1) (f2 : fr F2 A2 K' K2) (hh : khp K1 c = khp K2 c') (hF : (F ++ F2).all (fun k => decide (200 ≤ k) && decide (k < 236)) = true) (v1 : (∀ k, rV (klg k) (K1.1 k)) ∧ ∀ k i, rV (klg k) (K1.2 k i)) (v2 : (∀ k, rV (klg k) (K2.1 k)) ∧ ∀ k i, rV (klg k) (K2.2 k i)) : AGk K1 (ptk K2 K1) ∧ fr [] ((A ++ A2).filter (nin RAk)) K2 (ptk K2 K1) := by
  refine ⟨⟨rfl, fun k hk => ptk_o hk, fun k hk i hd => ?_, fun k i => ?_⟩, fun k hk => ?_, fun k hk => ?_⟩
  · rw [ptk_i hk]
    obtain ⟨d1, d2, d3⟩ := hd
    have hm := nin_mem hk
    have hb : ∀ x ∈ RAk, x < 72 ∨ (72 ≤ x ∧ x < 79) ∨ (79 ≤ x ∧ x < 91) := by decide
    rcases hb k hm with b | ⟨b1, b2⟩ | ⟨b1, b2⟩
    · have e := HKa (n := i.toNat) hh b (v1.2 k _) (v2.2 k _)
      rw [show ((i.toNat : Nat) : Int) = i by omega] at e
      exact e.symm
    · have d2 := d2 b1 (by omega)
      have ht : ∀ x : Nat, 72 ≤ x → x < 79 → klg x = false := by
        intro x x1 x2
        have : ∀ y : Fin 7, klg (72 + y.val) = false := by decide
        have q := this ⟨x - 72, by omega⟩
        dsimp only at q
        rw [show 72 + (x - 72) = x by omega] at q
        exact q
      have w1 := v1.2 k ((i.toNat : Nat) : Int)
      have w2 := v2.2 k ((i.toNat : Nat) : Int)
      rw [ht k b1 b2] at w1 w2
      have e := HKt (t := i.toNat) hh (by omega) b1 b2 w1 w2
      rw [show ((i.toNat : Nat) : Int) = i by omega] at e
      exact e.symm
    · have d3 := d3 b1
      have e := HKu (t := (i / 65536).toNat) (n := (i % 65536).toNat) hh (by omega) (by omega) b1 b2 (v1.2 k _) (v2.2 k _)
      rw [show 65536 * (((i / 65536).toNat : Nat) : Int) + (((i % 65536).toNat : Nat) : Int) = i by omega] at e
      exact e.symm
  · cases hk : nin RAk k with
    | true => rw [ptk_o hk]; exact v1.2 k i
    | false => rw [ptk_i hk]; exact v2.2 k i
  · show K1.1 k = K2.1 k
    by_cases b : 200 ≤ k ∧ k < 236
    · exact HKf hh b.1 b.2 (v1.1 k) (v2.1 k)
    · have nn : ∀ l : List Nat, l.all (fun k => decide (200 ≤ k) && decide (k < 236)) = true → nin l k = true := by
        intro l hl
        cases hn : nin l k with
        | true => rfl
        | false =>
          have := List.all_eq_true.mp hl k (nin_mem hn)
          simp only [Bool.and_eq_true, decide_eq_true_eq] at this
          exact absurd this b
      rw [List.all_append, Bool.and_eq_true] at hF
      rw [f1.1 k (nn F hF.1), f2.1 k (nn F2 hF.2), h.1]
  · cases hr : nin RAk k with
    | false => rw [ptk_i hr]
    | true =>
      rw [ptk_o hr]
      have n1 : nin A k = true ∧ nin A2 k = true := nin_fil hk hr
      rw [f1.2 k n1.1, f2.2 k n1.2, h.2.1 k hr]
theorem AGm_h {F2 A2 : List Nat} {c c' : Nat → Option am_C} (h : AGm M M') (f1 : fr F A M M1) (f2 : fr F2 A2 M' M2) (hh : mhp M1 c = mhp M2 c') (hF : (F ++ F2).all (fun k => decide (k < 179) && decide (mkd k < 3)) = true) (v1 : (∀ k, rV (lg k) (M1.1 k)) ∧ ∀ k i, rV (lg k) (M1.2 k i)) (v2 : (∀ k, rV (lg k) (M2.1 k)) ∧ ∀ k i, rV (lg k) (M2.2 k i)) : AGm M1 (ptm M2 M1) ∧ fr [] ((A ++ A2).filter (nin RAx)) M2 (ptm M2 M1) := by
  refine ⟨⟨rfl, fun k hk => ptm_o hk, fun k hk i hd => ?_, fun k i => ?_⟩, fun k hk => ?_, fun k hk => ?_⟩
  · rw [ptm_i hk]
    have hm := nin_mem hk
    have hb : ∀ x ∈ RAx, x < 179 ∧ 3 ≤ mkd x := by decide +kernel
    obtain ⟨b1, b2⟩ := hb k hm
    have e := HMa (n := i.toNat) hh b1 b2 (v1.2 k _) (v2.2 k _)
    rw [show ((i.toNat : Nat) : Int) = i by omega] at e
    exact e.symm
  · cases hk : nin RAx k with
    | true => rw [ptm_o hk]; exact v1.2 k i
    | false => rw [ptm_i hk]; exact v2.2 k i
  · show M1.1 k = M2.1 k
    by_cases b : k < 179 ∧ mkd k < 3
    · exact HMf hh b.1 b.2 (v1.1 k) (v2.1 k)
    · have nn : ∀ l : List Nat, l.all (fun k => decide (k < 179) && decide (mkd k < 3)) = true → nin l k = true := by
        intro l hl
        cases hn : nin l k with
        | true => rfl
        | false =>
          have := List.all_eq_true.mp hl k (nin_mem hn)
          simp only [Bool.and_eq_true, decide_eq_true_eq] at this
          exact absurd this b
      rw [List.all_append, Bool.and_eq_true] at hF
      rw [f1.1 k (nn F hF.1), f2.1 k (nn F2 hF.2), h.1]
  · cases hr : nin RAx k with
    | false => rw [ptm_i hr]
    | true =>
      rw [ptm_o hr]
      have n1 : nin A k = true ∧ nin A2 k = true := nin_fil hk hr
      rw [f1.2 k n1.1, f2.2 k n1.2, h.2.1 k hr]
end AGR
