theorem mO2 (K : mR) (k : Nat) (f : Int → Int) (k' : Nat) : (mO K [] [(k, f)]).2 k' = if k = k' then f else K.2 k' := rfl
theorem mO2_n {K : mR} {k : Nat} {f : Int → Int} {k' : Nat} (h : k ≠ k') : (mO K [] [(k, f)]).2 k' = K.2 k' := if_neg h
theorem mO2_s {K : mR} {k : Nat} {f : Int → Int} : (mO K [] [(k, f)]).2 k = f := if_pos rfl
theorem khp_upd (K K' : mR) (c : Nat → Option am_C) (q : Nat) (x : am_C) (hx : khp K' c q = some x) (ho : ∀ p, p ≠ q → khp K' c p = khp K c p) : up1 (khp K c) q x = khp K' c := by
  funext p
  unfold up1
  by_cases e : p = q
  · subst e
    rw [if_pos rfl, hx]
  · rw [if_neg e, ho p e]
theorem kar_c {K K' : mR} {y n k : Nat} (h : K'.2 k = K.2 k) : kar K' y n k = kar K y n k := by
  unfold kar
  rw [h]
theorem kor_c {K K' : mR} (h : K'.2 107 = K.2 107) (r : Int) : kor K' r = kor K r := by
  unfold kor
  rw [h]
def kchA : Bool := (List.range 189).all (fun p => decide ((kdt p).1 = 0) || (decide (5 ≤ (kdt p).1) || (kdt p).2.2.all (fun k => Nat.beq (kac k) p && Nat.blt k 72)))
theorem kchA_ok : kchA = true := by decide +kernel
theorem kowA {p d n k : Nat} {xs : List Nat} (hp : p < 189) (hd : kdt p = (d, n, xs)) (h0 : d ≠ 0) (h5 : d < 5) (hk : k ∈ xs) : kac k = p ∧ k < 72 := by
  have h := List.all_eq_true.mp kchA_ok p (List.mem_range.mpr hp)
  rw [hd] at h
  rcases Bool.or_eq_true_iff.mp h with h1 | h1
  · exact absurd (of_decide_eq_true h1) h0
  · rcases Bool.or_eq_true_iff.mp h1 with h2 | h2
    · exact absurd (of_decide_eq_true h2) (show ¬ 5 ≤ d by omega)
    · have h3 := List.all_eq_true.mp h2 k hk
      obtain ⟨h5, h6⟩ := Bool.and_eq_true_iff.mp h3
      exact ⟨Nat.eq_of_beq_eq_true h5, by rw [Nat.blt_eq] at h6; exact h6⟩
theorem kval_c {K K' : mR} (h : ∀ k, K'.1 k = K.1 k) (x : Nat) : kval K' x = kval K x := by
  unfold kval
  rw [h]
theorem kfx_c {K K' : mR} (p : Nat) (hp : p < 189) (h : ∀ k, K'.1 k = K.1 k) (hA : ∀ k, kac k = p → k < 72 → K'.2 k = K.2 k) (h6 : K'.2 106 = K.2 106) (h7 : K'.2 107 = K.2 107) : kfx K' (kdt p) = kfx K (kdt p) := by
  rcases hd : kdt p with ⟨d, ci, xs⟩
  unfold kfx
  split
  · next c2 xs2 he =>
    congr 2
    exact List.map_congr_left (fun x _ => kval_c h x)
  · next n k xs2 he =>
    cases he
    have hk := kowA hp hd (by decide) (by decide) List.mem_cons_self
    exact kar_c (hA k hk.1 hk.2)
  · next n k xs2 he =>
    cases he
    have hk := kowA hp hd (by decide) (by decide) List.mem_cons_self
    exact kar_c (hA k hk.1 hk.2)
  · next n k xs2 he =>
    cases he
    have hk := kowA hp hd (by decide) (by decide) List.mem_cons_self
    exact kar_c (hA k hk.1 hk.2)
  · rfl
  · congr 7
    funext j
    exact kor_c h7 _
  · congr 7
    funext j
    rw [h6, kor_c h7]
  · rfl
theorem kar1_c {K K' : mR} {y n k : Nat} {t : Int} (h : ∀ j : Nat, j < 65536 → K'.2 k (65536 * t + j) = K.2 k (65536 * t + j)) : kar1 K' y n k t = kar1 K y n k t := by
  have e : ka1 K' k t = ka1 K k t := by
    funext j
    unfold ka1
    split
    · next hj => exact h j hj
    · rfl
  unfold kar1
  rw [e]
theorem ktb_c {K K' : mR} {t j : Nat} (hj : j < 13) (h0 : j = 0 → ∀ i, i < 7 → K'.2 (72 + i) t = K.2 (72 + i) t) (hA : ∀ i, j = i + 1 → ∀ n : Nat, n < 65536 → K'.2 (79 + i) (65536 * (t : Int) + n) = K.2 (79 + i) (65536 * (t : Int) + n)) : ktb K' t j = ktb K t j := by
  unfold ktb
  match j, hj with
  | 0, _ =>
    show Sum.inr (10, ktf K' t) = Sum.inr (10, ktf K t)
    have e : ktf K' t = ktf K t := by
      unfold ktf
      apply List.map_congr_left
      intro n hn
      unfold ktv
      have := List.mem_range.mp hn
      split
      · rfl
      · have h9 := h0 rfl (n - 12) (by omega)
        rw [show 72 + (n - 12) = 60 + n by omega] at h9
        rw [h9]
    rw [e]
  | i + 1, _ => exact kar1_c (hA i rfl)
theorem kob_c {K K' : mR} {r : Int} {j : Nat} (hj : j < 8) (h7 : K'.2 107 = K.2 107) (h0 : j = 0 → ∀ i, i < 9 → K'.2 (91 + i) r = K.2 (91 + i) r) (hA : ∀ i, j = i + 1 → ∀ n : Nat, n < 65536 → K'.2 (100 + i) (65536 * r + n) = K.2 (100 + i) (65536 * r + n)) : kob K' r j = kob K r j := by
  unfold kob
  match j, hj with
  | 0, _ =>
    show Sum.inr (4, kof K' r) = Sum.inr (4, kof K r)
    have e : kof K' r = kof K r := by
      unfold kof
      apply List.map_congr_left
      intro n hn
      unfold kov
      have := List.mem_range.mp hn
      split
      · rw [h7]
      · have h9 := h0 rfl (n - 6) (by omega)
        rw [show 91 + (n - 6) = 85 + n by omega] at h9
        rw [h9]
    rw [e]
  | i + 1, _ => exact kar1_c (hA i rfl)
theorem khp_c {K K' : mR} {c : Nat → Option am_C} {p : Nat} (h1 : ∀ k, K'.1 k = K.1 k) (h6 : K'.2 106 = K.2 106) (h7 : K'.2 107 = K.2 107) (h8 : K'.2 108 = K.2 108)
    (hA : ∀ k, kac k = p → k < 72 → K'.2 k = K.2 k)
    (hT : ∀ t j, t < 8 → j < 13 → p = 74 + 13 * t + j → ktb K' t j = ktb K t j)
    (hO : 189 ≤ p → 0 < K.2 108 p → kob K' ((K.2 108 p - 1) / 8) ((K.2 108 p - 1) % 8).toNat = kob K ((K.2 108 p - 1) / 8) ((K.2 108 p - 1) % 8).toNat) : khp K' c p = khp K c p := by
  unfold khp
  by_cases hp : p < 189
  · rw [if_pos hp, if_pos hp]
    unfold klo
    split
    · next h => rw [hT ((p - 74) / 13) ((p - 74) % 13) (by omega) (by omega) (by omega)]
    · rw [kfx_c p hp h1 hA h6 h7]
  · rw [if_neg hp, if_neg hp, h8]
    split
    · next h => rw [hO (by omega) h]
    · rfl
theorem khp_seta (K : mR) (c : Nat → Option am_C) {k : Nat} {f : Int → Int} {x : am_C} (hk : k < 72) (hx : khp (mO K [] [(k, f)]) c (kac k) = some x) : up1 (khp K c) (kac k) x = khp (mO K [] [(k, f)]) c := by
  refine khp_upd K _ c _ _ hx (fun p hp => khp_c (fun _ => rfl) (mO2_n (by omega)) (mO2_n (by omega)) (mO2_n (by omega)) (fun k' h1 h2 => mO2_n (fun e => hp (by rw [← h1, e]))) (fun t j ht hj _ => ktb_c hj (fun _ i hi => by rw [mO2_n (by omega)]) (fun i _ n _ => by rw [mO2_n (by omega)])) (fun _ _ => kob_c (by omega) (mO2_n (by omega)) (fun _ i hi => by rw [mO2_n (by omega)]) (fun i _ n _ => by rw [mO2_n (by omega)])))
theorem khp_sett (K : mR) (c : Nat → Option am_C) {t i : Nat} {y : Int} {x : am_C} (ht : t < 8) (hi : i < 7) (hx : khp (mO K [] [(72 + i, upI (K.2 (72 + i)) t y)]) c (74 + 13 * t) = some x) : up1 (khp K c) (74 + 13 * t) x = khp (mO K [] [(72 + i, upI (K.2 (72 + i)) t y)]) c := by
  refine khp_upd K _ c _ _ hx (fun p hp => khp_c (fun _ => rfl) (mO2_n (by omega)) (mO2_n (by omega)) (mO2_n (by omega)) (fun k' h1 h2 => mO2_n (by omega)) (fun t' j ht' hj e => ktb_c hj (fun h0 i' hi' => ?_) (fun i' _ n _ => by rw [mO2_n (by omega)])) (fun _ _ => kob_c (by omega) (mO2_n (by omega)) (fun _ i hi => by rw [mO2_n (by omega)]) (fun i _ n _ => by rw [mO2_n (by omega)])))
  rw [mO2]
  split
  · next h9 =>
    rw [upI_n (show (t' : Int) ≠ (t : Int) by omega), h9]
  · rfl
theorem khp_setu (K : mR) (c : Nat → Option am_C) {t i : Nat} {n y : Int} {x : am_C} (ht : t < 8) (hi : i < 12) (h0 : 0 ≤ n) (h1 : n < 65536) (hx : khp (mO K [] [(79 + i, upI (K.2 (79 + i)) (65536 * (t : Int) + n) y)]) c (74 + 13 * t + (i + 1)) = some x) : up1 (khp K c) (74 + 13 * t + (i + 1)) x = khp (mO K [] [(79 + i, upI (K.2 (79 + i)) (65536 * (t : Int) + n) y)]) c := by
  refine khp_upd K _ c _ _ hx (fun p hp => khp_c (fun _ => rfl) (mO2_n (by omega)) (mO2_n (by omega)) (mO2_n (by omega)) (fun k' h1 h2 => mO2_n (by omega)) (fun t' j ht' hj e => ktb_c hj (fun h0 i' hi' => by rw [mO2_n (by omega)]) (fun i' e' n' hn' => ?_)) (fun _ _ => kob_c (by omega) (mO2_n (by omega)) (fun _ i hi => by rw [mO2_n (by omega)]) (fun i _ n _ => by rw [mO2_n (by omega)])))
  rw [mO2]
  split
  · next h9 =>
    rw [upI_n (show 65536 * (t' : Int) + n' ≠ 65536 * (t : Int) + n by omega), h9]
  · rfl
