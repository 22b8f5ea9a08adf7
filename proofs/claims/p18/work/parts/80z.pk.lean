
section AGR2
variable {K K1 K2 K' M M1 M2 M' : mR} {c : Nat → Option am_C} {F A G C : List Nat}
def RAk2 : List Nat := [0, 1, 5, 10, 11, 12, 13, 14, 15, 16, 17, 18, 19, 20, 21, 22, 24, 26, 27, 28, 29, 30, 31, 32, 33, 34, 35, 36, 37, 39, 40, 41, 42, 43, 44, 45, 46, 47, 48, 49, 50, 51, 52, 53, 54, 55, 56, 57, 58, 59, 63, 64, 65, 71, 72, 73, 74, 75, 76, 77, 78, 79, 80, 81, 82, 83, 84, 85, 86, 87, 88, 89]
def RAx2 : List Nat := [0, 2, 3, 4, 16, 17, 18, 29, 30, 31, 32, 33, 34, 35, 36, 37, 38, 39, 41, 42, 44, 45, 46, 47, 48, 49, 50, 51, 52, 53, 54, 55, 56, 57, 58, 60, 61, 62, 63, 65, 66, 67, 68, 93, 94, 95, 96, 97, 98, 101, 102, 103, 104, 105, 106, 107, 108, 109, 110, 111, 112, 113, 114, 115, 120, 121, 122, 124, 131, 132, 133, 134, 138, 139, 140, 141, 142, 143, 144, 163, 164, 165, 166, 167, 168, 169]
def AGk2 (K K' : mR) : Prop := K'.1 = K.1 ∧ (∀ k, nin RAk2 k = true → K'.2 k = K.2 k) ∧ (∀ k, nin RAk2 k = false → ∀ i, dom k i → K'.2 k i = K.2 k i) ∧ ∀ k i, rV (klg k) (K'.2 k i)
def AGm2 (M M' : mR) : Prop := M'.1 = M.1 ∧ (∀ k, nin RAx2 k = true → M'.2 k = M.2 k) ∧ (∀ k, nin RAx2 k = false → ∀ i, 0 ≤ i → M'.2 k i = M.2 k i) ∧ ∀ k i, rV (lg k) (M'.2 k i)
theorem AGk_d2 (h : AGk2 K K') {k : Nat} {i : Int} (hd : dom k i) : K'.2 k i = K.2 k i := by
  cases hk : nin RAk2 k with
  | true => rw [h.2.1 k hk]
  | false => exact h.2.2.1 k hk i hd
theorem AGm_d2 (h : AGm2 M M') {k : Nat} {i : Int} (hd : 0 ≤ i) : M'.2 k i = M.2 k i := by
  cases hk : nin RAx2 k with
  | true => rw [h.2.1 k hk]
  | false => exact h.2.2.1 k hk i hd
theorem klo_AG2 (h : AGk2 K K') {q : Nat} (hq : q < 189) : klo K' q = klo K q := by
  have e107 : K'.2 107 = K.2 107 := h.2.1 107 (by decide)
  have e106 : K'.2 106 = K.2 106 := h.2.1 106 (by decide)
  unfold klo
  by_cases g : 74 ≤ q ∧ q < 178
  · rw [if_pos g, if_pos g]
    have ht : (q - 74) / 13 < 8 := by omega
    have hj : (q - 74) % 13 < 13 := by omega
    generalize (q - 74) / 13 = t at *
    generalize (q - 74) % 13 = j at *
    unfold ktb
    match j, hj with
    | 0, _ =>
      show (Sum.inr (10, ktf K' t) : am_C) = Sum.inr (10, ktf K t)
      have e : ktf K' t = ktf K t := by
        unfold ktf
        refine List.map_congr_left (fun n hn => ?_)
        have hn := List.mem_range.mp hn
        unfold ktv
        by_cases g2 : n < 12
        · rw [if_pos g2, if_pos g2]
        · rw [if_neg g2, if_neg g2, AGk_d2 h (k := 60 + n) (i := (t : Int)) ⟨by omega, fun _ _ => by omega, fun q => by omega⟩]
      rw [e]
    | i + 1, hi => exact kar1_AG (fun n hn => AGk_d2 h ⟨by omega, fun q1 q2 => by omega, fun _ => by omega⟩)
  · rw [if_neg g, if_neg g]
    have hk := List.all_eq_true.mp kda q (List.mem_range.mpr hq)
    generalize kdt q = d at *
    obtain ⟨y, n, xs⟩ := d
    have kb : ∀ k r, xs = k :: r → (y = 1 ∨ y = 2 ∨ y = 3) → ∀ j : Nat, K'.2 k j = K.2 k j := by
      intro k r e hy j
      rw [e] at hk
      have hk2 : y = 0 ∨ 4 ≤ y ∨ k < 72 := by simpa using hk
      exact AGk_d2 h ⟨by omega, fun q1 q2 => by omega, fun q1 => by omega⟩
    unfold kfx
    split
    · rw [kval_AG h.1]
    · rename_i e
      cases e
      exact kar_AG (kb _ _ rfl (Or.inl rfl))
    · rename_i e
      cases e
      exact kar_AG (kb _ _ rfl (Or.inr (Or.inl rfl)))
    · rename_i e
      cases e
      exact kar_AG (kb _ _ rfl (Or.inr (Or.inr rfl)))
    · rfl
    · rw [kor_AG e107]
    · rw [kor_AG e107, e106]
    · rfl
theorem nin_hi2 : ∀ k, 91 ≤ k → nin RAk2 k = true := by
  intro k hk
  by_cases h : nin RAk2 k = true
  · exact h
  · exfalso
    have h2 : nin RAk2 k = false := by cases hh : nin RAk2 k with
      | true => exact absurd hh h
      | false => rfl
    have := nin_mem h2
    have hb : ∀ x ∈ RAk2, x < 91 := by decide
    have := hb k this
    omega
theorem khp_AG2 (h : AGk2 K K') : khp K' c = khp K c := by
  funext q
  have hh : ∀ k, 91 ≤ k → K'.2 k = K.2 k := fun k hk => h.2.1 k (nin_hi2 k hk)
  unfold khp
  by_cases g : q < 189
  · rw [if_pos g, if_pos g, klo_AG2 h g]
  · rw [if_neg g, if_neg g, hh 108 (by omega)]
    by_cases g2 : 0 < K.2 108 q
    · rw [if_pos g2, if_pos g2, kob_AG hh]
    · rw [if_neg g2, if_neg g2]
theorem mhp_AG2 (h : AGm2 M M') : mhp M' c = mhp M c := by
  have e1 : mfl M' = mfl M := by
    unfold mfl
    refine List.map_congr_left (fun n hn => ?_)
    unfold mfv
    rw [h.1]
  have e2 : ∀ k, mce M' k = mce M k := by
    intro k
    have q1 : (fun j : Nat => i64 (M'.2 k (j : Int))) = (fun j : Nat => i64 (M.2 k (j : Int))) := funext (fun j => by rw [AGm_d2 h (by omega)])
    have q2 : (fun j : Nat => i32 (M'.2 k (j : Int))) = (fun j : Nat => i32 (M.2 k (j : Int))) := funext (fun j => by rw [AGm_d2 h (by omega)])
    unfold mce
    split
    · rw [q2]
    · rw [q2]
    · rw [q1]
  funext q
  unfold mhp
  by_cases g : q < 189
  · rw [if_pos g, if_pos g]
  · rw [if_neg g, if_neg g, e1, e2]

def ptk2 (K' K1 : mR) : mR := (K1.1, fun k => if nin RAk2 k = true then K1.2 k else K'.2 k)
def ptm2 (M' M1 : mR) : mR := (M1.1, fun k => if nin RAx2 k = true then M1.2 k else M'.2 k)
theorem ptk_o2 {k : Nat} (h : nin RAk2 k = true) : (ptk2 K' K1).2 k = K1.2 k := if_pos h
theorem ptk_i2 {k : Nat} (h : nin RAk2 k = false) : (ptk2 K' K1).2 k = K'.2 k := if_neg (by rw [h]; decide)
theorem ptm_o2 {k : Nat} (h : nin RAx2 k = true) : (ptm2 M' M1).2 k = M1.2 k := if_pos h
theorem ptm_i2 {k : Nat} (h : nin RAx2 k = false) : (ptm2 M' M1).2 k = M'.2 k := if_neg (by rw [h]; decide)
theorem AGk_f2 (h : AGk2 K K') (f : fr F A K K1) (ha : RAk2.all (nin A) = true) (hv : ∀ k i, rV (klg k) (K1.2 k i)) : AGk2 K1 (ptk2 K' K1) ∧ fr F A K' (ptk2 K' K1) := by
  have ra : ∀ k, nin RAk2 k = false → nin A k = true := fun k hk => List.all_eq_true.mp ha k (nin_mem hk)
  refine ⟨⟨rfl, fun k hk => ptk_o2 hk, fun k hk i hd => ?_, fun k i => ?_⟩, fun k hk => ?_, fun k hk => ?_⟩
  · rw [ptk_i2 hk, h.2.2.1 k hk i hd, f.2 k (ra k hk)]
  · cases hk : nin RAk2 k with
    | true => rw [ptk_o2 hk]; exact hv k i
    | false => rw [ptk_i2 hk]; exact h.2.2.2 k i
  · show K1.1 k = K'.1 k
    rw [h.1]
    exact f.1 k hk
  · cases hr : nin RAk2 k with
    | true => rw [ptk_o2 hr, h.2.1 k hr]; exact f.2 k hk
    | false => rw [ptk_i2 hr]
theorem AGm_f2 (h : AGm2 M M') (f : fr F A M M1) (ha : RAx2.all (nin A) = true) (hv : ∀ k i, rV (lg k) (M1.2 k i)) : AGm2 M1 (ptm2 M' M1) ∧ fr F A M' (ptm2 M' M1) := by
  have ra : ∀ k, nin RAx2 k = false → nin A k = true := fun k hk => List.all_eq_true.mp ha k (nin_mem hk)
  refine ⟨⟨rfl, fun k hk => ptm_o2 hk, fun k hk i hd => ?_, fun k i => ?_⟩, fun k hk => ?_, fun k hk => ?_⟩
  · rw [ptm_i2 hk, h.2.2.1 k hk i hd, f.2 k (ra k hk)]
  · cases hk : nin RAx2 k with
    | true => rw [ptm_o2 hk]; exact hv k i
    | false => rw [ptm_i2 hk]; exact h.2.2.2 k i
  · show M1.1 k = M'.1 k
    rw [h.1]
    exact f.1 k hk
  · cases hr : nin RAx2 k with
    | true => rw [ptm_o2 hr, h.2.1 k hr]; exact f.2 k hk
    | false => rw [ptm_i2 hr]

theorem AGk_h2 {F2 A2 : List Nat} {c c' : Nat → Option am_C} (h : AGk2 K K') (f1 : fr F A K K1) (f2 : fr F2 A2 K' K2) (hh : khp K1 c = khp K2 c') (hF : (F ++ F2).all (fun k => decide (200 ≤ k) && decide (k < 236)) = true) (v1 : (∀ k, rV (klg k) (K1.1 k)) ∧ ∀ k i, rV (klg k) (K1.2 k i)) (v2 : (∀ k, rV (klg k) (K2.1 k)) ∧ ∀ k i, rV (klg k) (K2.2 k i)) : AGk2 K1 (ptk2 K2 K1) ∧ fr [] ((A ++ A2).filter (nin RAk2)) K2 (ptk2 K2 K1) := by
  refine ⟨⟨rfl, fun k hk => ptk_o2 hk, fun k hk i hd => ?_, fun k i => ?_⟩, fun k hk => ?_, fun k hk => ?_⟩
  · rw [ptk_i2 hk]
    obtain ⟨d1, d2, d3⟩ := hd
    have hm := nin_mem hk
    have hb : ∀ x ∈ RAk2, x < 72 ∨ (72 ≤ x ∧ x < 79) ∨ (79 ≤ x ∧ x < 91) := by decide
    rcases hb k hm with b | ⟨b1, b2⟩ | ⟨b1, b2⟩
    · have e := HKa (n := i.toNat) hh b (v1.2 k _) (v2.2 k _)
      rw [show ((i.toNat : Nat) : Int) = i by omega] at e
      exact e.symm
    · have d2 := d2 b1 (by omega)
      have ht : ∀ x : Nat, 72 ≤ x → x < 79 → klg x = false := by
        intro x x1 x2
        have : ∀ y : Fin 7, klg (72 + y.val) = false := by decide
        have q := this ⟨x - 72, by omega⟩
        dsimp only at q
        rw [show 72 + (x - 72) = x by omega] at q
        exact q
      have w1 := v1.2 k ((i.toNat : Nat) : Int)
      have w2 := v2.2 k ((i.toNat : Nat) : Int)
      rw [ht k b1 b2] at w1 w2
      have e := HKt (t := i.toNat) hh (by omega) b1 b2 w1 w2
      rw [show ((i.toNat : Nat) : Int) = i by omega] at e
      exact e.symm
    · have d3 := d3 b1
      have e := HKu (t := (i / 65536).toNat) (n := (i % 65536).toNat) hh (by omega) (by omega) b1 b2 (v1.2 k _) (v2.2 k _)
      rw [show 65536 * (((i / 65536).toNat : Nat) : Int) + (((i % 65536).toNat : Nat) : Int) = i by omega] at e
      exact e.symm
  · cases hk : nin RAk2 k with
    | true => rw [ptk_o2 hk]; exact v1.2 k i
    | false => rw [ptk_i2 hk]; exact v2.2 k i
  · show K1.1 k = K2.1 k
    by_cases b : 200 ≤ k ∧ k < 236
    · exact HKf hh b.1 b.2 (v1.1 k) (v2.1 k)
    · have nn : ∀ l : List Nat, l.all (fun k => decide (200 ≤ k) && decide (k < 236)) = true → nin l k = true := by
        intro l hl
        cases hn : nin l k with
        | true => rfl
        | false =>
          have := List.all_eq_true.mp hl k (nin_mem hn)
          simp only [Bool.and_eq_true, decide_eq_true_eq] at this
          exact absurd this b
      rw [List.all_append, Bool.and_eq_true] at hF
      rw [f1.1 k (nn F hF.1), f2.1 k (nn F2 hF.2), h.1]
  · cases hr : nin RAk2 k with
    | false => rw [ptk_i2 hr]
    | true =>
      rw [ptk_o2 hr]
      have n1 : nin A k = true ∧ nin A2 k = true := nin_fil hk hr
      rw [f1.2 k n1.1, f2.2 k n1.2, h.2.1 k hr]
theorem AGm_h2 {F2 A2 : List Nat} {c c' : Nat → Option am_C} (h : AGm2 M M') (f1 : fr F A M M1) (f2 : fr F2 A2 M' M2) (hh : mhp M1 c = mhp M2 c') (hF : (F ++ F2).all (fun k => decide (k < 179) && decide (mkd k < 3)) = true) (v1 : (∀ k, rV (lg k) (M1.1 k)) ∧ ∀ k i, rV (lg k) (M1.2 k i)) (v2 : (∀ k, rV (lg k) (M2.1 k)) ∧ ∀ k i, rV (lg k) (M2.2 k i)) : AGm2 M1 (ptm2 M2 M1) ∧ fr [] ((A ++ A2).filter (nin RAx2)) M2 (ptm2 M2 M1) := by
  refine ⟨⟨rfl, fun k hk => ptm_o2 hk, fun k hk i hd => ?_, fun k i => ?_⟩, fun k hk => ?_, fun k hk => ?_⟩
  · rw [ptm_i2 hk]
    have hm := nin_mem hk
    have hb : ∀ x ∈ RAx2, x < 179 ∧ 3 ≤ mkd x := by decide +kernel
    obtain ⟨b1, b2⟩ := hb k hm
    have e := HMa (n := i.toNat) hh b1 b2 (v1.2 k _) (v2.2 k _)
    rw [show ((i.toNat : Nat) : Int) = i by omega] at e
    exact e.symm
  · cases hk : nin RAx2 k with
    | true => rw [ptm_o2 hk]; exact v1.2 k i
    | false => rw [ptm_i2 hk]; exact v2.2 k i
  · show M1.1 k = M2.1 k
    by_cases b : k < 179 ∧ mkd k < 3
    · exact HMf hh b.1 b.2 (v1.1 k) (v2.1 k)
    · have nn : ∀ l : List Nat, l.all (fun k => decide (k < 179) && decide (mkd k < 3)) = true → nin l k = true := by
        intro l hl
        cases hn : nin l k with
        | true => rfl
        | false =>
          have := List.all_eq_true.mp hl k (nin_mem hn)
          simp only [Bool.and_eq_true, decide_eq_true_eq] at this
          exact absurd this b
      rw [List.all_append, Bool.and_eq_true] at hF
      rw [f1.1 k (nn F hF.1), f2.1 k (nn F2 hF.2), h.1]
  · cases hr : nin RAx2 k with
    | false => rw [ptm_i2 hr]
    | true =>
      rw [ptm_o2 hr]
      have n1 : nin A k = true ∧ nin A2 k = true := nin_fil hk hr
      rw [f1.2 k n1.1, f2.2 k n1.2, h.2.1 k hr]
end AGR2

section PKM
variable {K K1 M M1 Kp mp Kj mj : mR} {F A G C : List Nat} {c1 c2 c3 c4 : Nat → Option am_C} {i : Int}
set_option maxHeartbeats 1000000 in
theorem sub_k : (RAk.all fun k => !(nin RAk2 k)) = true := by decide +kernel
set_option maxHeartbeats 1000000 in
theorem sub_x : (RAx.all fun k => !(nin RAx2 k)) = true := by decide +kernel
set_option maxHeartbeats 1000000 in
theorem AG_k2 (h : AGk K Kp) : AGk2 K Kp := by
  obtain ⟨h1, h2, h3, h4⟩ := h
  refine ⟨h1, fun k hk => h2 k ?_, fun k hk j hj => ?_, h4⟩
  · cases q : nin RAk k with
    | true => rfl
    | false =>
      have w := List.all_eq_true.mp sub_k k (nin_mem q)
      rw [hk] at w
      cases w
  · cases q : nin RAk k with
    | true => rw [h2 k q]
    | false => exact h3 k q j hj
set_option maxHeartbeats 1000000 in
theorem AG_m2 (h : AGm M mp) : AGm2 M mp := by
  obtain ⟨h1, h2, h3, h4⟩ := h
  refine ⟨h1, fun k hk => h2 k ?_, fun k hk j hj => ?_, h4⟩
  · cases q : nin RAx k with
    | true => rfl
    | false =>
      have w := List.all_eq_true.mp sub_x k (nin_mem q)
      rw [hk] at w
      cases w
  · cases q : nin RAx k with
    | true => rw [h2 k q]
    | false => exact h3 k q j hj
def PJ3 (K M Kj mj : mR) : Prop := AGk2 K Kj ∧ AGm2 M mj ∧ PJ Kj mj
def PJs (K M : mR) : Prop := ∃ Kj mj, PJ3 K M Kj mj
set_option maxHeartbeats 1000000 in
theorem AGk_C2 (h : AGk2 K Kj) (hK : KTy K) : KCn Kj := by
  refine ⟨fun k => ?_, h.2.2.2, ?_⟩
  · rw [h.1]
    exact (KTy_V hK).1 k
  · exact KO_c (h.2.1 107 (by decide)) (h.2.1 108 (by decide)) hK.2.2
set_option maxHeartbeats 1000000 in
theorem AGm_C2 (h : AGm2 M mj) (hM : Ty M) : Cn mj := by
  refine ⟨fun k => ?_, h.2.2.2⟩
  rw [h.1]
  exact (Ty_V hM).1 k
set_option maxHeartbeats 1000000 in
theorem D_k2 {w : wX} {D mi N : Nat} {av : List Value} {c : Nat → Option am_C} {Q : ag_Re af_T → Prop} (hA : AGk2 K Kj) (h : PC w D mi av (khp Kj c, N) Q) : PC w D mi av (khp K c, N) Q := by
  rw [← khp_AG2 hA]
  exact h
set_option maxHeartbeats 1000000 in
theorem D_m2 {w : wX} {D mi N : Nat} {av : List Value} {c : Nat → Option am_C} {Q : ag_Re af_T → Prop} (hB : AGm2 M mj) (h : PC w D mi av (mhp mj c, N) Q) : PC w D mi av (mhp M c, N) Q := by
  rw [← mhp_AG2 hB]
  exact h

set_option maxHeartbeats 1000000 in
theorem PJs_0 (vK : KTy K) (vM : Ty M) (h7 : M.1 127 = 0) (h8 : M.1 128 = 0) : PJs K M := ⟨K, M, ⟨rfl, fun _ _ => rfl, fun _ _ _ _ => rfl, (KTy_V vK).2⟩, ⟨rfl, fun _ _ => rfl, fun _ _ _ _ => rfl, (Ty_V vM).2⟩, fun q => absurd q (by omega), fun q => absurd q (by omega), fun q => absurd q (by omega)⟩
set_option maxHeartbeats 1000000 in
theorem ZR_f (h : ZR K M) (fK : fr F A K K1) (fM : fr G C M M1) (k2 : chk [71, 78] A = true) (k3 : chk [26, 149, 150, 151] G = true) (k4 : chk [138, 139] C = true) : ZR K1 M1 := by
  obtain ⟨h1, h2, h3, h4, h5, h6⟩ := h
  refine ⟨fun t t0 t1 => ?_, W71_f h2 fK (chk_s k2 rfl), Z138_f h3 fM (chk_s k4 rfl), by rw [fr1 fM 149 (chk_1 k3 (by decide))]; exact h4, by rw [fr1 fM 150 (chk_1 k3 (by decide))]; exact h5, by rw [fr1 fM 151 (chk_1 k3 (by decide))]; exact h6⟩
  rw [fr1 fM 26 (chk_1 k3 (by decide))] at t1
  rw [fr2 fK 78 (chk_1 k2 (by decide)), fr2 fM 139 (chk_1 k4 (by decide))]
  exact h1 t t0 t1
end PKM

section PKN
variable {K K1 M M1 Kj mj : mR} {F A G C : List Nat} {c1 c2 c3 c4 : Nat → Option am_C} {i : Int}
set_option maxHeartbeats 1000000 in
theorem JR_R (hP : RPL K M) (h : JR K M) (hG : ∀ t, 0 ≤ t → t < M.1 26 → GVQ t K M) (fK : fr F A K K1) (k1 : chk [218, 219, 220, 221, 225] F = true) (k2 : chk (59 :: 71 :: pgK) A = true) (k2' : chk tbK A = true) (fM : fr G C M M1) (k3 : chk (129 :: 150 :: 151 :: 152 :: pgN) G = true) (k4 : chk pgM C = true) (k4' : chk sdM C = true) (rows : ∀ k, 0 ≤ k → M.1 151 - 64 ≤ k → (k < M.1 150 ∨ k < M.1 151) → RWF (k % 128) K K1) (w0 : 0 ≤ M.1 151) (line : ∀ q, 0 ≤ q → q < M1.1 149 → LNQ K1 M1 q ((M.1 150 + q) % 128) ∧ LNP K1 M1 q ((M.1 150 + q) % 128)) : JR K1 M1 := by
  obtain ⟨HT, HW, HV, HX, HU_nx, h⟩ := h
  have J := JX_R hP h hG fK k1 k2 k2' fM (chk_s k3 rfl) k4 k4' rows w0 line
  have eh : homeK K1 = homeK K := funext (fun t => home_c (fr1 fK 225 (chk_1 k1 (by decide))) (fr2 fK 55 (chk_1 k2 (by decide))) (fr2 fK 59 (chk_1 k2 (by decide))))
  refine ⟨HT, HW, HV, HX, HU_nx, ?_⟩
  rw [fr1 fM 129 (chk_1 k3 (by decide)), fr1 fM 150 (chk_1 k3 (by decide)), fr1 fM 151 (chk_1 k3 (by decide)), fr1 fM 152 (chk_1 k3 (by decide)), fr2 fM 167 (chk_1 k4' (by decide)), eh]
  exact J
set_option maxHeartbeats 1000000 in
theorem LYS_f (h : LYS K M) (fK : fr F A K K1) (fM : fr G C M M1) (k1 : chk [225] F = true) (k2 : chk (59 :: stF) A = true) (k3 : chk [129] G = true) : LYS K1 M1 := by
  obtain ⟨h1, h2⟩ := h
  refine ⟨fun s s0 s1 => ?_, fun s s' s0 s1 s2 => ?_⟩
  · rw [fr1 fK 225 (chk_1 k1 (by decide))] at s1
    rw [fr2 fK 59 (chk_1 k2 (by decide)), fr1 fM 129 (chk_1 k3 (by decide))]
    exact h1 s s0 s1
  · rw [fr1 fK 225 (chk_1 k1 (by decide))] at s2
    rw [fr2 fK 59 (chk_1 k2 (by decide))]
    exact LY2_f (h2 s s' s0 s1 s2) fK (chk_s k2 rfl)
def pjN : List Nat := 127 :: 128 :: 129 :: 150 :: 151 :: 152 :: pgN

set_option maxHeartbeats 1000000 in
theorem PJ_R (h : PJ K M) (fK : fr F A K K1) (k1 : chk [217, 218, 219, 220, 221, 225] F = true) (k2 : chk (59 :: 71 :: pgK) A = true) (k2' : chk tbK A = true) (fM : fr G C M M1) (k3 : chk pjN G = true) (k4 : chk pgM C = true) (k4' : chk sdM C = true) (k149 : M.1 128 ≠ 1 → M1.1 149 = M.1 149) (rows : M.1 128 = 1 → ∀ k, 0 ≤ k → M.1 151 - 64 ≤ k → (k < M.1 150 ∨ k < M.1 151) → RWF (k % 128) K K1) (w0 : 0 ≤ M.1 151) (pld : M.1 128 = 1 → M.1 127 = 1) (line : M.1 128 = 1 → ∀ q, 0 ≤ q → q < M1.1 149 → LNQ K1 M1 q ((M.1 150 + q) % 128) ∧ LNP K1 M1 q ((M.1 150 + q) % 128)) : PJ K1 M1 := by
  obtain ⟨h1, h2, h3⟩ := h
  have e127 : M1.1 127 = M.1 127 := fr1 fM 127 (chk_1 k3 (by decide))
  have e128 : M1.1 128 = M.1 128 := fr1 fM 128 (chk_1 k3 (by decide))
  have e129 : M1.1 129 = M.1 129 := fr1 fM 129 (chk_1 k3 (by decide))
  have c3 : chk pgN G = true := chk_s k3 rfl
  have cp : chk pgK A = true := chk_s k2 rfl
  refine ⟨fun q => PG_f (h1 (by omega)) fK fM k1 cp c3 k4, fun q q8 => ?_, fun q => ?_⟩
  · obtain ⟨z1, z2, z3, z4, z5, z6⟩ := h2 (by omega) (by omega)
    refine ⟨fun t t0 t1 => ?_, W71_f z2 fK (chk_s k2 rfl), Z138_f z3 fM (chk_s k4' rfl), by rw [k149 (by omega)]; exact z4, by rw [fr1 fM 150 (chk_1 k3 (by decide))]; exact z5, by rw [fr1 fM 151 (chk_1 k3 (by decide))]; exact z6⟩
    rw [fr1 fM 26 (chk_1 k3 (by decide))] at t1
    rw [fr2 fK 78 (chk_1 k2' (by decide)), fr2 fM 139 (chk_1 k4' (by decide))]
    exact z1 t t0 t1
  · rw [e128] at q
    obtain ⟨l1, l2, l3⟩ := h3 q
    have g := h1 (pld q)
    exact ⟨LYS_f l1 fK fM (chk_s k1 rfl) (chk_s k2 rfl) (chk_s k3 rfl), by rw [e129]; exact l2, JR_R (RPL_g g l1 l2) l3 g.2.2.2.2.2.2.2 fK (chk_s k1 rfl) k2 k2' fM (chk_s k3 rfl) k4 k4' (rows q) w0 (line q)⟩

set_option maxHeartbeats 1000000 in
theorem run_pe {a0 : Int} (hP : RPL K M) (hG : ∀ t, 0 ≤ t → t < M.1 26 → GVQ t K M) (h6 : ∀ g, K.2 106 g < 128) (e1 : K.1 201 = M.1 127) (l1 : M.1 128 = 1) (q7 : M.1 127 = 1) (l2 : K.1 226 = M.1 129) (e2 : K.1 232 = M.1 148) (e3 : K.1 233 = M.1 150) (e5 : K.1 235 = M.1 152) (hp : M.1 150 + M.1 149 = M.1 148) (hp0 : 0 ≤ M.1 149) (L1 : M.1 149 ≤ 40) (hc : 0 ≤ M.1 152 ∧ M.1 152 ≤ 500000) (hm : M.1 148 ≤ 500000) (hrow : ∀ r, 0 ≤ r → r < 128 → r < K.1 232 → 1 ≤ K.2 107 r) (h : TM K M) (hH : ∀ t, 0 ≤ t → t < M.1 26 → 0 ≤ homeK K t ∧ homeK K t < M.1 129) (h225 : 0 ≤ K.1 225 ∧ K.1 225 ≤ 1000) (hq : JR K M) : RR (kf_pw_run a0 K) (rf_run a0 M) (fun y z => JR y.2.2 z.2) := by
  obtain ⟨l3, l4⟩ := hP.2.2.2.2.1
  have f1 : ∀ x : Int, fr [1] [] M (mO M [(1, x)] []) := fun x => fr_m fr_0 rfl rfl
  have hG1 : ∀ x : Int, ∀ t, 0 ≤ t → t < (mO M [(1, x)] []).1 26 → GVQ t K (mO M [(1, x)] []) := fun x t t0 t1 => GVQ_f (hG t t0 t1) (fr_0 (u := []) (v := []) (x := K)) (f1 x) rfl rfl rfl
  have T : TMv (M.1 129) (M.1 152) (M.1 151) (M.1 150) (skp K) (M.2 167) := by
    rcases h.2 with ⟨-, t⟩ | ⟨t, -⟩
    · exact t
    · exact absurd l1 t
  have f0 : fr ([] : List Nat) ([] : List Nat) K K := fr_0
  have pq : ∀ x : Int, JR K (mO M [(1, x)] []) := fun x => by
    refine JR_R hP hq hG f0 rfl rfl rfl (f1 x) rfl rfl rfl (fun k _ _ _ => RWF_0 f0 rfl) T.1.1 (fun q q0 q1 => ?_)
    obtain ⟨HT, HW, HV, HX, HU_nx, J⟩ := hq
    exact J.2.2.2.1 q q0 q1
  have same : ∀ (t x : Int), RR (some (t, 0, K)) (some (0, mO M [(1, x)] [])) (fun (y : Int × Int × mR) (z : Int × mR) => JR y.2.2 z.2) := fun t x => RR_some (pq x)
  unfold kf_pw_run rf_run
  refine RR_l laid_k (fun y7 hy7 => ?_)
  refine RR_il (fun g => absurd g (by omega)) (fun _ => ?_)
  refine RR_ir (fun g => absurd g (by omega)) (fun _ => ?_)
  refine RR_ii Iff.rfl (fun g1 _ => ?_) (fun g1 _ => ?_)
  · unfold kfl_pw_run_28 rfl_run_22 rfl_run_27
    exact RR_ir (fun g => absurd g (by decide)) (fun _ => same 1 2)
  · refine RR_ii Iff.rfl (fun g2 _ => ?_) (fun g2 _ => ?_)
    · unfold rfl_run_27
      refine RR_ir (fun _ => ?_) (fun g => absurd (by decide) g)
      have hP1 : RPL K (mO M [(1, 0)] []) := RPL_f hP (fr_0 (u := []) (v := []) (x := K)) (f1 0) rfl rfl rfl rfl
      refine RR_bnd (run_p (K := K) (M := mO M [(1, 0)] []) hP1 h225 (by omega) g2 hc hm hrow h6 (hG1 0) hH L1 ⟨e2, e3, h.1, e5, hp, hp0, l2, T⟩ (pq 0)) (fun e f hef => ?_)
      unfold kfl_pw_run_67 rfl_run_124
      exact RR_some hef.2
    · unfold kfl_pw_run_28 rfl_run_22 rfl_run_27
      exact RR_ir (fun g => absurd g (by decide)) (fun _ => same 1 2)
end PKN

section PKO
variable {K M : mR} {a b : Int}

def QJ (K M : mR) : Prop := (K.1 234 = M.1 151 ∧ 0 ≤ M.1 151 ∧ M.1 151 ≤ 1000000) ∧ (∀ r, 0 ≤ r → r < 128 → r < M.1 151 → 1 ≤ K.2 107 r) ∧ (0 < M.1 151 → M.1 128 = 1) ∧ KCn K
set_option maxHeartbeats 1000000 in
theorem gone_q (h : QJ K M) : RR (kf_pi_goneOut a K) (rf_isOut a M) (fun y x => (y < 0 ∧ x = 0) ∨ (x = 1 ∧ y = a % 128 ∧ 0 ≤ a ∧ M.1 151 - 64 ≤ a ∧ a < M.1 151)) := by
  obtain ⟨⟨e, w0, w1⟩, hr, -, -⟩ := h
  unfold kf_pi_goneOut rf_isOut kfl_pi_goneOut_27 kfl_pi_goneOut_28 kfl_pi_goneOut_47 rfl_isOut_28
  rw [e, cut_i (by omega) (by omega)]
  refine RR_ii Iff.rfl (fun _ _ => ?_) (fun g1 _ => RR_ii Iff.rfl (fun _ _ => ?_) (fun g2 _ => RR_ii Iff.rfl (fun _ _ => ?_) (fun g3 _ => ?_)))
  · rw [if_pos rfl]
    exact RR_some (Or.inl ⟨by decide, rfl⟩)
  · rw [if_pos rfl]
    exact RR_some (Or.inl ⟨by decide, rfl⟩)
  · rw [if_pos rfl]
    exact RR_some (Or.inl ⟨by decide, rfl⟩)
  · rw [if_neg (show ¬ (1 : Int) = 0 by decide), Int.tmod_eq_emod_of_nonneg (by omega), kopn_p (hr _ (by omega) (by omega) (by omega))]
    exact RR_some (Or.inr ⟨rfl, rfl, by omega, by omega, by omega⟩)
set_option maxHeartbeats 1000000 in
theorem sbt_f : ∀ k : Fin 256, and32 (sbt ((k.val : Nat) : Int)) 255 = ((k.val : Nat) : Int) := by decide +kernel
set_option maxHeartbeats 1000000 in
theorem sbt_and {c : Int} (h0 : 0 ≤ c) (h1 : c ≤ 255) : and32 (sbt c) 255 = c := by
  have w := sbt_f ⟨c.toNat, by omega⟩
  dsimp only at w
  rw [show ((c.toNat : Nat) : Int) = c by omega] at w
  exact w
set_option maxHeartbeats 1000000 in
theorem sent_k {r : Int} : RP (kf_op_isSent r K) (fun y => (y = 1 ∧ K.2 91 r = 0 ∧ K.2 98 r = 0) ∨ (y = 0 ∧ ¬ (K.2 91 r = 0 ∧ K.2 98 r = 0))) := by
  unfold kf_op_isSent kfl_op_isSent_19
  exact RP_ite (fun g => RP_ite (fun q => RP_some (Or.inl ⟨rfl, g, q⟩)) (fun q => RP_some (Or.inr ⟨rfl, fun z => q z.2⟩))) (fun g => RP_some (Or.inr ⟨rfl, fun z => g z.1⟩))

set_option maxHeartbeats 1000000 in
theorem JR_o (h : JR K M) (a0 : 0 ≤ a) (a1 : M.1 151 - 64 ≤ a) (a2 : a < M.1 151) : OUTr K M (a % 128) (M.1 129) := by
  obtain ⟨HT, HW, HV, HX, HU_nx, J⟩ := h
  exact J.2.2.2.2.2.2.2 a a0 a1 a2
set_option maxHeartbeats 1000000 in
theorem out_q (h : QJ K M) (hJ : M.1 128 = 1 → JR K M) : RR (kf_pw_out a b K) (rf_out a b M) (fun y z => y = z.1) := by
  have h0 : QJ K (mO M [(1, 0)] []) := h
  unfold kf_pw_out rf_out kfl_pw_out_84 kfl_pw_out_98
  refine RR_bnd (gone_q (a := a) h0) (fun y x hyx => ?_)
  rcases hyx with ⟨q1, q2⟩ | ⟨q1, q2, a0, a1, a2⟩
  · rw [if_pos q1, if_pos q2]
    exact RR_some rfl
  · have a1 : M.1 151 - 64 ≤ a := a1
    have a2 : a < M.1 151 := a2
    have o := JR_o (hJ (h.2.2.1 (by omega))) a0 a1 a2
    obtain ⟨⟨o1, o2, o3⟩, o4, -⟩ := o
    have r99 := h.2.2.2.2.1 99 (a % 128)
    have r99 : R32 (K.2 99 (a % 128)) := r99
    rw [if_neg (show ¬ y < 0 by omega), if_neg (show ¬ x = 0 by omega), q2, Int.tmod_eq_emod_of_nonneg a0]
    refine RR_l sent_k (fun s hs => ?_)
    refine RR_ii Iff.rfl (fun _ _ => RR_some o1) (fun _ _ => RR_ii Iff.rfl (fun _ _ => RR_some o2) (fun _ _ => RR_ii Iff.rfl (fun _ _ => ?_) (fun _ _ => RR_ii Iff.rfl (fun _ _ => ?_) (fun _ _ => RR_ii Iff.rfl (fun _ _ => ?_) (fun _ _ => RR_some rfl)))))
    · rcases hs with ⟨s1, s2⟩ | ⟨s1, s2⟩
      · rw [if_neg (by omega)]
        rcases o4 with ⟨-, -, w, -⟩ | ⟨w, -⟩
        · exact RR_some w
        · exact absurd s2 w
      · rw [if_pos s1]
        rcases o4 with ⟨w1, w2, -⟩ | ⟨-, w, -⟩
        · exact absurd ⟨w1, w2⟩ s2
        · exact RR_some w.symm
    · rcases hs with ⟨s1, s2⟩ | ⟨s1, s2⟩
      · rw [if_neg (by omega)]
        rcases o4 with ⟨-, -, -, w, -⟩ | ⟨w, -⟩
        · exact RR_some w
        · exact absurd s2 w
      · rw [if_pos s1]
        rcases o4 with ⟨w1, w2, -⟩ | ⟨-, -, w⟩
        · exact absurd ⟨w1, w2⟩ s2
        · exact RR_some w.symm
    · rw [← o3, cut_i r99.1 (by have := r99.2; omega)]
      exact RR_some rfl
set_option maxHeartbeats 1000000 in
theorem byte_q (h : QJ K M) (hJ : M.1 128 = 1 → JR K M) : RR (kf_pw_byteAt a b K) (rf_byteAt2 a b M) (fun y z => y = z.1) := by
  have h0 : QJ K (mO M [(1, 0)] []) := h
  unfold kf_pw_byteAt rf_byteAt2 rfl_byteAt2_51
  refine RR_bnd (gone_q (a := a) h0) (fun y x hyx => ?_)
  rcases hyx with ⟨q1, q2⟩ | ⟨q1, q2, a0, a1, a2⟩
  · rw [if_pos q1, if_pos q2]
    exact RR_some rfl
  · have a1 : M.1 151 - 64 ≤ a := a1
    have a2 : a < M.1 151 := a2
    have o := JR_o (hJ (h.2.2.1 (by omega))) a0 a1 a2
    obtain ⟨-, o4, -⟩ := o
    rw [if_neg (show ¬ y < 0 by omega), if_neg (show ¬ x = 0 by omega), q2, Int.tmod_eq_emod_of_nonneg a0]
    refine RR_l sent_k (fun s hs => ?_)
    rcases hs with ⟨s1, s2⟩ | ⟨s1, s2⟩
    · rcases o4 with ⟨-, -, -, w4, ⟨w5, w6⟩, w7⟩ | ⟨w, -⟩
      · rw [if_neg (show ¬ s = 0 by omega)]
        refine RR_ii Iff.rfl (fun _ _ => RR_some rfl) (fun b0 _ => ?_)
        by_cases bl : b < K.2 92 (a % 128)
        · obtain ⟨x1, x2, x3⟩ := w7 b (by omega) bl
          rw [if_pos bl, if_neg (show ¬ M.2 166 (a % 128) ≤ b by omega), cut_i (z := 896 * (a % 128)) (by omega) (by omega), cut_i (by omega) (by omega), x1]
          exact RR_some (sbt_and x2 x3)
        · rw [if_neg bl, if_pos (show M.2 166 (a % 128) ≤ b by omega)]
          exact RR_some rfl
      · exact absurd s2 w
    · rcases o4 with ⟨w1, w2, -⟩ | ⟨-, -, w⟩
      · exact absurd ⟨w1, w2⟩ s2
      · rw [if_pos s1]
        refine RR_ir (fun _ => RR_some rfl) (fun b0 => ?_)
        rw [if_pos (show M.2 166 (a % 128) ≤ b by omega)]
        exact RR_some rfl
set_option maxHeartbeats 1000000 in
theorem did_q (h : QJ K M) (hJ : M.1 128 = 1 → JR K M) (e225 : M.1 128 = 1 → K.1 225 = M.1 27 ∧ M.1 27 ≤ 48) : RR (kf_pw_did a b K) (rf_did a b M) (fun y z => y = z.1) := by
  have h0 : QJ K (mO M [(1, 0)] []) := h
  unfold kf_pw_did rf_did rfl_did_56
  refine RR_bnd (gone_q (a := a) h0) (fun y x hyx => ?_)
  rcases hyx with ⟨q1, q2⟩ | ⟨q1, q2, a0, a1, a2⟩
  · rw [if_pos q1, if_pos q2]
    exact RR_some rfl
  · have a1 : M.1 151 - 64 ≤ a := a1
    have a2 : a < M.1 151 := a2
    have l8 := h.2.2.1 (by omega)
    have o := JR_o (hJ l8) a0 a1 a2
    obtain ⟨e1, e2⟩ := e225 l8
    obtain ⟨⟨o1, -, -⟩, -, o5⟩ := o
    rw [if_neg (show ¬ y < 0 by omega), if_neg (show ¬ x = 0 by omega), q2, Int.tmod_eq_emod_of_nonneg a0]
    refine RR_r in_r (fun u hu => ?_)
    rcases hu with ⟨u1, u2⟩ | ⟨u1, u2, u3⟩
    · rw [if_pos u1]
      refine RR_il (fun _ => RR_il (fun _ => RR_some rfl) (fun b0 => ?_)) (fun _ => RR_some rfl)
      rw [if_neg (by omega)]
      exact RR_some rfl
    · rw [if_neg (show ¬ u = 0 by omega), o1]
      refine RR_ii Iff.rfl (fun k0 _ => ?_) (fun _ _ => RR_some rfl)
      rw [if_neg (show ¬ b < 0 by omega), if_pos (show b < K.1 225 by omega), cut_i (z := 48 * (a % 128)) (by omega) (by omega), cut_i (by omega) (by omega)]
      exact RR_some (o5 (by omega) b u2 (by omega))

set_option maxHeartbeats 1000000 in
theorem word_now (h : JR K M) (e : M.1 150 ≤ M.1 151) (b0 : 0 ≤ a) (b1 : a < M.1 22) (i0 : 0 ≤ b) (i1 : b < 64) (m22 : M.1 22 ≤ 8) : K.2 71 (64 * a + b) = M.2 138 (64 * a + b) := by
  obtain ⟨HT, HW, HV, HX, HU_nx, -, -, -, -, ⟨-, p2⟩, h6, -, -⟩ := h
  obtain ⟨n, ⟨⟨n0, n1⟩, -, -⟩, n4⟩ := p2 a b0 b1
  rw [n4 b i0 i1, show n = M.1 150 by omega]
  exact h6 _ (by omega) (by omega)
set_option maxHeartbeats 1000000 in
theorem word_q (h : PJ K M) (e201 : K.1 201 = M.1 127) (h01 : M.1 127 = 0 ∨ M.1 127 = 1) (h8 : (M.1 128 = 1 ∧ 0 < K.1 226) ∨ (M.1 128 = 0 ∧ K.1 226 ≤ 0)) (pld : M.1 128 = 1 → M.1 127 = 1) (e233 : K.1 233 = M.1 150) (e234 : K.1 234 = M.1 151) (w0 : 0 ≤ M.1 151) (wE : M.1 151 ≤ M.1 150) (b150 : M.1 150 ≤ 1000000) : RR (kf_pw_word a b K) (rf_word a b M) (fun y z => (y.1 = 0 ∧ z.2.1 1 = 0 ∧ y.2.1 = z.1) ∨ (y.1 = 2 ∧ z.2.1 1 = 1)) := by
  obtain ⟨j1, j2, j3⟩ := h
  unfold kf_pw_word rf_word kf_pi_inStages kfl_pw_word_60
  rw [bnd_some, e233, e234, cut_i (by omega) (by omega)]
  refine RR_ii (by omega) (fun g1 g2 => ?_) (fun g1 g2 => ?_)
  · unfold rfl_word_17 rfl_word_73 rfl_word_74
    rw [if_pos rfl]
    refine RR_l laid_k (fun u hu => ?_)
    rcases hu with ⟨rfl, hu⟩ | ⟨rfl, u0, u1⟩
    · rw [if_pos rfl]
      refine RR_ir (fun q => RR_some (Or.inl ⟨rfl, rfl, rfl⟩)) (fun q => RR_r in_r (fun x hx => ?_))
      rcases hx with ⟨x0, -⟩ | ⟨x0, x1, x2⟩
      · rw [if_pos x0]
        exact RR_some (Or.inl ⟨rfl, rfl, rfl⟩)
      · rw [if_neg (show ¬ x = 0 by omega)]
        have q1 : M.1 127 = 1 := by omega
        have q8 : M.1 128 = 0 := by omega
        obtain ⟨-, -, z3, -⟩ := j2 q1 q8
        have g := (j1 q1).1.2.2.2.2.2.1.1
        refine RR_ir (fun _ => RR_some (Or.inl ⟨rfl, rfl, rfl⟩)) (fun b0 => RR_ir (fun _ => RR_some (Or.inl ⟨rfl, rfl, rfl⟩)) (fun b1 => ?_))
        have m22 : M.1 22 ≤ 8 := g.2.2.2.2.1
        have w := (g.2.1 a x1 x2).2.2.2
        rw [cut_i (z := 64 * a) (by omega) (by omega), cut_i (by omega) (by omega)]
        exact RR_some (Or.inl ⟨rfl, rfl, (z3 _ (by omega) (by omega)).symm⟩)
    · rw [if_neg (show ¬ (1 : Int) = 0 by decide)]
      have l8 : M.1 128 = 1 := by omega
      have q1 := pld l8
      have pg := j1 q1
      have g := pg.1.2.2.2.2.2.1.1
      have m22 : M.1 22 ≤ 8 := g.2.2.2.2.1
      rw [if_neg (show ¬ M.1 127 = 0 by omega), pg.2.2.2.2.2.1]
      refine RR_r in_r (fun x hx => ?_)
      rcases hx with ⟨x0, x1⟩ | ⟨x0, x1, x2⟩
      · rw [if_pos x0]
        refine RR_il (fun _ => RR_some (Or.inl ⟨rfl, rfl, rfl⟩)) (fun a0 => ?_)
        rw [if_pos (show M.1 22 ≤ a by omega)]
        exact RR_some (Or.inl ⟨rfl, rfl, rfl⟩)
      · obtain ⟨-, -, -, w16, w1, w2⟩ := g.2.1 a x1 x2
        rw [if_neg (show ¬ x = 0 by omega), if_neg (show ¬ a < 0 by omega), if_neg (show ¬ M.1 22 ≤ a by omega), w16]
        refine RR_ii Iff.rfl (fun _ _ => RR_some (Or.inl ⟨rfl, rfl, rfl⟩)) (fun b0 _ => ?_)
        by_cases bl : b < M.2 93 a
        · rw [if_pos bl, if_neg (show ¬ M.2 93 a ≤ b by omega), cut_i (z := a * 64) (by omega) (by omega), cut_i (by omega) (by omega), cut_i (z := 64 * a) (by omega) (by omega), cut_i (by omega) (by omega), show a * 64 + b = 64 * a + b by omega]
          exact RR_some (Or.inl ⟨rfl, rfl, word_now (j3 l8).2.2 (by omega) x1 x2 (by omega) (by omega) m22⟩)
        · rw [if_neg bl, if_pos (show M.2 93 a ≤ b by omega)]
          exact RR_some (Or.inl ⟨rfl, rfl, rfl⟩)
  · unfold rfl_word_17 rfl_word_73 rfl_word_74
    rw [if_neg (by decide)]
    exact RR_some (Or.inr ⟨rfl, rfl⟩)
end PKO

section PKP
variable {K K1 M M1 Kj mj : mR} {F A G C : List Nat} {i : Int}

def pta (A : List Nat) (K' K1 : mR) : mR := (K1.1, fun k => if nin RAk2 k = true then K1.2 k else if nin A k = true then K'.2 k else K1.2 k)
def pma (A : List Nat) (M' M1 : mR) : mR := (M1.1, fun k => if nin RAx2 k = true then M1.2 k else if nin A k = true then M'.2 k else M1.2 k)
set_option maxHeartbeats 1000000 in
theorem pta_o {k : Nat} (h : nin RAk2 k = true) : (pta A Kj K1).2 k = K1.2 k := if_pos h
set_option maxHeartbeats 1000000 in
theorem pta_a {k : Nat} (h : nin A k = false) : (pta A Kj K1).2 k = K1.2 k := by
  show (if nin RAk2 k = true then K1.2 k else if nin A k = true then Kj.2 k else K1.2 k) = _
  cases q : nin RAk2 k with
  | true => exact if_pos rfl
  | false => rw [if_neg (by decide), if_neg (by rw [h]; decide)]
set_option maxHeartbeats 1000000 in
theorem pta_i {k : Nat} (h : nin RAk2 k = false) (h2 : nin A k = true) : (pta A Kj K1).2 k = Kj.2 k := by
  show (if nin RAk2 k = true then K1.2 k else if nin A k = true then Kj.2 k else K1.2 k) = _
  rw [if_neg (by rw [h]; decide), if_pos h2]
set_option maxHeartbeats 1000000 in
theorem pma_o {k : Nat} (h : nin RAx2 k = true) : (pma A mj M1).2 k = M1.2 k := if_pos h
set_option maxHeartbeats 1000000 in
theorem pma_a {k : Nat} (h : nin A k = false) : (pma A mj M1).2 k = M1.2 k := by
  show (if nin RAx2 k = true then M1.2 k else if nin A k = true then mj.2 k else M1.2 k) = _
  cases q : nin RAx2 k with
  | true => exact if_pos rfl
  | false => rw [if_neg (by decide), if_neg (by rw [h]; decide)]
set_option maxHeartbeats 1000000 in
theorem pma_i {k : Nat} (h : nin RAx2 k = false) (h2 : nin A k = true) : (pma A mj M1).2 k = mj.2 k := by
  show (if nin RAx2 k = true then M1.2 k else if nin A k = true then mj.2 k else M1.2 k) = _
  rw [if_neg (by rw [h]; decide), if_pos h2]
set_option maxHeartbeats 1000000 in
theorem AGk_g (h : AGk2 K Kj) (f : fr F A K K1) (hv : ∀ k j, rV (klg k) (K1.2 k j)) : AGk2 K1 (pta A Kj K1) ∧ fr F A Kj (pta A Kj K1) := by
  refine ⟨⟨rfl, fun k hk => pta_o hk, fun k hk j hd => ?_, fun k j => ?_⟩, fun k hk => ?_, fun k hk => ?_⟩
  · cases q : nin A k with
    | true => rw [pta_i hk q, h.2.2.1 k hk j hd, f.2 k q]
    | false => rw [pta_a q]
  · cases q : nin RAk2 k with
    | true => rw [pta_o q]; exact hv k j
    | false =>
      cases q2 : nin A k with
      | true => rw [pta_i q q2]; exact h.2.2.2 k j
      | false => rw [pta_a q2]; exact hv k j
  · show K1.1 k = Kj.1 k
    rw [h.1]
    exact f.1 k hk
  · cases q : nin RAk2 k with
    | true => rw [pta_o q, h.2.1 k q]; exact f.2 k hk
    | false => rw [pta_i q hk]
set_option maxHeartbeats 1000000 in
theorem AGm_g (h : AGm2 M mj) (f : fr G C M M1) (hv : ∀ k j, rV (lg k) (M1.2 k j)) : AGm2 M1 (pma C mj M1) ∧ fr G C mj (pma C mj M1) := by
  refine ⟨⟨rfl, fun k hk => pma_o hk, fun k hk j hd => ?_, fun k j => ?_⟩, fun k hk => ?_, fun k hk => ?_⟩
  · cases q : nin C k with
    | true => rw [pma_i hk q, h.2.2.1 k hk j hd, f.2 k q]
    | false => rw [pma_a q]
  · cases q : nin RAx2 k with
    | true => rw [pma_o q]; exact hv k j
    | false =>
      cases q2 : nin C k with
      | true => rw [pma_i q q2]; exact h.2.2.2 k j
      | false => rw [pma_a q2]; exact hv k j
  · show M1.1 k = mj.1 k
    rw [h.1]
    exact f.1 k hk
  · cases q : nin RAx2 k with
    | true => rw [pma_o q, h.2.1 k q]; exact f.2 k hk
    | false => rw [pma_i q hk]
def rwA : List Nat := [91, 92, 93, 94, 95, 96, 97, 98, 99, 100, 101, 102, 103, 104, 105]
def lnA : List Nat := [153, 154, 155, 156, 157, 158, 159, 160, 161, 162]

set_option maxHeartbeats 1000000 in
theorem LN_m {q row : Int} (h : LNQ K M q row ∧ LNP K M q row) (f : fr G C M M1) (k3 : chk [26] G = true) (k4 : chk lnA C = true) : LNQ K M1 q row ∧ LNP K M1 q row := by
  unfold LNQ LNP at *
  rw [fr1 f 26 (chk_1 k3 (by decide)), fr2 f 153 (chk_1 k4 (by decide)), fr2 f 154 (chk_1 k4 (by decide)), fr2 f 155 (chk_1 k4 (by decide)), fr2 f 156 (chk_1 k4 (by decide)), fr2 f 157 (chk_1 k4 (by decide)), fr2 f 158 (chk_1 k4 (by decide)), fr2 f 159 (chk_1 k4 (by decide)), fr2 f 160 (chk_1 k4 (by decide)), fr2 f 161 (chk_1 k4 (by decide)), fr2 f 162 (chk_1 k4 (by decide))]
  exact h
set_option maxHeartbeats 1000000 in
theorem JR_ln (h : JR K M) : ∀ q, 0 ≤ q → q < M.1 149 → LNQ K M q ((M.1 150 + q) % 128) ∧ LNP K M q ((M.1 150 + q) % 128) := by
  obtain ⟨HT, HW, HV, HX, HU_nx, J⟩ := h
  exact J.2.2.2.1

set_option maxHeartbeats 1000000 in
theorem PJs_fr (h : PJs K M) (w0 : 0 ≤ M.1 151) (pld : M.1 128 = 1 → M.1 127 = 1) (fK : fr F A K K1) (vK : KTy K1) (fM : fr G C M M1) (vM : Ty M1) (k1 : chk [217, 218, 219, 220, 221, 225] F = true) (k2 : chk (59 :: 71 :: pgK) A = true) (k2' : chk tbK A = true) (kr : chk rwA A = true) (k3 : chk (149 :: pjN) G = true) (k4 : chk pgM C = true) (k4' : chk sdM C = true) (kl : chk lnA C = true) : PJs K1 M1 := by
  obtain ⟨Kj, mj, a, b, j⟩ := h
  obtain ⟨a1, f1⟩ := AGk_g a fK (KTy_V vK).2
  obtain ⟨b1, f2⟩ := AGm_g b fM (Ty_V vM).2
  have e : mj.1 = M.1 := b.1
  have e149 : (pma C mj M1).1 149 = mj.1 149 := fr1 f2 149 (chk_1 k3 (by decide))
  refine ⟨_, _, a1, b1, PJ_R j f1 k1 k2 k2' f2 (chk_s k3 rfl) k4 k4' (fun _ => e149) (fun _ k _ _ _ => RWF_0 f1 kr) (by rw [e]; exact w0) (by rw [e]; exact pld) (fun q8 q q0 q1 => ?_)⟩
  rw [e149] at q1
  exact LN_m (LN_R (JR_ln (j.2.2 q8).2.2 q q0 q1) (RWF_0 f1 kr)) f2 (chk_s k3 rfl) kl

set_option maxHeartbeats 1000000 in
theorem PJs_n {r : Int} (h : PJs K M) (hT : TM K M) (h12 : M.1 128 = 1 → M.1 129 ≤ 12) (w0 : 0 ≤ M.1 151) (wE : M.1 151 ≤ M.1 150) (pld : M.1 128 = 1 → M.1 127 = 1) (l0 : 0 ≤ M.1 149) (l40 : M.1 149 < 40) (l8 : M.1 128 = 1) (er : r = (M.1 150 + M.1 149) % 128) (fK : fr [200, 232] A K K1) (vK : KTy K1) (fM : fr [1, 5, 148, 149] lnA M M1) (vM : Ty M1) (k2 : chk (59 :: 71 :: pgK) A = true) (k2' : chk tbK A = true) (kr : chk RAk2 A = true) (e149 : M1.1 149 = M.1 149 + 1) (hrw : ∀ v, v ≠ r → RWF v K K1) (hq : ∀ q, 0 ≤ q → q < M1.1 149 → LNQ K1 M1 q ((M.1 150 + q) % 128)) (hold : ∀ q, 0 ≤ q → q < M.1 149 → M1.2 153 q = M.2 153 q ∧ M1.2 154 q = M.2 154 q ∧ M1.2 155 q = M.2 155 q ∧ ∀ j, 0 ≤ j → j < 128 → M1.2 159 (128 * q + j) = M.2 159 (128 * q + j)) (hnew : LNP K1 M1 (M.1 149) r) : PJs K1 M1 := by
  obtain ⟨Kj, mj, a, b, j⟩ := h
  obtain ⟨a1, f1⟩ := AGk_g a fK (KTy_V vK).2
  obtain ⟨b1, f2⟩ := AGm_g b fM (Ty_V vM).2
  have e : mj.1 = M.1 := b.1
  have hEW : M.1 150 - M.1 151 ≤ 12 := by
    rcases hT.2 with ⟨-, t⟩ | ⟨t, -⟩
    · rcases Int.lt_or_le (M.1 151) (M.1 150) with q | q
      · have w := t.2.1 (M.1 151) (Int.le_refl _) q
        have x := h12 l8
        omega
      · omega
    · exact absurd l8 t
 
  have rk : ∀ k, 91 ≤ k → (pta A Kj K1).2 k = K1.2 k ∧ Kj.2 k = K.2 k := fun k hk => ⟨pta_o (nin_hi2 k hk), a.2.1 k (nin_hi2 k hk)⟩
  have rw' : ∀ v, v ≠ r → RWF v Kj (pta A Kj K1) := fun v hv => by
    have w := hrw v hv
    unfold RWF RWE at w ⊢
    rw [(rk 91 (by decide)).1, (rk 92 (by decide)).1, (rk 93 (by decide)).1, (rk 94 (by decide)).1, (rk 95 (by decide)).1, (rk 96 (by decide)).1, (rk 97 (by decide)).1, (rk 98 (by decide)).1, (rk 99 (by decide)).1, (rk 100 (by decide)).1, (rk 101 (by decide)).1, (rk 102 (by decide)).1, (rk 103 (by decide)).1, (rk 104 (by decide)).1, (rk 105 (by decide)).1, (rk 91 (by decide)).2, (rk 92 (by decide)).2, (rk 93 (by decide)).2, (rk 94 (by decide)).2, (rk 95 (by decide)).2, (rk 96 (by decide)).2, (rk 97 (by decide)).2, (rk 98 (by decide)).2, (rk 99 (by decide)).2, (rk 100 (by decide)).2, (rk 101 (by decide)).2, (rk 102 (by decide)).2, (rk 103 (by decide)).2, (rk 104 (by decide)).2, (rk 105 (by decide)).2]
    exact w
  have ml : ∀ k, nin RAx2 k = true → (pma lnA mj M1).2 k = M1.2 k ∧ mj.2 k = M.2 k := fun k hk => ⟨pma_o hk, b.2.1 k hk⟩
  have l149 : (pma lnA mj M1).1 149 = M.1 149 + 1 := e149
  refine ⟨_, _, a1, b1, PJ_R j f1 rfl k2 k2' f2 (by decide +kernel) (by decide +kernel) (by decide +kernel) (fun q => absurd (by rw [e]; exact l8) q) (fun _ k k0 k1 k2 => rw' _ ?_) (by rw [e]; exact w0) (by rw [e]; exact pld) (fun q8 q q0 q1 => ?_)⟩
  · rw [e] at k1 k2
    omega
  · rw [l149] at q1
    rw [e]
    have A1 : LNQ K1 M1 q ((M.1 150 + q) % 128) := hq q q0 (by rw [e149]; exact q1)
    have B1 : LNP K1 M1 q ((M.1 150 + q) % 128) := by
      by_cases eq : q = M.1 149
      · rw [eq, ← er]
        exact hnew
      · have jl := (JR_ln (j.2.2 q8).2.2 q q0 (by rw [e]; omega)).2
        rw [e] at jl
        obtain ⟨h1, h2, h3, h4⟩ := hold q q0 (by omega)
        have w := rw' ((M.1 150 + q) % 128) (by omega)
        have jl1 := LNP_K jl ⟨w.1.1.2.1, w.2.1.1⟩ w.1.2.1
        intro z
        rw [h1] at z
        have z' : mj.2 153 q = 0 := by rw [(ml 153 rfl).2]; exact z
        obtain ⟨x1, x2, x3⟩ := jl1 z'
        rw [(rk 92 (by decide)).1, (ml 154 rfl).2] at x1
        rw [(rk 93 (by decide)).1, (ml 155 rfl).2] at x2
        rw [(rk 100 (by decide)).1, (ml 154 rfl).2, (ml 159 rfl).2] at x3
        refine ⟨by rw [h2]; exact x1, by rw [h3]; exact x2, fun t t0 t1 => ?_⟩
        rw [h2] at t1
        rw [h4 t t0 (by omega)]
        exact x3 t t0 t1
    unfold LNQ at A1 ⊢
    unfold LNP at B1 ⊢
    rw [(rk 91 (by decide)).1, (rk 92 (by decide)).1, (rk 93 (by decide)).1, (rk 95 (by decide)).1, (rk 96 (by decide)).1, (rk 97 (by decide)).1, (rk 100 (by decide)).1, (rk 103 (by decide)).1, (rk 104 (by decide)).1, (rk 105 (by decide)).1, (ml 153 rfl).1, (ml 154 rfl).1, (ml 155 rfl).1, (ml 156 rfl).1, (ml 157 rfl).1, (ml 158 rfl).1, (ml 159 rfl).1, (ml 160 rfl).1, (ml 161 rfl).1, (ml 162 rfl).1]
    exact ⟨A1, B1⟩
end PKP

section PKQ
variable {K K1 M M1 Kp mp : mR} {c1 c2 c3 c4 : Nat → Option am_C} {i : Int}
set_option maxHeartbeats 1000000 in
theorem kehi22 : kelo 22 = 0 ∧ kehi 22 = 64 := by decide +kernel
set_option maxHeartbeats 1000000 in
theorem fhi99 : fhi 99 ≤ 4000 := by decide +kernel
set_option maxHeartbeats 1000000 in
theorem PJs_read {y : Int × Int × mR} {z : Int × mR} (hA : AGk K Kp) (hB : AGm M mp) (hR : REL0 Kp mp) (hy : kf_pw_read Kp = some y) (hz : rf_read mp = some z) (cK : KCn y.2.2) (cM : Cn z.2) (hk : khp K1 c1 = khp y.2.2 c2) (hm : mhp M1 c3 = mhp z.2 c4) (fK : fr fF_pw_read fA_pw_read K K1) (vK : KTy K1) (fM : fr fF_read fA_read M M1) (vM : Ty M1) (hRX : RX K1 M1) (hIM1 : IM i M1) (hz0 : K1.1 232 = 0 ∧ K1.1 233 = 0 ∧ (K1.1 201 = 1 → ∀ t, 0 ≤ t → t < K1.1 219 → K1.2 78 t = 0)) : PJs K1 M1 := by
  obtain ⟨a1, f1⟩ := AGk_h2 (AG_k2 hA) fK (u_kf_pw_read Kp y hy) hk (by decide) (KTy_V vK) ⟨cK.1, cK.2.1⟩
  obtain ⟨b1, f2⟩ := AGm_h2 (AG_m2 hB) fM (read_rf z hz).1 hm (by decide +kernel) (Ty_V vM) ⟨cM.1, cM.2⟩
  obtain ⟨x1, x2, x3, x4, x5, x6, x7⟩ := RX_fa hRX
  obtain ⟨d1, d2, d4⟩ := hz0
  have fk : ∀ k, 200 ≤ k → k < 236 → K1.1 k = y.2.2.1 k := fun k p q => HKf hk p q ((KTy_V vK).1 k) (cK.1 k)
  have fm : ∀ k, k < 179 → mkd k < 3 → M1.1 k = z.2.1 k := fun k p q => HMf hm p q ((Ty_V vM).1 k) (cM.1 k)
  have am : ∀ (k : Nat) (j : Int), k < 179 → 3 ≤ mkd k → 0 ≤ j → z.2.2 k j = M1.2 k j := fun k j p q j0 => by
    obtain ⟨n, rfl⟩ : ∃ n : Nat, j = n := ⟨j.toNat, by omega⟩
    exact (HMa hm p q ((Ty_V vM).2 k n) (cM.2 k n)).symm
  have d3 : K1.1 226 = 0 := (fk 226 (by decide) (by decide)).trans (read_ku y hy).1.2.2.1
  have pin := IM_pin hIM1
  have pou := IM_pou hIM1
  have t151 : 0 ≤ M1.1 151 := (vM.1 151).1
  have t149 : 0 ≤ M1.1 149 := (vM.1 149).1
  have h8 : M1.1 128 ≠ 1 := by
    rcases x2 with ⟨p, q, r⟩ | ⟨p, -⟩ <;> omega
  have hIM0 := hIM1
  obtain ⟨m_ct, m_pth, m_pld, m_hNM0, m_hFA0, m_hPA0, m_hHB0, m_wCN, m_wSO, m_wSt, m_wTd, m_wAc, m_wTb, m_wIN, m_wHO, m_wAR, m_wSp, m_wEM, m_wNA, m_hEMp, m_hEAp, m_hLT, m_pin, m_pou⟩ := hIM1
  refine ⟨_, _, a1, b1, fun q => ?_, fun q _ => ?_, fun q => absurd q h8⟩
  · have q : M1.1 127 = 1 := q
    have y0 : y.1 = 0 := by
      rcases (read_ku y hy).2.1 with w | w
      · exact w
      · have := fk 201 (by decide) (by decide)
        omega
    have g : RD2 y.2.1 y.2.2 z.1 z.2 := by
      rcases read2_s hR.1 hR.2.2.2.1 hR.2.1 y z hy hz with w | w
      · exact w.2
      · exact absurd y0 w.1
    have e25 := fm 25 (by decide) (by decide)
    have e26 := fm 26 (by decide) (by decide)
    have e19 := fm 19 (by decide) (by decide)
    have e24 := fm 24 (by decide) (by decide)
    have e99 := fm 99 (by decide) (by decide)
    refine PG_f (PG_read g cM (fun j j0 => ?_) (fun h h0 h1 => ?_) (fun a a0 a1 => ?_) ?_ (fun t t0 t1 w => ?_) (fun s s0 s1 => ?_)) f1 f2 rfl (by decide +kernel) rfl (by decide +kernel)
    · obtain ⟨n, rfl⟩ : ∃ n : Nat, j = n := ⟨j.toNat, by omega⟩
      rw [← HKa hk (show 22 < 72 by decide) ((KTy_V vK).2 22 n) (cK.2.1 22 n)]
      have w := vK.2.1 22 n
      obtain ⟨e1, e2⟩ := kehi22
      rw [e1, e2] at w
      exact w
    · rw [am 30 h (by decide) (by decide) h0]
      exact m_wHO q h h0 (by omega)
    · rw [am 109 a (by decide) (by decide) a0, am 50 a (by decide) (by decide) a0, ← e99]
      exact m_wAc q a a0 (by omega)
    · rw [← e99]
      exact Int.le_trans (vM.1 99).2 fhi99
    · rw [am 54 t (by decide) (by decide) t0]
      rw [am 58 t (by decide) (by decide) t0] at w
      have v := (m_wTb q t t0 (by omega)).2.2.2.1
      rcases (g.1.2.1.2.2.2.2.2.2.2.1 t t0 t1).2.2.1 with ⟨u, -⟩ | ⟨u, -⟩
      · rw [am 58 t (by decide) (by decide) t0] at u
        exact v u
      · rw [am 58 t (by decide) (by decide) t0] at u
        exact absurd u w
    · rw [am 41 s (by decide) (by decide) s0]
      rcases m_wNA q s s0 (by omega) with w | w
      · exact Or.inl w
      · refine Or.inr ?_
        rw [← e24]
        exact NR_p (fun j j0 => ⟨am 44 j (by decide) (by decide) j0, am 38 j (by decide) (by decide) j0, am 42 j (by decide) (by decide) j0, am 45 j (by decide) (by decide) j0, am 41 j (by decide) (by decide) j0⟩) s0 w
  · have q : M1.1 127 = 1 := q
    have e26 := fm 26 (by decide) (by decide)
    have g1 := (RX_GV hRX hIM0 q).2.1
    refine ⟨fun t t0 t1 => ⟨?_, ?_⟩, W71_f (read_71 y hy) f1 (by decide +kernel), Z138_f (read_w z hz) f2 (by decide +kernel), ?_, ?_, ?_⟩
    · have t1 : t < M1.1 26 := t1
      rw [fr2 f1 78 (by decide +kernel)]
      obtain ⟨n, rfl⟩ : ∃ n : Nat, t = n := ⟨t.toNat, by omega⟩
      rw [← HKt hk (show n < 8 by omega) (by decide) (by decide) ((KTy_V vK).2 78 n) (cK.2.1 78 n)]
      exact d4 (by omega) n (by omega) (by have := x7 q; omega)
    · have t1 : t < M1.1 26 := t1
      rw [fr2 f2 139 (by decide +kernel)]
      exact read_9 z hz t t0 (by omega)
    · show M1.1 149 = 0
      omega
    · show M1.1 150 = 0
      omega
    · show M1.1 151 = 0
      omega
end PKQ

section PKR
variable {K K1 M M1 Kj mj : mR} {c1 c2 c3 c4 : Nat → Option am_C} {i : Int}
set_option maxHeartbeats 1000000 in
theorem TMv_c2 {S C W E : Int} {s a a' : Int → Int} (h : TMv S C W E s a) (e : ∀ r, 0 ≤ r → r < 128 → a' r = a r) : TMv S C W E s a' := by
  obtain ⟨h1, h2, h3, h4⟩ := h
  have e' : ∀ k : Int, a' (k % 128) = a (k % 128) := fun k => e _ (by omega) (by omega)
  refine ⟨h1, fun k k0 k1 => by rw [e']; exact h2 k k0 k1, fun g g0 g1 => ?_, fun k l k0 kl l1 => by rw [e', e']; exact h4 k l k0 kl l1⟩
  rcases h3 g g0 g1 with q | ⟨k, k0, k1, k2⟩
  · exact Or.inl q
  · exact Or.inr ⟨k, k0, k1, by rw [e']; exact k2⟩
set_option maxHeartbeats 1000000 in
theorem TM_j (h : TM K M) (hA : AGk2 K Kj) (hB : AGm2 M mj) : TM Kj mj := by
  have es : skp Kj = skp K := by
    funext g
    unfold skp
    rw [hA.2.1 106 (by decide), hA.2.1 107 (by decide)]
  unfold TM at h ⊢
  rw [hA.1, hB.1, es]
  refine ⟨h.1, ?_⟩
  rcases h.2 with ⟨q, t⟩ | q
  · exact Or.inl ⟨q, TMv_c2 t (fun r r0 _ => AGm_d2 hB r0)⟩
  · exact Or.inr q
set_option maxHeartbeats 1000000 in
theorem RWF_h {y : mR} {r : Int} (hk : khp K1 c1 = khp y c2) (o1 : OKr K1 r) (o2 : OKr y r) (vK : KTy K1) (cK : KCn y) : RWF r y (ptk2 y K1) := by
  have KV := (KTy_V vK).2
  have p : ∀ k, 91 ≤ k → (ptk2 y K1).2 k = K1.2 k := fun k h => ptk_o2 (nin_hi2 k h)
  have f : ∀ k, 91 ≤ k → k < 100 → klg k = false → K1.2 k r = y.2 k r := fun k k0 k1 kl => by
    have v1 := KV k r
    have v2 := cK.2.1 k r
    rw [kl] at v1 v2
    exact HKo hk o1 o2 k0 k1 v1 v2
  have w : ∀ k, 100 ≤ k → k < 106 → ∀ j, 0 ≤ j → j < 65536 → K1.2 k (65536 * r + j) = y.2 k (65536 * r + j) := fun k k0 k1 j j0 j1 => by
    obtain ⟨n, rfl⟩ : ∃ n : Nat, j = n := ⟨j.toNat, by omega⟩
    exact HKw hk o1 o2 (by omega) k0 k1 (KV k _) (cK.2.1 k _)
  unfold RWF RWE
  rw [p 91 (by decide), p 92 (by decide), p 93 (by decide), p 94 (by decide), p 95 (by decide), p 96 (by decide), p 97 (by decide), p 98 (by decide), p 99 (by decide), p 100 (by decide), p 101 (by decide), p 102 (by decide), p 103 (by decide), p 104 (by decide), p 105 (by decide)]
  exact ⟨⟨⟨f 91 (by decide) (by decide) rfl, f 92 (by decide) (by decide) rfl, f 94 (by decide) (by decide) rfl, f 95 (by decide) (by decide) rfl, f 96 (by decide) (by decide) rfl, f 97 (by decide) (by decide) rfl, f 98 (by decide) (by decide) rfl⟩, fun j j0 j1 => w 100 (by decide) (by decide) j j0 (by omega), fun j j0 j1 => w 101 (by decide) (by decide) j j0 (by omega), fun j j0 j1 => w 102 (by decide) (by decide) j j0 (by omega), fun j j0 j1 => ⟨w 103 (by decide) (by decide) j j0 (by omega), w 104 (by decide) (by decide) j j0 (by omega), w 105 (by decide) (by decide) j j0 (by omega)⟩⟩, ⟨f 93 (by decide) (by decide) rfl, f 99 (by decide) (by decide) rfl⟩, fun j j0 j1 => w 100 (by decide) (by decide) j j0 (by omega)⟩
set_option maxHeartbeats 1000000 in
theorem LN_e {q row : Int} (h : LNQ K M q row ∧ LNP K M q row) (q0 : 0 ≤ q) (e26 : M1.1 26 = M.1 26) (e : ∀ k, k ∈ lnA → ∀ j, 0 ≤ j → M1.2 k j = M.2 k j) : LNQ K M1 q row ∧ LNP K M1 q row := by
  obtain ⟨⟨b1, b2, b3⟩, hp⟩ := h
  refine ⟨?_, ?_⟩
  · unfold LNQ
    rw [e 153 (by decide) q q0, e 156 (by decide) q q0, e 157 (by decide) q q0, e 158 (by decide) q q0, e26]
    refine ⟨b1, b2, fun z => ?_⟩
    obtain ⟨x1, x2, x3, x4⟩ := b3 z
    refine ⟨x1, x2, x3, fun j j0 j1 => ?_⟩
    rw [e 160 (by decide) _ (by omega), e 161 (by decide) _ (by omega), e 162 (by decide) _ (by omega)]
    exact x4 j j0 j1
  · unfold LNP
    rw [e 153 (by decide) q q0, e 154 (by decide) q q0, e 155 (by decide) q q0]
    intro z
    obtain ⟨x1, x2, x3⟩ := hp z
    refine ⟨x1, x2, fun j j0 j1 => ?_⟩
    rw [e 159 (by decide) _ (by omega)]
    exact x3 j j0 j1
set_option maxHeartbeats 1000000 in
theorem PJs_run {a0 : Int} {y : Int × Int × mR} {z : Int × mR} (hK : KTy K) (hM : Ty M) (hIK : IK i K) (hIM : IM i M) (i1 : i ≤ 4000) (hRel : RX K M) (hT : TM K M) (hPQ : PQs K M) (hA : AGk2 K Kj) (hB : AGm2 M mj) (hJ : PJ Kj mj) (hy : kf_pw_run a0 Kj = some y) (hz : rf_run a0 mj = some z) (cK : KCn y.2.2) (cM : Cn z.2) (hk : khp K1 c1 = khp y.2.2 c2) (hm : mhp M1 c3 = mhp z.2 c4) (fK : fr fF_pw_run fA_pw_run K K1) (vK : KTy K1) (fM : fr fF_run fA_run M M1) (vM : Ty M1) (hr1 : ∀ r, 0 ≤ r → r < 128 → r < K1.1 232 → 1 ≤ K1.2 107 r) {i2 : Int} (hIM1 : IM i2 M1) : PJs K1 M1 := by
  obtain ⟨x1, x2, x3, x4, x5, x6, x7⟩ := RX_fa hRel
  have x12 := RX_12 hRel
  have e0 : Kj.1 = K.1 := hA.1
  have e1 : mj.1 = M.1 := hB.1
  have fy := u_kf_pw_run a0 Kj y hy
  have fz := u_rf_run a0 mj z hz
  obtain ⟨w0, l0, l1⟩ := IM_l hM hIM
  obtain ⟨m_ct, m_pth, m_pld, m_hNM0, m_hFA0, m_hPA0, m_hHB0, m_wCN, m_wSO, m_wSt, m_wTd, m_wAc, m_wTb, m_wIN, m_wHO, m_wAR, m_wSp, m_wEM, m_wNA, m_hEMp, m_hEAp, m_hLT, m_pin, m_pou⟩ := id hIM
  have L1 : M.1 149 ≤ 40 := Int.le_trans (hM.1 149).2 fhi149
  have t152 : 0 ≤ M.1 152 := (hM.1 152).1
  have z127 : z.2.1 127 = M.1 127 := (fr1 fz 127 rfl).trans (by rw [e1])
  have z128 : z.2.1 128 = M.1 128 := (fr1 fz 128 rfl).trans (by rw [e1])
  have z129 : z.2.1 129 = M.1 129 := (fr1 fz 129 rfl).trans (by rw [e1])
  have hj8 : mj.1 128 = M.1 128 := by rw [e1]
  have hj7 : mj.1 127 = M.1 127 := by rw [e1]
 
  have P : PJ y.2.2 z.2 := by
    rcases x2 with ⟨a, b, d⟩ | ⟨a, b⟩
    · have q7 := m_pld a
      have g := hJ.1 (by rw [hj7]; exact q7)
      obtain ⟨j1, j2, j3⟩ := hJ.2.2 (by rw [hj8]; exact a)
      have hP := RPL_g g j1 j2
      have hG := g.2.2.2.2.2.2.2
      have k27 := hP.1.2.2.2.2.2.2
      have h27 := hP.1.2.2.2.2.2.1.2.2.2.2.1
      have hH : ∀ t, 0 ≤ t → t < mj.1 26 → 0 ≤ homeK Kj t ∧ homeK Kj t < mj.1 129 := fun t t0 t1 => by
        unfold homeK
        rcases fnda_r (Kj.2 55) t (Kj.1 225).toNat with q | ⟨q0, q1⟩
        · rw [if_pos q]
          have := j2.1
          omega
        · rw [if_neg (by omega)]
          exact j1.1 _ q0 (by omega)
      have R := run_pe (a0 := a0) hP hG (by rw [hA.2.1 106 (by decide)]; exact KTy_6 hK) (by rw [e0, e1]; exact x1) (by rw [hj8]; exact a) (by rw [hj7]; exact q7) (by rw [e0, e1]; exact b) (by rw [e0, e1]; exact x4) (by rw [e0, e1]; exact x5) (by rw [e0, e1]; exact x6) (by rw [e1]; exact m_pin) (by rw [e1]; exact l0) (by rw [e1]; exact L1) (by rw [e1]; exact ⟨t152, by omega⟩) (by rw [e1]; omega) (by rw [hA.2.1 107 (by decide), e0]; exact hIK.2.1) (TM_j hT hA hB) hH (by omega) j3 y z hy hz
      exact ⟨fun _ => PG_f g fy fz (by decide +kernel) (by decide +kernel) (by decide +kernel) (by decide +kernel), fun _ q8 => absurd a (by omega), fun _ => ⟨LYS_f j1 fy fz (by decide +kernel) (by decide +kernel) (by decide +kernel), by rw [z129, ← e1]; exact j2, R⟩⟩
    · have ey : y.2.2 = Kj := run_kz (by rw [e0]; omega) y hy
      have ez : z.2 = mO mj [(1, 1)] [] := run_rz (by rw [e1]; exact a) z hz
      rw [ey, ez]
      exact ⟨hJ.1, hJ.2.1, hJ.2.2⟩
  obtain ⟨a1, f1⟩ := AGk_h2 hA fK fy hk (by decide +kernel) (KTy_V vK) ⟨cK.1, cK.2.1⟩
  obtain ⟨b1, f2⟩ := AGm_h2 hB fM fz hm (by decide +kernel) (Ty_V vM) ⟨cM.1, cM.2⟩
  have am : ∀ (k : Nat) (j : Int), k < 179 → 3 ≤ mkd k → 0 ≤ j → M1.2 k j = z.2.2 k j := fun k j p q j0 => by
    obtain ⟨n, rfl⟩ : ∃ n : Nat, j = n := ⟨j.toNat, by omega⟩
    exact HMa hm p q ((Ty_V vM).2 k n) (cM.2 k n)
  have fm : ∀ k, k < 179 → mkd k < 3 → M1.1 k = z.2.1 k := fun k p q => HMf hm p q ((Ty_V vM).1 k) (cM.1 k)
  have k232 : K1.1 232 = K.1 232 := (HKf hk (by decide) (by decide) ((KTy_V vK).1 232) (cK.1 232)).trans ((fr1 fy 232 rfl).trans (by rw [e0]))
  have pz : z.2.1 150 + z.2.1 149 = M.1 148 ∧ 0 ≤ z.2.1 149 ∧ 0 ≤ z.2.1 151 ∧ z.2.1 151 ≤ z.2.1 150 := by
    have e148 : z.2.1 148 = M.1 148 := (fr1 fz 148 rfl).trans (by rw [e1])
    rw [← e148, ← fm 148 (by decide) (by decide), ← fm 149 (by decide) (by decide), ← fm 150 (by decide) (by decide), ← fm 151 (by decide) (by decide)]
    exact ⟨IM_pin hIM1, (vM.1 149).1, (vM.1 151).1, IM_pou hIM1⟩
  have rows : ∀ k, 0 ≤ k → k < z.2.1 150 + z.2.1 149 → RWF (k % 128) y.2.2 (ptk2 y.2.2 K1) := fun k k0 k1 => by
    have b1 := hr1 (k % 128) (by omega) (by omega) (by omega)
    have b2 : 1 ≤ y.2.2.2 107 (k % 128) := by
      rw [fr2 fy 107 rfl, hA.2.1 107 (by decide)]
      exact hIK.2.1 _ (by omega) (by omega) (by omega)
    have o1 : OKr K1 (k % 128) := by
      rcases vK.2.2.2.1 (k % 128) (by omega) (by omega) with q | q
      · omega
      · exact q
    have o2 : OKr y.2.2 (k % 128) := by
      rcases cK.2.2.2.1 (k % 128) (by omega) (by omega) with q | q
      · omega
      · exact q
    exact RWF_h hk o1 o2 vK cK
  have e149 : (ptm2 z.2 M1).1 149 = z.2.1 149 := fr1 f2 149 rfl
  refine ⟨_, _, a1, b1, PJ_R P f1 (by decide +kernel) (by decide +kernel) (by decide +kernel) f2 (by decide +kernel) (by decide +kernel) (by decide +kernel) (fun _ => e149) (fun _ k k0 _ k2 => rows k k0 (by omega)) pz.2.2.1 (by rw [z127, z128]; exact m_pld) (fun q8 q q0 q1 => ?_)⟩
  rw [e149] at q1
  refine LN_e (LN_R (JR_ln (P.2.2 q8).2.2 q q0 q1) (rows _ (by omega) (by omega))) q0 (fr1 f2 26 rfl) (fun k hk j j0 => ?_)
  have kk : nin RAx2 k = true ∧ k < 179 ∧ 3 ≤ mkd k := by
    have w : lnA.all (fun k => nin RAx2 k && (decide (k < 179) && decide (3 ≤ mkd k))) = true := by decide +kernel
    have q := List.all_eq_true.mp w k hk
    rw [Bool.and_eq_true, Bool.and_eq_true, decide_eq_true_eq, decide_eq_true_eq] at q
    exact ⟨q.1, q.2.1, q.2.2⟩
  rw [ptm_o2 kk.1]
  exact am k j kk.2.1 kk.2.2 j0
end PKR

section PKS
variable {K K1 M M1 Kj mj : mR} {c1 c2 c3 c4 : Nat → Option am_C} {i a b c : Int}
set_option maxHeartbeats 1000000 in
theorem lay_kz (h : 0 < K.1 226) : RP (kf_pw_lay a b c K) (fun y => y.2.2 = K) := by
  unfold kf_pw_lay kfl_pw_lay_20
  exact RP_ite (fun _ => RP_some rfl) (fun _ => RP_ite (fun q => absurd q (by omega)) (fun _ => RP_some rfl))
set_option maxHeartbeats 1000000 in
theorem lay_rz (h : M.1 128 ≠ 0) : RP (rf_lay a b c M) (fun z => fr [1] [] M z.2) := by
  have L : ∀ u : Int, 0 < u → RP (rfl_lay_43 a b c u M) (fun z => fr [1] [] M z.2) := fun u hu => by
    unfold rfl_lay_43
    exact RP_ite (fun h => absurd h (by omega)) (fun _ => RP_some (fr_m fr_0 rfl rfl))
  unfold rf_lay rfl_lay_38 rfl_lay_15
  exact RP_ite (fun _ => L 1 (by decide)) (fun _ => RP_ite (fun h8 => absurd h8 h) (fun _ => L 1 (by decide)))

set_option maxHeartbeats 1000000 in
theorem RX_59 (h : RX K M) (h8 : M.1 128 = 1) (h7 : M.1 127 = 1) (hs : HSs M) {s : Int} (s0 : 0 ≤ s) (s1 : s < M.1 27) : 0 ≤ K.2 59 s ∧ K.2 59 s < M.1 129 := by
  obtain ⟨Kp, mp, a, b, r, -⟩ := h
  obtain ⟨r0, r1, r2, r3, r4, r5, r6, ⟨r7, r7b⟩, -⟩ := r
  have e1 : mp.1 = M.1 := b.1
  unfold LDR at r7
  rw [e1] at r7
  rcases r7 with ⟨-, -, ⟨l1, l2⟩, -, hme⟩ | ⟨l1, -⟩
  · obtain ⟨z1, z2, z3⟩ := hme s s0 (by rw [e1]; exact s1)
    rw [agk1 a (k := 59) rfl ⟨s0, fun q => by omega, fun q => by omega⟩, z1]
    refine ⟨z2, ?_⟩
    rw [← agm1 b (k := 131) rfl s0]
    exact hs h8 s s0 s1
  · omega
set_option maxHeartbeats 1000000 in
theorem PJs_lay {y : Int × Int × mR} {z : Int × mR} (hM : Ty M) (hIM : IM i M) (hRel : RX K M) (hA : AGk2 K Kj) (hB : AGm2 M mj) (hJ : PJ Kj mj) (hy : kf_pw_lay a b c Kj = some y) (hz : rf_lay a b c mj = some z) (cK : KCn y.2.2) (cM : Cn z.2) (hk : khp K1 c1 = khp y.2.2 c2) (hm : mhp M1 c3 = mhp z.2 c4) (fK : fr fF_pw_lay fA_pw_lay K K1) (vK : KTy K1) (fM : fr fF_lay fA_lay M M1) (vM : Ty M1) (hRX : RX K1 M1) (hPQ1 : PQs K1 M1) (hy0 : M1.1 128 = 1 → M.1 128 = 0 → y.1 = 0) : PJs K1 M1 := by
  obtain ⟨x1, x2, x3, x4, x5, x6, x7⟩ := RX_fa hRel
  obtain ⟨v1, v2, -⟩ := RX_fa hRX
  have e0 : Kj.1 = K.1 := hA.1
  have e1 : mj.1 = M.1 := hB.1
  have fy := u_kf_pw_lay a b c Kj y hy
  have fz : fr rF_lay rA_lay mj z.2 := (u_rf_lay a b c mj z hz).1
  obtain ⟨w0, l0, l1⟩ := IM_l hM hIM
  obtain ⟨m_ct, m_pth, m_pld, -⟩ := id hIM
  have hj8 : mj.1 128 = M.1 128 := by rw [e1]
  have hj7 : mj.1 127 = M.1 127 := by rw [e1]
  have fm : ∀ k, k < 179 → mkd k < 3 → M1.1 k = z.2.1 k := fun k p q => HMf hm p q ((Ty_V vM).1 k) (cM.1 k)
  have z127 : z.2.1 127 = mj.1 127 := fr1 fz 127 rfl
  have P : PJ y.2.2 z.2 := by
    by_cases l8 : M.1 128 = 1
    · have k226 : 0 < Kj.1 226 := by
        rw [e0]
        rcases x2 with ⟨p, q, r⟩ | ⟨p, q⟩ <;> omega
      rw [lay_kz k226 y hy]
      have f1 := lay_rz (M := mj) (by rw [hj8]; omega) z hz
      have f0 : fr ([] : List Nat) ([] : List Nat) Kj Kj := fr_0
      exact PJ_R hJ f0 rfl rfl rfl f1 (by decide +kernel) rfl rfl (fun q => absurd (by rw [hj8]; exact l8) q) (fun _ k _ _ _ => RWF_0 f0 rfl) (by rw [e1]; exact w0) (by rw [hj7, hj8]; exact m_pld) (fun q8 q q0 q1 => LN_m (JR_ln (hJ.2.2 q8).2.2 q q0 (by rw [fr1 f1 149 rfl] at q1; exact q1)) f1 rfl rfl)
    · have l80 : M.1 128 = 0 := by
        rcases x2 with ⟨p, -⟩ | ⟨p, -⟩
        · exact absurd p l8
        · exact p
      have pg : z.2.1 127 = 1 → PGr y.2.2 z.2 := fun q => PG_f (hJ.1 (by rw [← z127]; exact q)) fy fz (by decide +kernel) (by decide +kernel) (by decide +kernel) (by decide +kernel)
      have zr : z.2.1 127 = 1 → ZR y.2.2 z.2 := fun q => ZR_f (hJ.2.1 (by rw [← z127]; exact q) (by rw [hj8]; exact l80)) fy fz (by decide +kernel) (by decide +kernel) (by decide +kernel)
      refine ⟨pg, fun q _ => zr q, fun q => ?_⟩
      have q1 : M1.1 128 = 1 := (fm 128 (by decide) (by decide)).trans q
      have r2 : M1.1 129 = z.2.1 129 := fm 129 (by decide) (by decide)
      have r3 := RX_12 hRX q1
      have r4 : M1.1 127 = 1 := by
        obtain ⟨Kp, mp, a', b', r, -⟩ := hRX
        have w := r.2.2.2.2.2.2.2.1.2
        rw [b'.1] at w
        exact w q1
      have q7 : z.2.1 127 = 1 := (fm 127 (by decide) (by decide)).symm.trans r4
      have g := hJ.1 (by rw [← z127]; exact q7)
      obtain ⟨L1, -⟩ := lay_u g y hy
      obtain ⟨L2, L3⟩ := L1 (hy0 q1 l80)
      have k225 : y.2.2.1 225 = Kj.1 225 := fr1 fy 225 rfl
      have k27 : Kj.1 225 = mj.1 27 := g.1.2.2.2.2.2.2
      have m27 : M1.1 27 = mj.1 27 := (fm 27 (by decide) (by decide)).trans (fr1 fz 27 rfl)
      refine ⟨⟨fun s s0 s1 => ⟨L2 s s0 (by omega), ?_⟩, fun s s' s0 s1 s2 => LY2_f (L3 s s' s0 s1 (by omega)) fy (by decide +kernel)⟩, ⟨?_, by omega⟩, JR_0 (pg q7) (zr q7)⟩
      · have w := (RX_59 hRX q1 r4 hPQ1.2.1 s0 (by omega)).2
        obtain ⟨n, rfl⟩ : ∃ n : Nat, s = n := ⟨s.toNat, by omega⟩
        rw [HKa hk (show 59 < 72 by decide) ((KTy_V vK).2 59 n) (cK.2.1 59 n)] at w
        omega
      · rcases v2 with ⟨-, -, p⟩ | ⟨p, -⟩ <;> omega
  obtain ⟨a1, f1⟩ := AGk_h2 hA fK fy hk (by decide +kernel) (KTy_V vK) ⟨cK.1, cK.2.1⟩
  obtain ⟨b1, f2⟩ := AGm_h2 hB fM fz hm (by decide +kernel) (Ty_V vM) ⟨cM.1, cM.2⟩
  have e149 : (ptm2 z.2 M1).1 149 = z.2.1 149 := fr1 f2 149 rfl
  have pl : z.2.1 128 = 1 → z.2.1 127 = 1 := fun q => by
    obtain ⟨Kp, mp, a', b', r, -⟩ := hRX
    have w := r.2.2.2.2.2.2.2.1.2
    rw [b'.1, fm 128 (by decide) (by decide), fm 127 (by decide) (by decide)] at w
    exact w q
  refine ⟨_, _, a1, b1, PJ_R P f1 (by decide +kernel) (by decide +kernel) (by decide +kernel) f2 (by decide +kernel) (by decide +kernel) (by decide +kernel) (fun _ => e149) (fun _ k _ _ _ => RWF_0 f1 (by decide +kernel)) (by rw [fr1 fz 151 rfl, e1]; exact w0) pl (fun q8 q q0 q1 => ?_)⟩
  rw [e149] at q1
  exact LN_m (LN_R (JR_ln (P.2.2 q8).2.2 q q0 q1) (RWF_0 f1 (by decide +kernel))) f2 (by decide +kernel) (by decide +kernel)
end PKS

section PKT9
variable {K K1 M M1 Kj mj : mR} {c1 c2 c3 c4 : Nat → Option am_C} {i : Int} {A F : List Nat}

set_option maxHeartbeats 1000000 in
theorem pk_r2 {a0 : Int} (L0 : 0 ≤ M.1 149) (L1 : M.1 149 ≤ 40) (t0 : 0 ≤ M.1 5) : RP (rf_packet a0 M) (fun z => (M.1 128 = 0 ∨ M.1 149 = 40 ∨ 128 < M.1 5) ∨ (z.2.2 154 = upI (M.2 154) (M.1 149) (M.1 5) ∧ z.2.2 155 = upI (M.2 155) (M.1 149) a0 ∧ (∀ j, 0 ≤ j → j < M.1 5 → z.2.2 159 (128 * M.1 149 + j) = M.2 3 j) ∧ ∀ j, j < 128 * M.1 149 → z.2.2 159 j = M.2 159 j)) := by
  have bad : ∀ u : Int, 0 < u → (M.1 128 = 0 ∨ M.1 149 = 40 ∨ 128 < M.1 5) → RP (rfl_packet_36 a0 u M) (fun z => (M.1 128 = 0 ∨ M.1 149 = 40 ∨ 128 < M.1 5) ∨ (z.2.2 154 = upI (M.2 154) (M.1 149) (M.1 5) ∧ z.2.2 155 = upI (M.2 155) (M.1 149) a0 ∧ (∀ j, 0 ≤ j → j < M.1 5 → z.2.2 159 (128 * M.1 149 + j) = M.2 3 j) ∧ ∀ j, j < 128 * M.1 149 → z.2.2 159 j = M.2 159 j)) := fun u hu hb => by
    unfold rfl_packet_36
    exact RP_ite (fun g => absurd g (by omega)) (fun _ => RP_some (Or.inl hb))
  unfold rf_packet rfl_packet_17
  refine RP_ite (fun q => bad 1 (by decide) (Or.inl q)) (fun q => RP_ite (fun q1 => bad 1 (by decide) (Or.inr (Or.inl q1))) (fun q1 => RP_ite (fun q2 => ?_) (fun q2 => bad 2 (by decide) (Or.inr (Or.inr (by omega))))))
  unfold rfl_packet_36
  refine RP_ite (fun _ => ?_) (fun g => absurd (show (0 : Int) ≤ 0 by decide) g)
  refine RP_bnd (P := fun e => fr [1] [154, 155, 159] M e ∧ e.2 154 = upI (M.2 154) (M.1 149) (M.1 5) ∧ e.2 155 = upI (M.2 155) (M.1 149) a0 ∧ (∀ j, 0 ≤ j → j < M.1 5 → e.2 159 (128 * M.1 149 + j) = M.2 3 j) ∧ ∀ j, j < 128 * M.1 149 → e.2 159 j = M.2 159 j) (RP_whl (I := fun s : Int × mR => (0 ≤ s.1 ∧ s.1 ≤ M.1 5) ∧ fr [1] [154, 155, 159] M s.2 ∧ s.2.2 154 = upI (M.2 154) (M.1 149) (M.1 5) ∧ s.2.2 155 = upI (M.2 155) (M.1 149) a0 ∧ (∀ j, 0 ≤ j → j < s.1 → s.2.2 159 (128 * M.1 149 + j) = M.2 3 j) ∧ ∀ j, j < 128 * M.1 149 → s.2.2 159 j = M.2 159 j) (fun s hs => ?_) ⟨⟨Int.le_refl _, t0⟩, fr_m fr_0 rfl rfl, rfl, rfl, fun j j0 j1 => by have j1 : j < 0 := j1; omega, fun _ _ => rfl⟩) (fun e he => ?_)
  · obtain ⟨⟨s0, s1⟩, f, h4, h5, h9, ho⟩ := hs
    have e5 : s.2.1 5 = M.1 5 := fr1 f 5 rfl
    have e149 : s.2.1 149 = M.1 149 := fr1 f 149 rfl
    have e3 : s.2.2 3 = M.2 3 := fr2 f 3 rfl
    unfold rfb_packet_73
    rw [e5, e149, e3]
    refine RP_ite (fun g => RP_some ⟨f, h4, h5, fun j j0 j1 => h9 j j0 (by omega), ho⟩) (fun g => ?_)
    rw [cut_i (z := s.1 + 1) (by omega) (by omega), cut_i (z := 128 * M.1 149) (by omega) (by omega), cut_i (z := 128 * M.1 149 + s.1) (by omega) (by omega)]
    refine RP_some ⟨⟨show 0 ≤ s.1 + 1 by omega, show s.1 + 1 ≤ M.1 5 by omega⟩, fr_m f rfl rfl, h4, h5, fun j j0 j1 => ?_, fun j j1 => ?_⟩
    · have j1 : j < s.1 + 1 := j1
      show upI (s.2.2 159) (128 * M.1 149 + s.1) (M.2 3 s.1) (128 * M.1 149 + j) = M.2 3 j
      by_cases ej : j = s.1
      · rw [ej, upI_s]
      · rw [upI_n (by omega)]
        exact h9 j j0 (by omega)
    · show upI (s.2.2 159) (128 * M.1 149 + s.1) (M.2 3 s.1) j = M.2 159 j
      rw [upI_n (by omega)]
      exact ho j j1
  · obtain ⟨f, h4, h5, h9, ho⟩ := he
    unfold rfl_packet_108 rf_comes rfl_packet_118
    rw [bnd_some]
    exact RP_some (Or.inr ⟨h4, h5, h9, ho⟩)

set_option maxHeartbeats 1000000 in
theorem RWF_o {r v : Int} (ho : rwO r K K1) (hp : ∀ v, v ≠ r → K1.2 92 v = K.2 92 v ∧ K1.2 93 v = K.2 93 v ∧ K1.2 94 v = K.2 94 v ∧ K1.2 98 v = K.2 98 v ∧ K1.2 99 v = K.2 99 v) (ha : ∀ j, j < 65536 * r ∨ 65536 * r + 65536 ≤ j → K1.2 100 j = K.2 100 j ∧ K1.2 101 j = K.2 101 j ∧ K1.2 102 j = K.2 102 j) (hv : v ≠ r) : RWF v K K1 := by
  obtain ⟨a1, a2, a3, a4, a5⟩ := rwO_e ho hv
  obtain ⟨b1, b2, b3, b4, b5⟩ := hp v hv
  have w : ∀ j, 0 ≤ j → j < 65536 → K1.2 100 (65536 * v + j) = K.2 100 (65536 * v + j) ∧ K1.2 101 (65536 * v + j) = K.2 101 (65536 * v + j) ∧ K1.2 102 (65536 * v + j) = K.2 102 (65536 * v + j) := fun j j0 j1 => ha _ (rw_o hv j0 j1)
  exact ⟨⟨⟨a1, b1, b3, a2, a3, a4, b4⟩, fun j j0 j1 => (w j j0 (by omega)).1, fun j j0 j1 => (w j j0 (by omega)).2.1, fun j j0 j1 => (w j j0 (by omega)).2.2, a5⟩, ⟨b2, b5⟩, fun j j0 j1 => (w j j0 (by omega)).1⟩

set_option maxHeartbeats 1000000 in
theorem RWF_x {r : Int} (h : K1.2 91 = K.2 91 ∧ K1.2 95 = K.2 95 ∧ K1.2 96 = K.2 96 ∧ K1.2 97 = K.2 97 ∧ K1.2 103 = K.2 103 ∧ K1.2 104 = K.2 104 ∧ K1.2 105 = K.2 105) (g : K1.2 92 = K.2 92 ∧ K1.2 93 = K.2 93 ∧ K1.2 94 = K.2 94 ∧ K1.2 98 = K.2 98 ∧ K1.2 99 = K.2 99 ∧ K1.2 100 = K.2 100 ∧ K1.2 101 = K.2 101 ∧ K1.2 102 = K.2 102) : RWF r K K1 := by
  obtain ⟨a1, a2, a3, a4, a5, a6, a7⟩ := h
  obtain ⟨b1, b2, b3, b4, b5, b6, b7, b8⟩ := g
  unfold RWF RWE
  rw [a1, a2, a3, a4, a5, a6, a7, b1, b2, b3, b4, b5, b6, b7, b8]
  exact ⟨⟨⟨rfl, rfl, rfl, rfl, rfl, rfl, rfl⟩, fun _ _ _ => rfl, fun _ _ _ => rfl, fun _ _ _ => rfl, fun _ _ _ => ⟨rfl, rfl, rfl⟩⟩, ⟨rfl, rfl⟩, fun _ _ _ => rfl⟩

set_option maxHeartbeats 1000000 in
theorem LNP_p {a0 : Int} {z : Int × mR} {r : Int} (hTP : K.1 200 = M.1 5 ∧ ∀ j, 0 ≤ j → j < M.1 5 → K.2 1 j = sbt (M.2 3 j) ∧ 0 ≤ M.2 3 j ∧ M.2 3 j ≤ 255) (t0 : 0 ≤ M.1 5) (t1 : M.1 5 ≤ 128) (hz : z.2.2 154 = upI (M.2 154) (M.1 149) (M.1 5) ∧ z.2.2 155 = upI (M.2 155) (M.1 149) a0 ∧ (∀ j, 0 ≤ j → j < M.1 5 → z.2.2 159 (128 * M.1 149 + j) = M.2 3 j)) (hk : K1.2 92 r = K.1 200 ∧ K1.2 93 r = a0 ∧ ∀ j, 0 ≤ j → j < K.1 200 → K1.2 100 (65536 * r + j) = K.2 1 j) : LNP K1 z.2 (M.1 149) r := fun _ => by
  obtain ⟨h1, h2⟩ := hTP
  obtain ⟨z1, z2, z3⟩ := hz
  obtain ⟨k1, k2, k3⟩ := hk
  rw [z1, z2, upI_s, upI_s]
  refine ⟨⟨by rw [k1]; exact h1, t0, t1⟩, k2, fun j j0 j1 => ?_⟩
  rw [k3 j j0 (by omega), z3 j j0 j1]
  exact h2 j j0 j1
end PKT9

section PKU
variable {K K1 M M1 : mR} {c3 c4 : Nat → Option am_C} {i : Int} {A C : List Nat}
set_option maxHeartbeats 1000000 in
theorem LNP_e {q row : Int} (h : LNP K M q row) (q0 : 0 ≤ q) (e : ∀ k, k ∈ lnA → ∀ j, 0 ≤ j → M1.2 k j = M.2 k j) : LNP K M1 q row := by
  unfold LNP
  rw [e 153 (by decide) q q0, e 154 (by decide) q q0, e 155 (by decide) q q0]
  intro z
  obtain ⟨x1, x2, x3⟩ := h z
  refine ⟨x1, x2, fun j j0 j1 => ?_⟩
  rw [e 159 (by decide) _ (by omega)]
  exact x3 j j0 j1
set_option maxHeartbeats 1000000 in
theorem ln_k : ∀ k, k ∈ lnA → nin RAx2 k = true ∧ k < 179 ∧ 3 ≤ mkd k := fun k hk => by
  have w : lnA.all (fun k => nin RAx2 k && (decide (k < 179) && decide (3 ≤ mkd k))) = true := by decide +kernel
  have q := List.all_eq_true.mp w k hk
  rw [Bool.and_eq_true, Bool.and_eq_true, decide_eq_true_eq, decide_eq_true_eq] at q
  exact ⟨q.1, q.2.1, q.2.2⟩

set_option maxHeartbeats 1000000 in
theorem PJs_x {z : Int × mR} (h : PJs K M) (hM : Ty M) (hIM : IM i M) (fK : fr [200, 232] A K K1) (vK : KTy K1) (fM : fr [1, 5, 148, 149] lnA M M1) (vM : Ty M1) (k2 : chk (59 :: 71 :: pgK) A = true) (k2' : chk tbK A = true) (hrw : ∀ v, RWF v K K1) (fz : fr [1] [] M z.2) (cM : Cn z.2) (hm : mhp M1 c3 = mhp z.2 c4) : PJs K1 M1 := by
  obtain ⟨Kj, mj, a, b, j⟩ := h
  obtain ⟨a1, f1⟩ := AGk_g a fK (KTy_V vK).2
  obtain ⟨b1, f2⟩ := AGm_g b fM (Ty_V vM).2
  obtain ⟨w0, l0, l1⟩ := IM_l hM hIM
  obtain ⟨m_ct, m_pth, m_pld, -⟩ := id hIM
  have e : mj.1 = M.1 := b.1
  have rk : ∀ k, 91 ≤ k → (pta A Kj K1).2 k = K1.2 k ∧ Kj.2 k = K.2 k := fun k hk => ⟨pta_o (nin_hi2 k hk), a.2.1 k (nin_hi2 k hk)⟩
  have rw' : ∀ v, RWF v Kj (pta A Kj K1) := fun v => by
    have w := hrw v
    unfold RWF RWE at w ⊢
    rw [(rk 91 (by decide)).1, (rk 92 (by decide)).1, (rk 93 (by decide)).1, (rk 94 (by decide)).1, (rk 95 (by decide)).1, (rk 96 (by decide)).1, (rk 97 (by decide)).1, (rk 98 (by decide)).1, (rk 99 (by decide)).1, (rk 100 (by decide)).1, (rk 101 (by decide)).1, (rk 102 (by decide)).1, (rk 103 (by decide)).1, (rk 104 (by decide)).1, (rk 105 (by decide)).1, (rk 91 (by decide)).2, (rk 92 (by decide)).2, (rk 93 (by decide)).2, (rk 94 (by decide)).2, (rk 95 (by decide)).2, (rk 96 (by decide)).2, (rk 97 (by decide)).2, (rk 98 (by decide)).2, (rk 99 (by decide)).2, (rk 100 (by decide)).2, (rk 101 (by decide)).2, (rk 102 (by decide)).2, (rk 103 (by decide)).2, (rk 104 (by decide)).2, (rk 105 (by decide)).2]
    exact w
  have e149 : (pma lnA mj M1).1 149 = mj.1 149 := by
    show M1.1 149 = mj.1 149
    rw [e, HMf hm (by decide) (by decide) ((Ty_V vM).1 149) (cM.1 149), fr1 fz 149 rfl]
  refine ⟨_, _, a1, b1, PJ_R j f1 rfl k2 k2' f2 (by decide +kernel) (by decide +kernel) (by decide +kernel) (fun _ => e149) (fun _ k _ _ _ => rw' _) (by rw [e]; exact w0) (by rw [e]; exact m_pld) (fun q8 q q0 q1 => ?_)⟩
  rw [e149] at q1
  refine LN_e (LN_R (JR_ln (j.2.2 q8).2.2 q q0 q1) (rw' _)) q0 (fr1 f2 26 rfl) (fun k hk t t0 => ?_)
  obtain ⟨k3, k4, k5⟩ := ln_k k hk
  obtain ⟨n, rfl⟩ : ∃ n : Nat, t = n := ⟨t.toNat, by omega⟩
  rw [pma_o k3, b.2.1 k k3, HMa hm k4 k5 ((Ty_V vM).2 k n) (cM.2 k n), fr2 fz k rfl]
set_option maxHeartbeats 1000000 in
theorem PJs_packet {a0 : Int} {z : Int × mR} (hRel : RX K M) (hM : Ty M) (hIM : IM i M) (hT : TM K M) (h : PJs K M) (hPQ1 : PQs K1 M1) (hz : rf_packet a0 M = some z) (cM : Cn z.2) (hm : mhp M1 c3 = mhp z.2 c4) (fK : fr [200, 232] A K K1) (vK : KTy K1) (fM : fr [1, 5, 148, 149] [153, 154, 155, 159] M M1) (vM : Ty M1) (k2 : chk (59 :: 71 :: pgK) A = true) (k2' : chk tbK A = true) (kr : chk RAk2 A = true) (hTP : ∀ j, 0 ≤ j → j < M.1 5 → K.2 1 j = sbt (M.2 3 j) ∧ 0 ≤ M.2 3 j ∧ M.2 3 j ≤ 255) (hrow : (K.1 201 = 1 ∧ 1 ≤ K.1 226 ∧ K.1 232 - K.1 233 < 40 ∧ K.1 200 ≤ 128 ∧ (∀ v, v ≠ K.1 232 % 128 → RWF v K K1) ∧ K1.2 92 (K.1 232 % 128) = K.1 200 ∧ K1.2 93 (K.1 232 % 128) = a0 ∧ ∀ j, 0 ≤ j → j < K.1 200 → K1.2 100 (65536 * (K.1 232 % 128) + j) = K.2 1 j) ∨ ((K.1 201 = 0 ∨ K.1 226 ≤ 0 ∨ 40 ≤ K.1 232 - K.1 233 ∨ 128 < K.1 200) ∧ ∀ v, RWF v K K1)) : PJs K1 M1 := by
  obtain ⟨x1, x2, x3, x4, x5, x6, x7⟩ := RX_fa hRel
  obtain ⟨w0, l0, l1⟩ := IM_l hM hIM
  have pin := IM_pin hIM
  have L1 : M.1 149 ≤ 40 := Int.le_trans (hM.1 149).2 fhi149
  have t5 : 0 ≤ M.1 5 := (hM.1 5).1
  have hp := pk_r (a0 := a0) l0 L1 z hz
  have hp2 := pk_r2 (a0 := a0) l0 L1 t5 z hz
  obtain ⟨m_ct, m_pth, m_pld, -⟩ := id hIM
  have fM' : fr [1, 5, 148, 149] lnA M M1 := fr_s fM fr_0 rfl rfl
  have az : ∀ (k : Nat) (j : Int), k < 179 → 3 ≤ mkd k → 0 ≤ j → M1.2 k j = z.2.2 k j := fun k j p q j0 => by
    obtain ⟨n, rfl⟩ : ∃ n : Nat, j = n := ⟨j.toNat, by omega⟩
    exact HMa hm p q ((Ty_V vM).2 k n) (cM.2 k n)
  rcases hrow with ⟨r1, r2, r3, r4, r5, r6, r7, r8⟩ | ⟨r1, r2⟩
  · rcases hp with ⟨p1, -⟩ | ⟨p1, p2, p3, p4, p5, p6⟩
    · exfalso
      omega
    · rcases hp2 with q | ⟨y1, y2, y3, y4⟩
      · exfalso
        omega
      have l8 : M.1 128 = 1 := by omega
      have e149 : M1.1 149 = M.1 149 + 1 := (HMf hm (by decide) (by decide) ((Ty_V vM).1 149) (cM.1 149)).trans p4
      have e150 : M1.1 150 = M.1 150 := fr1 fM 150 rfl
      refine PJs_n (r := K.1 232 % 128) h hT (RX_12 hRel) w0 l1 m_pld l0 (by omega) l8 (by rw [x4, pin]) fK vK fM' vM k2 k2' kr e149 r5 (fun q q0 q1 => ?_) (fun q q0 q1 => ?_) (LNP_e (LNP_p (a0 := a0) ⟨x3, hTP⟩ t5 p3 ⟨y1, y2, y3⟩ ⟨r6, r7, r8⟩) l0 (fun k hk j j0 => az k j (ln_k k hk).2.1 (ln_k k hk).2.2 j0))
      · obtain ⟨HT, -, -, -, h4⟩ := hPQ1.2.2 (by rw [fr1 fM 127 rfl]; exact m_pld l8)
        rw [← e150]
        exact h4 q q0 q1
      · rw [az 153 q (by decide) (by decide) q0, az 154 q (by decide) (by decide) q0, az 155 q (by decide) (by decide) q0, p6, y1, y2, upI_n (by omega), upI_n (by omega), upI_n (by omega)]
        refine ⟨rfl, rfl, rfl, fun j j0 j1 => ?_⟩
        rw [az 159 _ (by decide) (by decide) (by omega)]
        exact y4 _ (by omega)
  · rcases hp with ⟨-, p2⟩ | ⟨p1, p2, p3, -⟩
    · exact PJs_x h hM hIM fK vK fM' vM k2 k2' r2 p2 cM hm
    · exfalso
      have := m_pld (by omega)
      omega
set_option maxHeartbeats 1000000 in
theorem PJs_entry {a0 a1 a2 a3 : Int} {z : Int × mR} (hRel : RX K M) (hM : Ty M) (hIM : IM i M) (hT : TM K M) (h : PJs K M) (hPQ1 : PQs K1 M1) (hz : rf_entry a0 a1 a2 a3 M = some z) (cM : Cn z.2) (hm : mhp M1 c3 = mhp z.2 c4) (fK : fr [200, 232] A K K1) (vK : KTy K1) (fM : fr [1, 148, 149] [153, 156, 157, 158, 160, 161, 162] M M1) (vM : Ty M1) (k2 : chk (59 :: 71 :: pgK) A = true) (k2' : chk tbK A = true) (kr : chk RAk2 A = true) (hrow : ((0 ≤ a0 ∧ a0 ≤ 2 ∧ K.1 201 = 1 ∧ 0 ≤ a1 ∧ a1 < K.1 219) ∧ 1 ≤ K.1 226 ∧ K.1 232 - K.1 233 < 40 ∧ ∀ v, v ≠ K.1 232 % 128 → RWF v K K1) ∨ ((a0 < 0 ∨ 2 < a0 ∨ K.1 201 = 0 ∨ a1 < 0 ∨ K.1 219 ≤ a1 ∨ K.1 226 ≤ 0 ∨ 40 ≤ K.1 232 - K.1 233) ∧ ∀ v, RWF v K K1)) : PJs K1 M1 := by
  obtain ⟨x1, x2, x3, x4, x5, x6, x7⟩ := RX_fa hRel
  obtain ⟨w0, l0, l1⟩ := IM_l hM hIM
  have pin := IM_pin hIM
  have L1 : M.1 149 ≤ 40 := Int.le_trans (hM.1 149).2 fhi149
  have hp := en_r (a0 := a0) (a1 := a1) (a2 := a2) (a3 := a3) l0 L1 z hz
  obtain ⟨m_ct, m_pth, m_pld, -⟩ := id hIM
  have fM' : fr [1, 5, 148, 149] lnA M M1 := fr_s fM fr_0 rfl rfl
  have az : ∀ (k : Nat) (j : Int), k < 179 → 3 ≤ mkd k → 0 ≤ j → M1.2 k j = z.2.2 k j := fun k j p q j0 => by
    obtain ⟨n, rfl⟩ : ∃ n : Nat, j = n := ⟨j.toNat, by omega⟩
    exact HMa hm p q ((Ty_V vM).2 k n) (cM.2 k n)
  rcases hrow with ⟨⟨b1, b2, b3, b4, b5⟩, r2, r3, r5⟩ | ⟨r1, r2⟩
  · have q7 : M.1 127 = 1 := by omega
    have e26 := x7 q7
    have l8 : M.1 128 = 1 := by omega
    rcases hp with ⟨p1, -⟩ | ⟨p1, p4, p5, p6, -⟩
    · exact absurd ⟨⟨b1, by omega⟩, by omega, ⟨b4, by omega⟩, by omega, by omega⟩ p1
    · have e149 : M1.1 149 = M.1 149 + 1 := (HMf hm (by decide) (by decide) ((Ty_V vM).1 149) (cM.1 149)).trans p4
      have e150 : M1.1 150 = M.1 150 := fr1 fM 150 rfl
      refine PJs_n (r := K.1 232 % 128) h hT (RX_12 hRel) w0 l1 m_pld l0 (by omega) l8 (by rw [x4, pin]) fK vK fM' vM k2 k2' kr e149 r5 (fun q q0 q1 => ?_) (fun q q0 q1 => ?_) (fun e => ?_)
      · obtain ⟨HT, -, -, -, h4⟩ := hPQ1.2.2 (by rw [fr1 fM 127 rfl]; exact q7)
        rw [← e150]
        exact h4 q q0 q1
      · rw [az 153 q (by decide) (by decide) q0, p6, upI_n (by omega), fr2 fM 154 rfl, fr2 fM 155 rfl, fr2 fM 159 rfl]
        exact ⟨rfl, rfl, rfl, fun _ _ _ => rfl⟩
      · exfalso
        rw [az 153 _ (by decide) (by decide) l0, p6, upI_s] at e
        omega
  · rcases hp with ⟨-, p2⟩ | ⟨⟨⟨p1, p1b⟩, p2, ⟨p3, p3b⟩, p4, p5⟩, -⟩
    · exact PJs_x h hM hIM fK vK fM' vM k2 k2' r2 p2 cM hm
    · exfalso
      have q7 : M.1 127 = 1 := by omega
      have := x7 q7
      omega
end PKU

section PKV
variable {K K1 M M1 Kj mj : mR} {c1 c2 : Nat → Option am_C} {i a b c : Int}
set_option maxHeartbeats 1000000 in
theorem settle_226 {v2 v3 v4 : Int} : RP (kf_sp_settle v2 v3 v4 K) (fun y => y.1 = -1 ∨ y.2.1 226 = K.1 226) := by
  unfold kf_sp_settle
  refine RP_bnd (u_kf_Arrays_fill0_b63 0 K) (fun a ha => RP_bnd (u_kf_Arrays_fill0_b64 0 a.2) (fun b hb => RP_bnd (u_kf_Arrays_fill0_b65 0 b.2) (fun c hc => ?_)))
  refine RP_bnd (uw_kfb_sp_settle_30 v2 v3 v4 (1, 0, c.2)) (RP_sl (fun e he => RP_some (Or.inr ?_)) (fun e he => ?_))
  · exact (fr1 he 226 rfl).trans ((fr1 hc 226 rfl).trans ((fr1 hb 226 rfl).trans (fr1 ha 226 rfl)))
  · unfold kfl_sp_settle_199
    exact RP_some (Or.inl rfl)
set_option maxHeartbeats 1000000 in
theorem lay_226 : RP (kf_pw_lay a b c K) (fun y => y.1 = 0 ∨ y.2.2.1 226 = K.1 226) := by
  unfold kf_pw_lay kfl_pw_lay_20 kfl_pw_lay_49
  refine RP_ite (fun _ => RP_some (Or.inr rfl)) (fun _ => RP_ite (fun _ => RP_ite (fun _ => RP_some (Or.inr rfl)) (fun _ => RP_ite (fun _ => RP_some (Or.inr rfl)) (fun _ => RP_ite (fun _ => RP_some (Or.inr rfl)) (fun _ => RP_ite (fun _ => ?_) (fun _ => RP_some (Or.inr rfl)))))) (fun _ => RP_some (Or.inr rfl)))
  refine RP_bnd settle_226 (fun y hy => RP_ite (fun e => RP_some (Or.inl rfl)) (fun e => RP_some (Or.inr ?_)))
  exact hy.resolve_left e
set_option maxHeartbeats 1000000 in
theorem lay_y0 {y : Int × Int × mR} (hRel : RX K M) (hRX : RX K1 M1) (hA : AGk2 K Kj) (hy : kf_pw_lay a b c Kj = some y) (cK : KCn y.2.2) (hk : khp K1 c1 = khp y.2.2 c2) (vK : KTy K1) : M1.1 128 = 1 → M.1 128 = 0 → y.1 = 0 := fun q1 q0 => by
  rcases lay_226 y hy with w | w
  · exact w
  · exfalso
    have e : K1.1 226 = y.2.2.1 226 := HKf hk (by decide) (by decide) ((KTy_V vK).1 226) (cK.1 226)
    have e0 : Kj.1 = K.1 := hA.1
    rw [e0] at w
    obtain ⟨-, x2, -⟩ := RX_fa hRel
    obtain ⟨-, v2, -⟩ := RX_fa hRX
    omega
set_option maxHeartbeats 1000000 in
theorem RX_tp (h : RX K M) : ∀ j, 0 ≤ j → j < M.1 5 → K.2 1 j = sbt (M.2 3 j) ∧ 0 ≤ M.2 3 j ∧ M.2 3 j ≤ 255 := fun j j0 j1 => by
  obtain ⟨Kp, mp, a, b, r, -⟩ := h
  obtain ⟨⟨-, r0, -⟩, ⟨-, -, -, t⟩, -⟩ := r
  have e1 : mp.1 = M.1 := b.1
  have k := t j j0 (by rw [e1]; exact j1)
  have q := r0 j
  rw [AGk_d a (k := 1) (i := j) ⟨j0, fun q => by omega, fun q => by omega⟩, AGm_d b (k := 3) j0] at k
  rw [AGm_d b (k := 3) j0] at q
  exact ⟨k, q⟩
set_option maxHeartbeats 1000000 in
theorem rqp_h {a0 : Int} (h : RQP a0 K K1) : (K.1 201 = 1 ∧ 1 ≤ K.1 226 ∧ K.1 232 - K.1 233 < 40 ∧ K.1 200 ≤ 128 ∧ (∀ v, v ≠ K.1 232 % 128 → RWF v K K1) ∧ K1.2 92 (K.1 232 % 128) = K.1 200 ∧ K1.2 93 (K.1 232 % 128) = a0 ∧ ∀ j, 0 ≤ j → j < K.1 200 → K1.2 100 (65536 * (K.1 232 % 128) + j) = K.2 1 j) ∨ ((K.1 201 = 0 ∨ K.1 226 ≤ 0 ∨ 40 ≤ K.1 232 - K.1 233 ∨ 128 < K.1 200) ∧ ∀ v, RWF v K K1) := by
  rcases h with ⟨h1, h2, h3, h4, h5, h6, h7, h8, h9, h10⟩ | ⟨h1, h2, h3⟩
  · exact Or.inl ⟨h1, h2, h3, h4, fun v hv => RWF_o h5 h6 h7 hv, h8, h9, h10⟩
  · exact Or.inr ⟨h1, fun v => RWF_x h2 h3⟩
set_option maxHeartbeats 1000000 in
theorem rqe_h {a0 a1 : Int} (h : RQE a0 a1 K K1) : ((0 ≤ a0 ∧ a0 ≤ 2 ∧ K.1 201 = 1 ∧ 0 ≤ a1 ∧ a1 < K.1 219) ∧ 1 ≤ K.1 226 ∧ K.1 232 - K.1 233 < 40 ∧ ∀ v, v ≠ K.1 232 % 128 → RWF v K K1) ∨ ((a0 < 0 ∨ 2 < a0 ∨ K.1 201 = 0 ∨ a1 < 0 ∨ K.1 219 ≤ a1 ∨ K.1 226 ≤ 0 ∨ 40 ≤ K.1 232 - K.1 233) ∧ ∀ v, RWF v K K1) := by
  rcases h with ⟨h1, h2, h3, h5, h6, h7⟩ | ⟨h1, h2, h3⟩
  · exact Or.inl ⟨h1, h2, h3, fun v hv => RWF_o h5 h6 h7 hv⟩
  · exact Or.inr ⟨h1, fun v => RWF_x h2 h3⟩
set_option maxHeartbeats 1000000 in
theorem KCo_j (h : AGk2 K Kj) (hK : KTy K) : KCo (Kj.2 107, Kj.2 108) Kj := ⟨AGk_C2 h hK, rfl, rfl, fun n => by rw [h.2.1 106 (by decide)]; exact KTy_6 hK n⟩
set_option maxHeartbeats 1000000 in
theorem QJ_j (hK : KTy K) (hM : Ty M) (hIK : IK i K) (hIM : IM i M) (i1 : i ≤ 4000) (hRel : RX K M) (hT : TM K M) (hA : AGk2 K Kj) (hB : AGm2 M mj) : QJ Kj mj := by
  have e0 : Kj.1 = K.1 := hA.1
  have e1 : mj.1 = M.1 := hB.1
  obtain ⟨x1, x2, x3, x4, x5, x6, x7⟩ := RX_fa hRel
  obtain ⟨w0, l0, l1⟩ := IM_l hM hIM
  have pin := IM_pin hIM
  obtain ⟨m_ct, -⟩ := id hIM
  refine ⟨⟨by rw [e0, e1]; exact hT.1, by rw [e1]; exact w0, by rw [e1]; omega⟩, fun r r0 r1 r2 => ?_, fun q => ?_, AGk_C2 hA hK⟩
  · rw [e1] at r2
    rw [hA.2.1 107 (by decide)]
    exact hIK.2.1 r r0 r1 (by omega)
  · rw [e1] at q ⊢
    rcases hT.2 with ⟨t, -⟩ | ⟨-, t, -⟩
    · exact t
    · omega
set_option maxHeartbeats 1000000 in
theorem out_j (hK : KTy K) (hM : Ty M) (hIK : IK i K) (hIM : IM i M) (i1 : i ≤ 4000) (hRel : RX K M) (hT : TM K M) (hA : AGk2 K Kj) (hB : AGm2 M mj) (hJ : PJ Kj mj) : RR (kf_pw_out a b Kj) (rf_out a b mj) (fun y z => y = z.1) := out_q (QJ_j hK hM hIK hIM i1 hRel hT hA hB) (fun q => (hJ.2.2 q).2.2)
set_option maxHeartbeats 1000000 in
theorem byteAt2_j (hK : KTy K) (hM : Ty M) (hIK : IK i K) (hIM : IM i M) (i1 : i ≤ 4000) (hRel : RX K M) (hT : TM K M) (hA : AGk2 K Kj) (hB : AGm2 M mj) (hJ : PJ Kj mj) : RR (kf_pw_byteAt a b Kj) (rf_byteAt2 a b mj) (fun y z => y = z.1) := byte_q (QJ_j hK hM hIK hIM i1 hRel hT hA hB) (fun q => (hJ.2.2 q).2.2)
set_option maxHeartbeats 1000000 in
theorem did_j (hK : KTy K) (hM : Ty M) (hIK : IK i K) (hIM : IM i M) (i1 : i ≤ 4000) (hRel : RX K M) (hT : TM K M) (hA : AGk2 K Kj) (hB : AGm2 M mj) (hJ : PJ Kj mj) : RR (kf_pw_did a b Kj) (rf_did a b mj) (fun y z => y = z.1) := by
  have e1 : mj.1 = M.1 := hB.1
  obtain ⟨m_ct, m_pth, m_pld, -⟩ := id hIM
  refine did_q (QJ_j hK hM hIK hIM i1 hRel hT hA hB) (fun q => (hJ.2.2 q).2.2) (fun q => ?_)
  have g := hJ.1 (by rw [e1] at q ⊢; exact m_pld q)
  exact ⟨g.1.2.2.2.2.2.2, g.1.2.2.2.2.2.1.2.2.2.2.1.2⟩
set_option maxHeartbeats 1000000 in
theorem word_j (hK : KTy K) (hM : Ty M) (hIK : IK i K) (hIM : IM i M) (i1 : i ≤ 4000) (hRel : RX K M) (hT : TM K M) (hA : AGk2 K Kj) (hB : AGm2 M mj) (hJ : PJ Kj mj) : RR (kf_pw_word a b Kj) (rf_word a b mj) (fun y z => (y.1 = 0 ∧ z.2.1 1 = 0 ∧ y.2.1 = z.1) ∨ (y.1 = 2 ∧ z.2.1 1 = 1)) := by
  have e0 : Kj.1 = K.1 := hA.1
  have e1 : mj.1 = M.1 := hB.1
  obtain ⟨x1, x2, x3, x4, x5, x6, x7⟩ := RX_fa hRel
  obtain ⟨w0, l0, l1⟩ := IM_l hM hIM
  have pin := IM_pin hIM
  obtain ⟨m_ct, m_pth, m_pld, -⟩ := id hIM
  refine word_q hJ (by rw [e0, e1]; exact x1) (by rw [e1]; exact m_pth) ?_ (by rw [e1]; exact m_pld) (by rw [e0, e1]; exact x5) (by rw [e0, e1]; exact hT.1) (by rw [e1]; exact w0) (by rw [e1]; exact l1) (by rw [e1]; omega)
  rw [e0, e1]
  rcases x2 with ⟨p, q, r⟩ | ⟨p, q⟩
  · exact Or.inl ⟨p, by omega⟩
  · exact Or.inr ⟨p, by omega⟩
end PKV

def LI5 (i : Int) (K m : mR) (c : Nat → Option am_C) (N nc ns : Nat) : Prop := LI i K m c N nc ns ∧ RX K m ∧ TM K m ∧ PQs K m ∧ PJs K m
