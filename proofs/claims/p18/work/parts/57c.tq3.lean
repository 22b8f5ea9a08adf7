/-! ===== buckets: how many entries are above the ways ===== -/
theorem an_n {x : Int} {n : Nat} (h : n ≤ 15) : ∃ k : Nat, k ≤ n ∧ and32 x (n : Int) = (k : Int) := by
  have q : (i32 x).toBitVec.toNat &&& n ≤ n := Nat.and_le_right
  refine ⟨(i32 x).toBitVec.toNat &&& n, q, ?_⟩
  have e : (i32 x &&& i32 (n : Int)).toBitVec = (i32 x).toBitVec &&& BitVec.ofNat 32 n := by
    rw [Int32.toBitVec_and]
    congr 1
  have hn : ((i32 x).toBitVec &&& BitVec.ofNat 32 n).toNat = (i32 x).toBitVec.toNat &&& n := by
    rw [BitVec.toNat_and, BitVec.toNat_ofNat, Nat.mod_eq_of_lt (by omega)]
  show (i32 x &&& i32 (n : Int)).toBitVec.toInt = _
  rw [e, BitVec.toInt_eq_toNat_of_lt (by rw [hn]; omega), hn]
theorem an_15 : ∀ k : Fin 16, and32 ((k.val : Nat) : Int) 15 = ((k.val : Nat) : Int) := by decide
def smm (f : Int → Int) (w : Int) (n : Nat) : Int := match n with
  | 0 => 0
  | n + 1 => smm f w n + (if f (n : Int) ≤ w then f (n : Int) else w)
theorem smm_n {f : Int → Int} {w b x : Int} : ∀ {n : Nat}, (n : Int) ≤ b → smm (upI f b x) w n = smm f w n := by
  intro n
  induction n with
  | zero => exact fun _ => rfl
  | succ n ih =>
    intro h
    show smm (upI f b x) w n + (if upI f b x (n : Int) ≤ w then upI f b x (n : Int) else w) = smm f w n + (if f (n : Int) ≤ w then f (n : Int) else w)
    rw [ih (by omega), upI_n (by omega)]
theorem smm_u {f : Int → Int} {w b : Int} (b0 : 0 ≤ b) : ∀ {n : Nat}, b < (n : Int) → smm (upI f b (f b + 1)) w n = smm f w n + (if f b + 1 ≤ w then 1 else 0) := by
  intro n
  induction n with
  | zero => intro h; omega
  | succ n ih =>
    intro h
    show smm (upI f b (f b + 1)) w n + (if upI f b (f b + 1) (n : Int) ≤ w then upI f b (f b + 1) (n : Int) else w) = smm f w n + (if f (n : Int) ≤ w then f (n : Int) else w) + (if f b + 1 ≤ w then 1 else 0)
    by_cases e : b = (n : Int)
    · rw [smm_n (by omega), e, upI_s]
      by_cases q : f (n : Int) + 1 ≤ w
      · rw [if_pos q, if_pos q, if_pos (by omega)]
        omega
      · rw [if_neg q, if_neg q]
        by_cases q2 : f (n : Int) ≤ w
        · rw [if_pos q2]; omega
        · rw [if_neg q2]; omega
    · rw [ih (by omega), upI_n (by omega)]
      omega
theorem smm_le {f : Int → Int} {w : Int} (w0 : 0 ≤ w) : ∀ n : Nat, smm f w n ≤ (n : Int) * w := by
  intro n
  induction n with
  | zero => show (0 : Int) ≤ ((0 : Nat) : Int) * w; omega
  | succ n ih =>
    show smm f w n + (if f (n : Int) ≤ w then f (n : Int) else w) ≤ _
    have e : ((n + 1 : Nat) : Int) * w = (n : Int) * w + w := by rw [Int.natCast_succ, Int.add_mul, Int.one_mul]
    rw [e]
    by_cases q : f (n : Int) ≤ w
    · rw [if_pos q]; omega
    · rw [if_neg q]; omega
theorem smm_0 {f : Int → Int} {w : Int} (w0 : 0 ≤ w) : ∀ n : Nat, (∀ b, 0 ≤ b → b < (n : Int) → f b = 0) → smm f w n = 0 := by
  intro n
  induction n with
  | zero => exact fun _ => rfl
  | succ n ih =>
    intro h
    show smm f w n + (if f (n : Int) ≤ w then f (n : Int) else w) = 0
    rw [ih (fun b b0 b1 => h b b0 (by omega)), h (n : Int) (by omega) (by omega), if_pos w0]
    rfl
section TQ3
variable {K M : mR} {t : Int}
theorem bucket_q {e : Int} (t0 : 0 ≤ t) (t1 : t < 8) (e0 : 0 ≤ e) (e1 : e < 96) (hk : K.2 72 t = M.2 51 t) (h0 : 0 ≤ M.2 51 t) (h1 : M.2 51 t ≤ 4) (hr : K.2 75 t = M.2 54 t) (r0 : 1 ≤ M.2 54 t) (r1 : M.2 54 t ≤ 16) (hv : ∀ i, 0 ≤ i → i < M.2 51 t → K.2 85 (65536 * t + (e * 4 + i)) = M.2 142 (4 * (96 * t + e) + i)) : RR (kf_tb_bucketOf t e K) (rf_bucket t e M) (fun y z => y = z ∧ 0 ≤ z ∧ z ≤ 15) := by
  unfold kf_tb_bucketOf rf_bucket
  refine RR_bnd (P := fun a b => a = b) (RR_whl (I := fun a b => a = b ∧ 0 ≤ b.2 ∧ b.2 ≤ M.2 51 t) (fun a b hab => ?_) ⟨rfl, Int.le_refl _, h0⟩) (fun a b hab => ?_)
  · obtain ⟨rfl, b0, b1⟩ := hab
    unfold kfb_tb_bucketOf_5 rfb_bucket_5 rf_slot
    refine RR_ii (by rw [hk]) (fun _ _ => RR_some rfl) (fun g _ => ?_)
    have g : ¬ K.2 72 t ≤ a.2 := g
    rw [bnd_some, cut_i (z := e * 4) (by omega) (by omega), cut_i (z := e * 4 + a.2) (by omega) (by omega), cut_i (z := 96 * t) (by omega) (by omega), cut_i (z := 96 * t + e) (by omega) (by omega), cut_i (z := 4 * (96 * t + e)) (by omega) (by omega), cut_i (z := 4 * (96 * t + e) + a.2) (by omega) (by omega), hv a.2 b0 (by omega), cut_i (z := a.2 + 1) (by omega) (by omega)]
    exact RR_some ⟨rfl, show 0 ≤ a.2 + 1 by omega, show a.2 + 1 ≤ M.2 51 t by omega⟩
  · subst hab
    unfold kfl_tb_bucketOf_54 rfl_bucket_61
    rw [hr, cut_i (z := M.2 54 t - 1) (by omega) (by omega)]
    obtain ⟨k, k1, k2⟩ := an_n (x := cut (xor64 (xor64 a (ushr64 a 20)) (ushr64 a 7))) (n := (M.2 54 t - 1).toNat) (by omega)
    rw [show (((M.2 54 t - 1).toNat : Nat) : Int) = M.2 54 t - 1 by omega] at k2
    have k3 : and32 (k : Int) 15 = (k : Int) := an_15 ⟨k, by omega⟩
    rw [k2, k3]
    exact RR_some ⟨rfl, by omega, by omega⟩
def ofT (t : Int) (k : Nat) (K K' : mR) : Prop := ∀ j, j < 65536 * t ∨ 65536 * t + 65536 ≤ j → K'.2 k j = K.2 k j
theorem fill90_k : RP (kf_Arrays_fill0_b90 t 0 K) (fun y => fr [] [90] K y.2 ∧ ofT t 90 K y.2 ∧ ∀ b, 0 ≤ b → b < 16 → y.2.2 90 (65536 * t + b) = 0) := by
  unfold kf_Arrays_fill0_b90
  refine RP_bnd (P := fun e => fr [] [90] K e ∧ ofT t 90 K e ∧ ∀ b, 0 ≤ b → b < 16 → e.2 90 (65536 * t + b) = 0) (RP_whl (I := fun s : Int × mR => (0 ≤ s.1 ∧ s.1 ≤ 16) ∧ fr [] [90] K s.2 ∧ ofT t 90 K s.2 ∧ ∀ b, 0 ≤ b → b < s.1 → s.2.2 90 (65536 * t + b) = 0) (fun s hs => ?_) ⟨⟨Int.le_refl _, show (0 : Int) ≤ 16 by decide⟩, fr_0, fun _ _ => rfl, fun b b0 b1 => by have b1 : b < 0 := b1; omega⟩) (fun e he => RP_some he)
  obtain ⟨⟨a0, a1⟩, a2, a3, a4⟩ := hs
  unfold kfb_Arrays_fill0_b90_5
  refine RP_ite (fun g => RP_some ?_) (fun g => ?_)
  · exact ⟨a2, a3, fun b b0 b1 => a4 b b0 (by omega)⟩
  · rw [cut_i (z := s.1 + 1) (by omega) (by omega)]
    refine RP_some ⟨⟨show 0 ≤ s.1 + 1 by omega, show s.1 + 1 ≤ 16 by omega⟩, fr_m a2 rfl rfl, fun j hj => ?_, fun b b0 b1 => ?_⟩
    · show upI (s.2.2 90) (65536 * t + s.1) 0 j = _
      rw [upI_n (by omega)]
      exact a3 j hj
    · have b1 : b < s.1 + 1 := b1
      show upI (s.2.2 90) (65536 * t + s.1) 0 (65536 * t + b) = 0
      by_cases e : b = s.1
      · rw [e, upI_s]
      · rw [upI_n (by omega)]
        exact a4 b b0 (by omega)
theorem fill170_r : RP (whl (rfb_above_13 t) (0, M)) (fun e => fr [] [170] M e ∧ ∀ b, 0 ≤ b → b < 16 → e.2 170 b = 0) := by
  refine RP_whl (I := fun s : Int × mR => (0 ≤ s.1 ∧ s.1 ≤ 16) ∧ fr [] [170] M s.2 ∧ ∀ b, 0 ≤ b → b < s.1 → s.2.2 170 b = 0) (fun s hs => ?_) ⟨⟨Int.le_refl _, show (0 : Int) ≤ 16 by decide⟩, fr_0, fun b b0 b1 => by have b1 : b < 0 := b1; omega⟩
  obtain ⟨⟨a0, a1⟩, a2, a4⟩ := hs
  unfold rfb_above_13
  refine RP_ite (fun g => RP_some ?_) (fun g => ?_)
  · exact ⟨a2, fun b b0 b1 => a4 b b0 (by omega)⟩
  · rw [cut_i (z := s.1 + 1) (by omega) (by omega)]
    refine RP_some ⟨⟨show 0 ≤ s.1 + 1 by omega, show s.1 + 1 ≤ 16 by omega⟩, fr_m a2 rfl rfl, fun b b0 b1 => ?_⟩
    have b1 : b < s.1 + 1 := b1
    show upI (s.2.2 170) s.1 0 b = 0
    by_cases e : b = s.1
    · rw [e, upI_s]
    · rw [upI_n e]
      exact a4 b b0 (by omega)
def abI (t n : Int) (K M : mR) (s u : Int × Int × mR) : Prop := (s.1 = u.1 ∧ s.2.1 = u.2.1 ∧ 0 ≤ u.2.1 ∧ u.2.1 ≤ n) ∧ fr [] [90] K s.2.2 ∧ fr [] [170] M u.2.2 ∧ ofT t 90 K s.2.2 ∧ (∀ b, 0 ≤ b → b < 16 → s.2.2.2 90 (65536 * t + b) = u.2.2.2 170 b ∧ 0 ≤ u.2.2.2 170 b ∧ u.2.2.2 170 b ≤ u.2.1) ∧ u.1 + smm (u.2.2.2 170) (M.2 55 t) 16 = u.2.1 ∧ 0 ≤ u.1 ∧ u.1 ≤ u.2.1
def abE (t n : Int) (K M : mR) (y z : Int × mR) : Prop := y.1 = z.1 ∧ fr [] [90] K y.2 ∧ fr [] [170] M z.2 ∧ ofT t 90 K y.2 ∧ 0 ≤ z.1 ∧ (M.2 58 t ≠ 0 → n ≤ z.1 + 16 * M.2 55 t)
theorem above_q {n : Int} (t0 : 0 ≤ t) (t1 : t < 8) (hT : TK t K M) (hE : TE t M) (hr : K.2 75 t = M.2 54 t) (r0 : 1 ≤ M.2 54 t) (r1 : M.2 58 t ≠ 0 → M.2 54 t ≤ 16) (hy : K.2 76 t = M.2 55 t) (y0 : 0 ≤ M.2 55 t) (y1 : M.2 55 t ≤ 4) (n0 : 0 ≤ n) (n1 : n ≤ 73) (hn : M.2 139 t = n) (hv : ∀ e, 0 ≤ e → e < n → ∀ i, 0 ≤ i → i < M.2 51 t → K.2 85 (65536 * t + (e * 4 + i)) = M.2 142 (4 * (96 * t + e) + i)) : RR (kf_tb_above t n K) (rf_above t M) (abE t n K M) := by
  have hT0 := hT
  obtain ⟨k1, k2, k3, -⟩ := hT0
  unfold kf_tb_above rf_above
  refine RR_l (hashed_k t0 hT hE) (fun u hu => ?_)
  obtain ⟨hu, -⟩ := hu
  refine RR_ii (by rw [hu]) (fun _ g => RR_some ⟨rfl, fr_0, fr_0, fun _ _ => rfl, Int.le_refl _, fun q => absurd g q⟩) (fun _ g => ?_)
  have r1 := r1 g
  refine RR_l fill90_k (fun y hy' => RR_r fill170_r (fun z hz' => ?_))
  obtain ⟨f1, f2, f3⟩ := hy'
  obtain ⟨d1, d2⟩ := hz'
  unfold rfl_above_32
  refine RR_bnd (P := abE t n K M) (RR_whl (I := abI t n K M) (fun s u hI => ?_) ⟨⟨rfl, rfl, Int.le_refl _, n0⟩, f1, d1, f2, fun b b0 b1 => ⟨by show y.2.2 90 _ = z.2 170 b; rw [f3 b b0 b1, d2 b b0 b1], by show 0 ≤ z.2 170 b; rw [d2 b b0 b1]; exact Int.le_refl _, by show z.2 170 b ≤ 0; rw [d2 b b0 b1]; exact Int.le_refl _⟩, by show 0 + smm (z.2 170) (M.2 55 t) 16 = 0; rw [smm_0 y0 16 d2]; rfl, Int.le_refl _, Int.le_refl _⟩) (fun a b hab => RR_some hab)
  obtain ⟨⟨i1, i2, i3, i4⟩, i5, i6, i7, i8, i9, i10, i11⟩ := hI
  have e85 : s.2.2.2 85 = K.2 85 := fr2 i5 85 rfl
  have e142 : u.2.2.2 142 = M.2 142 := fr2 i6 142 rfl
  unfold kfb_tb_above_21 rfb_above_36
  rw [show u.2.2.2 139 = M.2 139 from fr2 i6 139 rfl, hn, i2]
  refine RR_ii Iff.rfl (fun q _ => RR_some ?_) (fun q _ => ?_)
  · refine ⟨i1, i5, i6, i7, i10, fun _ => ?_⟩
    have w := smm_le (f := u.2.2.2 170) (w := M.2 55 t) y0 16
    have w : smm (u.2.2.2 170) (M.2 55 t) 16 ≤ 16 * M.2 55 t := w
    show n ≤ u.1 + 16 * M.2 55 t
    omega
  · refine RR_bnd (bucket_q (K := s.2.2) (M := u.2.2) t0 t1 i3 (by omega) (by rw [show s.2.2.2 72 = K.2 72 from fr2 i5 72 rfl, show u.2.2.2 51 = M.2 51 from fr2 i6 51 rfl]; exact k1) (by rw [show u.2.2.2 51 = M.2 51 from fr2 i6 51 rfl]; exact k2) (by rw [show u.2.2.2 51 = M.2 51 from fr2 i6 51 rfl]; exact k3) (by rw [show s.2.2.2 75 = K.2 75 from fr2 i5 75 rfl, show u.2.2.2 54 = M.2 54 from fr2 i6 54 rfl]; exact hr) (by rw [show u.2.2.2 54 = M.2 54 from fr2 i6 54 rfl]; exact r0) (by rw [show u.2.2.2 54 = M.2 54 from fr2 i6 54 rfl]; exact r1) (fun i a0 a1 => by rw [show u.2.2.2 51 = M.2 51 from fr2 i6 51 rfl] at a1; rw [e85, e142]; exact hv u.2.1 i3 (by omega) i a0 a1)) (fun b b' hb => ?_)
    obtain ⟨rfl, b0, b1⟩ := hb
    obtain ⟨c1, c2, c3⟩ := i8 b b0 (by omega)
    rw [upI_s, upI_s, c1, show s.2.2.2 76 = K.2 76 from fr2 i5 76 rfl, hy, show u.2.2.2 55 = M.2 55 from fr2 i6 55 rfl, cut_i (z := u.2.2.2 170 b + 1) (by omega) (by omega)]
    have su := smm_u (f := u.2.2.2 170) (w := M.2 55 t) b0 (n := 16) (by omega)
    have fin : ∀ x : Int, x = u.1 + (if u.2.2.2 170 b + 1 ≤ M.2 55 t then 0 else 1) → abI t n K M (x, u.2.1 + 1, mO s.2.2 [] [(90, upI (s.2.2.2 90) (65536 * t + b) (u.2.2.2 170 b + 1))]) (x, u.2.1 + 1, mO u.2.2 [] [(170, upI (u.2.2.2 170) b (u.2.2.2 170 b + 1))]) := fun x hx => by
      refine ⟨⟨rfl, rfl, show 0 ≤ u.2.1 + 1 by omega, show u.2.1 + 1 ≤ n by omega⟩, fr_m i5 rfl rfl, fr_m i6 rfl rfl, fun j hj => ?_, fun b2 b20 b21 => ?_, ?_, ?_⟩
      · show upI (s.2.2.2 90) (65536 * t + b) _ j = _
        rw [upI_n (by omega)]
        exact i7 j hj
      · show upI (s.2.2.2 90) (65536 * t + b) (u.2.2.2 170 b + 1) (65536 * t + b2) = upI (u.2.2.2 170) b (u.2.2.2 170 b + 1) b2 ∧ 0 ≤ upI (u.2.2.2 170) b (u.2.2.2 170 b + 1) b2 ∧ upI (u.2.2.2 170) b (u.2.2.2 170 b + 1) b2 ≤ u.2.1 + 1
        by_cases e : b2 = b
        · rw [e, upI_s, upI_s]
          exact ⟨rfl, by omega, by omega⟩
        · rw [upI_n (by omega), upI_n e]
          obtain ⟨g1, g2, g3⟩ := i8 b2 b20 b21
          exact ⟨g1, g2, by omega⟩
      · show x + smm (upI (u.2.2.2 170) b (u.2.2.2 170 b + 1)) (M.2 55 t) 16 = u.2.1 + 1
        rw [su, hx]
        by_cases z : u.2.2.2 170 b + 1 ≤ M.2 55 t
        · rw [if_pos z, if_pos z]; omega
        · rw [if_neg z, if_neg z]; omega
      · show 0 ≤ x ∧ x ≤ u.2.1 + 1
        rw [hx]
        by_cases z : u.2.2.2 170 b + 1 ≤ M.2 55 t
        · rw [if_pos z]; omega
        · rw [if_neg z]; omega
    unfold kfl_tb_above_64 rfl_above_87
    rw [i1, cut_i (z := u.2.1 + 1) (by omega) (by omega), cut_i (z := u.1 + 0) (by omega) (by omega), cut_i (z := u.1 + 1) (by omega) (by omega)]
    refine RR_ii Iff.rfl (fun z _ => RR_some ?_) (fun z _ => RR_some ?_)
    · exact fin _ (by rw [if_pos z])
    · exact fin _ (by rw [if_neg z])
end TQ3
