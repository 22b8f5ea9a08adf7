
theorem shs_h {A : Int → Int} {a : Int} : ∀ k : Nat, (shs A a k).1 ≤ k := by
  intro k
  induction k with
  | zero => exact Int.le_refl _
  | succ k ih =>
    have := arit_r (A (a + k))
    show (shs A a k).1 + 1 - arit (A (a + k)) ≤ ((k + 1 : Nat) : Int)
    omega

def XRk (B : mR) (ac : Int) (K : mR) (a r : Int) : Prop := (0 ≤ a ∧ a ≤ r ∧ r < 800) ∧ noU (K.2 18) a (r + 1 - a).toNat ∧ (shs (K.2 18) a (r + 1 - a).toNat).1 = 1 ∧ ∀ j, a ≤ j → j ≤ r → OPL a K j ∧ TYP B ac K j

def NVH (K M : mR) (r v4 j : Int) : Prop := (K.2 18 j = 257 ∧ M.2 65 j = 400 ∧ K.2 24 j = M.2 68 j ∧ R64 (K.2 24 j)) ∨ ((1 ≤ K.2 22 j ∧ K.2 22 j ≤ 64 ∧ K.2 22 j = M.2 66 j) ∧ ((K.2 18 j = 400 ∧ VW (K.2 101 (65536 * r + K.2 19 j)) (K.2 22 j) ∧ ((M.2 65 j = 401 ∧ M.2 171 (M.2 67 j) = K.2 101 (65536 * r + K.2 19 j)) ∨ (M.2 65 j = 402 ∧ M.2 172 (M.2 67 j) = K.2 101 (65536 * r + K.2 19 j)) ∨ (M.2 65 j = 404 ∧ K.2 101 (65536 * r + K.2 19 j) = if M.2 175 (M.2 67 j) = 0 then 0 else 1))) ∨ (K.2 18 j = 401 ∧ VW (K.2 105 (65536 * v4 + K.2 19 j)) (K.2 22 j) ∧ M.2 65 j = 403 ∧ M.2 174 (M.2 67 j) = K.2 105 (65536 * v4 + K.2 19 j)) ∨ (K.2 18 j = 402 ∧ M.2 65 j = 405 ∧ K.2 20 j = M.2 67 j) ∨ (K.2 18 j = 403 ∧ M.2 65 j = 406) ∨ (K.2 18 j = 126 ∧ M.2 65 j = 126) ∨ (K.2 18 j = 33 ∧ M.2 65 j = 33) ∨ (K.2 18 j = 405 ∧ M.2 65 j = 408) ∨ (K.2 18 j = 404 ∧ M.2 65 j = 407) ∨ (BIN_nx (M.2 65 j) ∧ K.2 18 j = wm (M.2 65 j) ∧ (M.2 65 j = 8 → M.2 67 j = K.2 22 (K.2 20 j)))))

def VALn (K : mR) (v j : Int) : Prop := R64 v ∧ ∀ w, 0 ≤ w → w ≤ 64 → OW K j w → VW v w
def NVI (a rr : Int) (K M : mR) (s : Int × mR) (u : Int × Int × mR) : Prop := (s.1 = u.2.1 ∧ a ≤ s.1 ∧ s.1 ≤ rr + 1) ∧ fr [] [25] K s.2 ∧ fr [] [173] M u.2.2 ∧ (u.1 = (shs (K.2 18) a (s.1 - a).toNat).1 ∧ ∀ t, 0 ≤ t → t < u.1 → u.2.2.2 173 t = s.2.2 25 ((shs (K.2 18) a (s.1 - a).toNat).2 t)) ∧ ∀ j, a ≤ j → j < s.1 → VALn K (s.2.2 25 j) j
theorem i01 {c : Prop} [Decidable c] : (if c then (0 : Int) else 1) = 0 ∨ (if c then (0 : Int) else 1) = 1 := by
  by_cases h : c
  · rw [if_pos h]; exact Or.inl rfl
  · rw [if_neg h]; exact Or.inr rfl
theorem i10 {c : Prop} [Decidable c] : (if c then (1 : Int) else 0) = 0 ∨ (if c then (1 : Int) else 0) = 1 := by
  by_cases h : c
  · rw [if_pos h]; exact Or.inr rfl
  · rw [if_neg h]; exact Or.inl rfl
theorem VALn_w {K : mR} {v j : Int} (h : VW v (K.2 22 j)) (hk : K.2 18 j ≠ 257) : VALn K v j := ⟨h.1, fun w _ _ q => by
  rcases q with ⟨q, -⟩ | ⟨-, q⟩
  · exact absurd q hk
  · rw [← q]; exact h⟩
theorem rone_v (x : Int) : rf_one x = some (if x = 0 then 0 else 1) := by
  unfold rf_one rfl_one_9
  by_cases h : x = 0
  · rw [if_pos h, if_pos h]
  · rw [if_neg h, if_neg h]
theorem rk_33 {x y w : Int} {K : mR} : kf_nd_reckon 33 x y w K = some (xor64 x 1) := by
  unfold kf_nd_reckon
  split
  · rfl
  · split
    · rfl
    · rfl
theorem rk_38 {x y w : Int} {K : mR} : kf_nd_reckon 38 x y w K = some (and64 x y) := by
  unfold kf_nd_reckon
  split
  · rfl
  · split
    · rfl
    · rfl
theorem rk_43 {x y w : Int} {K : mR} : kf_nd_reckon 43 x y w K = some (cutl (x + y)) := by
  unfold kf_nd_reckon
  split
  · rfl
  · split
    · rfl
    · rfl
theorem rk_45 {x y w : Int} {K : mR} : kf_nd_reckon 45 x y w K = some (cutl (x - y)) := by
  unfold kf_nd_reckon
  split
  · rfl
  · split
    · rfl
    · rfl
theorem rk_94 {x y w : Int} {K : mR} : kf_nd_reckon 94 x y w K = some (xor64 x y) := by
  unfold kf_nd_reckon
  split
  · rfl
  · split
    · rfl
    · rfl
theorem rk_124 {x y w : Int} {K : mR} : kf_nd_reckon 124 x y w K = some (or64 x y) := by
  unfold kf_nd_reckon
  split
  · rfl
  · split
    · rfl
    · rfl
theorem rk_126 {x y w : Int} {K : mR} : kf_nd_reckon 126 x y w K = some (xor64 x (-1)) := by
  unfold kf_nd_reckon
  split
  · rfl
  · split
    · rfl
    · rfl
theorem rk_403 {x y w : Int} {K : mR} : kf_nd_reckon 403 x y w K = some (x) := by
  unfold kf_nd_reckon
  split
  · rfl
  · split
    · rfl
    · rfl
theorem rk_405 {x y w : Int} {K : mR} : kf_nd_reckon 405 x y w K = some (neg64 x) := by
  unfold kf_nd_reckon
  split
  · rfl
  · split
    · rfl
    · rfl
theorem rk_9766 {x y w : Int} {K : mR} : kf_nd_reckon 9766 x y w K = some (and64 x y) := by
  unfold kf_nd_reckon
  split
  · rfl
  · split
    · rfl
    · rfl
theorem rk_31868 {x y w : Int} {K : mR} : kf_nd_reckon 31868 x y w K = some (or64 x y) := by
  unfold kf_nd_reckon
  split
  · rfl
  · split
    · rfl
    · rfl
theorem rk_60 {x y w : Int} {K : mR} : kf_nd_reckon 60 x y w K = some (if (0 : Int) ≤ cmp64 (cutl (x + (-9223372036854775808))) (cutl (y + (-9223372036854775808))) then 0 else 1) := by
  have e : ∀ u0, kfl_nd_reckon_21 60 x y u0 K = some (if (0 : Int) ≤ cmp64 (cutl (x + (-9223372036854775808))) (cutl (y + (-9223372036854775808))) then 0 else 1) := fun u0 => by
    show (if (0 : Int) ≤ cmp64 (cutl (x + (-9223372036854775808))) (cutl (y + (-9223372036854775808))) then some _ else some _) = _
    split <;> rfl
  unfold kf_nd_reckon kfl_nd_reckon_20
  rw [e, e]
  split
  · rfl
  · split <;> rfl
theorem rk_62 {x y w : Int} {K : mR} : kf_nd_reckon 62 x y w K = some (if cmp64 (cutl (x + (-9223372036854775808))) (cutl (y + (-9223372036854775808))) ≤ 0 then 0 else 1) := by
  have e : ∀ u0, kfl_nd_reckon_21 62 x y u0 K = some (if cmp64 (cutl (x + (-9223372036854775808))) (cutl (y + (-9223372036854775808))) ≤ 0 then 0 else 1) := fun u0 => by
    show (if cmp64 (cutl (x + (-9223372036854775808))) (cutl (y + (-9223372036854775808))) ≤ 0 then some _ else some _) = _
    split <;> rfl
  unfold kf_nd_reckon kfl_nd_reckon_20
  rw [e, e]
  split
  · rfl
  · split <;> rfl
theorem rk_8509 {x y w : Int} {K : mR} : kf_nd_reckon 8509 x y w K = some (if cmp64 x y = 0 then 0 else 1) := by
  have e : ∀ u0, kfl_nd_reckon_21 8509 x y u0 K = some (if cmp64 x y = 0 then 0 else 1) := fun u0 => by
    show (if cmp64 x y = 0 then some _ else some _) = _
    split <;> rfl
  unfold kf_nd_reckon kfl_nd_reckon_20
  rw [e, e]
  split
  · rfl
  · split <;> rfl
theorem rk_15421 {x y w : Int} {K : mR} : kf_nd_reckon 15421 x y w K = some (if (0 : Int) < cmp64 (cutl (x + (-9223372036854775808))) (cutl (y + (-9223372036854775808))) then 0 else 1) := by
  have e : ∀ u0, kfl_nd_reckon_21 15421 x y u0 K = some (if (0 : Int) < cmp64 (cutl (x + (-9223372036854775808))) (cutl (y + (-9223372036854775808))) then 0 else 1) := fun u0 => by
    show (if (0 : Int) < cmp64 (cutl (x + (-9223372036854775808))) (cutl (y + (-9223372036854775808))) then some _ else some _) = _
    split <;> rfl
  unfold kf_nd_reckon kfl_nd_reckon_20
  rw [e, e]
  split
  · rfl
  · split <;> rfl
theorem rk_15677 {x y w : Int} {K : mR} : kf_nd_reckon 15677 x y w K = some (if cmp64 x y = 0 then 1 else 0) := by
  have e : ∀ u0, kfl_nd_reckon_21 15677 x y u0 K = some (if cmp64 x y = 0 then 1 else 0) := fun u0 => by
    show (if cmp64 x y = 0 then some _ else some _) = _
    split <;> rfl
  unfold kf_nd_reckon kfl_nd_reckon_20
  rw [e, e]
  split
  · rfl
  · split <;> rfl
theorem rk_15933 {x y w : Int} {K : mR} : kf_nd_reckon 15933 x y w K = some (if cmp64 (cutl (x + (-9223372036854775808))) (cutl (y + (-9223372036854775808))) < 0 then 0 else 1) := by
  have e : ∀ u0, kfl_nd_reckon_21 15933 x y u0 K = some (if cmp64 (cutl (x + (-9223372036854775808))) (cutl (y + (-9223372036854775808))) < 0 then 0 else 1) := fun u0 => by
    show (if cmp64 (cutl (x + (-9223372036854775808))) (cutl (y + (-9223372036854775808))) < 0 then some _ else some _) = _
    split <;> rfl
  unfold kf_nd_reckon kfl_nd_reckon_20
  rw [e, e]
  split
  · rfl
  · split <;> rfl
theorem rk_15420 {x y w : Int} {K : mR} : kf_nd_reckon 15420 x y w K = some (if cmp64 y 0 < 0 then 0 else if (0 : Int) ≤ cmp64 y w then 0 else shl64 x (cut y)) := by
  unfold kf_nd_reckon
  by_cases h1 : cmp64 y 0 < 0
  · rw [if_pos h1, if_pos h1]; rfl
  · rw [if_neg h1, if_neg h1]
    by_cases h2 : (0 : Int) ≤ cmp64 y w
    · rw [if_pos h2, if_pos h2]; rfl
    · rw [if_neg h2, if_neg h2]; rfl
theorem rk_15934 {x y w : Int} {K : mR} : kf_nd_reckon 15934 x y w K = some (if cmp64 y 0 < 0 then 0 else if (0 : Int) ≤ cmp64 y w then 0 else ushr64 x (cut y)) := by
  unfold kf_nd_reckon
  by_cases h1 : cmp64 y 0 < 0
  · rw [if_pos h1, if_pos h1]; rfl
  · rw [if_neg h1, if_neg h1]
    by_cases h2 : (0 : Int) ≤ cmp64 y w
    · rw [if_pos h2, if_pos h2]; rfl
    · rw [if_neg h2, if_neg h2]; rfl
theorem tw_9 {x y w b : Int} : rf_twoOf 9 w b x y = some (and64 x y) := rfl
theorem tw_10 {x y w b : Int} : rf_twoOf 10 w b x y = some (or64 x y) := rfl
theorem tw_38 {x y w b : Int} : rf_twoOf 38 w b x y = some (and64 x y) := rfl
theorem tw_94 {x y w b : Int} : rf_twoOf 94 w b x y = some (xor64 x y) := rfl
theorem tw_124 {x y w b : Int} : rf_twoOf 124 w b x y = some (or64 x y) := rfl
theorem tw_8 {x y w b : Int} : rf_twoOf 8 w b x y = some (or64 (shl64 x b) y) := rfl
theorem tw_43 {x y w b : Int} (w1 : w ≤ 64) : rf_twoOf 43 w b x y = some (and64 (cutl (x + y)) (mk64 w)) := by
  show (bnd (rf_cut (cutl (x + y)) w) fun y33 => some y33) = _
  rw [rcut_v (by exact t64_r) w1, bnd_some]
theorem tw_45 {x y w b : Int} (w1 : w ≤ 64) : rf_twoOf 45 w b x y = some (and64 (cutl (x - y)) (mk64 w)) := by
  show (bnd (rf_cut (cutl (x - y)) w) fun y33 => some y33) = _
  rw [rcut_v (by exact t64_r) w1, bnd_some]
theorem below_v (x y : Int) : rf_below x y = some (if (0 : Int) ≤ cmp64 (cutl (x + (-9223372036854775808))) (cutl (y + (-9223372036854775808))) then 0 else 1) := by
  unfold rf_below rfl_below_19
  split
  · rfl
  · rfl
theorem cmp_s (x y : Int) : ((0 : Int) ≤ cmp64 y x ↔ cmp64 x y ≤ 0) ∧ (cmp64 y x < 0 ↔ (0 : Int) < cmp64 x y) := by
  unfold cmp64
  by_cases h1 : x < y
  · rw [if_pos h1, if_neg (by omega), if_neg (by omega)]; decide
  · rw [if_neg h1]
    by_cases h2 : y = x
    · rw [if_pos h2, if_neg (by omega), if_pos h2.symm]; decide
    · rw [if_neg h2, if_pos (by omega)]; decide
theorem tw_4 {x y w b : Int} : rf_twoOf 4 w b x y = some (if cmp64 x y = 0 then 1 else 0) := by
  show (if cmp64 x y = 0 then rfl_twoOf_154 1 else rfl_twoOf_154 0) = _
  unfold rfl_twoOf_154
  by_cases h : cmp64 x y = 0
  · rw [if_pos h, if_pos h]; rfl
  · rw [if_neg h, if_neg h]; rfl
theorem tw_5 {x y w b : Int} : rf_twoOf 5 w b x y = some (if cmp64 x y = 0 then 0 else 1) := by
  show (if cmp64 x y = 0 then rfl_twoOf_170 0 else rfl_twoOf_170 1) = _
  unfold rfl_twoOf_170
  by_cases h : cmp64 x y = 0
  · rw [if_pos h, if_pos h]; rfl
  · rw [if_neg h, if_neg h]; rfl
theorem tw_60 {x y w b : Int} : rf_twoOf 60 w b x y = some (if (0 : Int) ≤ cmp64 (cutl (x + (-9223372036854775808))) (cutl (y + (-9223372036854775808))) then 0 else 1) := by
  show (bnd (rf_below x y) fun y39 => bnd (rf_one y39) fun y41 => some y41) = _
  rw [below_v, bnd_some, rone_v, bnd_some]
  split <;> rfl
theorem tw_62 {x y w b : Int} : rf_twoOf 62 w b x y = some (if cmp64 (cutl (x + (-9223372036854775808))) (cutl (y + (-9223372036854775808))) ≤ 0 then 0 else 1) := by
  show (bnd (rf_below y x) fun y44 => bnd (rf_one y44) fun y46 => some y46) = _
  rw [below_v, bnd_some, rone_v, bnd_some]
  have c := (cmp_s (cutl (x + (-9223372036854775808))) (cutl (y + (-9223372036854775808)))).1
  by_cases h : cmp64 (cutl (x + (-9223372036854775808))) (cutl (y + (-9223372036854775808))) ≤ 0
  · rw [if_pos (c.mpr h), if_pos h]; rfl
  · rw [if_neg (fun q => h (c.mp q)), if_neg h]; rfl
theorem tw_6 {x y w b : Int} : rf_twoOf 6 w b x y = some (if (0 : Int) < cmp64 (cutl (x + (-9223372036854775808))) (cutl (y + (-9223372036854775808))) then 0 else 1) := by
  show (bnd (rf_below y x) fun y14 => if y14 = 0 then rfl_twoOf_208 1 else rfl_twoOf_208 0) = _
  rw [below_v, bnd_some]
  unfold rfl_twoOf_208
  have c := cmp_s (cutl (x + (-9223372036854775808))) (cutl (y + (-9223372036854775808)))
  by_cases h : (0 : Int) < cmp64 (cutl (x + (-9223372036854775808))) (cutl (y + (-9223372036854775808)))
  · have c2 : ¬ (0 : Int) ≤ cmp64 (cutl (y + (-9223372036854775808))) (cutl (x + (-9223372036854775808))) := fun q => by have := c.1.mp q; omega
    rw [if_neg c2, if_pos h]; rfl
  · rw [if_pos (c.1.mpr (by omega)), if_neg h]; rfl
theorem tw_7 {x y w b : Int} : rf_twoOf 7 w b x y = some (if cmp64 (cutl (x + (-9223372036854775808))) (cutl (y + (-9223372036854775808))) < 0 then 0 else 1) := by
  show (bnd (rf_below x y) fun y18 => if y18 = 0 then rfl_twoOf_226 1 else rfl_twoOf_226 0) = _
  rw [below_v, bnd_some]
  unfold rfl_twoOf_226
  by_cases h : cmp64 (cutl (x + (-9223372036854775808))) (cutl (y + (-9223372036854775808))) < 0
  · rw [if_neg (by omega), if_pos h]; rfl
  · rw [if_pos (by omega), if_neg h]; rfl
theorem cmp_l (y w : Int) : (cmp64 y w < 0) ↔ ¬ (0 : Int) ≤ cmp64 y w := by omega
theorem tw_11 {x y w b : Int} (w1 : w ≤ 64) : rf_twoOf 11 w b x y = some (and64 (if cmp64 y 0 < 0 then 0 else if (0 : Int) ≤ cmp64 y w then 0 else shl64 x (cut y)) (mk64 w)) := by
  have z : and64 0 (mk64 w) = 0 := bt_eq and_r (l64 0 rfl) (fun i _ => by rw [bq_and, bt_01.1, Bool.false_and])
  show (if cmp64 y 0 < 0 then rfl_twoOf_260 else if cmp64 y w < 0 then bnd (rf_cut (shl64 x (cut y)) w) fun y26 => rfl_twoOf_273 y26 else rfl_twoOf_260) = _
  by_cases h1 : cmp64 y 0 < 0
  · rw [if_pos h1, if_pos h1, z]; rfl
  · rw [if_neg h1, if_neg h1]
    by_cases h2 : (0 : Int) ≤ cmp64 y w
    · rw [if_neg (by omega), if_pos h2, z]; rfl
    · rw [if_pos (by omega), if_neg h2, rcut_v (by exact t64_r) w1, bnd_some]; rfl
theorem tw_12 {x y w b : Int} : rf_twoOf 12 w b x y = some (if cmp64 y 0 < 0 then 0 else if (0 : Int) ≤ cmp64 y w then 0 else ushr64 x (cut y)) := by
  show (if cmp64 y 0 < 0 then rfl_twoOf_289 else if cmp64 y w < 0 then rfl_twoOf_298 (ushr64 x (cut y)) else rfl_twoOf_289) = _
  by_cases h1 : cmp64 y 0 < 0
  · rw [if_pos h1, if_pos h1]; rfl
  · rw [if_neg h1, if_neg h1]
    by_cases h2 : (0 : Int) ≤ cmp64 y w
    · rw [if_neg (by omega), if_pos h2]; rfl
    · rw [if_pos (by omega), if_neg h2]; rfl
theorem VW_shr {x y w : Int} (h : VW x w) (w0 : 0 ≤ w) : VW (if cmp64 y 0 < 0 then 0 else if (0 : Int) ≤ cmp64 y w then 0 else ushr64 x (cut y)) w := by
  have z : VW 0 w := ⟨l64 0 rfl, fun i _ => bt_01.1 i⟩
  split
  · exact z
  · split
    · exact z
    · obtain ⟨k, hk, sh⟩ := sh_any (cut y)
      rw [(sh x).2]
      exact VW_ushr hk h
section NV1
variable {K M : mR} {a rr r v4 : Int}

theorem node_q {ac : Int} {B : mR} (hx : XRk B ac K a rr) (hn : ∀ j, a ≤ j → j ≤ rr → NVH K M r v4 j) {i n : Int} {Kc Mc : mR} (hI : NVI a rr K M (i, Kc) (n, i, Mc)) (hi : i ≤ rr) : ∃ v, kfb_nd_valueOf_b101_b105_3 rr r v4 (i, Kc) = some (Sum.inl (i + 1, mO Kc [] [(25, upI (Kc.2 25) i v)])) ∧ rfb_worth_5 (rr + 1) (n, i, Mc) = some (Sum.inl (n + 1 - arit (K.2 18 i), i + 1, mO Mc [] [(173, upI (Mc.2 173) (n - arit (K.2 18 i)) v)])) ∧ VALn K v i ∧ (0 ≤ n - arit (K.2 18 i)) := by
  obtain ⟨⟨-, i0, -⟩, fK, fM, ⟨en, es⟩, hV⟩ := hI
  have i0 : a ≤ i := i0
  have en : n = (shs (K.2 18) a (i - a).toNat).1 := en
  have es : ∀ t, 0 ≤ t → t < n → Mc.2 173 t = Kc.2 25 ((shs (K.2 18) a (i - a).toNat).2 t) := es
  have hV : ∀ j, a ≤ j → j < i → VALn K (Kc.2 25 j) j := hV
  have ar0 := (arit_r (K.2 18 i)).1
  obtain ⟨⟨a0, a1, r8⟩, hu, -, hT⟩ := hx
  obtain ⟨hO, hY⟩ := hT i i0 hi
  have hH := hn i i0 hi
  have ei : a + (((i - a).toNat : Nat) : Int) = i := by omega
  have har := hu (i - a).toNat (by omega)
  rw [ei, ← en] at har
  have nb := shs_h (A := K.2 18) (a := a) (i - a).toNat
  rw [← en] at nb
  obtain ⟨o1, o2, o3⟩ := OPL_b hO i0 (fun k hk => hu k (by omega))
  obtain ⟨p1, p2, p3⟩ := hO
  rw [← en] at p1 p2 p3
  have c1 : cut (i + 1) = i + 1 := cut_i (by omega) (by omega)
  have ni : ¬ rr < i := by omega
  have mi : ¬ rr + 1 ≤ i := by omega
  have k18 : Kc.2 18 = K.2 18 := fr2 fK 18 rfl
  have k19 : Kc.2 19 = K.2 19 := fr2 fK 19 rfl
  have k20 : Kc.2 20 = K.2 20 := fr2 fK 20 rfl
  have k21 : Kc.2 21 = K.2 21 := fr2 fK 21 rfl
  have k22 : Kc.2 22 = K.2 22 := fr2 fK 22 rfl
  have k24 : Kc.2 24 = K.2 24 := fr2 fK 24 rfl
  have k101 : Kc.2 101 = K.2 101 := fr2 fK 101 rfl
  have k105 : Kc.2 105 = K.2 105 := fr2 fK 105 rfl
  have m65 : Mc.2 65 = M.2 65 := fr2 fM 65 rfl
  have m66 : Mc.2 66 = M.2 66 := fr2 fM 66 rfl
  have m67 : Mc.2 67 = M.2 67 := fr2 fM 67 rfl
  have m68 : Mc.2 68 = M.2 68 := fr2 fM 68 rfl
  have m171 : Mc.2 171 = M.2 171 := fr2 fM 171 rfl
  have m172 : Mc.2 172 = M.2 172 := fr2 fM 172 rfl
  have m174 : Mc.2 174 = M.2 174 := fr2 fM 174 rfl
  have m175 : Mc.2 175 = M.2 175 := fr2 fM 175 rfl
  have fin : ∀ raw : Int, kfl_nd_valueOf_b101_b105_278 rr r v4 i raw Kc = some (Sum.inl (i + 1, mO Kc [] [(25, upI (Kc.2 25) i (and64 raw (onk (K.2 22 i))))])) := fun raw => by
    unfold kfl_nd_valueOf_b101_b105_278
    rw [onk_v, bnd_some, c1, k22]
  have fr442 : ∀ (q : Int) (m : mR), rfl_worth_442 (rr + 1) q i m = some (Sum.inl (q, i + 1, m)) := fun q m => by
    unfold rfl_worth_442
    rw [c1]
  unfold kfb_nd_valueOf_b101_b105_3 rfb_worth_5
  show ∃ v, (if rr < i then _ else _) = _ ∧ (if rr + 1 ≤ i then _ else _) = _ ∧ _
  rw [if_neg ni, if_neg mi, k18, k19, k20, k21, k22, k24, k101, k105, m65, m66, m67, m68, m171, m172, m174, m175]
  dsimp only
  have hWb : ∀ j, a ≤ j → j ≤ rr → K.2 18 j ≠ 257 → 1 ≤ K.2 22 j ∧ K.2 22 j ≤ 64 := fun j j0 j1 q => by
    rcases hn j j0 j1 with ⟨q1, -⟩ | ⟨⟨q1, q2, -⟩, -⟩
    · exact absurd q1 q
    · exact ⟨q1, q2⟩
  rcases hH with ⟨e18, e65, e24, hr⟩ | ⟨⟨w0, w1, ew⟩, hH⟩
  ·
    have f := hY.1 e18
    rw [e18, e65, if_pos rfl, if_neg (by decide), if_neg (by decide), if_pos rfl, fin, fr442, cut_i (by omega) (by omega), fit_m hr f, ← e24, show arit 257 = 0 from rfl, show n - 0 = n by omega, show n + 1 - 0 = n + 1 by omega]
    exact ⟨_, rfl, rfl, ⟨hr, fun w q0 q1 q => by
      rcases q with ⟨-, q⟩ | ⟨q, -⟩
      · exact VW_fit hr q q0 q1
      · exact absurd e18 q⟩, by omega⟩
  rw [← ew]
  have onw : onk (K.2 22 i) = mk64 (K.2 22 i) := onk_m w1
  rw [onw] at fin
  rcases hH with ⟨e18, hv, hs⟩ | hH
  · rw [e18] at har ⊢
    have ar : arit 400 = 0 := rfl
    rw [if_neg (by decide), if_pos rfl, fin, VW_k hv (by omega) w1, ar, show n - 0 = n by omega, show n + 1 - 0 = n + 1 by omega]
    refine ⟨_, rfl, ?_, VALn_w hv (by rw [e18]; decide), by omega⟩
    rcases hs with ⟨e65, e⟩ | ⟨e65, e⟩ | ⟨e65, e⟩
    · rw [e65, if_neg (by decide), if_neg (by decide), if_neg (by decide), if_pos rfl, fr442, cut_i (by omega) (by omega), e]
    · rw [e65, if_neg (by decide), if_neg (by decide), if_neg (by decide), if_neg (by decide), if_pos rfl, fr442, cut_i (by omega) (by omega), e]
    · rw [e65, if_neg (by decide), if_neg (by decide), if_neg (by decide), if_neg (by decide), if_neg (by decide), if_neg (by decide), if_pos rfl, rone_v, bnd_some, fr442, cut_i (by omega) (by omega), e]
  rcases hH with ⟨e18, hv, e65, e⟩ | hH
  · rw [e18] at har ⊢
    have ar : arit 401 = 0 := rfl
    rw [if_neg (by decide), if_neg (by decide), if_pos rfl, fin, VW_k hv (by omega) w1, ar, show n - 0 = n by omega, show n + 1 - 0 = n + 1 by omega]
    refine ⟨_, rfl, ?_, VALn_w hv (by rw [e18]; decide), by omega⟩
    rw [e65, if_neg (by decide), if_neg (by decide), if_neg (by decide), if_neg (by decide), if_neg (by decide), if_pos rfl, fr442, cut_i (by omega) (by omega), e]
  rcases hH with ⟨e18, e65, e20⟩ | hH
  · rw [e18] at har p1 o1
    have ar : arit 402 = 1 := rfl
    rw [ar] at har p1 o1
    have q1 := p1 (by decide)
    have b1 := o1 (by decide)
    have s1 : Mc.2 173 (n - 1) = Kc.2 25 (K.2 19 i) := by rw [q1]; exact es _ (by omega) (by omega)
    have v1 := hV (K.2 19 i) b1.1 b1.2
    rw [e18, if_neg (by decide), if_neg (by decide), if_neg (by decide), if_pos rfl, fin, e65, if_neg (by decide), if_neg (by decide), if_neg (by decide), if_neg (by decide), if_neg (by decide), if_neg (by decide), if_neg (by decide), if_pos rfl, cut_i (z := n - 1) (by omega) (by omega), s1, rcut_v (by exact t64_r) w1, bnd_some, ← e20, fr442, ar, show n + 1 - 1 = n by omega]
    exact ⟨_, rfl, rfl, VALn_w (VW_m (by omega) w1) (by rw [e18]; decide), by omega⟩
  rcases hH with ⟨e18, e65⟩ | hH
  · rw [e18] at har p1 o1
    have ar : arit 403 = 1 := rfl
    rw [ar] at har p1 o1
    have q1 := p1 (by decide)
    have b1 := o1 (by decide)
    have s1 : Mc.2 173 (n - 1) = Kc.2 25 (K.2 19 i) := by rw [q1]; exact es _ (by omega) (by omega)
    have v1 := hV (K.2 19 i) b1.1 b1.2
    rw [e18, if_neg (by decide), if_neg (by decide), if_neg (by decide), if_neg (by decide), if_neg (by decide), if_neg (by decide), rk_403, bnd_some, fin, e65, if_neg (by decide), if_neg (by decide), if_neg (by decide), if_neg (by decide), if_neg (by decide), if_neg (by decide), if_neg (by decide), if_neg (by decide), if_pos rfl, cut_i (z := n - 1) (by omega) (by omega), s1, rcut_v v1.1 w1, bnd_some, fr442, ar, show n + 1 - 1 = n by omega]
    exact ⟨_, rfl, rfl, VALn_w (VW_m (by omega) w1) (by rw [e18]; decide), by omega⟩
  rcases hH with ⟨e18, e65⟩ | hH
  · rw [e18] at har p1 o1
    have ar : arit 126 = 1 := rfl
    rw [ar] at har p1 o1
    have q1 := p1 (by decide)
    have b1 := o1 (by decide)
    have s1 : Mc.2 173 (n - 1) = Kc.2 25 (K.2 19 i) := by rw [q1]; exact es _ (by omega) (by omega)
    have v1 := hV (K.2 19 i) b1.1 b1.2
    rw [e18, if_neg (by decide), if_neg (by decide), if_neg (by decide), if_neg (by decide), if_neg (by decide), if_neg (by decide), rk_126, bnd_some, fin, e65, if_neg (by decide), if_pos rfl, cut_i (z := n - 1) (by omega) (by omega), s1, rcut_v (by exact t64_r) w1, bnd_some, fr442, ar, show n + 1 - 1 = n by omega]
    exact ⟨_, rfl, rfl, VALn_w (VW_m (by omega) w1) (by rw [e18]; decide), by omega⟩
  rcases hH with ⟨e18, e65⟩ | hH
  · rw [e18] at har p1 o1
    have ar : arit 33 = 1 := rfl
    rw [ar] at har p1 o1
    have q1 := p1 (by decide)
    have b1 := o1 (by decide)
    have s1 : Mc.2 173 (n - 1) = Kc.2 25 (K.2 19 i) := by rw [q1]; exact es _ (by omega) (by omega)
    have v1 := hV (K.2 19 i) b1.1 b1.2
    obtain ⟨y1, y2⟩ := hY.2.2.1 e18
    have w1e : K.2 22 i = 1 := y2
    have x01 := VW_1 (v1.2 1 (by decide) (by decide) y1)
    rw [e18, if_neg (by decide), if_neg (by decide), if_neg (by decide), if_neg (by decide), if_neg (by decide), if_neg (by decide), rk_33, bnd_some, fin, e65, if_pos rfl, cut_i (z := n - 1) (by omega) (by omega), s1, fr442, ar, show n + 1 - 1 = n by omega]
    refine ⟨cutl (1 - Kc.2 25 (K.2 19 i)), ?_, rfl, ?_, by omega⟩
    · rw [w1e, not_1 x01]
    · rw [← not_1 x01, ← w1e]
      exact VALn_w (VW_m (by omega) w1) (by rw [e18]; decide)
  rcases hH with ⟨e18, e65⟩ | hH
  · rw [e18] at har p1 o1
    have ar : arit 405 = 1 := rfl
    rw [ar] at har p1 o1
    have q1 := p1 (by decide)
    have b1 := o1 (by decide)
    have s1 : Mc.2 173 (n - 1) = Kc.2 25 (K.2 19 i) := by rw [q1]; exact es _ (by omega) (by omega)
    have v1 := hV (K.2 19 i) b1.1 b1.2
    rw [e18, if_neg (by decide), if_neg (by decide), if_neg (by decide), if_neg (by decide), if_neg (by decide), if_neg (by decide), rk_405, bnd_some, fin, e65, if_neg (by decide), if_neg (by decide), if_neg (by decide), if_neg (by decide), if_neg (by decide), if_neg (by decide), if_neg (by decide), if_neg (by decide), if_neg (by decide), if_neg (by decide), if_pos rfl, cut_i (z := n - 1) (by omega) (by omega), s1, rcut_v (by exact t64_r) w1, bnd_some, fr442, ar, show n + 1 - 1 = n by omega]
    exact ⟨_, rfl, rfl, VALn_w (VW_m (by omega) w1) (by rw [e18]; decide), by omega⟩
  rcases hH with ⟨e18, e65⟩ | hH
  · rw [e18] at har p1 o1 p2 o2 p3 o3
    have ar : arit 404 = 3 := rfl
    rw [ar] at har p1 o1 p2 o2 p3 o3
    have b1 := o1 (by decide)
    have b2 := o2 (by decide)
    have b3 := o3 (by decide)
    have s1 : Mc.2 173 (n - 3) = Kc.2 25 (K.2 19 i) := by rw [p1 (by decide)]; exact es _ (by omega) (by omega)
    have s2 : Mc.2 173 (n - 2) = Kc.2 25 (K.2 20 i) := by rw [p2 (by decide), show n - 3 + 1 = n - 2 by omega]; exact es _ (by omega) (by omega)
    have s3 : Mc.2 173 (n - 1) = Kc.2 25 (K.2 21 i) := by rw [p3 (by decide), show n - 3 + 2 = n - 1 by omega]; exact es _ (by omega) (by omega)
    obtain ⟨y1, y2, y3⟩ := hY.2.2.2.1 e18
    have x01 := VW_1 ((hV _ b1.1 b1.2).2 1 (by decide) (by decide) y1)
    have x2 := (hV _ b2.1 b2.2).2 _ (by omega) w1 y2
    have x3 := (hV _ b3.1 b3.2).2 _ (by omega) w1 y3
    have d2 : cut (n + (-2)) = n - 2 := cut_i (by omega) (by omega)
    have d3 : cut (n - 2 - 1) = n - 3 := by rw [cut_i (by omega) (by omega)]; omega
    have d1 : cut (n - 2 + 1) = n - 1 := by rw [cut_i (by omega) (by omega)]; omega
    rcases x01 with x | x
    · rw [e18, if_neg (by decide), if_neg (by decide), if_neg (by decide), if_neg (by decide), if_pos rfl, x, if_pos (show cmp64 0 0 = 0 by decide)]
      unfold kfl_nd_valueOf_b101_b105_186 rfl_worth_399
      rw [fin, VW_k x3 (by omega) w1, e65, if_neg (by decide), if_neg (by decide), if_neg (by decide), if_neg (by decide), if_neg (by decide), if_neg (by decide), if_neg (by decide), if_neg (by decide), if_neg (by decide), if_pos rfl, d2, d3, d1, s1, s2, s3, x, if_neg (show ¬ cmp64 0 1 = 0 by decide), fr442, ar, show n + 1 - 3 = n - 2 by omega]
      exact ⟨_, rfl, rfl, VALn_w x3 (by rw [e18]; decide), by omega⟩
    · rw [e18, if_neg (by decide), if_neg (by decide), if_neg (by decide), if_neg (by decide), if_pos rfl, x, if_neg (show ¬ cmp64 1 0 = 0 by decide)]
      unfold kfl_nd_valueOf_b101_b105_186 rfl_worth_399
      rw [fin, VW_k x2 (by omega) w1, e65, if_neg (by decide), if_neg (by decide), if_neg (by decide), if_neg (by decide), if_neg (by decide), if_neg (by decide), if_neg (by decide), if_neg (by decide), if_neg (by decide), if_pos rfl, d2, d3, d1, s1, s2, s3, x, if_pos (show cmp64 1 1 = 0 by decide), fr442, ar, show n + 1 - 3 = n - 2 by omega]
      exact ⟨_, rfl, rfl, VALn_w x2 (by rw [e18]; decide), by omega⟩
  obtain ⟨hB, e18, e67⟩ := hH
  have d1 : cut (n + (-1)) = n - 1 := cut_i (by omega) (by omega)
  rcases hB with e65 | e65 | e65 | e65 | e65 | e65 | e65 | e65 | e65 | e65 | e65 | e65 | e65 | e65 | e65 | e65
  · rw [e65, show wm 4 = 15677 from rfl] at e18
    rw [e18] at har p1 o1 p2 o2
    have ar : arit 15677 = 2 := rfl
    rw [ar] at har p1 o1 p2 o2
    have b1 := o1 (by decide)
    have b2 := o2 (by decide)
    have s1 : Mc.2 173 (n - 2) = Kc.2 25 (K.2 19 i) := by rw [p1 (by decide)]; exact es _ (by omega) (by omega)
    have s2 : Mc.2 173 (n - 1) = Kc.2 25 (K.2 20 i) := by rw [p2 (by decide), show n - 2 + 1 = n - 1 by omega]; exact es _ (by omega) (by omega)
    have v1 := hV _ b1.1 b1.2
    have v2 := hV _ b2.1 b2.2
    have d2 : cut (n - 1 - 1) = n - 2 := by rw [cut_i (by omega) (by omega)]; omega
    rw [e18, if_neg (by decide), if_neg (by decide), if_neg (by decide), if_neg (by decide), if_neg (by decide), if_neg (by decide), e65, if_neg (by decide), if_neg (by decide), if_neg (by decide), if_neg (by decide), if_neg (by decide), if_neg (by decide), if_neg (by decide), if_neg (by decide), if_neg (by decide), if_neg (by decide), if_neg (by decide), d1, d2, s1, s2, tw_4, bnd_some, fr442, rk_15677, bnd_some, fin, ar, show n + 1 - 2 = n - 1 by omega]
    have z : VW (if cmp64 (Kc.2 25 (K.2 19 i)) (Kc.2 25 (K.2 20 i)) = 0 then 1 else 0) (K.2 22 i) := VW_le (VW_01 i10) w0
    rw [VW_k z (by omega) w1]
    exact ⟨_, rfl, rfl, VALn_w z (by rw [e18]; decide), by omega⟩
  · rw [e65, show wm 5 = 8509 from rfl] at e18
    rw [e18] at har p1 o1 p2 o2
    have ar : arit 8509 = 2 := rfl
    rw [ar] at har p1 o1 p2 o2
    have b1 := o1 (by decide)
    have b2 := o2 (by decide)
    have s1 : Mc.2 173 (n - 2) = Kc.2 25 (K.2 19 i) := by rw [p1 (by decide)]; exact es _ (by omega) (by omega)
    have s2 : Mc.2 173 (n - 1) = Kc.2 25 (K.2 20 i) := by rw [p2 (by decide), show n - 2 + 1 = n - 1 by omega]; exact es _ (by omega) (by omega)
    have v1 := hV _ b1.1 b1.2
    have v2 := hV _ b2.1 b2.2
    have d2 : cut (n - 1 - 1) = n - 2 := by rw [cut_i (by omega) (by omega)]; omega
    rw [e18, if_neg (by decide), if_neg (by decide), if_neg (by decide), if_neg (by decide), if_neg (by decide), if_neg (by decide), e65, if_neg (by decide), if_neg (by decide), if_neg (by decide), if_neg (by decide), if_neg (by decide), if_neg (by decide), if_neg (by decide), if_neg (by decide), if_neg (by decide), if_neg (by decide), if_neg (by decide), d1, d2, s1, s2, tw_5, bnd_some, fr442, rk_8509, bnd_some, fin, ar, show n + 1 - 2 = n - 1 by omega]
    have z : VW (if cmp64 (Kc.2 25 (K.2 19 i)) (Kc.2 25 (K.2 20 i)) = 0 then 0 else 1) (K.2 22 i) := VW_le (VW_01 i01) w0
    rw [VW_k z (by omega) w1]
    exact ⟨_, rfl, rfl, VALn_w z (by rw [e18]; decide), by omega⟩
  · rw [e65, show wm 6 = 15421 from rfl] at e18
    rw [e18] at har p1 o1 p2 o2
    have ar : arit 15421 = 2 := rfl
    rw [ar] at har p1 o1 p2 o2
    have b1 := o1 (by decide)
    have b2 := o2 (by decide)
    have s1 : Mc.2 173 (n - 2) = Kc.2 25 (K.2 19 i) := by rw [p1 (by decide)]; exact es _ (by omega) (by omega)
    have s2 : Mc.2 173 (n - 1) = Kc.2 25 (K.2 20 i) := by rw [p2 (by decide), show n - 2 + 1 = n - 1 by omega]; exact es _ (by omega) (by omega)
    have v1 := hV _ b1.1 b1.2
    have v2 := hV _ b2.1 b2.2
    have d2 : cut (n - 1 - 1) = n - 2 := by rw [cut_i (by omega) (by omega)]; omega
    rw [e18, if_neg (by decide), if_neg (by decide), if_neg (by decide), if_neg (by decide), if_neg (by decide), if_neg (by decide), e65, if_neg (by decide), if_neg (by decide), if_neg (by decide), if_neg (by decide), if_neg (by decide), if_neg (by decide), if_neg (by decide), if_neg (by decide), if_neg (by decide), if_neg (by decide), if_neg (by decide), d1, d2, s1, s2, tw_6, bnd_some, fr442, rk_15421, bnd_some, fin, ar, show n + 1 - 2 = n - 1 by omega]
    have z : VW (if (0 : Int) < cmp64 (cutl ((Kc.2 25 (K.2 19 i)) + (-9223372036854775808))) (cutl ((Kc.2 25 (K.2 20 i)) + (-9223372036854775808))) then 0 else 1) (K.2 22 i) := VW_le (VW_01 i01) w0
    rw [VW_k z (by omega) w1]
    exact ⟨_, rfl, rfl, VALn_w z (by rw [e18]; decide), by omega⟩
  · rw [e65, show wm 7 = 15933 from rfl] at e18
    rw [e18] at har p1 o1 p2 o2
    have ar : arit 15933 = 2 := rfl
    rw [ar] at har p1 o1 p2 o2
    have b1 := o1 (by decide)
    have b2 := o2 (by decide)
    have s1 : Mc.2 173 (n - 2) = Kc.2 25 (K.2 19 i) := by rw [p1 (by decide)]; exact es _ (by omega) (by omega)
    have s2 : Mc.2 173 (n - 1) = Kc.2 25 (K.2 20 i) := by rw [p2 (by decide), show n - 2 + 1 = n - 1 by omega]; exact es _ (by omega) (by omega)
    have v1 := hV _ b1.1 b1.2
    have v2 := hV _ b2.1 b2.2
    have d2 : cut (n - 1 - 1) = n - 2 := by rw [cut_i (by omega) (by omega)]; omega
    rw [e18, if_neg (by decide), if_neg (by decide), if_neg (by decide), if_neg (by decide), if_neg (by decide), if_neg (by decide), e65, if_neg (by decide), if_neg (by decide), if_neg (by decide), if_neg (by decide), if_neg (by decide), if_neg (by decide), if_neg (by decide), if_neg (by decide), if_neg (by decide), if_neg (by decide), if_neg (by decide), d1, d2, s1, s2, tw_7, bnd_some, fr442, rk_15933, bnd_some, fin, ar, show n + 1 - 2 = n - 1 by omega]
    have z : VW (if cmp64 (cutl ((Kc.2 25 (K.2 19 i)) + (-9223372036854775808))) (cutl ((Kc.2 25 (K.2 20 i)) + (-9223372036854775808))) < 0 then 0 else 1) (K.2 22 i) := VW_le (VW_01 i01) w0
    rw [VW_k z (by omega) w1]
    exact ⟨_, rfl, rfl, VALn_w z (by rw [e18]; decide), by omega⟩
  · rw [e65, show wm 60 = 60 from rfl] at e18
    rw [e18] at har p1 o1 p2 o2
    have ar : arit 60 = 2 := rfl
    rw [ar] at har p1 o1 p2 o2
    have b1 := o1 (by decide)
    have b2 := o2 (by decide)
    have s1 : Mc.2 173 (n - 2) = Kc.2 25 (K.2 19 i) := by rw [p1 (by decide)]; exact es _ (by omega) (by omega)
    have s2 : Mc.2 173 (n - 1) = Kc.2 25 (K.2 20 i) := by rw [p2 (by decide), show n - 2 + 1 = n - 1 by omega]; exact es _ (by omega) (by omega)
    have v1 := hV _ b1.1 b1.2
    have v2 := hV _ b2.1 b2.2
    have d2 : cut (n - 1 - 1) = n - 2 := by rw [cut_i (by omega) (by omega)]; omega
    rw [e18, if_neg (by decide), if_neg (by decide), if_neg (by decide), if_neg (by decide), if_neg (by decide), if_neg (by decide), e65, if_neg (by decide), if_neg (by decide), if_neg (by decide), if_neg (by decide), if_neg (by decide), if_neg (by decide), if_neg (by decide), if_neg (by decide), if_neg (by decide), if_neg (by decide), if_neg (by decide), d1, d2, s1, s2, tw_60, bnd_some, fr442, rk_60, bnd_some, fin, ar, show n + 1 - 2 = n - 1 by omega]
    have z : VW (if (0 : Int) ≤ cmp64 (cutl ((Kc.2 25 (K.2 19 i)) + (-9223372036854775808))) (cutl ((Kc.2 25 (K.2 20 i)) + (-9223372036854775808))) then 0 else 1) (K.2 22 i) := VW_le (VW_01 i01) w0
    rw [VW_k z (by omega) w1]
    exact ⟨_, rfl, rfl, VALn_w z (by rw [e18]; decide), by omega⟩
  · rw [e65, show wm 62 = 62 from rfl] at e18
    rw [e18] at har p1 o1 p2 o2
    have ar : arit 62 = 2 := rfl
    rw [ar] at har p1 o1 p2 o2
    have b1 := o1 (by decide)
    have b2 := o2 (by decide)
    have s1 : Mc.2 173 (n - 2) = Kc.2 25 (K.2 19 i) := by rw [p1 (by decide)]; exact es _ (by omega) (by omega)
    have s2 : Mc.2 173 (n - 1) = Kc.2 25 (K.2 20 i) := by rw [p2 (by decide), show n - 2 + 1 = n - 1 by omega]; exact es _ (by omega) (by omega)
    have v1 := hV _ b1.1 b1.2
    have v2 := hV _ b2.1 b2.2
    have d2 : cut (n - 1 - 1) = n - 2 := by rw [cut_i (by omega) (by omega)]; omega
    rw [e18, if_neg (by decide), if_neg (by decide), if_neg (by decide), if_neg (by decide), if_neg (by decide), if_neg (by decide), e65, if_neg (by decide), if_neg (by decide), if_neg (by decide), if_neg (by decide), if_neg (by decide), if_neg (by decide), if_neg (by decide), if_neg (by decide), if_neg (by decide), if_neg (by decide), if_neg (by decide), d1, d2, s1, s2, tw_62, bnd_some, fr442, rk_62, bnd_some, fin, ar, show n + 1 - 2 = n - 1 by omega]
    have z : VW (if cmp64 (cutl ((Kc.2 25 (K.2 19 i)) + (-9223372036854775808))) (cutl ((Kc.2 25 (K.2 20 i)) + (-9223372036854775808))) ≤ 0 then 0 else 1) (K.2 22 i) := VW_le (VW_01 i01) w0
    rw [VW_k z (by omega) w1]
    exact ⟨_, rfl, rfl, VALn_w z (by rw [e18]; decide), by omega⟩
  · rw [e65, show wm 8 = 11051 from rfl] at e18
    rw [e18] at har p1 o1 p2 o2
    have ar : arit 11051 = 2 := rfl
    rw [ar] at har p1 o1 p2 o2
    have b1 := o1 (by decide)
    have b2 := o2 (by decide)
    have s1 : Mc.2 173 (n - 2) = Kc.2 25 (K.2 19 i) := by rw [p1 (by decide)]; exact es _ (by omega) (by omega)
    have s2 : Mc.2 173 (n - 1) = Kc.2 25 (K.2 20 i) := by rw [p2 (by decide), show n - 2 + 1 = n - 1 by omega]; exact es _ (by omega) (by omega)
    have v1 := hV _ b1.1 b1.2
    have v2 := hV _ b2.1 b2.2
    have d2 : cut (n - 1 - 1) = n - 2 := by rw [cut_i (by omega) (by omega)]; omega
    rw [e18, if_neg (by decide), if_neg (by decide), if_neg (by decide), if_neg (by decide), if_neg (by decide), if_pos rfl, e65, if_neg (by decide), if_neg (by decide), if_neg (by decide), if_neg (by decide), if_neg (by decide), if_neg (by decide), if_neg (by decide), if_neg (by decide), if_neg (by decide), if_neg (by decide), if_neg (by decide), d1, d2, s1, s2, tw_8, bnd_some, fr442, fin, ar, show n + 1 - 2 = n - 1 by omega]
    obtain ⟨y1, y2, y3⟩ := hY.2.2.2.2.1 e18
    obtain ⟨g1, g2⟩ := hWb (K.2 19 i) b1.1 (by omega) y1
    obtain ⟨g3, g4⟩ := hWb (K.2 20 i) b2.1 (by omega) y2
    rw [cut_i (by omega) (by omega)] at y3
    have z := VW_join (v1.2 _ (by omega) g2 (Or.inr ⟨y1, rfl⟩)) (v2.2 _ (by omega) g4 (Or.inr ⟨y2, rfl⟩)) (by omega) (by omega) (by omega)
    rw [← y3] at z
    rw [e67 e65, VW_k z (by omega) w1]
    exact ⟨_, rfl, rfl, VALn_w z (by rw [e18]; decide), by omega⟩
  · rw [e65, show wm 9 = 9766 from rfl] at e18
    rw [e18] at har p1 o1 p2 o2
    have ar : arit 9766 = 2 := rfl
    rw [ar] at har p1 o1 p2 o2
    have b1 := o1 (by decide)
    have b2 := o2 (by decide)
    have s1 : Mc.2 173 (n - 2) = Kc.2 25 (K.2 19 i) := by rw [p1 (by decide)]; exact es _ (by omega) (by omega)
    have s2 : Mc.2 173 (n - 1) = Kc.2 25 (K.2 20 i) := by rw [p2 (by decide), show n - 2 + 1 = n - 1 by omega]; exact es _ (by omega) (by omega)
    have v1 := hV _ b1.1 b1.2
    have v2 := hV _ b2.1 b2.2
    have d2 : cut (n - 1 - 1) = n - 2 := by rw [cut_i (by omega) (by omega)]; omega
    rw [e18, if_neg (by decide), if_neg (by decide), if_neg (by decide), if_neg (by decide), if_neg (by decide), if_neg (by decide), e65, if_neg (by decide), if_neg (by decide), if_neg (by decide), if_neg (by decide), if_neg (by decide), if_neg (by decide), if_neg (by decide), if_neg (by decide), if_neg (by decide), if_neg (by decide), if_neg (by decide), d1, d2, s1, s2, tw_9, bnd_some, fr442, rk_9766, bnd_some, fin, ar, show n + 1 - 2 = n - 1 by omega]
    obtain ⟨y1, y2⟩ := hY.2.2.2.2.2.2 (Or.inr (Or.inr (Or.inr (Or.inl e18))))
    have x1 := v1.2 _ (by omega) w1 y1
    have x2 := v2.2 _ (by omega) w1 y2
    rw [VW_k (VW_and x1) (by omega) w1]
    exact ⟨_, rfl, rfl, VALn_w (VW_and x1) (by rw [e18]; decide), by omega⟩
  · rw [e65, show wm 10 = 31868 from rfl] at e18
    rw [e18] at har p1 o1 p2 o2
    have ar : arit 31868 = 2 := rfl
    rw [ar] at har p1 o1 p2 o2
    have b1 := o1 (by decide)
    have b2 := o2 (by decide)
    have s1 : Mc.2 173 (n - 2) = Kc.2 25 (K.2 19 i) := by rw [p1 (by decide)]; exact es _ (by omega) (by omega)
    have s2 : Mc.2 173 (n - 1) = Kc.2 25 (K.2 20 i) := by rw [p2 (by decide), show n - 2 + 1 = n - 1 by omega]; exact es _ (by omega) (by omega)
    have v1 := hV _ b1.1 b1.2
    have v2 := hV _ b2.1 b2.2
    have d2 : cut (n - 1 - 1) = n - 2 := by rw [cut_i (by omega) (by omega)]; omega
    rw [e18, if_neg (by decide), if_neg (by decide), if_neg (by decide), if_neg (by decide), if_neg (by decide), if_neg (by decide), e65, if_neg (by decide), if_neg (by decide), if_neg (by decide), if_neg (by decide), if_neg (by decide), if_neg (by decide), if_neg (by decide), if_neg (by decide), if_neg (by decide), if_neg (by decide), if_neg (by decide), d1, d2, s1, s2, tw_10, bnd_some, fr442, rk_31868, bnd_some, fin, ar, show n + 1 - 2 = n - 1 by omega]
    obtain ⟨y1, y2⟩ := hY.2.2.2.2.2.2 (Or.inr (Or.inr (Or.inr (Or.inr (e18)))))
    have x1 := v1.2 _ (by omega) w1 y1
    have x2 := v2.2 _ (by omega) w1 y2
    rw [VW_k (VW_or x1 x2) (by omega) w1]
    exact ⟨_, rfl, rfl, VALn_w (VW_or x1 x2) (by rw [e18]; decide), by omega⟩
  · rw [e65, show wm 11 = 15420 from rfl] at e18
    rw [e18] at har p1 o1 p2 o2
    have ar : arit 15420 = 2 := rfl
    rw [ar] at har p1 o1 p2 o2
    have b1 := o1 (by decide)
    have b2 := o2 (by decide)
    have s1 : Mc.2 173 (n - 2) = Kc.2 25 (K.2 19 i) := by rw [p1 (by decide)]; exact es _ (by omega) (by omega)
    have s2 : Mc.2 173 (n - 1) = Kc.2 25 (K.2 20 i) := by rw [p2 (by decide), show n - 2 + 1 = n - 1 by omega]; exact es _ (by omega) (by omega)
    have v1 := hV _ b1.1 b1.2
    have v2 := hV _ b2.1 b2.2
    have d2 : cut (n - 1 - 1) = n - 2 := by rw [cut_i (by omega) (by omega)]; omega
    rw [e18, if_neg (by decide), if_neg (by decide), if_neg (by decide), if_neg (by decide), if_neg (by decide), if_neg (by decide), e65, if_neg (by decide), if_neg (by decide), if_neg (by decide), if_neg (by decide), if_neg (by decide), if_neg (by decide), if_neg (by decide), if_neg (by decide), if_neg (by decide), if_neg (by decide), if_neg (by decide), d1, d2, s1, s2, tw_11 w1, bnd_some, fr442, rk_15420, bnd_some, fin, ar, show n + 1 - 2 = n - 1 by omega]
    exact ⟨_, rfl, rfl, VALn_w (VW_m (by omega) w1) (by rw [e18]; decide), by omega⟩
  · rw [e65, show wm 12 = 15934 from rfl] at e18
    rw [e18] at har p1 o1 p2 o2
    have ar : arit 15934 = 2 := rfl
    rw [ar] at har p1 o1 p2 o2
    have b1 := o1 (by decide)
    have b2 := o2 (by decide)
    have s1 : Mc.2 173 (n - 2) = Kc.2 25 (K.2 19 i) := by rw [p1 (by decide)]; exact es _ (by omega) (by omega)
    have s2 : Mc.2 173 (n - 1) = Kc.2 25 (K.2 20 i) := by rw [p2 (by decide), show n - 2 + 1 = n - 1 by omega]; exact es _ (by omega) (by omega)
    have v1 := hV _ b1.1 b1.2
    have v2 := hV _ b2.1 b2.2
    have d2 : cut (n - 1 - 1) = n - 2 := by rw [cut_i (by omega) (by omega)]; omega
    rw [e18, if_neg (by decide), if_neg (by decide), if_neg (by decide), if_neg (by decide), if_neg (by decide), if_neg (by decide), e65, if_neg (by decide), if_neg (by decide), if_neg (by decide), if_neg (by decide), if_neg (by decide), if_neg (by decide), if_neg (by decide), if_neg (by decide), if_neg (by decide), if_neg (by decide), if_neg (by decide), d1, d2, s1, s2, tw_12, bnd_some, fr442, rk_15934, bnd_some, fin, ar, show n + 1 - 2 = n - 1 by omega]
    have x1 := v1.2 _ (by omega) w1 (hY.2.2.2.2.2.1 e18)
    have z := VW_shr (y := Kc.2 25 (K.2 20 i)) x1 (by omega)
    rw [VW_k z (by omega) w1]
    exact ⟨_, rfl, rfl, VALn_w z (by rw [e18]; decide), by omega⟩
  · rw [e65, show wm 38 = 38 from rfl] at e18
    rw [e18] at har p1 o1 p2 o2
    have ar : arit 38 = 2 := rfl
    rw [ar] at har p1 o1 p2 o2
    have b1 := o1 (by decide)
    have b2 := o2 (by decide)
    have s1 : Mc.2 173 (n - 2) = Kc.2 25 (K.2 19 i) := by rw [p1 (by decide)]; exact es _ (by omega) (by omega)
    have s2 : Mc.2 173 (n - 1) = Kc.2 25 (K.2 20 i) := by rw [p2 (by decide), show n - 2 + 1 = n - 1 by omega]; exact es _ (by omega) (by omega)
    have v1 := hV _ b1.1 b1.2
    have v2 := hV _ b2.1 b2.2
    have d2 : cut (n - 1 - 1) = n - 2 := by rw [cut_i (by omega) (by omega)]; omega
    rw [e18, if_neg (by decide), if_neg (by decide), if_neg (by decide), if_neg (by decide), if_neg (by decide), if_neg (by decide), e65, if_neg (by decide), if_neg (by decide), if_neg (by decide), if_neg (by decide), if_neg (by decide), if_neg (by decide), if_neg (by decide), if_neg (by decide), if_neg (by decide), if_neg (by decide), if_neg (by decide), d1, d2, s1, s2, tw_38, bnd_some, fr442, rk_38, bnd_some, fin, ar, show n + 1 - 2 = n - 1 by omega]
    obtain ⟨y1, y2⟩ := hY.2.2.2.2.2.2 (Or.inl e18)
    have x1 := v1.2 _ (by omega) w1 y1
    have x2 := v2.2 _ (by omega) w1 y2
    rw [VW_k (VW_and x1) (by omega) w1]
    exact ⟨_, rfl, rfl, VALn_w (VW_and x1) (by rw [e18]; decide), by omega⟩
  · rw [e65, show wm 43 = 43 from rfl] at e18
    rw [e18] at har p1 o1 p2 o2
    have ar : arit 43 = 2 := rfl
    rw [ar] at har p1 o1 p2 o2
    have b1 := o1 (by decide)
    have b2 := o2 (by decide)
    have s1 : Mc.2 173 (n - 2) = Kc.2 25 (K.2 19 i) := by rw [p1 (by decide)]; exact es _ (by omega) (by omega)
    have s2 : Mc.2 173 (n - 1) = Kc.2 25 (K.2 20 i) := by rw [p2 (by decide), show n - 2 + 1 = n - 1 by omega]; exact es _ (by omega) (by omega)
    have v1 := hV _ b1.1 b1.2
    have v2 := hV _ b2.1 b2.2
    have d2 : cut (n - 1 - 1) = n - 2 := by rw [cut_i (by omega) (by omega)]; omega
    rw [e18, if_neg (by decide), if_neg (by decide), if_neg (by decide), if_neg (by decide), if_neg (by decide), if_neg (by decide), e65, if_neg (by decide), if_neg (by decide), if_neg (by decide), if_neg (by decide), if_neg (by decide), if_neg (by decide), if_neg (by decide), if_neg (by decide), if_neg (by decide), if_neg (by decide), if_neg (by decide), d1, d2, s1, s2, tw_43 w1, bnd_some, fr442, rk_43, bnd_some, fin, ar, show n + 1 - 2 = n - 1 by omega]
    exact ⟨_, rfl, rfl, VALn_w (VW_m (by omega) w1) (by rw [e18]; decide), by omega⟩
  · rw [e65, show wm 45 = 45 from rfl] at e18
    rw [e18] at har p1 o1 p2 o2
    have ar : arit 45 = 2 := rfl
    rw [ar] at har p1 o1 p2 o2
    have b1 := o1 (by decide)
    have b2 := o2 (by decide)
    have s1 : Mc.2 173 (n - 2) = Kc.2 25 (K.2 19 i) := by rw [p1 (by decide)]; exact es _ (by omega) (by omega)
    have s2 : Mc.2 173 (n - 1) = Kc.2 25 (K.2 20 i) := by rw [p2 (by decide), show n - 2 + 1 = n - 1 by omega]; exact es _ (by omega) (by omega)
    have v1 := hV _ b1.1 b1.2
    have v2 := hV _ b2.1 b2.2
    have d2 : cut (n - 1 - 1) = n - 2 := by rw [cut_i (by omega) (by omega)]; omega
    rw [e18, if_neg (by decide), if_neg (by decide), if_neg (by decide), if_neg (by decide), if_neg (by decide), if_neg (by decide), e65, if_neg (by decide), if_neg (by decide), if_neg (by decide), if_neg (by decide), if_neg (by decide), if_neg (by decide), if_neg (by decide), if_neg (by decide), if_neg (by decide), if_neg (by decide), if_neg (by decide), d1, d2, s1, s2, tw_45 w1, bnd_some, fr442, rk_45, bnd_some, fin, ar, show n + 1 - 2 = n - 1 by omega]
    exact ⟨_, rfl, rfl, VALn_w (VW_m (by omega) w1) (by rw [e18]; decide), by omega⟩
  · rw [e65, show wm 94 = 94 from rfl] at e18
    rw [e18] at har p1 o1 p2 o2
    have ar : arit 94 = 2 := rfl
    rw [ar] at har p1 o1 p2 o2
    have b1 := o1 (by decide)
    have b2 := o2 (by decide)
    have s1 : Mc.2 173 (n - 2) = Kc.2 25 (K.2 19 i) := by rw [p1 (by decide)]; exact es _ (by omega) (by omega)
    have s2 : Mc.2 173 (n - 1) = Kc.2 25 (K.2 20 i) := by rw [p2 (by decide), show n - 2 + 1 = n - 1 by omega]; exact es _ (by omega) (by omega)
    have v1 := hV _ b1.1 b1.2
    have v2 := hV _ b2.1 b2.2
    have d2 : cut (n - 1 - 1) = n - 2 := by rw [cut_i (by omega) (by omega)]; omega
    rw [e18, if_neg (by decide), if_neg (by decide), if_neg (by decide), if_neg (by decide), if_neg (by decide), if_neg (by decide), e65, if_neg (by decide), if_neg (by decide), if_neg (by decide), if_neg (by decide), if_neg (by decide), if_neg (by decide), if_neg (by decide), if_neg (by decide), if_neg (by decide), if_neg (by decide), if_neg (by decide), d1, d2, s1, s2, tw_94, bnd_some, fr442, rk_94, bnd_some, fin, ar, show n + 1 - 2 = n - 1 by omega]
    obtain ⟨y1, y2⟩ := hY.2.2.2.2.2.2 (Or.inr (Or.inl e18))
    have x1 := v1.2 _ (by omega) w1 y1
    have x2 := v2.2 _ (by omega) w1 y2
    rw [VW_k (VW_xor x1 x2) (by omega) w1]
    exact ⟨_, rfl, rfl, VALn_w (VW_xor x1 x2) (by rw [e18]; decide), by omega⟩
  · rw [e65, show wm 124 = 124 from rfl] at e18
    rw [e18] at har p1 o1 p2 o2
    have ar : arit 124 = 2 := rfl
    rw [ar] at har p1 o1 p2 o2
    have b1 := o1 (by decide)
    have b2 := o2 (by decide)
    have s1 : Mc.2 173 (n - 2) = Kc.2 25 (K.2 19 i) := by rw [p1 (by decide)]; exact es _ (by omega) (by omega)
    have s2 : Mc.2 173 (n - 1) = Kc.2 25 (K.2 20 i) := by rw [p2 (by decide), show n - 2 + 1 = n - 1 by omega]; exact es _ (by omega) (by omega)
    have v1 := hV _ b1.1 b1.2
    have v2 := hV _ b2.1 b2.2
    have d2 : cut (n - 1 - 1) = n - 2 := by rw [cut_i (by omega) (by omega)]; omega
    rw [e18, if_neg (by decide), if_neg (by decide), if_neg (by decide), if_neg (by decide), if_neg (by decide), if_neg (by decide), e65, if_neg (by decide), if_neg (by decide), if_neg (by decide), if_neg (by decide), if_neg (by decide), if_neg (by decide), if_neg (by decide), if_neg (by decide), if_neg (by decide), if_neg (by decide), if_neg (by decide), d1, d2, s1, s2, tw_124, bnd_some, fr442, rk_124, bnd_some, fin, ar, show n + 1 - 2 = n - 1 by omega]
    obtain ⟨y1, y2⟩ := hY.2.2.2.2.2.2 (Or.inr (Or.inr (Or.inl e18)))
    have x1 := v1.2 _ (by omega) w1 y1
    have x2 := v2.2 _ (by omega) w1 y2
    rw [VW_k (VW_or x1 x2) (by omega) w1]
    exact ⟨_, rfl, rfl, VALn_w (VW_or x1 x2) (by rw [e18]; decide), by omega⟩
end NV1
