/-! ===== what an operation of the class does in a stage: rows and tables ===== -/
/-- rows of keys, masks and data of other operations stay -/
def rwL (r : Int) (K K' : mR) : Prop := ∀ j, j < 65536 * r ∨ 65536 * r + 65536 ≤ j → K'.2 103 j = K.2 103 j ∧ K'.2 104 j = K.2 104 j ∧ K'.2 105 j = K.2 105 j
theorem rwL_0 {r : Int} {K : mR} : rwL r K K := fun _ _ => ⟨rfl, rfl, rfl⟩
theorem rwL_t {r : Int} {K K1 K2 : mR} (h : rwL r K K1) (g : rwL r K1 K2) : rwL r K K2 := fun j hj => by
  obtain ⟨a1, a2, a3⟩ := h j hj
  obtain ⟨b1, b2, b3⟩ := g j hj
  exact ⟨b1.trans a1, b2.trans a2, b3.trans a3⟩
theorem rwL_f {r : Int} {K K' : mR} {F A : List Nat} (h : fr F A K K') (c : chk [103, 104, 105] A = true) : rwL r K K' := fun j _ => by
  rw [fr2 h 103 (chk_1 c (by decide)), fr2 h 104 (chk_1 c (by decide)), fr2 h 105 (chk_1 c (by decide))]
  exact ⟨rfl, rfl, rfl⟩
section TP4
variable {K M : mR} {r g : Int}
theorem a111_w (v2 v5 v6 u0 : Int) (m : mR) : RP (kfl_op_apply_b71_111 r v2 v5 v6 u0 m) (fun y => rwL r m y.2) := by
  have c : ∀ f : Int → Int, rwL r m (mO m [] [(105, cpI f (m.2 105) (65536 * v2 + u0) (65536 * r + 0) 4)]) := fun f j hj => by
    refine ⟨rfl, rfl, ?_⟩
    show cpI f (m.2 105) (65536 * v2 + u0) (65536 * r + 0) 4 j = _
    unfold cpI
    rw [if_neg (by omega)]
  unfold kfl_op_apply_b71_111
  exact RP_ite (fun _ => RP_w (u_kfl_op_apply_b71_140 _ _ _) (fun y hy => rwL_t (c _) (rwL_f hy rfl))) (fun _ => RP_w (u_kfl_op_apply_b71_140 _ _ _) (fun y hy => rwL_t (c _) (rwL_f hy rfl)))
theorem app_w {t : Int} (h0 : 0 ≤ K.2 72 t) (h1 : K.2 72 t ≤ 4) : RP (kf_op_apply_b71 r t K) (fun y => rwL r K y.2) := by
  unfold kf_op_apply_b71
  refine RP_bnd (P := fun e => rwL r K e) (RP_whl (I := fun s : Int × mR => (0 ≤ s.1 ∧ s.1 ≤ K.2 72 t) ∧ s.2.2 72 = K.2 72 ∧ rwL r K s.2) (fun s hs => ?_) ⟨⟨Int.le_refl _, h0⟩, rfl, rwL_0⟩) (fun e he => ?_)
  · obtain ⟨⟨a0, a1⟩, a2, a3⟩ := hs
    unfold kfb_op_apply_b71_3
    rw [a2]
    refine RP_ite (fun q => RP_some a3) (fun q => RP_bnd (u_kf_nd_valueOf_b101_b105 _ _ _ _ _) (fun y hy => ?_))
    rw [cut_i (z := s.1 + 1) (by omega) (by omega)]
    refine RP_some ⟨⟨show 0 ≤ s.1 + 1 by omega, show s.1 + 1 ≤ K.2 72 t by omega⟩, ?_, rwL_t (rwL_t a3 (rwL_f hy rfl)) (fun j hj => ⟨?_, rfl, rfl⟩)⟩
    · show y.2.2 72 = K.2 72
      rw [fr2 hy 72 rfl]
      exact a2
    · show upI (y.2.2 103) (65536 * r + s.1) y.1 j = _
      rw [upI_n (by omega)]
  · unfold kfl_op_apply_b71_54 kfl_op_apply_b71_75 kfl_op_apply_b71_96
    have A : ∀ v2 v5 v6 u0 : Int, RP (kfl_op_apply_b71_111 r v2 v5 v6 u0 e) (fun y => rwL r K y.2) := fun v2 v5 v6 u0 => RP_w (a111_w v2 v5 v6 u0 e) (fun y hy => rwL_t he hy)
    exact RP_bndT (fun y => RP_ite (fun _ => RP_ite (fun _ => RP_ite (fun _ => A _ _ _ _) (fun _ => A _ _ _ _)) (fun _ => RP_ite (fun _ => A _ _ _ _) (fun _ => A _ _ _ _))) (fun _ => RP_ite (fun _ => RP_ite (fun _ => A _ _ _ _) (fun _ => A _ _ _ _)) (fun _ => RP_ite (fun _ => A _ _ _ _) (fun _ => A _ _ _ _))))
theorem stp_w {s : Int} (h72 : ∀ t, 0 ≤ K.2 72 t ∧ K.2 72 t ≤ 4) : RP (kf_op_doStep_b71 r s K) (fun y => rwL r K y.2) := by
  unfold kf_op_doStep_b71
  refine RP_ite (fun _ => RP_bnd (u_kf_nd_valueOf_b101_b105 _ _ _ _ _) (fun y hy => RP_some (rwL_f hy rfl))) (fun _ => RP_ite (fun _ => RP_bnd (app_w (h72 _).1 (h72 _).2) (fun y hy => RP_some hy)) (fun _ => RP_bnd (u_kf_op_doDeed_b71 _ _ _) (fun y hy => RP_some (rwL_f hy rfl))))
def wkL : List Nat := [25, 71, 101, 102, 103, 105]
/-- a packet in a stage -/
theorem wrk_p (hk : K.2 91 r = 0) (h72 : ∀ t, 0 ≤ K.2 72 t ∧ K.2 72 t ≤ 4) : RP (kf_op_work_b71 r g K) (fun y => fr [] wkL K y.2 ∧ rwL r K y.2) := by
  unfold kf_op_work_b71
  rw [if_pos hk]
  refine RP_bnd (P := fun e => fr [] wkL K e ∧ rwL r K e) (RP_whl (I := fun s : Int × mR => fr [] wkL K s.2 ∧ rwL r K s.2) (fun s hs => ?_) ⟨fr_0, rwL_0⟩) (fun e he => RP_some he)
  obtain ⟨a1, a2⟩ := hs
  have e72 : s.2.2 72 = K.2 72 := fr2 a1 72 rfl
  have B : RP (kfl_op_work_b71_135 r g s.1 s.2) (sel (fun s : Int × mR => fr [] wkL K s.2 ∧ rwL r K s.2) (fun e => fr [] wkL K e ∧ rwL r K e)) := by
    unfold kfl_op_work_b71_135 kfl_op_work_b71_150
    refine RP_bnd (RP_and (u_kf_op_doStep_b71 _ _ _) (stp_w (K := s.2) (by rw [e72]; exact h72))) (fun y hy => RP_some ?_)
    refine ⟨fr_m (fr_s hy.1 a1 rfl rfl) rfl rfl, rwL_t (rwL_t a2 hy.2) (fun _ _ => ⟨rfl, rfl, rfl⟩)⟩
  have N : RP (kfl_op_work_b71_150 r g s.1 s.2) (sel (fun s : Int × mR => fr [] wkL K s.2 ∧ rwL r K s.2) (fun e => fr [] wkL K e ∧ rwL r K e)) := by
    unfold kfl_op_work_b71_150
    exact RP_some ⟨a1, a2⟩
  unfold kfb_op_work_b71_71
  exact RP_ite (fun _ => RP_some ⟨a1, a2⟩) (fun _ => RP_ite (fun _ => RP_some ⟨a1, a2⟩) (fun _ => RP_ite (fun _ => RP_ite (fun _ => B) (fun _ => RP_ite (fun _ => B) (fun _ => N))) (fun _ => N)))
/-- where a table stands: the first step that applies it -/
def fnda (f : Int → Int) (t : Int) (n : Nat) : Int := match n with
  | 0 => -1
  | n + 1 => if fnda f t n = -1 then (if f (n : Int) = t then (n : Int) else -1) else fnda f t n
theorem fnda_r (f : Int → Int) (t : Int) : ∀ n : Nat, fnda f t n = -1 ∨ (0 ≤ fnda f t n ∧ fnda f t n < (n : Int)) := by
  intro n
  induction n with
  | zero => exact Or.inl rfl
  | succ n ih =>
    show (if fnda f t n = -1 then (if f (n : Int) = t then (n : Int) else -1) else fnda f t n) = -1 ∨ (0 ≤ (if fnda f t n = -1 then (if f (n : Int) = t then (n : Int) else -1) else fnda f t n) ∧ (if fnda f t n = -1 then (if f (n : Int) = t then (n : Int) else -1) else fnda f t n) < ((n + 1 : Nat) : Int))
    by_cases q : fnda f t n = -1
    · rw [if_pos q]
      by_cases q2 : f (n : Int) = t
      · rw [if_pos q2]
        exact Or.inr ⟨by omega, by omega⟩
      · rw [if_neg q2]
        exact Or.inl rfl
    · rw [if_neg q]
      rcases ih with z | z
      · exact absurd z q
      · exact Or.inr ⟨z.1, by omega⟩
theorem fnda_s {f : Int → Int} {t : Int} {s : Nat} (h : fnda f t s = -1) (e : f (s : Int) = t) : ∀ k : Nat, fnda f t (s + 1 + k) = (s : Int) := by
  intro k
  induction k with
  | zero =>
    show (if fnda f t s = -1 then (if f (s : Int) = t then (s : Int) else -1) else fnda f t s) = _
    rw [if_pos h, if_pos e]
  | succ k ih =>
    show (if fnda f t (s + 1 + k) = -1 then (if f ((s + 1 + k : Nat) : Int) = t then ((s + 1 + k : Nat) : Int) else -1) else fnda f t (s + 1 + k)) = _
    rw [ih, if_neg (by omega)]
theorem fnda_c {f g : Int → Int} {t : Int} : ∀ n : Nat, (∀ i, 0 ≤ i → i < (n : Int) → f i = g i) → fnda f t n = fnda g t n := by
  intro n
  induction n with
  | zero => exact fun _ => rfl
  | succ n ih =>
    intro h
    show (if fnda f t n = -1 then (if f (n : Int) = t then (n : Int) else -1) else fnda f t n) = (if fnda g t n = -1 then (if g (n : Int) = t then (n : Int) else -1) else fnda g t n)
    rw [ih (fun i i0 i1 => h i i0 (by omega)), h (n : Int) (by omega) (by omega)]
theorem appl_f {t : Int} (h0 : 0 ≤ K.1 225) (h1 : K.1 225 ≤ 1000) : RP (kf_sp_applying t K) (fun y => y = fnda (K.2 55) t (K.1 225).toNat) := by
  unfold kf_sp_applying
  refine RP_bnd (P := sel (fun y : Int => y = fnda (K.2 55) t (K.1 225).toNat) (fun _ : Unit => fnda (K.2 55) t (K.1 225).toNat = -1)) (RP_whl (I := fun s : Int => (0 ≤ s ∧ s ≤ K.1 225) ∧ fnda (K.2 55) t s.toNat = -1) (fun s hs => ?_) ⟨⟨Int.le_refl _, h0⟩, rfl⟩) (RP_sl (fun e he => RP_some he) (fun e he => RP_some he.symm))
  obtain ⟨⟨a0, a1⟩, a2⟩ := hs
  unfold kfb_sp_applying_2
  obtain ⟨n, rfl⟩ : ∃ n : Nat, s = n := ⟨s.toNat, by omega⟩
  have a2 : fnda (K.2 55) t n = -1 := a2
  refine RP_ite (fun q => RP_some ?_) (fun q => RP_ite (fun q2 => RP_some ?_) (fun q2 => ?_))
  · show fnda (K.2 55) t (K.1 225).toNat = -1
    rw [show (K.1 225).toNat = n by omega]
    exact a2
  · show (n : Int) = fnda (K.2 55) t (K.1 225).toNat
    obtain ⟨k, ek⟩ : ∃ k, (K.1 225).toNat = n + 1 + k := ⟨(K.1 225).toNat - n - 1, by omega⟩
    rw [ek, fnda_s a2 q2 k]
  · rw [cut_i (z := (n : Int) + 1) (by omega) (by omega)]
    refine RP_some (show (0 ≤ (n : Int) + 1 ∧ (n : Int) + 1 ≤ K.1 225) ∧ fnda (K.2 55) t ((n : Int) + 1).toNat = -1 from ⟨⟨by omega, by omega⟩, ?_⟩)
    rw [show ((n : Int) + 1).toNat = n + 1 by omega]
    show (if fnda (K.2 55) t n = -1 then (if K.2 55 (n : Int) = t then (n : Int) else -1) else fnda (K.2 55) t n) = -1
    rw [if_pos a2, if_neg q2]
def homeK (K : mR) (t : Int) : Int := if fnda (K.2 55) t (K.1 225).toNat = -1 then 0 else K.2 59 (fnda (K.2 55) t (K.1 225).toNat)
theorem home_c {K K' : mR} {t : Int} (h1 : K'.1 225 = K.1 225) (h2 : K'.2 55 = K.2 55) (h3 : K'.2 59 = K.2 59) : homeK K' t = homeK K t := by
  unfold homeK
  rw [h1, h2, h3]
theorem home_p {K K' : mR} {t : Int} (h0 : 0 ≤ K.1 225) (h1 : K'.1 225 = K.1 225) (h2 : ∀ i, 0 ≤ i → i < K.1 225 → K'.2 55 i = K.2 55 i) (h3 : ∀ i, 0 ≤ i → i < K.1 225 → K'.2 59 i = K.2 59 i) : homeK K' t = homeK K t := by
  unfold homeK
  rw [h1, fnda_c (f := K'.2 55) (g := K.2 55) (K.1 225).toNat (fun i i0 i1 => h2 i i0 (by omega))]
  rcases fnda_r (K.2 55) t (K.1 225).toNat with q | ⟨q0, q1⟩
  · rw [if_pos q, if_pos q]
  · rw [if_neg (by omega), if_neg (by omega)]
    exact h3 _ q0 (by omega)
/-- an operation on entries in a stage -/
theorem wrk_e (hk : K.2 91 r ≠ 0) (h0 : 0 ≤ K.1 225) (h1 : K.1 225 ≤ 1000) : RP (kf_op_work_b71 r g K) (fun y => (g ≠ homeK K (K.2 95 r) ∧ y.2 = K) ∨ (g = homeK K (K.2 95 r) ∧ ∃ w, kf_tb_serve (K.2 95 r) r K = some w ∧ y.2 = mO w.2 [] [(98, upI (w.2.2 98) r w.1)])) := by
  unfold kf_op_work_b71
  rw [if_neg hk]
  intro y hy
  cases ha : kf_sp_applying (K.2 95 r) K with
  | none => rw [ha] at hy; cases hy
  | some a =>
    rw [ha, bnd_some] at hy
    have B : ∀ x : Int, kfl_op_work_b71_43 r g x K = some y → x = homeK K (K.2 95 r) → ((g ≠ homeK K (K.2 95 r) ∧ y.2 = K) ∨ (g = homeK K (K.2 95 r) ∧ ∃ w, kf_tb_serve (K.2 95 r) r K = some w ∧ y.2 = mO w.2 [] [(98, upI (w.2.2 98) r w.1)])) := fun x hx e => by
      unfold kfl_op_work_b71_43 at hx
      by_cases q : g = x
      · rw [if_pos q] at hx
        cases hw : kf_tb_serve (K.2 95 r) r K with
        | none => rw [hw] at hx; cases hx
        | some w =>
          rw [hw, bnd_some] at hx
          cases hx
          exact Or.inr ⟨q.trans e, w, rfl, rfl⟩
      · rw [if_neg q] at hx
        cases hx
        exact Or.inl ⟨fun z => q (z.trans e.symm), rfl⟩
    have hm : homeK K (K.2 95 r) = if a = -1 then 0 else K.2 59 a := by
      unfold homeK
      rw [← appl_f h0 h1 a ha]
    by_cases q : a = -1
    · rw [if_pos q] at hy
      exact B _ hy (by rw [hm, if_pos q])
    · rw [if_neg q] at hy
      exact B _ hy (by rw [hm, if_neg q])
end TP4
