/-! ===== when operations come in and go out, side by side ===== -/
section RT1
theorem RP_and {α : Type} {X : Option α} {P Q : α → Prop} (h : RP X P) (g : RP X Q) : RP X (fun x => P x ∧ Q x) := fun x hx => ⟨h x hx, g x hx⟩
/-- S stages, C cycles, W are out, E came in; s: what is in the stages, a: the cycle in which each came in -/
def TMv (S C W E : Int) (s a : Int → Int) : Prop := (0 ≤ W ∧ W ≤ E) ∧ (∀ k, W ≤ k → k < E → C - S ≤ a (k % 128) ∧ a (k % 128) ≤ C - (E - k) ∧ s (C - 1 - a (k % 128)) = k % 128) ∧ (∀ g, 0 ≤ g → g < S → s g < 0 ∨ ∃ k, W ≤ k ∧ k < E ∧ a (k % 128) = C - 1 - g) ∧ ∀ k l, W ≤ k → k < l → l < E → a (k % 128) < a (l % 128)
theorem TMv_1 {S C W E : Int} {s a : Int → Int} (h : TMv S C W E s a) {k : Int} (k0 : W ≤ k) (k1 : k < E) (e : a (k % 128) = C - S) : k = W := by
  obtain ⟨⟨h0, h1⟩, h2, h3, h4⟩ := h
  rcases Int.lt_or_le W k with q | q
  · have t1 := h4 W k (Int.le_refl _) q k1
    have t2 := (h2 W (Int.le_refl _) (by omega)).1
    omega
  · omega
theorem TMv_out {S C W E : Int} {s a : Int → Int} (h : TMv S C W E s a) (hS : 1 ≤ S) : 0 ≤ s (S - 1) ↔ (W < E ∧ a (W % 128) + S = C) := by
  have h9 := @TMv_1 S C W E s a h
  obtain ⟨⟨h0, h1⟩, h2, h3, h4⟩ := h
  constructor
  · intro g
    rcases h3 (S - 1) (by omega) (by omega) with q | ⟨k, k0, k1, k2⟩
    · omega
    · have e : k = W := h9 k0 k1 (by omega)
      rw [e] at k1 k2
      exact ⟨k1, by omega⟩
  · intro g
    have q := (h2 W (Int.le_refl _) g.1).2.2
    rw [show C - 1 - a (W % 128) = S - 1 by omega] at q
    rw [q]
    omega
theorem TMv_row {S C W E : Int} {s a : Int → Int} (h : TMv S C W E s a) {g : Int} (g0 : 0 ≤ g) (g1 : g < S) (hs : 0 ≤ s g) : ∃ k, W ≤ k ∧ k < E ∧ s g = k % 128 := by
  obtain ⟨⟨h0, h1⟩, h2, h3, h4⟩ := h
  rcases h3 g g0 g1 with q | ⟨k, k0, k1, k2⟩
  · omega
  · have q := (h2 k k0 k1).2.2
    rw [show C - 1 - a (k % 128) = g by omega] at q
    exact ⟨k, k0, k1, q⟩
theorem TMv_step {S C W E W' e : Int} {s a s' a' : Int → Int} (h : TMv S C W E s a) (hS : 1 ≤ S) (hS2 : S ≤ 12) (hs : ∀ g, 1 ≤ g → g < S → (s (g - 1) < 0 → s' g < 0) ∧ (0 ≤ s (g - 1) → s' g = s (g - 1))) (he : (e = 0 ∧ s' 0 < 0 ∧ a' = a) ∨ (e = 1 ∧ s' 0 = E % 128 ∧ a' = upI a (E % 128) C)) (hW : (s (S - 1) < 0 ∧ W' = W) ∨ (0 ≤ s (S - 1) ∧ W' = W + 1)) : TMv S (C + 1) W' (E + e) s' a' := by
  have hO := TMv_out h hS
  have h9 := @TMv_1 S C W E s a h
  obtain ⟨⟨h0, h1⟩, h2, h3, h4⟩ := h
  have e01 : 0 ≤ e ∧ e ≤ 1 := by rcases he with ⟨q, -⟩ | ⟨q, -⟩ <;> omega
  have hW1 : W ≤ W' ∧ W' ≤ E := by
    rcases hW with ⟨-, q⟩ | ⟨q0, q⟩
    · omega
    · have := (hO.mp q0).1
      omega
  have hd : ∀ k, W ≤ k → k < E → E - k ≤ 12 := fun k k0 k1 => by
    have := h2 k k0 k1
    omega
  have ha : ∀ k, W ≤ k → k < E → a' (k % 128) = a (k % 128) := fun k k0 k1 => by
    rcases he with ⟨-, -, q⟩ | ⟨-, -, q⟩
    · rw [q]
    · have := hd k k0 k1
      rw [q, upI_n (by omega)]
  refine ⟨by omega, fun k k0 k1 => ?_, fun g g0 g1 => ?_, fun k l k0 k1 l1 => ?_⟩
  · by_cases q : k < E
    · have q0 : W ≤ k := by omega
      obtain ⟨b1, b2, b3⟩ := h2 k q0 q
      have ne : a (k % 128) ≠ C - S := fun z => by
        have ek := h9 q0 q z
        rw [ek] at z
        have t := hO.mpr ⟨by omega, by omega⟩
        rcases hW with ⟨w0, w⟩ | ⟨w0, w⟩ <;> omega
      rw [ha k q0 q]
      refine ⟨by omega, by omega, ?_⟩
      have t := (hs (C - a (k % 128)) (by omega) (by omega)).2
      rw [show C - a (k % 128) - 1 = C - 1 - a (k % 128) by omega, b3] at t
      rw [show C + 1 - 1 - a (k % 128) = C - a (k % 128) by omega]
      exact t (by omega)
    · rcases he with ⟨e0, -, -⟩ | ⟨e1, s0, a1⟩
      · omega
      · have ek : k = E := by omega
        rw [ek, a1, upI_s]
        refine ⟨by omega, by omega, ?_⟩
        rw [show C + 1 - 1 - C = 0 by omega]
        exact s0
  · by_cases q : g = 0
    · rw [q]
      rcases he with ⟨-, s0, -⟩ | ⟨e1, -, a1⟩
      · exact Or.inl s0
      · exact Or.inr ⟨E, by omega, by omega, by rw [a1, upI_s]; omega⟩
    · rcases Int.lt_or_le (s (g - 1)) 0 with t | t
      · exact Or.inl ((hs g (by omega) g1).1 t)
      · rcases h3 (g - 1) (by omega) (by omega) with t2 | ⟨k, k0, k1, k2⟩
        · omega
        · refine Or.inr ⟨k, ?_, by omega, by rw [ha k k0 k1]; omega⟩
          rcases hW with ⟨-, w⟩ | ⟨w0, w⟩
          · omega
          · have t4 := hO.mp w0
            rcases Int.lt_or_le W k with t3 | t3
            · omega
            · have ek : k = W := by omega
              rw [ek] at k2
              omega
  · have kE : k < E := by omega
    rw [ha k (by omega) kE]
    by_cases q : l < E
    · rw [ha l (by omega) q]
      exact h4 k l (by omega) k1 q
    · rcases he with ⟨e0, -, -⟩ | ⟨e1, -, a1⟩
      · omega
      · rw [show l = E by omega, a1, upI_s]
        have := (h2 k (by omega) kE).2.1
        omega
/-! the class's cycle -/
theorem kopi_p {f g : Int → Int} {n : Int} (h : 0 ≤ f n) (h2 : 1 ≤ g (f n)) : kopi f g n = f n := by
  unfold kopi
  rw [if_neg (by omega), if_neg (by omega)]
theorem kopi_m {f g : Int → Int} {n : Int} (h : f n < 0) : kopi f g n = -1 := by
  unfold kopi
  rw [if_pos h]
theorem kopi_l {f g : Int → Int} {n : Int} (h : f n < 128) : kopi f g n < 128 := by
  unfold kopi
  split
  · decide
  · split
    · decide
    · exact h
theorem kopn_p {g : Int → Int} {n : Int} (h2 : 1 ≤ g n) : kopn g n = n := by
  unfold kopn
  rw [if_neg (by omega)]
theorem shl_k {m : mR} {v : Int} (v0 : 0 ≤ v) (v1 : v ≤ 11) : RP (whl (kfb_pi_cycle_48 v) (v, m)) (fun e => e.1 = m.1 ∧ (∀ k, k ≠ 106 → e.2 k = m.2 k) ∧ ∀ g, e.2 106 g = if 1 ≤ g ∧ g ≤ v then kopi (m.2 106) (m.2 107) (g - 1) else m.2 106 g) := by
  refine RP_whl (I := fun s => (0 ≤ s.1 ∧ s.1 ≤ v) ∧ s.2.1 = m.1 ∧ (∀ k, k ≠ 106 → s.2.2 k = m.2 k) ∧ ∀ g, s.2.2 106 g = if s.1 < g ∧ g ≤ v then kopi (m.2 106) (m.2 107) (g - 1) else m.2 106 g) (fun s hs => ?_) ⟨⟨v0, Int.le_refl _⟩, rfl, fun _ _ => rfl, fun g => ?_⟩
  · obtain ⟨⟨a0, a1⟩, a2, a3, a4⟩ := hs
    unfold kfb_pi_cycle_48
    refine RP_ite (fun h => RP_some ?_) (fun h => RP_some ?_)
    · show s.2.1 = m.1 ∧ (∀ k, k ≠ 106 → s.2.2 k = m.2 k) ∧ ∀ g, s.2.2 106 g = if 1 ≤ g ∧ g ≤ v then kopi (m.2 106) (m.2 107) (g - 1) else m.2 106 g
      refine ⟨a2, a3, fun g => ?_⟩
      rw [a4]
      by_cases q : 1 ≤ g ∧ g ≤ v
      · rw [if_pos (by omega), if_pos q]
      · rw [if_neg (by omega), if_neg q]
    · have c1 : cut (s.1 + (-1)) = s.1 - 1 := by
        rw [cut_i (by omega) (by omega)]
        omega
      have c2 : cut (s.1 - 1) = s.1 - 1 := cut_i (by omega) (by omega)
      show (0 ≤ cut (s.1 + (-1)) ∧ cut (s.1 + (-1)) ≤ v) ∧ s.2.1 = m.1 ∧ (∀ k, k ≠ 106 → (mO s.2 [] [(106, upI (s.2.2 106) s.1 (kopi (s.2.2 106) (s.2.2 107) (cut (s.1 - 1))))]).2 k = m.2 k) ∧ ∀ g, upI (s.2.2 106) s.1 (kopi (s.2.2 106) (s.2.2 107) (cut (s.1 - 1))) g = if cut (s.1 + (-1)) < g ∧ g ≤ v then kopi (m.2 106) (m.2 107) (g - 1) else m.2 106 g
      rw [c1, c2, a3 107 (by decide)]
      refine ⟨by omega, a2, fun k hk => ?_, fun g => ?_⟩
      · rw [mO2_n (fun q => hk q.symm)]
        exact a3 k hk
      · have hk : kopi (s.2.2 106) (m.2 107) (s.1 - 1) = kopi (m.2 106) (m.2 107) (s.1 - 1) := by
          have q := a4 (s.1 - 1)
          rw [if_neg (by omega)] at q
          unfold kopi
          rw [q]
        unfold upI
        by_cases q : g = s.1
        · rw [if_pos q, if_pos (by omega), hk, q]
        · rw [if_neg q, a4]
          by_cases q2 : s.1 < g ∧ g ≤ v
          · rw [if_pos q2, if_pos (by omega)]
          · rw [if_neg q2, if_neg (by omega)]
  · show m.2 106 g = if v < g ∧ g ≤ v then kopi (m.2 106) (m.2 107) (g - 1) else m.2 106 g
    rw [if_neg (by omega)]
theorem cy_130 (v1 : Int) (m : mR) : RP (kfl_pi_cycle_130 v1 m) (fun y => fr F_kfl_pi_cycle_130 A_kfl_pi_cycle_130 m y.2 ∧ y.2.1 235 = cut (m.1 235 + 1)) := by
  refine RP_and (u_kfl_pi_cycle_130 v1 m) ?_
  unfold kfl_pi_cycle_130
  refine RP_bnd (uw_kfb_pi_cycle_133 v1 _) (fun e he => ?_)
  unfold kfl_pi_cycle_174
  refine RP_some ?_
  show cut (e.1 235 + 1) = cut (m.1 235 + 1)
  rw [show e.1 235 = m.1 235 from fr1 he 235 rfl]
theorem cy_100 (v1 u0 : Int) (m : mR) : RP (kfl_pi_cycle_100 v1 u0 m) (fun y => y.2.1 235 = cut (m.1 235 + 1) ∧ y.2.1 234 = m.1 234 ∧ y.2.1 233 = (if u0 < 0 then m.1 233 else cut (m.1 233 + 1)) ∧ y.2.2 106 = upI (m.2 106) 0 u0) := by
  unfold kfl_pi_cycle_100
  refine RP_ite (fun h => ?_) (fun h => ?_)
  · refine RP_w (cy_130 v1 _) (fun y hy => ⟨hy.2, fr1 hy.1 234 rfl, ?_, fr2 hy.1 106 rfl⟩)
    rw [if_pos h]
    exact fr1 hy.1 233 rfl
  · refine RP_bnd (u_kf_op_enter u0 _) (fun y14 h14 => RP_w (cy_130 v1 _) (fun y hy => ⟨?_, ?_, ?_, ?_⟩))
    · rw [hy.2]
      show cut (y14.2.1 235 + 1) = _
      rw [show y14.2.1 235 = m.1 235 from fr1 h14 235 rfl]
    · rw [show y.2.1 234 = y14.2.1 234 from fr1 hy.1 234 rfl]
      exact fr1 h14 234 rfl
    · rw [if_neg h, show y.2.1 233 = cut (y14.2.1 233 + 1) from fr1 hy.1 233 rfl, show y14.2.1 233 = m.1 233 from fr1 h14 233 rfl]
    · rw [show y.2.2 106 = y14.2.2 106 from fr2 hy.1 106 rfl]
      exact fr2 h14 106 rfl
theorem cy_72 {v1 : Int} {m : mR} (h0 : 0 ≤ m.1 233) (hE : m.1 233 < m.1 232 → 1 ≤ m.2 107 (m.1 233 % 128)) : RP (kfl_pi_cycle_72 v1 m) (fun y => y.2.1 235 = cut (m.1 235 + 1) ∧ y.2.1 234 = m.1 234 ∧ ((m.1 233 < m.1 232 ∧ y.2.1 233 = cut (m.1 233 + 1) ∧ y.2.2 106 = upI (m.2 106) 0 (m.1 233 % 128)) ∨ (¬ m.1 233 < m.1 232 ∧ y.2.1 233 = m.1 233 ∧ y.2.2 106 = upI (m.2 106) 0 (-1)))) := by
  unfold kfl_pi_cycle_72
  refine RP_ite (fun h => ?_) (fun h => ?_)
  · refine RP_w (cy_100 v1 (-1) m) (fun y hy => ⟨hy.1, hy.2.1, Or.inr ⟨by omega, ?_, hy.2.2.2⟩⟩)
    have q := hy.2.2.1
    rw [if_pos (by decide)] at q
    exact q
  · have g := hE (by omega)
    rw [Int.tmod_eq_emod_of_nonneg h0, kopn_p g]
    refine RP_w (cy_100 v1 _ m) (fun y hy => ⟨hy.1, hy.2.1, Or.inl ⟨by omega, ?_, hy.2.2.2⟩⟩)
    have q := hy.2.2.1
    rw [if_neg (by omega)] at q
    exact q
/-- what is in the stages, as the heap shows it -/
def skp (K : mR) (g : Int) : Int := kopi (K.2 106) (K.2 107) g
theorem kopi_i {f f' g : Int → Int} {n i : Int} (e : f' i = kopi f g n) : kopi f' g i = kopi f g n := by
  rcases Int.lt_or_le (kopi f g n) 0 with q | q
  · rw [kopi_m (by omega)]
    unfold kopi at q ⊢
    split
    · rfl
    · split
      · rfl
      · rename_i h1 h2
        rw [if_neg h1, if_neg h2] at q
        omega
  · have h1 : ¬ f n < 0 := fun z => by
      rw [kopi_m z] at q
      omega
    have h2 : ¬ g (f n) ≤ 0 := fun z => by
      unfold kopi at q
      rw [if_neg h1, if_pos z] at q
      omega
    have e2 : kopi f g n = f n := by
      unfold kopi
      rw [if_neg h1, if_neg h2]
    rw [e2] at e ⊢
    rw [← e]
    refine kopi_p (by omega) ?_
    rw [e]
    omega
def CYr (K y : mR) : Prop := y.1 234 = (if skp K (K.1 226 - 1) < 0 then K.1 234 else K.1 234 + 1) ∧ y.1 235 = K.1 235 + 1 ∧ ((K.1 233 < K.1 232 ∧ y.1 233 = K.1 233 + 1 ∧ y.2 106 0 = K.1 233 % 128) ∨ (¬ K.1 233 < K.1 232 ∧ y.1 233 = K.1 233 ∧ y.2 106 0 < 0)) ∧ ∀ g, 1 ≤ g → g < K.1 226 → y.2 106 g = skp K (g - 1)
theorem cyc_r {K : mR} (hS : 1 ≤ K.1 226) (hS2 : K.1 226 ≤ 12) (h0 : 0 ≤ K.1 233 ∧ K.1 233 ≤ 1000000) (h4 : 0 ≤ K.1 234 ∧ K.1 234 ≤ 1000000) (h5 : 0 ≤ K.1 235 ∧ K.1 235 ≤ 1000000) (h6 : ∀ g, K.2 106 g < 128) (hE : K.1 233 < K.1 232 → 1 ≤ K.2 107 (K.1 233 % 128)) : RP (kf_pi_cycle K) (fun y => CYr K y.2 ∧ ∀ g, y.2.2 106 g < 128) := by
  have L : ∀ m : mR, m.1 232 = K.1 232 → m.1 233 = K.1 233 → m.1 235 = K.1 235 → m.2 106 = K.2 106 → m.2 107 = K.2 107 → m.1 234 = (if skp K (K.1 226 - 1) < 0 then K.1 234 else K.1 234 + 1) → RP (kfl_pi_cycle_46 (K.1 226 - 1) m) (fun y => CYr K y.2 ∧ ∀ g, y.2.2 106 g < 128) := by
    intro m e2 e3 e5 e6 e7 e4
    unfold kfl_pi_cycle_46
    refine RP_bnd (shl_k (m := m) (by omega) (by omega)) (fun e he => ?_)
    obtain ⟨he1, he2, he3⟩ := he
    have x3 : e.1 233 = K.1 233 := by rw [he1, e3]
    have x2 : e.1 232 = K.1 232 := by rw [he1, e2]
    have x7 : e.2 107 = K.2 107 := by rw [he2 107 (by decide), e7]
    refine RP_w (cy_72 (v1 := K.1 226 - 1) (m := e) (by omega) (fun q => by rw [x7, x3]; exact hE (by omega))) (fun y hy => ?_)
    obtain ⟨y5, y4, y3⟩ := hy
    refine ⟨⟨?_, ?_, ?_, fun g g0 g1 => ?_⟩, fun g => ?_⟩
    · rw [y4, he1, e4]
    · rw [y5, he1, e5, cut_i (by omega) (by omega)]
    · rcases y3 with ⟨t1, t2, t3⟩ | ⟨t1, t2, t3⟩
      · refine Or.inl ⟨by omega, ?_, ?_⟩
        · rw [t2, x3, cut_i (by omega) (by omega)]
        · rw [t3, upI_s, x3]
      · refine Or.inr ⟨by omega, by rw [t2, x3], ?_⟩
        rw [t3, upI_s]
        decide
    · have t : y.2.2 106 g = e.2 106 g := by
        rcases y3 with ⟨-, -, t3⟩ | ⟨-, -, t3⟩
        · rw [t3, upI_n (by omega)]
        · rw [t3, upI_n (by omega)]
      rw [t, he3, if_pos (by omega), e6, e7]
      rfl
    · have t : ∀ g, e.2 106 g < 128 := fun g => by
        rw [he3, e6, e7]
        split
        · exact kopi_l (h6 _)
        · exact h6 g
      rcases y3 with ⟨-, -, t3⟩ | ⟨-, -, t3⟩
      · rw [t3]
        unfold upI
        split
        · omega
        · exact t g
      · rw [t3]
        unfold upI
        split
        · decide
        · exact t g
  unfold kf_pi_cycle
  rw [show cut (K.1 226 - 1) = K.1 226 - 1 from cut_i (by omega) (by omega)]
  refine RP_ite (fun h => L K rfl rfl rfl rfl rfl ?_) (fun h => RP_bnd (u_kf_op_leave _ _ K) (fun y hy => L _ (fr1 hy 232 rfl) (fr1 hy 233 rfl) (fr1 hy 235 rfl) (fr2 hy 106 rfl) (fr2 hy 107 rfl) ?_))
  · exact (if_pos h).symm
  · rw [if_neg (show ¬ skp K (K.1 226 - 1) < 0 from h)]
    show cut (y.2.1 234 + 1) = _
    rw [show y.2.1 234 = K.1 234 from fr1 hy 234 rfl, cut_i (by omega) (by omega)]
def CYk (K y : mR) : Prop := y.1 234 = (if skp K (K.1 226 - 1) < 0 then K.1 234 else K.1 234 + 1) ∧ y.1 235 = K.1 235 + 1 ∧ ((K.1 233 < K.1 232 ∧ y.1 233 = K.1 233 + 1 ∧ skp y 0 = K.1 233 % 128) ∨ (¬ K.1 233 < K.1 232 ∧ y.1 233 = K.1 233 ∧ skp y 0 < 0)) ∧ ∀ g, 1 ≤ g → g < K.1 226 → skp y g = skp K (g - 1)
theorem cyc_k {K : mR} (hS : 1 ≤ K.1 226) (hS2 : K.1 226 ≤ 12) (h0 : 0 ≤ K.1 233 ∧ K.1 233 ≤ 1000000) (h4 : 0 ≤ K.1 234 ∧ K.1 234 ≤ 1000000) (h5 : 0 ≤ K.1 235 ∧ K.1 235 ≤ 1000000) (h6 : ∀ g, K.2 106 g < 128) (hE : K.1 233 < K.1 232 → 1 ≤ K.2 107 (K.1 233 % 128)) : RP (kf_pi_cycle K) (fun y => CYk K y.2 ∧ ∀ g, y.2.2 106 g < 128) := by
  refine RP_w (RP_and (u_kf_pi_cycle K) (cyc_r hS hS2 h0 h4 h5 h6 hE)) (fun y hy => ?_)
  obtain ⟨f, ⟨y4, y5, y3, y6⟩, y8⟩ := hy
  have e7 : y.2.2 107 = K.2 107 := fr2 f 107 rfl
  refine ⟨⟨y4, y5, ?_, fun g g0 g1 => ?_⟩, y8⟩
  · rcases y3 with ⟨t1, t2, t3⟩ | ⟨t1, t2, t3⟩
    · refine Or.inl ⟨t1, t2, ?_⟩
      unfold skp
      rw [kopi_p (by rw [t3]; omega) (by rw [t3, e7]; exact hE t1), t3]
    · refine Or.inr ⟨t1, t2, ?_⟩
      unfold skp
      rw [kopi_m t3]
      decide
  · unfold skp
    rw [e7]
    exact kopi_i (y6 g g0 g1)
/-! the reference's -/
def dfP (m : mR) (z : Int × mR) : Prop := z.2.1 149 = cut (m.1 149 - 1) ∧ z.2.1 150 = cut (m.1 150 + 1)
theorem dfP_c {m m' : mR} {z : Int × mR} (h : dfP m' z) (e1 : m'.1 149 = m.1 149) (e2 : m'.1 150 = m.1 150) : dfP m z := by
  unfold dfP at *
  rw [← e1, ← e2]
  exact h
theorem df_214 (m : mR) : RP (rfl_doFirst_214 m) (dfP m) := by
  unfold rfl_doFirst_214
  refine RP_bnd (uw_rfb_doFirst_236 _) (fun e he => RP_some ⟨?_, ?_⟩)
  · show e.1 149 = _
    rw [show e.1 149 = cut (m.1 149 - 1) from fr1 he 149 rfl]
  · show e.1 150 = _
    rw [show e.1 150 = cut (m.1 150 + 1) from fr1 he 150 rfl]
theorem df_197 (v1 v3 u1 u2 : Int) (m : mR) : RP (rfl_doFirst_197 v1 v3 u1 u2 m) (dfP m) := by
  unfold rfl_doFirst_197
  refine RP_ite (fun h => RP_w (df_214 _) (fun z hz => hz)) (fun h => RP_ite (fun h => ?_) (fun h => RP_w (df_214 _) (fun z hz => hz)))
  exact RP_bnd (u_rf_writePacket _ _) (fun y hy => RP_w (df_214 _) (fun z hz => dfP_c hz (fr1 hy 149 rfl) (fr1 hy 150 rfl)))
theorem df_172 (v1 v3 : Int) (m : mR) : RP (rfl_doFirst_172 v1 v3 m) (dfP m) := by
  unfold rfl_doFirst_172
  exact RP_ite (fun h => df_197 _ _ _ _ _) (fun h => RP_ite (fun h => df_197 _ _ _ _ _) (fun h => df_197 _ _ _ _ _))
theorem df_162 (v1 u0 : Int) (m : mR) : RP (rfl_doFirst_162 v1 u0 m) (dfP m) := by
  unfold rfl_doFirst_162
  exact RP_ite (fun h => df_172 _ _ _) (fun h => RP_bnd (u_rf_goThrough _ _) (fun y hy => RP_w (df_172 _ _ _) (fun z hz => dfP_c hz (fr1 hy 149 rfl) (fr1 hy 150 rfl))))
theorem df_137 (v1 u0 : Int) (m : mR) : RP (rfl_doFirst_137 v1 u0 m) (dfP m) := by
  unfold rfl_doFirst_137 rfl_doFirst_154
  exact RP_ite (fun h => RP_w (df_214 _) (fun z hz => hz)) (fun h => RP_w (df_214 _) (fun z hz => hz))
theorem df_136 (v1 : Int) (m : mR) : RP (rfl_doFirst_136 v1 m) (dfP m) := df_137 v1 0 m
theorem df_132 (v1 : Int) (m : mR) : RP (rfl_doFirst_132 v1 m) (dfP m) := df_137 v1 1 m
theorem df_73 (v1 v2 : Int) (m : mR) : RP (rfl_doFirst_73 v1 v2 m) (dfP m) := by
  unfold rfl_doFirst_73
  refine RP_ite (fun h => RP_bnd (u_rf_readPacket _) (fun y hy => RP_w (df_162 _ _ _) (fun z hz => dfP_c hz (fr1 hy 149 rfl) (fr1 hy 150 rfl)))) (fun h => RP_bndT (fun y30 => RP_ite (fun h => df_136 _ _) (fun h => RP_ite (fun h => RP_bnd (u_rf_entryComes _ _) (fun y hy => ?_)) (fun h => RP_ite (fun h => RP_bnd (u_rf_entryChanges _ _) (fun y hy => ?_)) (fun h => RP_bnd (u_rf_entryGoes _ _) (fun y hy => ?_))))))
  · unfold rfl_doFirst_102
    exact RP_ite (fun h => RP_w (df_136 _ _) (fun z hz => dfP_c hz (fr1 hy 149 rfl) (fr1 hy 150 rfl))) (fun h => RP_w (df_132 _ _) (fun z hz => dfP_c hz (fr1 hy 149 rfl) (fr1 hy 150 rfl)))
  · unfold rfl_doFirst_118
    exact RP_ite (fun h => RP_w (df_136 _ _) (fun z hz => dfP_c hz (fr1 hy 149 rfl) (fr1 hy 150 rfl))) (fun h => RP_w (df_132 _ _) (fun z hz => dfP_c hz (fr1 hy 149 rfl) (fr1 hy 150 rfl)))
  · unfold rfl_doFirst_129
    exact RP_ite (fun h => RP_w (df_136 _ _) (fun z hz => dfP_c hz (fr1 hy 149 rfl) (fr1 hy 150 rfl))) (fun h => RP_w (df_132 _ _) (fun z hz => dfP_c hz (fr1 hy 149 rfl) (fr1 hy 150 rfl)))
theorem df_0 (m : mR) : RP (rf_doFirst m) (fun z => dfP m z ∧ z.2.2 167 = upI (m.2 167) ((m.1 150).tmod 128) (m.1 152) ∧ fr rF_doFirst rA_doFirst m z.2) := by
  refine RP_w (RP_and (u_rf_doFirst m) (Q := fun z => dfP m z ∧ z.2.2 167 = upI (m.2 167) ((m.1 150).tmod 128) (m.1 152)) ?_) (fun z hz => ⟨hz.2.1, hz.2.2, hz.1⟩)
  unfold rf_doFirst
  refine RP_bnd (uw_rfb_doFirst_49 _ _ _) (fun e he => RP_w (RP_and (df_73 _ _ _) (u_rfl_doFirst_73 _ _ _)) (fun z hz => ⟨dfP_c hz.1 (fr1 he 149 rfl) (fr1 he 150 rfl), ?_⟩))
  rw [show z.2.2 167 = e.2 167 from fr2 hz.2 167 rfl]
  exact fr2 he 167 rfl
def R97 (v3 : Int) (m : mR) (u : Sum (Int × mR) mR) : Prop := ∃ M', u = .inl (cut (v3 + 1), M') ∧ M'.1 152 = cut (m.1 152 + 1) ∧ M'.1 151 = m.1 151 ∧ ((0 < m.1 149 ∧ M'.1 149 = cut (m.1 149 - 1) ∧ M'.1 150 = cut (m.1 150 + 1) ∧ M'.2 167 = upI (m.2 167) ((m.1 150).tmod 128) (m.1 152)) ∨ (m.1 149 ≤ 0 ∧ M'.1 149 = m.1 149 ∧ M'.1 150 = m.1 150 ∧ M'.2 167 = m.2 167)) ∧ M'.1 148 = m.1 148 ∧ M'.1 129 = m.1 129 ∧ M'.1 128 = m.1 128 ∧ ((0 < m.1 149 ∧ ∃ z, rf_doFirst m = some z ∧ M' = mO z.2 [(152, cut (m.1 152 + 1))] []) ∨ (m.1 149 ≤ 0 ∧ M' = mO m [(152, cut (m.1 152 + 1))] []))
theorem RP_se {α : Type} (X : Option α) : RP X (fun x => X = some x) := fun _ h => h
theorem r97 (v1 v2 v3 : Int) (m : mR) : RP (rfl_run_97 v1 v2 v3 m) (R97 v3 m) := by
  unfold rfl_run_97
  refine RP_ite (fun h => ?_) (fun h => RP_bnd (RP_and (RP_se _) (df_0 m)) (fun y hy => ?_))
  · unfold rfl_run_108
    exact RP_some ⟨_, rfl, rfl, rfl, Or.inr ⟨h, rfl, rfl, rfl⟩, rfl, rfl, rfl, Or.inr ⟨h, rfl⟩⟩
  · obtain ⟨hz, ⟨y1, y2⟩, y3, f⟩ := hy
    unfold rfl_run_108
    rw [show y.2.1 152 = m.1 152 from fr1 f 152 rfl]
    exact RP_some ⟨_, rfl, rfl, fr1 f 151 rfl, Or.inl ⟨by omega, y1, y2, y3⟩, fr1 f 148 rfl, fr1 f 129 rfl, fr1 f 128 rfl, Or.inl ⟨by omega, y, hz, rfl⟩⟩
/-! both -/
def RTM (K M : mR) : Prop := K.1 232 = M.1 148 ∧ K.1 233 = M.1 150 ∧ K.1 234 = M.1 151 ∧ K.1 235 = M.1 152 ∧ M.1 150 + M.1 149 = M.1 148 ∧ 0 ≤ M.1 149 ∧ K.1 226 = M.1 129 ∧ TMv (M.1 129) (M.1 152) (M.1 151) (M.1 150) (skp K) (M.2 167)
def RTI (K0 M0 : mR) (n : Int) (s t : Int × mR) : Prop := s.1 = t.1 ∧ (0 ≤ s.1 ∧ s.1 ≤ n) ∧ fr kF_pi_cycle kA_pi_cycle K0 s.2 ∧ RTM s.2 t.2 ∧ (0 ≤ t.2.1 152 ∧ t.2.1 152 ≤ M0.1 152 + s.1) ∧ t.2.1 148 = M0.1 148 ∧ t.2.1 129 = M0.1 129 ∧ t.2.1 128 = M0.1 128 ∧ ∀ g, s.2.2 106 g < 128
/-- what one round of both loops comes to -/
def RTB (K M : mR) (n : Int) (s t : Int × mR) (u v : Sum (Int × mR) mR) : Prop := (n ≤ s.1 ∧ u = .inr s.2 ∧ v = .inr t.2) ∨ (s.1 < n ∧ ∃ y : Int × mR, ∃ M' m : mR, ∃ W' : Int, u = .inl (s.1 + 1, y.2) ∧ v = .inl (s.1 + 1, M') ∧ kf_pi_cycle s.2 = some y ∧ RTI K M n (s.1 + 1, y.2) (s.1 + 1, M') ∧ ((W' = t.2.1 151 ∧ m = t.2) ∨ (W' = t.2.1 151 + 1 ∧ t.2.2 167 (t.2.1 151 % 128) + t.2.1 129 = t.2.1 152 ∧ t.2.1 151 < t.2.1 150 ∧ m = mO t.2 [(151, W')] [])) ∧ ((0 < m.1 149 ∧ ∃ z, rf_doFirst m = some z ∧ M' = mO z.2 [(152, t.2.1 152 + 1)] []) ∨ (m.1 149 ≤ 0 ∧ M' = mO m [(152, t.2.1 152 + 1)] [])) ∧ M'.1 151 = W')
theorem run_b {K M : mR} {n b b' : Int} (n1 : n ≤ 100) (hS : 1 ≤ M.1 129) (hS2 : M.1 129 ≤ 12) (hc : 0 ≤ M.1 152 ∧ M.1 152 ≤ 500000) (hm : M.1 148 ≤ 500000) (hrow : ∀ r, 0 ≤ r → r < 128 → r < K.1 232 → 1 ≤ K.2 107 r) {s t : Int × mR} (hs : RTI K M n s t) : RR (kfb_pw_run_49 n b s) (rfb_run_46 n b' t) (RTB K M n s t) := by
  obtain ⟨e0, ⟨s0, s1⟩, fK, hR, ⟨c0, c1⟩, m48, m29, m28, h6s⟩ := hs
  obtain ⟨r2, r3, r4, r5, r6, r7, r8, hT⟩ := id hR
  unfold kfb_pw_run_49 rfb_run_46
  refine RR_ii (by rw [e0]) (fun q1 _ => RR_some (Or.inl ⟨q1, rfl, rfl⟩)) (fun q1 q2 => ?_)
  have k107 : s.2.2 107 = K.2 107 := fr2 fK 107 rfl
  have k232 : s.2.1 232 = K.1 232 := fr1 fK 232 rfl
  have t0 := hT.1
  have row : ∀ k, 0 ≤ k → k < K.1 232 → 1 ≤ s.2.2 107 (k % 128) := fun k k0 k1 => by
    rw [k107]
    exact hrow _ (by omega) (by omega) (by omega)
  refine RR_l (RP_and (RP_se _) (RP_and (u_kf_pi_cycle s.2) (cyc_k (K := s.2) (by omega) (by omega) (by omega) (by omega) (by omega) h6s (fun q => row _ (by omega) (by omega))))) (fun y hy => ?_)
  obtain ⟨hyc, fy, ⟨y4, y5, y3, y6⟩, y8⟩ := hy
  have B : RP (if t.2.1 150 ≤ t.2.1 151 then rfl_run_97 n b' t.1 t.2 else if cut ((t.2.2 167) ((t.2.1 151).tmod 128) + t.2.1 129) = t.2.1 152 then rfl_run_97 n b' t.1 (mO t.2 [(151, cut (t.2.1 151 + 1))] []) else rfl_run_97 n b' t.1 t.2) (fun u => ∃ m : mR, R97 t.1 m u ∧ ((skp s.2 (s.2.1 226 - 1) < 0 ∧ m = t.2) ∨ (0 ≤ skp s.2 (s.2.1 226 - 1) ∧ m = mO t.2 [(151, t.2.1 151 + 1)] [] ∧ t.2.2 167 (t.2.1 151 % 128) + t.2.1 129 = t.2.1 152 ∧ t.2.1 151 < t.2.1 150))) := by
    have hO := TMv_out hT (by omega)
    rw [← r8] at hO
    refine RP_ite (fun h1 => ?_) (fun h1 => ?_)
    · refine RP_w (r97 _ _ _ _) (fun u hu => ⟨_, hu, Or.inl ⟨?_, rfl⟩⟩)
      rcases Int.lt_or_le (skp s.2 (s.2.1 226 - 1)) 0 with q | q
      · exact q
      · have := (hO.mp q).1
        omega
    · have lo := (hT.2.1 (t.2.1 151) (Int.le_refl _) (by omega))
      rw [Int.tmod_eq_emod_of_nonneg t0.1, cut_i (by omega) (by omega)]
      refine RP_ite (fun h2 => ?_) (fun h2 => ?_)
      · rw [cut_i (by omega) (by omega)]
        exact RP_w (r97 _ _ _ _) (fun u hu => ⟨_, hu, Or.inr ⟨hO.mpr ⟨by omega, by rw [r8]; exact h2⟩, rfl, h2, by omega⟩⟩)
      · refine RP_w (r97 _ _ _ _) (fun u hu => ⟨_, hu, Or.inl ⟨?_, rfl⟩⟩)
        rcases Int.lt_or_le (skp s.2 (s.2.1 226 - 1)) 0 with q | q
        · exact q
        · have := (hO.mp q).2
          rw [r8] at this
          exact absurd this h2
  refine RR_w (RR_pr (RP_some (x := (.inl (cut (s.1 + 1), y.2) : Sum (Int × mR) mR)) (P := fun u => u = .inl (cut (s.1 + 1), y.2)) rfl) B) (fun u v huv => ?_)
  obtain ⟨rfl, m, ⟨M', rfl, x2, x1, x3, x8, x9, x7, xx⟩, hw⟩ := huv
  have m149 : m.1 149 = t.2.1 149 := by rcases hw with ⟨-, q⟩ | ⟨-, q, -⟩ <;> rw [q] <;> rfl
  have m150 : m.1 150 = t.2.1 150 := by rcases hw with ⟨-, q⟩ | ⟨-, q, -⟩ <;> rw [q] <;> rfl
  have m152 : m.1 152 = t.2.1 152 := by rcases hw with ⟨-, q⟩ | ⟨-, q, -⟩ <;> rw [q] <;> rfl
  have m148 : m.1 148 = t.2.1 148 := by rcases hw with ⟨-, q⟩ | ⟨-, q, -⟩ <;> rw [q] <;> rfl
  have m129 : m.1 129 = t.2.1 129 := by rcases hw with ⟨-, q⟩ | ⟨-, q, -⟩ <;> rw [q] <;> rfl
  have m128 : m.1 128 = t.2.1 128 := by rcases hw with ⟨-, q⟩ | ⟨-, q, -⟩ <;> rw [q] <;> rfl
  have m167 : m.2 167 = t.2.2 167 := by rcases hw with ⟨-, q⟩ | ⟨-, q, -⟩ <;> rw [q] <;> rfl
  have hw' : (skp s.2 (t.2.1 129 - 1) < 0 ∧ m.1 151 = t.2.1 151) ∨ (0 ≤ skp s.2 (t.2.1 129 - 1) ∧ m.1 151 = t.2.1 151 + 1) := by
    rw [← r8]
    rcases hw with ⟨w0, q⟩ | ⟨w0, q, -⟩
    · exact Or.inl ⟨w0, by rw [q]⟩
    · exact Or.inr ⟨w0, by rw [q]; rfl⟩
  rw [m149, m150, m167, m152] at x3
  have cc : cut (t.2.1 152 + 1) = t.2.1 152 + 1 := cut_i (by omega) (by omega)
  rw [m152, cc] at x2 xx
  rw [m148] at x8
  rw [m129] at x9
  rw [m128] at x7
  have v4 : y.2.1 234 = M'.1 151 := by
    rw [y4, x1, r8]
    rcases hw' with ⟨w0, w⟩ | ⟨w0, w⟩
    · rw [if_pos w0, w]
      exact r4
    · rw [if_neg (by omega), w, r4]
  have in_ : (0 < t.2.1 149 ∧ M'.1 149 = t.2.1 149 - 1 ∧ M'.1 150 = t.2.1 150 + 1 ∧ M'.2 167 = upI (t.2.2 167) (t.2.1 150 % 128) (t.2.1 152) ∧ y.2.1 233 = s.2.1 233 + 1 ∧ skp y.2 0 = t.2.1 150 % 128) ∨ (t.2.1 149 ≤ 0 ∧ M'.1 149 = t.2.1 149 ∧ M'.1 150 = t.2.1 150 ∧ M'.2 167 = t.2.2 167 ∧ y.2.1 233 = s.2.1 233 ∧ skp y.2 0 < 0) := by
    rcases x3 with ⟨p0, p1, p2, p3⟩ | ⟨p0, p1, p2, p3⟩
    · rcases y3 with ⟨q0, q1, q2⟩ | ⟨q0, q1, q2⟩
      · rw [Int.tmod_eq_emod_of_nonneg (by omega)] at p3
        rw [cut_i (by omega) (by omega)] at p1 p2
        rw [r3] at q2
        exact Or.inl ⟨p0, p1, p2, p3, q1, q2⟩
      · omega
    · rcases y3 with ⟨q0, q1, q2⟩ | ⟨q0, q1, q2⟩
      · omega
      · exact Or.inr ⟨p0, p1, p2, p3, q1, q2⟩
  have hs' : ∀ g, 1 ≤ g → g < t.2.1 129 → (skp s.2 (g - 1) < 0 → skp y.2 g < 0) ∧ (0 ≤ skp s.2 (g - 1) → skp y.2 g = skp s.2 (g - 1)) := fun g g0 g1 => by
    have e := y6 g g0 (by omega)
    exact ⟨fun q => by rw [e]; exact q, fun _ => e⟩
  have T' : TMv (t.2.1 129) (t.2.1 152 + 1) (M'.1 151) (M'.1 150) (skp y.2) (M'.2 167) := by
    rw [x1]
    rcases in_ with ⟨p0, p1, p2, p3, p4, p5⟩ | ⟨p0, p1, p2, p3, p4, p5⟩
    · rw [p2, p3]
      exact TMv_step hT (by omega) (by omega) hs' (Or.inr ⟨rfl, p5, rfl⟩) hw'
    · rw [p2, p3]
      have := TMv_step (e := 0) hT (by omega) (by omega) hs' (Or.inl ⟨rfl, p5, rfl⟩) hw'
      rw [Int.add_zero] at this
      exact this
  have c8 : cut (s.1 + 1) = s.1 + 1 := cut_i (by omega) (by omega)
  have c9 : cut (t.1 + 1) = s.1 + 1 := by rw [← e0]; exact c8
  have y232 : y.2.1 232 = s.2.1 232 := fr1 fy 232 rfl
  have y226 : y.2.1 226 = s.2.1 226 := fr1 fy 226 rfl
  rw [c8, c9]
  have i49 : M'.1 150 + M'.1 149 = M'.1 148 ∧ 0 ≤ M'.1 149 := by rcases in_ with ⟨p0, p1, p2, -⟩ | ⟨p0, p1, p2, -⟩ <;> omega
  have i33 : y.2.1 233 = M'.1 150 := by rcases in_ with ⟨p0, p1, p2, p3, p4, -⟩ | ⟨p0, p1, p2, p3, p4, -⟩ <;> omega
  refine Or.inr ⟨by omega, y, M', m, M'.1 151, rfl, rfl, hyc, ⟨rfl, ⟨by show 0 ≤ s.1 + 1; omega, by show s.1 + 1 ≤ n; omega⟩, fr_s fy fK (by decide +kernel) (by decide +kernel), ⟨by rw [y232, x8]; exact r2, i33, v4, by rw [y5, x2, r5], i49.1, i49.2, by rw [y226, x9]; exact r8, ?_⟩, ⟨by show 0 ≤ M'.1 152; omega, by show M'.1 152 ≤ M.1 152 + (s.1 + 1); omega⟩, by show M'.1 148 = _; omega, by show M'.1 129 = _; omega, by show M'.1 128 = _; omega, y8⟩, ?_, ?_, rfl⟩
  · show TMv (M'.1 129) (M'.1 152) (M'.1 151) (M'.1 150) (skp y.2) (M'.2 167)
    rw [x9, x2]
    exact T'
  · rcases hw with ⟨w0, q⟩ | ⟨w0, q, w2, w3⟩
    · exact Or.inl ⟨by rw [x1, q], q⟩
    · have e : M'.1 151 = t.2.1 151 + 1 := by rw [x1, q]; rfl
      exact Or.inr ⟨e, w2, w3, by rw [e]; exact q⟩
  · exact xx
theorem run_t {K M : mR} {n b b' : Int} (n0 : 0 ≤ n) (n1 : n ≤ 100) (hS : 1 ≤ M.1 129) (hS2 : M.1 129 ≤ 12) (hc : 0 ≤ M.1 152 ∧ M.1 152 ≤ 500000) (hm : M.1 148 ≤ 500000) (hrow : ∀ r, 0 ≤ r → r < 128 → r < K.1 232 → 1 ≤ K.2 107 r) (h6 : ∀ g, K.2 106 g < 128) (h : RTM K M) : RR (whl (kfb_pw_run_49 n b) (0, K)) (whl (rfb_run_46 n b') (0, M)) (fun e f => RTM e f ∧ (f.1 128 = M.1 128 ∧ f.1 129 = M.1 129) ∧ ∀ g, e.2 106 g < 128) := by
  refine RR_whl (I := RTI K M n) (fun s t hs => RR_w (run_b (b := b) (b' := b') n1 hS hS2 hc hm hrow hs) (fun u v huv => ?_)) ⟨rfl, ⟨Int.le_refl _, n0⟩, fr_0, h, ⟨hc.1, by show M.1 152 ≤ M.1 152 + 0; omega⟩, rfl, rfl, rfl, h6⟩
  rcases huv with ⟨-, rfl, rfl⟩ | ⟨-, y, M', m, W', rfl, rfl, -, hI, -⟩
  · obtain ⟨-, -, -, hR, -, -, m29, m28, h6s⟩ := hs
    exact ⟨hR, ⟨m28, m29⟩, h6s⟩
  · exact hI
end RT1
