/-! ===== rows of entries are put, shifted ===== -/
def ofK (t r : Int) (K K' : mR) : Prop := (∀ x, x ≠ t → K'.2 78 x = K.2 78 x) ∧ (∀ j, j < 65536 * t ∨ 65536 * t + 65536 ≤ j → K'.2 85 j = K.2 85 j ∧ K'.2 86 j = K.2 86 j ∧ K'.2 87 j = K.2 87 j ∧ K'.2 88 j = K.2 88 j ∧ K'.2 89 j = K.2 89 j) ∧ ∀ j, j < 65536 * r ∨ 65536 * r + 65536 ≤ j → K'.2 103 j = K.2 103 j ∧ K'.2 104 j = K.2 104 j
def ofR (t : Int) (M M' : mR) : Prop := (∀ x, x ≠ t → M'.2 139 x = M.2 139 x) ∧ (∀ j, j < 96 * t ∨ 96 * t + 96 ≤ j → M'.2 140 j = M.2 140 j ∧ M'.2 141 j = M.2 141 j) ∧ ∀ j, j < 384 * t ∨ 384 * t + 384 ≤ j → M'.2 142 j = M.2 142 j ∧ M'.2 143 j = M.2 143 j ∧ M'.2 144 j = M.2 144 j
theorem ofK_t {t r : Int} {K K1 K2 : mR} (h : ofK t r K K1) (g : ofK t r K1 K2) : ofK t r K K2 := by
  obtain ⟨h1, h2, h3⟩ := h
  obtain ⟨g1, g2, g3⟩ := g
  refine ⟨fun x hx => (g1 x hx).trans (h1 x hx), fun j hj => ?_, fun j hj => ⟨((g3 j hj).1).trans (h3 j hj).1, ((g3 j hj).2).trans (h3 j hj).2⟩⟩
  obtain ⟨a1, a2, a3, a4, a5⟩ := h2 j hj
  obtain ⟨b1, b2, b3, b4, b5⟩ := g2 j hj
  exact ⟨b1.trans a1, b2.trans a2, b3.trans a3, b4.trans a4, b5.trans a5⟩
theorem ofR_t {t : Int} {M M1 M2 : mR} (h : ofR t M M1) (g : ofR t M1 M2) : ofR t M M2 := by
  obtain ⟨h1, h2, h3⟩ := h
  obtain ⟨g1, g2, g3⟩ := g
  refine ⟨fun x hx => (g1 x hx).trans (h1 x hx), fun j hj => ⟨((g2 j hj).1).trans (h2 j hj).1, ((g2 j hj).2).trans (h2 j hj).2⟩, fun j hj => ?_⟩
  obtain ⟨a1, a2, a3⟩ := h3 j hj
  obtain ⟨b1, b2, b3⟩ := g3 j hj
  exact ⟨b1.trans a1, b2.trans a2, b3.trans a3⟩
theorem ofK_0 {t r : Int} {K : mR} : ofK t r K K := ⟨fun _ _ => rfl, fun _ _ => ⟨rfl, rfl, rfl, rfl, rfl⟩, fun _ _ => ⟨rfl, rfl⟩⟩
theorem ofR_0 {t : Int} {M : mR} : ofR t M M := ⟨fun _ _ => rfl, fun _ _ => ⟨rfl, rfl⟩, fun _ _ => ⟨rfl, rfl, rfl⟩⟩
/-- what stands from lo to hi came from d behind -/
def SHF (lo hi d : Int) (f f' : Int → Int) : Prop := (∀ j, lo ≤ j → j < hi → f' j = f (j + d)) ∧ ∀ j, j < lo ∨ hi ≤ j → f' j = f j
theorem SHF_0 {lo d : Int} {f : Int → Int} : SHF lo lo d f f := ⟨fun j a b => by omega, fun _ _ => rfl⟩
theorem SHF_s {lo hi d : Int} {f f' : Int → Int} (h : SHF lo hi d f f') (d0 : 0 < d) (hl : lo ≤ hi) : SHF lo (hi + 1) d f (upI f' hi (f' (hi + d))) := by
  refine ⟨fun j a b => ?_, fun j hj => ?_⟩
  · by_cases e : j = hi
    · rw [e, upI_s]
      exact h.2 (hi + d) (by omega)
    · rw [upI_n e]
      exact h.1 j a (by omega)
  · rw [upI_n (by omega)]
    exact h.2 j (by omega)
section TQ4
variable {K M : mR} {t r : Int}
/-! the class puts keys behind the others -/
def apI (t r e : Int) (K : mR) (s : Int × mR) : Prop := (0 ≤ s.1 ∧ s.1 ≤ K.2 72 t) ∧ fr [] [85, 86] K s.2 ∧ (∀ i, 0 ≤ i → i < s.1 → s.2.2 85 (65536 * t + (e * 4 + i)) = K.2 103 (65536 * r + i) ∧ s.2.2 86 (65536 * t + (e * 4 + i)) = K.2 104 (65536 * r + i)) ∧ ∀ j, j < 65536 * t + e * 4 ∨ 65536 * t + (e * 4 + 4) ≤ j → s.2.2 85 j = K.2 85 j ∧ s.2.2 86 j = K.2 86 j
theorem app_k {e : Int} (he : K.2 78 t = e) (e0 : 0 ≤ e) (e1 : e < 96) (h0 : 0 ≤ K.2 72 t) (h1 : K.2 72 t ≤ 4) : RP (whl (kfb_tb_append_13 t r) (0, K)) (fun m => apI t r e K (K.2 72 t, m)) := by
  refine RP_whl (I := apI t r e K) (fun s hs => ?_) ⟨⟨Int.le_refl _, h0⟩, fr_0, fun i i0 i1 => by have i1 : i < 0 := i1; omega, fun _ _ => ⟨rfl, rfl⟩⟩
  obtain ⟨⟨a0, a1⟩, a2, a3, a4⟩ := hs
  unfold kfb_tb_append_13
  rw [show s.2.2 72 = K.2 72 from fr2 a2 72 rfl, show s.2.2 78 = K.2 78 from fr2 a2 78 rfl, show s.2.2 103 = K.2 103 from fr2 a2 103 rfl, show s.2.2 104 = K.2 104 from fr2 a2 104 rfl, he]
  refine RP_ite (fun g => RP_some ?_) (fun g => ?_)
  · have e' : s.1 = K.2 72 t := by omega
    show apI t r e K (K.2 72 t, s.2)
    rw [← e']
    exact ⟨⟨a0, a1⟩, a2, a3, a4⟩
  · rw [cut_i (z := e * 4) (by omega) (by omega), cut_i (z := e * 4 + s.1) (by omega) (by omega), cut_i (z := s.1 + 1) (by omega) (by omega)]
    refine RP_some (show apI t r e K (s.1 + 1, _) from ⟨⟨show 0 ≤ s.1 + 1 by omega, show s.1 + 1 ≤ K.2 72 t by omega⟩, fr_m a2 rfl rfl, fun i i0 i1 => ?_, fun j hj => ?_⟩)
    · have i1 : i < s.1 + 1 := i1
      show upI (s.2.2 85) (65536 * t + (e * 4 + s.1)) (K.2 103 (65536 * r + s.1)) (65536 * t + (e * 4 + i)) = _ ∧ upI (s.2.2 86) (65536 * t + (e * 4 + s.1)) (K.2 104 (65536 * r + s.1)) (65536 * t + (e * 4 + i)) = _
      by_cases q : i = s.1
      · rw [q, upI_s, upI_s]
        exact ⟨rfl, rfl⟩
      · rw [upI_n (by omega), upI_n (by omega)]
        exact a3 i i0 (by omega)
    · show upI (s.2.2 85) (65536 * t + (e * 4 + s.1)) _ j = _ ∧ upI (s.2.2 86) (65536 * t + (e * 4 + s.1)) _ j = _
      rw [upI_n (by omega), upI_n (by omega)]
      exact a4 j hj
/-! the reference -/
def apJ (t e : Int) (M : mR) (s : Int × mR) : Prop := (0 ≤ s.1 ∧ s.1 ≤ M.2 51 t) ∧ fr [] [142, 143] M s.2 ∧ (∀ i, 0 ≤ i → i < s.1 → s.2.2 143 (4 * (96 * t + e) + i) = and64 (M.2 161 i) (mk64 (M.2 112 (4 * t + i))) ∧ s.2.2 142 (4 * (96 * t + e) + i) = and64 (M.2 160 i) (and64 (M.2 161 i) (mk64 (M.2 112 (4 * t + i))))) ∧ ∀ j, j < 4 * (96 * t + e) ∨ 4 * (96 * t + e) + 4 ≤ j → s.2.2 142 j = M.2 142 j ∧ s.2.2 143 j = M.2 143 j
theorem app_r {e : Int} (t0 : 0 ≤ t) (t1 : t < 8) (e0 : 0 ≤ e) (e1 : e < 96) (h0 : 0 ≤ M.2 51 t) (h1 : M.2 51 t ≤ 4) (hR : ∀ i, 0 ≤ i → i < 4 → R64 (M.2 161 i)) : RP (whl (rfb_entryComes_57 t e) (0, M)) (fun m => apJ t e M (M.2 51 t, m)) := by
  refine RP_whl (I := apJ t e M) (fun s hs => ?_) ⟨⟨Int.le_refl _, h0⟩, fr_0, fun i i0 i1 => by have i1 : i < 0 := i1; omega, fun _ _ => ⟨rfl, rfl⟩⟩
  obtain ⟨⟨a0, a1⟩, a2, a3, a4⟩ := hs
  unfold rfb_entryComes_57 rf_slot
  rw [show s.2.2 51 = M.2 51 from fr2 a2 51 rfl, show s.2.2 161 = M.2 161 from fr2 a2 161 rfl, show s.2.2 112 = M.2 112 from fr2 a2 112 rfl, show s.2.2 160 = M.2 160 from fr2 a2 160 rfl]
  refine RP_ite (fun g => RP_some ?_) (fun g => ?_)
  · have e' : s.1 = M.2 51 t := by omega
    show apJ t e M (M.2 51 t, s.2)
    rw [← e']
    exact ⟨⟨a0, a1⟩, a2, a3, a4⟩
  · rw [bnd_some, rcut (hR s.1 a0 (by omega)), bnd_some, upI_s, cut_i (z := 4 * t) (by omega) (by omega), cut_i (z := 4 * t + s.1) (by omega) (by omega), cut_i (z := 96 * t) (by omega) (by omega), cut_i (z := 96 * t + e) (by omega) (by omega), cut_i (z := 4 * (96 * t + e)) (by omega) (by omega), cut_i (z := 4 * (96 * t + e) + s.1) (by omega) (by omega), cut_i (z := s.1 + 1) (by omega) (by omega)]
    refine RP_some (show apJ t e M (s.1 + 1, _) from ⟨⟨show 0 ≤ s.1 + 1 by omega, show s.1 + 1 ≤ M.2 51 t by omega⟩, fr_m a2 rfl rfl, fun i i0 i1 => ?_, fun j hj => ?_⟩)
    · have i1 : i < s.1 + 1 := i1
      show upI (s.2.2 143) (4 * (96 * t + e) + s.1) _ (4 * (96 * t + e) + i) = _ ∧ upI (s.2.2 142) (4 * (96 * t + e) + s.1) _ (4 * (96 * t + e) + i) = _
      by_cases q : i = s.1
      · rw [q, upI_s, upI_s]
        exact ⟨rfl, rfl⟩
      · rw [upI_n (by omega), upI_n (by omega)]
        exact a3 i i0 (by omega)
    · show upI (s.2.2 142) (4 * (96 * t + e) + s.1) _ j = _ ∧ upI (s.2.2 143) (4 * (96 * t + e) + s.1) _ j = _
      rw [upI_n (by omega), upI_n (by omega)]
      exact a4 j hj
/-! actions and data -/
def puI (t r e a : Int) (K : mR) (s : Int × mR) : Prop := (0 ≤ s.1 ∧ s.1 ≤ K.2 39 a) ∧ fr [] [87, 89] K s.2 ∧ s.2.2 89 = upI (K.2 89) (65536 * t + e) a ∧ (∀ i, 0 ≤ i → i < s.1 → s.2.2 87 (65536 * t + (e * 4 + i)) = and64 (K.2 105 (65536 * r + i)) (mk64 (K.2 40 (a * 4 + i)))) ∧ ∀ j, j < 65536 * t + e * 4 ∨ 65536 * t + (e * 4 + 4) ≤ j → s.2.2 87 j = K.2 87 j
theorem put_k {e a : Int} (ha : K.2 97 r = a) (a0 : 0 ≤ a) (a1 : a < 16) (e0 : 0 ≤ e) (e1 : e < 96) (h0 : 0 ≤ K.2 39 a) (h1 : K.2 39 a ≤ 4) (hw : ∀ i, 0 ≤ i → i < K.2 39 a → K.2 40 (a * 4 + i) ≤ 64) : RP (kfl_tb_serve_133 t r e K) (fun y => y.1 = 0 ∧ puI t r e a K (K.2 39 a, y.2)) := by
  unfold kfl_tb_serve_133
  rw [ha]
  refine RP_bnd (P := fun m => puI t r e a K (K.2 39 a, m)) (RP_whl (I := puI t r e a K) (fun s hs => ?_) ⟨⟨Int.le_refl _, h0⟩, fr_m fr_0 rfl rfl, rfl, fun i i0 i1 => by have i1 : i < 0 := i1; omega, fun _ _ => rfl⟩) (fun m hm => RP_some ⟨rfl, hm⟩)
  obtain ⟨⟨b0, b1⟩, b2, b3, b4, b5⟩ := hs
  unfold kfb_tb_serve_147
  rw [show s.2.2 39 = K.2 39 from fr2 b2 39 rfl, show s.2.2 97 = K.2 97 from fr2 b2 97 rfl, show s.2.2 40 = K.2 40 from fr2 b2 40 rfl, show s.2.2 105 = K.2 105 from fr2 b2 105 rfl, ha]
  refine RP_ite (fun g => RP_some ?_) (fun g => ?_)
  · have e' : s.1 = K.2 39 a := by omega
    show puI t r e a K (K.2 39 a, s.2)
    rw [← e']
    exact ⟨⟨b0, b1⟩, b2, b3, b4, b5⟩
  · rw [cut_i (z := a * 4) (by omega) (by omega), cut_i (z := a * 4 + s.1) (by omega) (by omega), ones_q (hw s.1 b0 (by omega)), bnd_some, cut_i (z := e * 4) (by omega) (by omega), cut_i (z := e * 4 + s.1) (by omega) (by omega), cut_i (z := s.1 + 1) (by omega) (by omega)]
    refine RP_some (show puI t r e a K (s.1 + 1, _) from ⟨⟨show 0 ≤ s.1 + 1 by omega, show s.1 + 1 ≤ K.2 39 a by omega⟩, fr_m b2 rfl rfl, b3, fun i i0 i1 => ?_, fun j hj => ?_⟩)
    · have i1 : i < s.1 + 1 := i1
      show upI (s.2.2 87) (65536 * t + (e * 4 + s.1)) _ (65536 * t + (e * 4 + i)) = _
      by_cases q : i = s.1
      · rw [q, upI_s]
      · rw [upI_n (by omega)]
        exact b4 i i0 (by omega)
    · show upI (s.2.2 87) (65536 * t + (e * 4 + s.1)) _ j = _
      rw [upI_n (by omega)]
      exact b5 j hj
def puJ (t e a : Int) (M : mR) (s : Int × mR) : Prop := (0 ≤ s.1 ∧ s.1 ≤ 4) ∧ fr [] [141, 144] M s.2 ∧ s.2.2 141 = upI (M.2 141) (96 * t + e) a ∧ (∀ i, 0 ≤ i → i < s.1 → s.2.2 144 (4 * (96 * t + e) + i) = if M.2 46 a ≤ i then 0 else and64 (M.2 162 i) (mk64 (M.2 49 (4 * a + i)))) ∧ ∀ j, j < 4 * (96 * t + e) ∨ 4 * (96 * t + e) + 4 ≤ j → s.2.2 144 j = M.2 144 j
theorem put_r {e a : Int} (ha : M.2 158 0 = a) (a0 : 0 ≤ a) (a1 : a < 16) (t0 : 0 ≤ t) (t1 : t < 8) (e0 : 0 ≤ e) (e1 : e < 96) (hR : ∀ i, 0 ≤ i → i < 4 → R64 (M.2 162 i)) : RP (rf_putAction t e M) (fun y => puJ t e a M (4, y.2)) := by
  unfold rf_putAction rf_slot
  rw [bnd_some, ha, cut_i (z := 96 * t) (by omega) (by omega), cut_i (z := 96 * t + e) (by omega) (by omega)]
  refine RP_bnd (P := fun m => puJ t e a M (4, m)) (RP_whl (I := puJ t e a M) (fun s hs => ?_) ⟨⟨Int.le_refl _, show (0 : Int) ≤ 4 by decide⟩, fr_m fr_0 rfl rfl, rfl, fun i i0 i1 => by have i1 : i < 0 := i1; omega, fun _ _ => rfl⟩) (fun m hm => RP_some hm)
  obtain ⟨⟨b0, b1⟩, b2, b3, b4, b5⟩ := hs
  unfold rfb_putAction_22 rf_slot rfl_putAction_79
  rw [show s.2.2 46 = M.2 46 from fr2 b2 46 rfl, show s.2.2 162 = M.2 162 from fr2 b2 162 rfl, show s.2.2 49 = M.2 49 from fr2 b2 49 rfl]
  refine RP_ite (fun g => RP_some ?_) (fun g => ?_)
  · have e' : s.1 = 4 := by omega
    show puJ t e a M (4, s.2)
    rw [← e']
    exact ⟨⟨b0, b1⟩, b2, b3, b4, b5⟩
  · rw [bnd_some, cut_i (z := 96 * t) (by omega) (by omega), cut_i (z := 96 * t + e) (by omega) (by omega), cut_i (z := 4 * (96 * t + e)) (by omega) (by omega), cut_i (z := 4 * (96 * t + e) + s.1) (by omega) (by omega), cut_i (z := s.1 + 1) (by omega) (by omega)]
    have fin : ∀ x : Int, x = (if M.2 46 a ≤ s.1 then 0 else and64 (M.2 162 s.1) (mk64 (M.2 49 (4 * a + s.1)))) → puJ t e a M (s.1 + 1, mO s.2 [] [(144, upI (s.2.2 144) (4 * (96 * t + e) + s.1) x)]) := fun x hx => by
      refine ⟨⟨show 0 ≤ s.1 + 1 by omega, show s.1 + 1 ≤ 4 by omega⟩, fr_m b2 rfl rfl, b3, fun i i0 i1 => ?_, fun j hj => ?_⟩
      · have i1 : i < s.1 + 1 := i1
        show upI (s.2.2 144) (4 * (96 * t + e) + s.1) x (4 * (96 * t + e) + i) = _
        by_cases q : i = s.1
        · rw [q, upI_s]
          exact hx
        · rw [upI_n (by omega)]
          exact b4 i i0 (by omega)
      · show upI (s.2.2 144) (4 * (96 * t + e) + s.1) x j = _
        rw [upI_n (by omega)]
        exact b5 j hj
    refine RP_ite (fun g1 => RP_some (fin _ (if_pos g1).symm)) (fun g1 => ?_)
    rw [rcut (hR s.1 b0 (by omega)), bnd_some, cut_i (z := 4 * a) (by omega) (by omega), cut_i (z := 4 * a + s.1) (by omega) (by omega)]
    exact RP_some (fin _ (if_neg g1).symm)
/-! an entry goes -/
def rmI (t e : Int) (K : mR) (s : Int × mR) : Prop := (e ≤ s.1 ∧ s.1 ≤ K.2 78 t - 1) ∧ fr [] [85, 86, 87, 88, 89] K s.2 ∧ SHF (65536 * t + e * 4) (65536 * t + s.1 * 4) 4 (K.2 85) (s.2.2 85) ∧ SHF (65536 * t + e * 4) (65536 * t + s.1 * 4) 4 (K.2 86) (s.2.2 86) ∧ SHF (65536 * t + e * 4) (65536 * t + s.1 * 4) 4 (K.2 87) (s.2.2 87) ∧ SHF (65536 * t + e) (65536 * t + s.1) 1 (K.2 88) (s.2.2 88) ∧ SHF (65536 * t + e) (65536 * t + s.1) 1 (K.2 89) (s.2.2 89)
theorem rem_k {e : Int} (n1 : K.2 78 t ≤ 72) (e0 : 0 ≤ e) (e1 : e < K.2 78 t) : RP (kf_tb_remove t e K) (fun y => ∃ m, rmI t e K (K.2 78 t - 1, m) ∧ y.2 = mO m [] [(78, upI (K.2 78) t (K.2 78 t - 1))]) := by
  unfold kf_tb_remove
  refine RP_bnd (P := fun m => rmI t e K (K.2 78 t - 1, m)) (RP_whl (I := rmI t e K) (fun s hs => ?_) ⟨⟨Int.le_refl _, show e ≤ K.2 78 t - 1 by omega⟩, fr_0, SHF_0, SHF_0, SHF_0, SHF_0, SHF_0⟩) (fun m hm => ?_)
  · obtain ⟨⟨a0, a1⟩, a2, a3, a4, a5, a6, a7⟩ := hs
    unfold kfb_tb_remove_2
    rw [show s.2.2 78 = K.2 78 from fr2 a2 78 rfl, cut_i (z := K.2 78 t - 1) (by omega) (by omega)]
    refine RP_ite (fun g => RP_some ?_) (fun g => ?_)
    · have e' : s.1 = K.2 78 t - 1 := by omega
      show rmI t e K (K.2 78 t - 1, s.2)
      rw [← e']
      exact ⟨⟨a0, a1⟩, a2, a3, a4, a5, a6, a7⟩
    · refine RP_bnd (P := fun m => fr [] [85, 86, 87, 88, 89] K m ∧ SHF (65536 * t + e * 4) (65536 * t + (s.1 * 4 + 4)) 4 (K.2 85) (m.2 85) ∧ SHF (65536 * t + e * 4) (65536 * t + (s.1 * 4 + 4)) 4 (K.2 86) (m.2 86) ∧ SHF (65536 * t + e * 4) (65536 * t + (s.1 * 4 + 4)) 4 (K.2 87) (m.2 87) ∧ m.2 88 = s.2.2 88 ∧ m.2 89 = s.2.2 89) (RP_whl (I := fun u : Int × mR => (0 ≤ u.1 ∧ u.1 ≤ 4) ∧ fr [] [85, 86, 87, 88, 89] K u.2 ∧ SHF (65536 * t + e * 4) (65536 * t + (s.1 * 4 + u.1)) 4 (K.2 85) (u.2.2 85) ∧ SHF (65536 * t + e * 4) (65536 * t + (s.1 * 4 + u.1)) 4 (K.2 86) (u.2.2 86) ∧ SHF (65536 * t + e * 4) (65536 * t + (s.1 * 4 + u.1)) 4 (K.2 87) (u.2.2 87) ∧ u.2.2 88 = s.2.2 88 ∧ u.2.2 89 = s.2.2 89) (fun u hu => ?_) ⟨⟨Int.le_refl _, show (0 : Int) ≤ 4 by decide⟩, a2, ?_, ?_, ?_, rfl, rfl⟩) (fun m hm => ?_)
      · obtain ⟨⟨b0, b1⟩, b2, b3, b4, b5, b6, b7⟩ := hu
        unfold kfb_tb_remove_14
        refine RP_ite (fun q => RP_some ?_) (fun q => ?_)
        · have e' : u.1 = 4 := by omega
          rw [e'] at b3 b4 b5
          exact ⟨b2, b3, b4, b5, b6, b7⟩
        · rw [cut_i (z := s.1 * 4) (by omega) (by omega), cut_i (z := s.1 * 4 + 4) (by omega) (by omega), cut_i (z := s.1 * 4 + u.1) (by omega) (by omega), cut_i (z := s.1 * 4 + 4 + u.1) (by omega) (by omega), cut_i (z := u.1 + 1) (by omega) (by omega), show 65536 * t + (s.1 * 4 + 4 + u.1) = 65536 * t + (s.1 * 4 + u.1) + 4 by omega]
          have ee : 65536 * t + (s.1 * 4 + (u.1 + 1)) = 65536 * t + (s.1 * 4 + u.1) + 1 := by omega
          refine RP_some ⟨⟨show 0 ≤ u.1 + 1 by omega, show u.1 + 1 ≤ 4 by omega⟩, fr_m b2 rfl rfl, ?_, ?_, ?_, b6, b7⟩
          · show SHF _ (65536 * t + (s.1 * 4 + (u.1 + 1))) 4 _ _
            rw [ee]
            exact SHF_s b3 (by decide) (by omega)
          · show SHF _ (65536 * t + (s.1 * 4 + (u.1 + 1))) 4 _ _
            rw [ee]
            exact SHF_s b4 (by decide) (by omega)
          · show SHF _ (65536 * t + (s.1 * 4 + (u.1 + 1))) 4 _ _
            rw [ee]
            exact SHF_s b5 (by decide) (by omega)
      · show SHF _ (65536 * t + (s.1 * 4 + 0)) 4 _ _
        rw [show s.1 * 4 + 0 = s.1 * 4 by omega]
        exact a3
      · show SHF _ (65536 * t + (s.1 * 4 + 0)) 4 _ _
        rw [show s.1 * 4 + 0 = s.1 * 4 by omega]
        exact a4
      · show SHF _ (65536 * t + (s.1 * 4 + 0)) 4 _ _
        rw [show s.1 * 4 + 0 = s.1 * 4 by omega]
        exact a5
      · obtain ⟨c2, c3, c4, c5, c6, c7⟩ := hm
        unfold kfl_tb_remove_91
        rw [cut_i (z := s.1 + 1) (by omega) (by omega), show 65536 * t + (s.1 + 1) = 65536 * t + s.1 + 1 by omega, c6, c7]
        have ee : 65536 * t + (s.1 * 4 + 4) = 65536 * t + (s.1 + 1) * 4 := by omega
        rw [ee] at c3 c4 c5
        refine RP_some (show rmI t e K (s.1 + 1, _) from ⟨⟨show e ≤ s.1 + 1 by omega, show s.1 + 1 ≤ K.2 78 t - 1 by omega⟩, fr_m c2 rfl rfl, c3, c4, c5, ?_, ?_⟩)
        · show SHF _ (65536 * t + (s.1 + 1)) 1 _ (upI (s.2.2 88) (65536 * t + s.1) (s.2.2 88 (65536 * t + s.1 + 1)))
          rw [show 65536 * t + (s.1 + 1) = 65536 * t + s.1 + 1 by omega]
          exact SHF_s a6 (by decide) (by omega)
        · show SHF _ (65536 * t + (s.1 + 1)) 1 _ (upI (s.2.2 89) (65536 * t + s.1) (s.2.2 89 (65536 * t + s.1 + 1)))
          rw [show 65536 * t + (s.1 + 1) = 65536 * t + s.1 + 1 by omega]
          exact SHF_s a7 (by decide) (by omega)
  · unfold kfl_tb_remove_125
    rw [show m.2 78 = K.2 78 from fr2 hm.2.1 78 rfl, cut_i (z := K.2 78 t - 1) (by omega) (by omega)]
    exact RP_some ⟨m, hm, rfl⟩
def rmJ (t e n : Int) (M : mR) (s : Int × mR) : Prop := (e ≤ s.1 ∧ s.1 ≤ n) ∧ fr [] [140, 141, 142, 143, 144] M s.2 ∧ SHF (4 * (96 * t + e)) (4 * (96 * t + s.1)) 4 (M.2 142) (s.2.2 142) ∧ SHF (4 * (96 * t + e)) (4 * (96 * t + s.1)) 4 (M.2 143) (s.2.2 143) ∧ SHF (4 * (96 * t + e)) (4 * (96 * t + s.1)) 4 (M.2 144) (s.2.2 144) ∧ SHF (96 * t + e) (96 * t + s.1) 1 (M.2 140) (s.2.2 140) ∧ SHF (96 * t + e) (96 * t + s.1) 1 (M.2 141) (s.2.2 141)
theorem rem_r {e n : Int} (t0 : 0 ≤ t) (t1 : t < 8) (hn : M.2 139 t = n) (n1 : n ≤ 72) (e0 : 0 ≤ e) (e1 : e ≤ n) : RP (whl (rfb_entryGoes_24 t) (e, M)) (fun m => rmJ t e n M (n, m)) := by
  refine RP_whl (I := rmJ t e n M) (fun s hs => ?_) ⟨⟨Int.le_refl _, e1⟩, fr_0, SHF_0, SHF_0, SHF_0, SHF_0, SHF_0⟩
  obtain ⟨⟨a0, a1⟩, a2, a3, a4, a5, a6, a7⟩ := hs
  unfold rfb_entryGoes_24 rf_slot
  rw [show s.2.2 139 = M.2 139 from fr2 a2 139 rfl, hn]
  refine RP_ite (fun g => RP_some ?_) (fun g => ?_)
  · have e' : s.1 = n := by omega
    show rmJ t e n M (n, s.2)
    rw [← e']
    exact ⟨⟨a0, by omega⟩, a2, a3, a4, a5, a6, a7⟩
  · rw [bnd_some, cut_i (z := 96 * t) (by omega) (by omega), cut_i (z := 96 * t + s.1) (by omega) (by omega), cut_i (z := 96 * t + s.1 + 1) (by omega) (by omega), cut_i (z := 4 * (96 * t + s.1)) (by omega) (by omega)]
    refine RP_bnd (P := fun m => fr [] [140, 141, 142, 143, 144] M m ∧ SHF (4 * (96 * t + e)) (4 * (96 * t + s.1) + 4) 4 (M.2 142) (m.2 142) ∧ SHF (4 * (96 * t + e)) (4 * (96 * t + s.1) + 4) 4 (M.2 143) (m.2 143) ∧ SHF (4 * (96 * t + e)) (4 * (96 * t + s.1) + 4) 4 (M.2 144) (m.2 144) ∧ m.2 140 = upI (s.2.2 140) (96 * t + s.1) (s.2.2 140 (96 * t + s.1 + 1)) ∧ m.2 141 = upI (s.2.2 141) (96 * t + s.1) (s.2.2 141 (96 * t + s.1 + 1))) (RP_whl (I := fun u : Int × mR => (4 * (96 * t + s.1) ≤ u.1 ∧ u.1 ≤ 4 * (96 * t + s.1) + 4) ∧ fr [] [140, 141, 142, 143, 144] M u.2 ∧ SHF (4 * (96 * t + e)) u.1 4 (M.2 142) (u.2.2 142) ∧ SHF (4 * (96 * t + e)) u.1 4 (M.2 143) (u.2.2 143) ∧ SHF (4 * (96 * t + e)) u.1 4 (M.2 144) (u.2.2 144) ∧ u.2.2 140 = upI (s.2.2 140) (96 * t + s.1) (s.2.2 140 (96 * t + s.1 + 1)) ∧ u.2.2 141 = upI (s.2.2 141) (96 * t + s.1) (s.2.2 141 (96 * t + s.1 + 1))) (fun u hu => ?_) ⟨⟨Int.le_refl _, show 4 * (96 * t + s.1) ≤ 4 * (96 * t + s.1) + 4 by omega⟩, fr_m a2 rfl rfl, a3, a4, a5, rfl, rfl⟩) (fun m hm => ?_)
    · obtain ⟨⟨b0, b1⟩, b2, b3, b4, b5, b6, b7⟩ := hu
      unfold rfb_entryGoes_80
      rw [cut_i (z := 4 * (96 * t + s.1)) (by omega) (by omega), cut_i (z := 4 * (96 * t + s.1) + 4) (by omega) (by omega)]
      refine RP_ite (fun q => RP_some ?_) (fun q => ?_)
      · have e' : u.1 = 4 * (96 * t + s.1) + 4 := by omega
        rw [e'] at b3 b4 b5
        exact ⟨b2, b3, b4, b5, b6, b7⟩
      · rw [cut_i (z := u.1 + 4) (by omega) (by omega), cut_i (z := u.1 + 1) (by omega) (by omega)]
        exact RP_some ⟨⟨show 4 * (96 * t + s.1) ≤ u.1 + 1 by omega, show u.1 + 1 ≤ _ by omega⟩, fr_m b2 rfl rfl, SHF_s b3 (by decide) (by omega), SHF_s b4 (by decide) (by omega), SHF_s b5 (by decide) (by omega), b6, b7⟩
    · obtain ⟨c2, c3, c4, c5, c6, c7⟩ := hm
      unfold rfl_entryGoes_145
      rw [cut_i (z := s.1 + 1) (by omega) (by omega)]
      have ee : 4 * (96 * t + s.1) + 4 = 4 * (96 * t + (s.1 + 1)) := by omega
      rw [ee] at c3 c4 c5
      refine RP_some (show rmJ t e n M (s.1 + 1, m) from ⟨⟨show e ≤ s.1 + 1 by omega, show s.1 + 1 ≤ n by omega⟩, c2, c3, c4, c5, ?_, ?_⟩)
      · show SHF _ (96 * t + (s.1 + 1)) 1 _ (m.2 140)
        rw [c6, show 96 * t + (s.1 + 1) = 96 * t + s.1 + 1 by omega]
        exact SHF_s a6 (by decide) (by omega)
      · show SHF _ (96 * t + (s.1 + 1)) 1 _ (m.2 141)
        rw [c7, show 96 * t + (s.1 + 1) = 96 * t + s.1 + 1 by omega]
        exact SHF_s a7 (by decide) (by omega)
end TQ4
