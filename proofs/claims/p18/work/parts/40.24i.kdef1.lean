/-! ===== WHAT THE NAMES STAND FOR ===== -/
def KPp (n : Int) (so ix : Int → Int) (hd ins mt ar st ac tb : Int) : Prop := ∀ i, 0 ≤ i → i < n → (so i = 300 → ix i < hd) ∧ (so i = 301 → ix i < ins) ∧ (so i = 302 → ix i < mt) ∧ (so i = 303 → ix i < ar) ∧ (so i = 304 → ix i < st ∨ 16 ≤ ix i) ∧ (so i = 309 → ix i < ac) ∧ (so i = 310 → ix i < tb)
def KNo (n : Int) (so ix : Int → Int) (s r : Int) : Prop := ∃ k, 0 ≤ k ∧ k < n ∧ so k = s ∧ r = ix k
def KMk (n n' : Int) (so so' ix ix' : Int → Int) (s x : Int) : Prop := (n' = n ∧ so' = so ∧ ix' = ix) ∨ (n' = n + 1 ∧ so' = upI so n s ∧ ix' = upI ix n x)
theorem KPp_mk {n n' : Int} {so so' ix ix' : Int → Int} {s x hd ins mt ar st ac tb hd' ins' mt' ar' st' ac' tb' : Int} (H : KPp n so ix hd ins mt ar st ac tb) (h : KMk n n' so so' ix ix' s x) (h1 : hd ≤ hd') (h2 : ins ≤ ins') (h3 : mt ≤ mt') (h4 : ar ≤ ar') (h5 : st ≤ st') (h6 : ac ≤ ac') (h7 : tb ≤ tb') (hx : (s = 300 → x < hd') ∧ (s = 301 → x < ins') ∧ (s = 302 → x < mt') ∧ (s = 303 → x < ar') ∧ (s = 304 → x < st' ∨ 16 ≤ x) ∧ (s = 309 → x < ac') ∧ (s = 310 → x < tb')) : KPp n' so' ix' hd' ins' mt' ar' st' ac' tb' := by
  intro i i0 i1
  rcases h with ⟨rfl, rfl, rfl⟩ | ⟨rfl, rfl, rfl⟩
  · have := H i i0 i1
    omega
  · by_cases e : i = n
    · subst e
      rw [upI_s, upI_s]
      exact hx
    · rw [upI_n e, upI_n e]
      have := H i i0 (by omega)
      omega
theorem KPp_0 {so ix : Int → Int} {hd ins mt ar st ac tb : Int} : KPp 0 so ix hd ins mt ar st ac tb := fun i a b => absurd b (by omega)
theorem KNo_w {n : Int} {so ix : Int → Int} {s r hd ins mt ar st ac tb : Int} (H : KPp n so ix hd ins mt ar st ac tb) (h : KNo n so ix s r) : (s = 300 → r < hd) ∧ (s = 301 → r < ins) ∧ (s = 302 → r < mt) ∧ (s = 303 → r < ar) ∧ (s = 304 → r < st ∨ 16 ≤ r) ∧ (s = 309 → r < ac) ∧ (s = 310 → r < tb) := by
  obtain ⟨k, k0, k1, rfl, rfl⟩ := h
  exact H k k0 k1
/-! entries of tables: which actions they choose -/
def LSp (t n a : Int) (ls : Int → Int) : Prop := ∃ i, 0 ≤ i ∧ i < n ∧ ls (65536 * t + i) = a
theorem LS_i {t n a i : Int} {ls : Int → Int} (h0 : 0 ≤ i) (h1 : i < n) (h : ls (65536 * t + i) = a) : LSp t n a ls := ⟨i, h0, h1, h⟩
theorem LS_b {t n a : Int} {ls : Int → Int} (H : LSp t n a ls) (h : ∀ j, 0 ≤ ls j ∧ ls j ≤ 15) : 0 ≤ a ∧ a ≤ 15 := by
  obtain ⟨i, -, -, rfl⟩ := H
  exact h _
def CHp (t h k : Int) (c d : Int → Int) : Prop := (∀ i, (i < 65536 * t ∨ 65536 * t + 65536 ≤ i) → d i = c i) ∧ (∀ j, 0 ≤ j → j < h - 1 → d (65536 * t + j) = c (65536 * t + j) ∨ d (65536 * t + j) = c (65536 * t + (j + 1))) ∧ (∀ j, k ≤ j → j < 65536 → d (65536 * t + j) = c (65536 * t + j))
theorem CH_0 {t h k : Int} {c : Int → Int} : CHp t h k c c := ⟨fun _ _ => rfl, fun _ _ _ => Or.inl rfl, fun _ _ _ => rfl⟩
theorem CH_s {t h k k' i : Int} {c d : Int → Int} (H : CHp t h k c d) (h0 : 0 ≤ k) (h1 : k < 100) (hi : i = k + 1) (hk : k' = k + 1) : CHp t h k' c (upI d (65536 * t + k) (d (65536 * t + i))) := by
  subst hi hk
  obtain ⟨H1, H2, H3⟩ := H
  refine ⟨fun i hi => ?_, fun j a b => ?_, fun j a b => ?_⟩
  · rw [upI_n (by omega)]
    exact H1 i hi
  · by_cases e : j = k
    · right
      rw [e, upI_s]
      exact H3 (k + 1) (by omega) (by omega)
    · rw [upI_n (by omega)]
      exact H2 j a b
  · rw [upI_n (by omega)]
    exact H3 j (by omega) b
def TCp (n : Int) (hl ch : Int → Int) (b : Int) : Prop := ∀ u, 0 ≤ u → u < n → ∀ e, 0 ≤ e → e < hl u → ch (65536 * u + e) < b
theorem TC_z {n b : Int} {hl ch : Int → Int} (h : ∀ u, 0 ≤ u → u < n → hl u = 0) : TCp n hl ch b := fun u a c e a2 c2 => by
  have := h u a c
  omega
theorem TC_rm {n b t k h' : Int} {hl ch ch' : Int → Int} (H : TCp n hl ch b) (hm : ∀ u, hl u ≤ 72) (hc : CHp t (hl t) k ch ch') (e' : h' = hl t - 1) : TCp n (upI hl t h') ch' b := by
  subst e'
  obtain ⟨H1, H2, -⟩ := hc
  intro u a c e a2 c2
  by_cases hu : u = t
  · subst hu
    rw [upI_s] at c2
    rcases H2 e a2 c2 with h | h
    · rw [h]
      exact H u a c e a2 (by omega)
    · rw [h]
      exact H u a c (e + 1) (by omega) (by omega)
  · rw [upI_n hu] at c2
    have := hm u
    rw [H1 _ (by omega)]
    exact H u a c e a2 c2
theorem TC_ad {n b t x i : Int} {hl hl' ch : Int → Int} (H : TCp n hl ch b) (hm : ∀ u, hl' u ≤ 72) (hi : 0 ≤ i ∧ i < 72) (hh : ∀ u, hl' u = hl u ∨ (u = t ∧ hl' u = hl u + 1 ∧ i = hl u)) (hx : 0 ≤ t → t < n → x < b) : TCp n hl' (upI ch (65536 * t + i) x) b := by
  intro u a c e a2 c2
  have h7 := hm u
  by_cases he : u = t ∧ e = i
  · obtain ⟨rfl, rfl⟩ := he
    rw [upI_s]
    exact hx a c
  · rw [upI_n (by omega)]
    rcases hh u with h | ⟨h1, h2, h3⟩
    · exact H u a c e a2 (by omega)
    · exact H u a c e a2 (by omega)
def ZHp (n : Int) (h : Int → Int) : Prop := ∀ u, 0 ≤ u → u < n → h u = 0
theorem ZH_0 {h : Int → Int} : ZHp 0 h := fun u a b => absurd b (by omega)
theorem ZH_s {n n' : Int} {h h' : Int → Int} (H : ZHp n h) (e : n' = n + 1) (h1 : ∀ u, u ≠ n → h' u = h u) (h2 : h' n = 0) : ZHp n' h' := fun u a b => by
  by_cases hu : u = n
  · rw [hu]; exact h2
  · rw [h1 u hu]; exact H u a (by omega)
