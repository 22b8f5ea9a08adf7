/-! ===== WHAT THE NAMES STAND FOR ===== -/
def KPp (n : Int) (so ix : Int → Int) (hd ins mt ar st ac tb : Int) : Prop := ∀ i, 0 ≤ i → i < n → (so i = 300 → ix i < hd) ∧ (so i = 301 → ix i < ins) ∧ (so i = 302 → ix i < mt) ∧ (so i = 303 → ix i < ar) ∧ (so i = 304 → ix i < st ∨ 16 ≤ ix i) ∧ (so i = 309 → ix i < ac) ∧ (so i = 310 → ix i < tb)
def KNo (n : Int) (so ix : Int → Int) (s r : Int) : Prop := ∃ k, 0 ≤ k ∧ k < n ∧ so k = s ∧ r = ix k
def KMk (n n' : Int) (so so' ix ix' : Int → Int) (s x : Int) : Prop := (n' = n ∧ so' = so ∧ ix' = ix) ∨ (n' = n + 1 ∧ so' = upI so n s ∧ ix' = upI ix n x)
theorem KPp_mk {n n' : Int} {so so' ix ix' : Int → Int} {s x hd ins mt ar st ac tb hd' ins' mt' ar' st' ac' tb' : Int} (H : KPp n so ix hd ins mt ar st ac tb) (h : KMk n n' so so' ix ix' s x) (h1 : hd ≤ hd') (h2 : ins ≤ ins') (h3 : mt ≤ mt') (h4 : ar ≤ ar') (h5 : st ≤ st') (h6 : ac ≤ ac') (h7 : tb ≤ tb') (hx : (s = 300 → x < hd') ∧ (s = 301 → x < ins') ∧ (s = 302 → x < mt') ∧ (s = 303 → x < ar') ∧ (s = 304 → x < st' ∨ 16 ≤ x) ∧ (s = 309 → x < ac') ∧ (s = 310 → x < tb')) : KPp n' so' ix' hd' ins' mt' ar' st' ac' tb' := by
  intro i i0 i1
  rcases h with ⟨rfl, rfl, rfl⟩ | ⟨rfl, rfl, rfl⟩
  · have := H i i0 i1
    omega
  · by_cases e : i = n
    · subst e
      rw [upI_s, upI_s]
      exact hx
    · rw [upI_n e, upI_n e]
      have := H i i0 (by omega)
      omega
theorem KPp_0 {so ix : Int → Int} {hd ins mt ar st ac tb : Int} : KPp 0 so ix hd ins mt ar st ac tb := fun i a b => absurd b (by omega)
theorem KNo_w {n : Int} {so ix : Int → Int} {s r hd ins mt ar st ac tb : Int} (H : KPp n so ix hd ins mt ar st ac tb) (h : KNo n so ix s r) : (s = 300 → r < hd) ∧ (s = 301 → r < ins) ∧ (s = 302 → r < mt) ∧ (s = 303 → r < ar) ∧ (s = 304 → r < st ∨ 16 ≤ r) ∧ (s = 309 → r < ac) ∧ (s = 310 → r < tb) := by
  obtain ⟨k, k0, k1, rfl, rfl⟩ := h
  exact H k k0 k1
