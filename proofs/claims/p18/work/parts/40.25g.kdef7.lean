/-! ===== THE STEPS OF THE CONTROL ===== -/
def SRp (kd rt tb de tc dn : Int) : Prop := (kd = 1 → 0 ≤ rt) ∧ (kd = 2 → 0 ≤ tb ∧ tb < tc) ∧ (kd = 0 → 0 ≤ de ∧ de < dn)
def SPp (n : Int) (kd rt tb de : Int → Int) (tc dn : Int) : Prop := ∀ s, 0 ≤ s → s < n → SRp (kd s) (rt s) (tb s) (de s) tc dn
theorem SP_0 {kd rt tb de : Int → Int} {tc dn : Int} : SPp 0 kd rt tb de tc dn := fun s a b => absurd b (by omega)
theorem SP_new {n n' tc dn dn' : Int} {kd rt tb de kd' rt' tb' de' : Int → Int} (H : SPp n kd rt tb de tc dn) (a1 : agr kd kd' n) (a2 : agr rt rt' n) (a3 : agr tb tb' n) (a4 : agr de de' n) (hd : dn ≤ dn') (hn : n' = n + 1) (h : SRp (kd' n) (rt' n) (tb' n) (de' n) tc dn') : SPp n' kd' rt' tb' de' tc dn' := by
  intro s h0 h1
  by_cases e : s = n
  · rw [e]
    exact h
  · rw [a1 s h0 (by omega), a2 s h0 (by omega), a3 s h0 (by omega), a4 s h0 (by omega)]
    have := H s h0 (by omega)
    unfold SRp at this ⊢
    omega
theorem SR_1 {kd rt tb de tc dn : Int} (h : kd = 1) (h1 : 0 ≤ rt) : SRp kd rt tb de tc dn := by
  unfold SRp
  omega
theorem SR_2 {kd rt tb de tc dn : Int} (h : kd = 2) (h1 : 0 ≤ tb ∧ tb < tc) : SRp kd rt tb de tc dn := by
  unfold SRp
  omega
theorem SR_0c {kd rt tb de tc dn : Int} (h : kd = 0) (h1 : 0 ≤ de ∧ de < dn) : SRp kd rt tb de tc dn := by
  unfold SRp
  omega
theorem agr_e {f g : Int → Int} {n i x : Int} (e : g = upI f i x) (h : n ≤ i) : agr f g n := by
  rw [e]
  exact agr_u h
