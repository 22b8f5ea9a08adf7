/-! ===== STATEMENTS, ACTIONS, TABLES, STEPS ===== -/
def cdr (sg : Int → Int) (n a b : Int) : Prop := okc sg a b ∧ b ≤ n
theorem cdr_f {sg sg' : Int → Int} {n n' a b : Int} (h : cdr sg n a b) (g : agr sg sg' n) (hn : n ≤ n') : cdr sg' n' a b := ⟨okc_agr h.1 g h.2, Int.le_trans h.2 hn⟩
def TdR (sg : Int → Int) (n ar s : Int) (td ta xf xt ef et : Int → Int) : Prop := ((td s = 1 ∨ td s = 328) → cdr sg n (ef s) (et s)) ∧ ((td s = 327 ∨ td s = 328) → cdr sg n (xf s) (xt s) ∧ ta s < ar)
def TdP (sg : Int → Int) (n ar k : Int) (td ta xf xt ef et : Int → Int) : Prop := ∀ s, 0 ≤ s → s < k → TdR sg n ar s td ta xf xt ef et
section TDS
variable {sg sg' td ta xf xt ef et td' ta' xf' xt' ef' et' : Int → Int} {n n' ar k : Int}
theorem TdP_f (H : TdP sg n ar k td ta xf xt ef et) (g : agr sg sg' n) (hn : n ≤ n') (a1 : agr td td' k) (a2 : agr ta ta' k) (a3 : agr xf xf' k) (a4 : agr xt xt' k) (a5 : agr ef ef' k) (a6 : agr et et' k) : TdP sg' n' ar k td' ta' xf' xt' ef' et' := by
  intro s s0 s1
  obtain ⟨h1, h2⟩ := H s s0 s1
  unfold TdR
  rw [a1 s s0 s1, a2 s s0 s1, a3 s s0 s1, a4 s s0 s1, a5 s s0 s1, a6 s s0 s1]
  exact ⟨fun h => cdr_f (h1 h) g hn, fun h => ⟨cdr_f (h2 h).1 g hn, (h2 h).2⟩⟩
theorem TdP_g (H : TdP sg n ar k td ta xf xt ef et) (g : agr sg sg' n) (hn : n ≤ n') : TdP sg' n' ar k td ta xf xt ef et := TdP_f H g hn (agr_r _ _) (agr_r _ _) (agr_r _ _) (agr_r _ _) (agr_r _ _) (agr_r _ _)
theorem TdP_ar {ar' : Int} (H : TdP sg n ar k td ta xf xt ef et) (h : ar ≤ ar') : TdP sg n ar' k td ta xf xt ef et := by
  intro s s0 s1
  obtain ⟨h1, h2⟩ := H s s0 s1
  exact ⟨h1, fun q => ⟨(h2 q).1, Int.lt_of_lt_of_le (h2 q).2 h⟩⟩
theorem TdP_add (H : TdP sg n ar k td ta xf xt ef et) (h : TdR sg n ar k td ta xf xt ef et) : TdP sg n ar (k + 1) td ta xf xt ef et := by
  intro s s0 s1
  by_cases e : s = k
  · subst e
    exact h
  · exact H s s0 (by omega)
end TDS
def AcP (ac k : Int) (ft sm : Int → Int) : Prop := ∀ a, 0 ≤ a → a < ac → ft a + sm a ≤ k
theorem AcP_k {ac k k' : Int} {ft sm : Int → Int} (H : AcP ac k ft sm) (h : k ≤ k') : AcP ac k' ft sm := fun a a0 a1 => Int.le_trans (H a a0 a1) h
theorem AcP_add {ac k : Int} {ft sm ft' sm' : Int → Int} (H : AcP ac k ft sm) (a1 : agr ft ft' ac) (a2 : agr sm sm' ac) (h : ft' ac + sm' ac ≤ k) : AcP (ac + 1) k ft' sm' := by
  intro a p q
  by_cases e : a = ac
  · subst e
    exact h
  · rw [a1 a p (by omega), a2 a p (by omega)]
    exact H a p (by omega)
def TbR (sg : Int → Int) (n ac t : Int) (tk kf kt te ta lo tx tr : Int → Int) : Prop := (∀ k, 4 * t ≤ k → k < 4 * t + tk t → cdr sg n (kf k) (kt k)) ∧ te t < ac ∧ (∀ k, 8 * t ≤ k → k < 8 * t + ta t → lo k < ac) ∧ (tx t = 1 → tr t ≤ 16) ∧ 1 ≤ tr t
def TbP (sg : Int → Int) (n ac tb : Int) (tk kf kt te ta lo tx tr : Int → Int) : Prop := ∀ t, 0 ≤ t → t < tb → TbR sg n ac t tk kf kt te ta lo tx tr
section TBS
variable {sg sg' tk kf kt te ta lo tx tr tk' kf' kt' te' ta' lo' tx' tr' : Int → Int} {n n' ac ac' tb : Int}
theorem TbP_f (H : TbP sg n ac tb tk kf kt te ta lo tx tr) (g : agr sg sg' n) (hn : n ≤ n') (ha : ac ≤ ac') (a1 : agr tk tk' tb) (a2 : agr kf kf' (4 * tb)) (a3 : agr kt kt' (4 * tb)) (a4 : agr te te' tb) (a5 : agr ta ta' tb) (a6 : agr lo lo' (8 * tb)) (a7 : agr tx tx' tb) (a8 : agr tr tr' tb) (r1 : ∀ j, 0 ≤ tk j ∧ tk j ≤ 4) (r2 : ∀ j, 0 ≤ ta j ∧ ta j ≤ 8) : TbP sg' n' ac' tb tk' kf' kt' te' ta' lo' tx' tr' := by
  intro t t0 t1
  obtain ⟨h1, h2, h3, h4, h5⟩ := H t t0 t1
  unfold TbR
  rw [a1 t t0 t1, a4 t t0 t1, a5 t t0 t1, a7 t t0 t1, a8 t t0 t1]
  have q1 := r1 t
  have q2 := r2 t
  refine ⟨fun k k0 k1 => ?_, by omega, fun k k0 k1 => ?_, h4, h5⟩
  · rw [a2 k (by omega) (by omega), a3 k (by omega) (by omega)]
    exact cdr_f (h1 k k0 k1) g hn
  · rw [a6 k (by omega) (by omega)]
    have := h3 k k0 k1
    omega
theorem TbP_g (H : TbP sg n ac tb tk kf kt te ta lo tx tr) (g : agr sg sg' n) (hn : n ≤ n') (ha : ac ≤ ac') (r1 : ∀ j, 0 ≤ tk j ∧ tk j ≤ 4) (r2 : ∀ j, 0 ≤ ta j ∧ ta j ≤ 8) : TbP sg' n' ac' tb tk kf kt te ta lo tx tr := TbP_f H g hn ha (agr_r _ _) (agr_r _ _) (agr_r _ _) (agr_r _ _) (agr_r _ _) (agr_r _ _) (agr_r _ _) (agr_r _ _) r1 r2
theorem TbP_add (H : TbP sg n ac tb tk kf kt te ta lo tx tr) (h : TbR sg n ac tb tk kf kt te ta lo tx tr) : TbP sg n ac (tb + 1) tk kf kt te ta lo tx tr := by
  intro t t0 t1
  by_cases e : t = tb
  · subst e
    exact h
  · exact H t t0 (by omega)
end TBS
def SpR (sg : Int → Int) (n k tb s : Int) (kd si st sf sto tt : Int → Int) : Prop := si s < s ∧ (kd s = 0 → st s < k) ∧ (kd s = 1 → cdr sg n (sf s) (sto s)) ∧ (kd s = 2 → 0 ≤ tt s ∧ tt s < tb)
def SpP (sg : Int → Int) (n k tb sp : Int) (kd si st sf sto tt : Int → Int) : Prop := ∀ s, 0 ≤ s → s < sp → SpR sg n k tb s kd si st sf sto tt
section SPS
variable {sg sg' kd si st sf sto tt kd' si' st' sf' sto' tt' : Int → Int} {n n' k k' tb sp : Int}
theorem SpP_f (H : SpP sg n k tb sp kd si st sf sto tt) (g : agr sg sg' n) (hn : n ≤ n') (hk : k ≤ k') (a1 : agr kd kd' sp) (a2 : agr si si' sp) (a3 : agr st st' sp) (a4 : agr sf sf' sp) (a5 : agr sto sto' sp) (a6 : agr tt tt' sp) : SpP sg' n' k' tb sp kd' si' st' sf' sto' tt' := by
  intro s s0 s1
  obtain ⟨h1, h2, h3, h4⟩ := H s s0 s1
  unfold SpR
  rw [a1 s s0 s1, a2 s s0 s1, a3 s s0 s1, a4 s s0 s1, a5 s s0 s1, a6 s s0 s1]
  exact ⟨h1, fun h => Int.lt_of_lt_of_le (h2 h) hk, fun h => cdr_f (h3 h) g hn, h4⟩
theorem SpP_add (H : SpP sg n k tb sp kd si st sf sto tt) (h : SpR sg n k tb sp kd si st sf sto tt) : SpP sg n k tb (sp + 1) kd si st sf sto tt := by
  intro s s0 s1
  by_cases e : s = sp
  · subst e
    exact h
  · exact H s s0 (by omega)
end SPS
/-- how many of the first n are true -/
def ctN (f : Int → Int) (n : Nat) : Int := match n with
  | 0 => 0
  | n + 1 => ctN f n + f n
def ct (f : Int → Int) (n : Int) : Int := ctN f n.toNat
theorem ctN_z {f : Int → Int} (n : Nat) (h : ∀ j : Int, 0 ≤ j → j < (n : Int) → f j = 0) : ctN f n = 0 := by
  induction n with
  | zero => rfl
  | succ n ih =>
    show ctN f n + f n = 0
    rw [ih (fun j a b => h j a (by omega)), h n (by omega) (by omega)]
    rfl
theorem ctN_up {f : Int → Int} {i x : Int} (n : Nat) (h : n ≤ i) : ctN (upI f i x) n = ctN f n := by
  induction n with
  | zero => rfl
  | succ n ih =>
    show ctN (upI f i x) n + upI f i x n = ctN f n + f n
    rw [ih (by omega), upI_n (by omega)]
theorem ctN_set {f : Int → Int} {i x : Int} (h0 : 0 ≤ i) (n : Nat) (h1 : i < n) : ctN (upI f i x) n = ctN f n - f i + x := by
  induction n with
  | zero => omega
  | succ n ih =>
    show ctN (upI f i x) n + upI f i x n = ctN f n + f n - f i + x
    by_cases e : i = n
    · subst e
      rw [ctN_up n (Int.le_refl _), upI_s]
      omega
    · rw [ih (by omega), upI_n (fun h => e h.symm)]
      omega
theorem ctN_le {f : Int → Int} (hf : ∀ j, 0 ≤ f j ∧ f j ≤ 1) (n : Nat) : 0 ≤ ctN f n ∧ ctN f n ≤ n := by
  induction n with
  | zero => exact ⟨Int.le_refl _, Int.le_refl _⟩
  | succ n ih =>
    have := hf n
    show 0 ≤ ctN f n + f n ∧ ctN f n + f n ≤ ((n + 1 : Nat) : Int)
    omega
theorem ct_set {f : Int → Int} {i n : Int} (hf : ∀ j, 0 ≤ f j ∧ f j ≤ 1) (h0 : 0 ≤ i) (h1 : i < n) (h2 : f i = 0) : ct (upI f i 1) n = ct f n + 1 ∧ ct (upI f i 1) n ≤ n := by
  have h3 := ctN_set (f := f) (x := 1) h0 n.toNat (by omega)
  have h4 := ctN_le (f := upI f i 1) (fun j => by unfold upI; split; exact ⟨by decide, by decide⟩; exact hf j) n.toNat
  unfold ct
  omega
