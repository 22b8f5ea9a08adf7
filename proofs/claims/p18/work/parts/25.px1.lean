/-! ===== WHAT A RUN CAN COME TO AT MOST (no count of steps, no bounds: what is stuck has no answer) ===== -/
section PMS
variable {X : ag_X} {E : am_En} {cn : Nat → Nat} {pg : Nat → am_M}
def Pc (X : ag_X) (E : am_En) (cn : Nat → Nat) (pg : Nat → am_M) (d mi : Nat) (av : List Value) (t : af_T) (Q : ag_Re af_T → Prop) : Prop := ∀ fuel r, ag_call af_O 8192 X E cn pg fuel d mi av t = some r → Q r
def Pm (bb : Nat) (X : ag_X) (E : am_En) (cn : Nat → Nat) (pg : Nat → am_M) (d : Nat) (me : am_M) (S : ag_St af_T) (Q : ag_Re af_T → Prop) : Prop := ∀ fuel n r, n ≤ bb → ag_run af_O 8192 X E cn (d + 1) (ag_call af_O 8192 X E cn pg fuel d) me n S = some r → Q r
variable {bb d : Nat} {me : am_M} {S S' : ag_St af_T} {Q Q' : ag_Re af_T → Prop} {i : am_I} {pc nc ns : Nat} {lv : List (Nat × Value)} {st : List Value} {t : af_T}
theorem Pm_0 : Pm 0 X E cn pg d me S Q := by
  intro fuel n r hn hr
  obtain rfl : n = 0 := by omega
  cases hr
theorem Pm_step (hi : me.2.2.2.2.2 S.1 = some i) (hs : ∀ call, ag_step af_O 8192 X E cn (d + 1) call me i S = some (.inl S')) (h : Pm bb X E cn pg d me S' Q) : Pm bb X E cn pg d me S Q := by
  intro fuel n r hn hr
  cases n with
  | zero => cases hr
  | succ n =>
    rw [ag_run, hi] at hr
    dsimp only at hr
    rw [hs] at hr
    exact h fuel n r (by omega) hr
theorem Pm_step1 (hi : me.2.2.2.2.2 S.1 = some i) (hs : ∀ call, ag_step af_O 8192 X E cn (d + 1) call me i S = some (.inl S')) (h : Pm bb X E cn pg d me S' Q) : Pm (bb + 1) X E cn pg d me S Q := by
  intro fuel n r hn hr
  cases n with
  | zero => cases hr
  | succ n =>
    rw [ag_run, hi] at hr
    dsimp only at hr
    rw [hs] at hr
    exact h fuel n r (by omega) hr
theorem Pm_no (hi : me.2.2.2.2.2 S.1 = some i) (hs : ∀ call, ag_step af_O 8192 X E cn (d + 1) call me i S = none) : Pm bb X E cn pg d me S Q := by
  intro fuel n r hn hr
  cases n with
  | zero => cases hr
  | succ n =>
    rw [ag_run, hi] at hr
    dsimp only at hr
    rw [hs] at hr
    cases hr
theorem Pm_end {r : ag_Re af_T} (hi : me.2.2.2.2.2 S.1 = some i) (hs : ∀ call, ag_step af_O 8192 X E cn (d + 1) call me i S = some (.inr r)) (h : Q r) : Pm bb X E cn pg d me S Q := by
  intro fuel n r' hn hr
  cases n with
  | zero => cases hr
  | succ n =>
    rw [ag_run, hi] at hr
    dsimp only at hr
    rw [hs] at hr
    cases hr
    exact h
theorem Pm_call {mi : Nat} {av rest : List Value} {Qc : ag_Re af_T → Prop} (hi : me.2.2.2.2.2 pc = some i) (hs : ∀ call, ag_step af_O 8192 X E cn (d + 1) call me i (pc, lv, st, t, nc, ns) = ag_back af_O 8192 E me.2.2.2.2.1 pc lv rest nc ns (call mi av t))
    (hc : Pc X E cn pg d mi av t Qc) (h : ∀ r, Qc r → (∃ v t' k n, r = (.inl v, t', k, n) ∧ Pm bb X E cn pg d me (pc + 3, lv, v.toList ++ rest, t', nc + k, ns + n) Q) ∨ (∃ x t' k n, r = (.inr x, t', k, n) ∧ am_covered me.2.2.2.2.1 pc = false ∧ Q (.inr x, t', nc + k, ns + n))) : Pm bb X E cn pg d me (pc, lv, st, t, nc, ns) Q := by
  intro fuel n r hn hr
  cases n with
  | zero => cases hr
  | succ n =>
    rw [ag_run, show me.2.2.2.2.2 (pc, lv, st, t, nc, ns).1 = some i from hi] at hr
    dsimp only at hr
    rw [hs] at hr
    cases hq : ag_call af_O 8192 X E cn pg fuel d mi av t with
    | none =>
      rw [hq] at hr
      cases hr
    | some rc =>
      rw [hq] at hr
      rcases h rc (hc fuel rc hq) with ⟨v, t', k, n', rfl, h2⟩ | ⟨x, t', k, n', rfl, h3, h2⟩
      · exact h2 fuel n r (by omega) hr
      · unfold ag_back at hr
        dsimp only at hr
        rw [h3, if_neg (fun e => nomatch e)] at hr
        dsimp only at hr
        cases hr
        exact h2
theorem Pc_of {mi : Nat} {av : List Value} (h : ∀ d bb, Pm bb X E cn pg d (pg mi) (0, lv_args 0 av, [], t, 0, 0) Q) (d : Nat) : Pc X E cn pg d mi av t Q := by
  intro fuel r hr
  cases d with
  | zero => cases hr
  | succ d =>
    unfold ag_call at hr
    split at hr
    · exact h d fuel fuel fuel r (Nat.le_refl _) hr
    · cases hr
theorem Tc_Pc {mi : Nat} {av : List Value} (h : Tc X E cn pg d mi av t Q) (g : Pc X E cn pg d mi av t Q') : ∃ r, Q r ∧ Q' r := by
  obtain ⟨r, hq, F, hF⟩ := h
  exact ⟨r, hq, g F r (hF F (Nat.le_refl _))⟩
theorem Pm_lv {a b : List (Nat × Value)} (h1 : ndk (a.map Prod.fst) = true) (h2 : ndk (b.map Prod.fst) = true) (hs : lvS a b) (h : Pm bb X E cn pg d me (pc, b, st, t, nc, ns) Q) : Pm bb X E cn pg d me (pc, a, st, t, nc, ns) Q := by
  intro fuel n r hn hr
  exact h fuel n r hn (lv_run n (pc, a, st, t, nc, ns) b r ⟨ndk_ok h1, ndk_ok h2, lvS_ok hs⟩ hr)
theorem Pm_w (h : Pm bb X E cn pg d me S Q) (hq : ∀ r, Q r → Q' r) : Pm bb X E cn pg d me S Q' := fun fuel n r hn hr => hq r (h fuel n r hn hr)
end PMS
abbrev PP (bb : Nat) (w : wX) (D : Nat) (me : am_M) (S : ag_St af_T) (Q : ag_Re af_T → Prop) : Prop := Pm bb w.1 (nm_E w.2.1 w.2.2.1 w.2.2.2) nm_cn pg D me S Q
abbrev PC (w : wX) (D mi : Nat) (av : List Value) (t : af_T) (Q : ag_Re af_T → Prop) : Prop := Pc w.1 (nm_E w.2.1 w.2.2.1 w.2.2.2) nm_cn pg D mi av t Q
/-! ===== functions that may have no answer ===== -/
def bnd {α β : Type} (x : Option α) (f : α → Option β) : Option β := match x with
  | none => none
  | some y => f y
def sel {α β γ : Type} (f : α → γ) (g : β → γ) (x : Sum α β) : γ := match x with
  | .inl a => f a
  | .inr b => g b
def whlN {σ ξ : Type} (f : σ → Option (Sum σ ξ)) (n : Nat) (s : σ) : Option ξ := match n with
  | 0 => none
  | n + 1 => bnd (f s) (sel (whlN f n) some)
theorem whlN_mono {σ ξ : Type} {f : σ → Option (Sum σ ξ)} {x : ξ} : ∀ {n k : Nat} {s : σ}, n ≤ k → whlN f n s = some x → whlN f k s = some x := by
  intro n
  induction n with
  | zero => intro k s _ h; cases h
  | succ n ih =>
    intro k s hk h
    obtain ⟨k, rfl⟩ : ∃ q, k = q + 1 := ⟨k - 1, by omega⟩
    unfold whlN at h ⊢
    cases hf : f s with
    | none => rw [hf] at h; cases h
    | some y =>
      rw [hf] at h
      cases y with
      | inl s' => exact ih (by omega) h
      | inr x' => exact h
noncomputable def whl {σ ξ : Type} (f : σ → Option (Sum σ ξ)) (s : σ) : Option ξ := @dite _ (∃ x, ∃ n, whlN f n s = some x) (Classical.propDecidable _) (fun h => some h.choose) (fun _ => none)
theorem whl_of {σ ξ : Type} {f : σ → Option (Sum σ ξ)} {s : σ} {x : ξ} {n : Nat} (h : whlN f n s = some x) : whl f s = some x := by
  have hx : ∃ x, ∃ n, whlN f n s = some x := ⟨x, n, h⟩
  unfold whl
  rw [dif_pos hx]
  obtain ⟨k, hk⟩ := hx.choose_spec
  have e1 := whlN_mono (Nat.le_max_left n k) h
  have e2 := whlN_mono (Nat.le_max_right n k) hk
  rw [e1] at e2
  exact e2.symm
theorem whl_ex {σ ξ : Type} {f : σ → Option (Sum σ ξ)} {s : σ} {x : ξ} (h : whl f s = some x) : ∃ n, whlN f n s = some x := by
  unfold whl at h
  split at h
  · rename_i hx
    cases h
    exact hx.choose_spec
  · cases h
theorem whl_eq {σ ξ : Type} (f : σ → Option (Sum σ ξ)) (s : σ) : whl f s = bnd (f s) (sel (whl f) some) := by
  cases hf : f s with
  | none =>
    cases hw : whl f s with
    | none => rfl
    | some x =>
      obtain ⟨n, hn⟩ := whl_ex hw
      cases n with
      | zero => cases hn
      | succ n =>
        unfold whlN at hn
        rw [hf] at hn
        cases hn
  | some y =>
    cases y with
    | inr x =>
      refine whl_of (n := 1) ?_
      unfold whlN
      rw [hf]
      rfl
    | inl s' =>
      show whl f s = whl f s'
      cases hw : whl f s' with
      | some x =>
        obtain ⟨n, hn⟩ := whl_ex hw
        refine whl_of (n := n + 1) ?_
        unfold whlN
        rw [hf]
        exact hn
      | none =>
        cases hv : whl f s with
        | none => rfl
        | some x =>
          obtain ⟨n, hn⟩ := whl_ex hv
          cases n with
          | zero => cases hn
          | succ n =>
            unfold whlN at hn
            rw [hf] at hn
            have hn : whlN f n s' = some x := hn
            rw [whl_of hn] at hw
            cases hw
def QS {α : Type} (F : α → ag_Re af_T → Prop) (T : Option α) : ag_Re af_T → Prop := fun r => ∃ y, T = some y ∧ F y r
theorem QS_b {α β : Type} {F : β → ag_Re af_T → Prop} {T : Option α} {k : α → Option β} {r : ag_Re af_T} (h : QS (fun y => QS F (k y)) T r) : QS F (bnd T k) r := by
  obtain ⟨y, rfl, h2⟩ := h
  exact h2
section PM3
variable {bb : Nat} {X : ag_X} {E : am_En} {cn : Nat → Nat} {pg : Nat → am_M} {d : Nat} {me : am_M} {Q : ag_Re af_T → Prop} {pc nc ns N : Nat} {lv : List (Nat × Value)} {st : List Value} {t : af_T} {m : mR} {c : Nat → Option am_C} {l l' : List (Nat × Int)} {a a' : List (Nat × (Int → Int))}
theorem Pm_if {cd : ClassFile.Cond} {off x : Int} {n len p q r : Nat} (hi : me.2.2.2.2.2 pc = some (.ifCond cd off, len, p, q, r)) (ht : am_to pc off = some n) (hx : R32 x) (h1 : cz cd x 0 → Pm bb X E cn pg d me (n, lv, st, t, nc, ns) Q) (h2 : ¬ cz cd x 0 → Pm bb X E cn pg d me (pc + 3, lv, st, t, nc, ns) Q) : Pm bb X E cn pg d me (pc, lv, .int (i32 x) :: st, t, nc, ns) Q := by
  by_cases hc : cz cd x 0
  · refine Pm_step hi (fun call => ?_) (h1 hc)
    show ag_lift (am_br (am_c0 cd (i32 x)) pc off lv st) t nc ns = _
    rw [(cz_c0 hx).mpr hc]
    unfold am_br
    rw [ht]
    rfl
  · refine Pm_step hi (fun call => ?_) (h2 hc)
    show ag_lift (am_br (am_c0 cd (i32 x)) pc off lv st) t nc ns = _
    rw [Bool.eq_false_iff.mpr (fun h => hc ((cz_c0 hx).mp h))]
    unfold am_br
    rw [ht]
    rfl
theorem Pm_icmp {cd : ClassFile.Cond} {off x y : Int} {n len p q r : Nat} (hi : me.2.2.2.2.2 pc = some (.if_icmp cd off, len, p, q, r)) (ht : am_to pc off = some n) (hx : R32 x) (hy : R32 y) (h1 : cz cd x y → Pm bb X E cn pg d me (n, lv, st, t, nc, ns) Q) (h2 : ¬ cz cd x y → Pm bb X E cn pg d me (pc + 3, lv, st, t, nc, ns) Q) : Pm bb X E cn pg d me (pc, lv, .int (i32 y) :: .int (i32 x) :: st, t, nc, ns) Q := by
  by_cases hc : cz cd x y
  · refine Pm_step hi (fun call => ?_) (h1 hc)
    show ag_lift (am_br (am_c2 cd (i32 x) (i32 y)) pc off lv st) t nc ns = _
    rw [(cz_c2 hx hy).mpr hc]
    unfold am_br
    rw [ht]
    rfl
  · refine Pm_step hi (fun call => ?_) (h2 hc)
    show ag_lift (am_br (am_c2 cd (i32 x) (i32 y)) pc off lv st) t nc ns = _
    rw [Bool.eq_false_iff.mpr (fun h => hc ((cz_c2 hx hy).mp h))]
    unfold am_br
    rw [ht]
    rfl
theorem Pm_ev {v w : Int32} (e : v = w) (h : Pm bb X E cn pg d me (pc, lv, .int v :: st, t, nc, ns) Q) : Pm bb X E cn pg d me (pc, lv, .int w :: st, t, nc, ns) Q := e ▸ h
theorem Pm_getf {idx k len r : Nat} {v : Value} (hi : me.2.2.2.2.2 pc = some (.getfield idx, len, 12, k, 0)) (hk : k < 179) (hv : mfv (mO m l a) k = v) (h : Pm bb X E cn pg d me (pc + 3, lv, v :: st, (mhp (mO m l a) c, N), nc, ns) Q) : Pm bb X E cn pg d me (pc, lv, .ref 189 :: st, (mhp (mO m l a) c, N), nc, ns) Q := by
  refine Pm_step hi (fun call => ?_) h
  show ag_liftH (ag_getfield af_O E 12 k 0 pc lv (Value.ref 189 :: st) (mhp (mO m l a) c, N)) nc ns = _
  unfold ag_getfield ag_do ad_getf
  dsimp only
  unfold ag_acc
  rw [show af_O.1 (mhp (mO m l a) c, N) 189 = _ from mhp_o _ c]
  dsimp only
  rw [if_pos rfl, mfl_at _ hk, hv]
  rfl
theorem Pm_putf {idx k len : Nat} {x : Int} {v : Value} (hi : me.2.2.2.2.2 pc = some (.putfield idx, len, 12, k, 0)) (hk : k < 179) (hf : am_fit (E.2.2.1 12 k) v = true) (hv : mfv (mO (mO m l a) [(k, x)] []) k = v) (hl : ins k x l = l') (h : Pm bb X E cn pg d me (pc + 3, lv, st, (mhp (mO m l' a) c, N), nc, ns) Q) : Pm bb X E cn pg d me (pc, lv, v :: .ref 189 :: st, (mhp (mO m l a) c, N), nc, ns) Q := by
  subst hl
  refine Pm_step hi (fun call => ?_) h
  show ag_liftH (ag_do af_O (ad_putf 12 k (E.2.2.1 12 k)) 3 pc lv (v :: Value.ref 189 :: st) (mhp (mO m l a) c, N)) nc ns = _
  unfold ag_do ad_putf
  dsimp only
  unfold ag_acc
  rw [show af_O.1 (mhp (mO m l a) c, N) 189 = _ from mhp_o _ c]
  dsimp only
  rw [if_pos ⟨rfl, by rw [mfl_len]; exact hk, hf⟩, mfl_set _ hk hv]
  show some (Sum.inl (pc + 3, lv, st, (fun j => if j = 189 then some (.inr (12, mfl (mO (mO m l a) [(k, x)] []))) else mhp (mO m l a) c j, N), nc, ns)) = _
  rw [mhp_setf, mO_f]
theorem Pm_iald {k q len p p' p'' : Nat} {i : Int} (hi : me.2.2.2.2.2 pc = some (.iaload, len, p, p', p'')) (hk : (mok k && (decide (mkd k = 3) && (decide (mcl k = q) && decide (mln k < 1000000)))) = true) (h0 : 0 ≤ i) (h1 : i < mln k) {f : Int → Int} (hf : (mO m l a).2 k = f) (h : Pm bb X E cn pg d me (pc + 1, lv, .int (i32 (f i)) :: st, (mhp (mO m l a) c, N), nc, ns) Q) : Pm bb X E cn pg d me (pc, lv, .int (i32 i) :: .ref q :: st, (mhp (mO m l a) c, N), nc, ns) Q := by
  subst hf
  simp only [Bool.and_eq_true, decide_eq_true_eq] at hk
  obtain ⟨k1, k2, rfl, k4⟩ := hk
  refine Pm_step hi (fun call => ?_) h
  show ag_liftH (ag_iaload af_O X pc lv (.int (i32 i) :: .ref (mcl k) :: st) (mhp (mO m l a) c, N)) nc ns = _
  unfold ag_iaload
  dsimp only
  rw [if_pos (mok_lt k1)]
  unfold ag_do ad_iald
  dsimp only
  unfold ag_acc
  rw [show af_O.1 (mhp (mO m l a) c, N) (mcl k) = _ from mhp_a _ c k1, mce3 _ k2]
  dsimp only
  rw [if_pos ⟨rfl, idx_in h0 h1 k4⟩, i32_nat h0 (by omega)]
  rfl
theorem Pm_bald {k q len p p' p'' : Nat} {i : Int} (hi : me.2.2.2.2.2 pc = some (.baload, len, p, p', p'')) (hk : (mok k && (decide (mkd k = 5) && (decide (mcl k = q) && decide (mln k < 1000000)))) = true) (h0 : 0 ≤ i) (h1 : i < mln k) {f : Int → Int} (hf : (mO m l a).2 k = f) (h : Pm bb X E cn pg d me (pc + 1, lv, .int (i32 (f i)) :: st, (mhp (mO m l a) c, N), nc, ns) Q) : Pm bb X E cn pg d me (pc, lv, .int (i32 i) :: .ref q :: st, (mhp (mO m l a) c, N), nc, ns) Q := by
  subst hf
  simp only [Bool.and_eq_true, decide_eq_true_eq] at hk
  obtain ⟨k1, k2, rfl, k4⟩ := hk
  refine Pm_step hi (fun call => ?_) h
  show ag_liftH (ag_baload af_O E pc lv (.int (i32 i) :: .ref (mcl k) :: st) (mhp (mO m l a) c, N)) nc ns = _
  unfold ag_baload
  dsimp only
  rw [if_pos (mok_lt k1)]
  unfold ag_do ad_bald
  dsimp only
  unfold ag_acc
  rw [show af_O.1 (mhp (mO m l a) c, N) (mcl k) = _ from mhp_a _ c k1, mce5 _ k2]
  dsimp only
  rw [if_pos ⟨Or.inr rfl, idx_in h0 h1 k4⟩, i32_nat h0 (by omega)]
  rfl
theorem Pm_lald {k q len p p' p'' : Nat} {i : Int} (hi : me.2.2.2.2.2 pc = some (.laload, len, p, p', p'')) (hk : (mok k && (decide (mkd k = 4) && (decide (mcl k = q) && decide (mln k < 1000000)))) = true) (h0 : 0 ≤ i) (h1 : i < mln k) {f : Int → Int} (hf : (mO m l a).2 k = f) (h : Pm bb X E cn pg d me (pc + 1, lv, .long (i64 (f i)) :: st, (mhp (mO m l a) c, N), nc, ns) Q) : Pm bb X E cn pg d me (pc, lv, .int (i32 i) :: .ref q :: st, (mhp (mO m l a) c, N), nc, ns) Q := by
  subst hf
  simp only [Bool.and_eq_true, decide_eq_true_eq] at hk
  obtain ⟨k1, k2, rfl, k4⟩ := hk
  refine Pm_step hi (fun call => ?_) h
  show ag_liftH (ag_do af_O ad_lald 1 pc lv (.int (i32 i) :: .ref (mcl k) :: st) (mhp (mO m l a) c, N)) nc ns = _
  unfold ag_do ad_lald
  dsimp only
  unfold ag_acc
  rw [show af_O.1 (mhp (mO m l a) c, N) (mcl k) = _ from mhp_a _ c k1, mce4 _ k2]
  dsimp only
  rw [if_pos ⟨rfl, idx_in h0 h1 k4⟩, i32_nat h0 (by omega)]
  rfl
theorem Pm_iast {k q len p p' p'' : Nat} {i x : Int} (hi : me.2.2.2.2.2 pc = some (.iastore, len, p, p', p'')) (hk : (mok k && (decide (mkd k = 3) && (decide (mcl k = q) && decide (mln k < 1000000)))) = true) (h0 : 0 ≤ i) (h1 : i < mln k) {f : Int → Int} (hf : (mO m l a).2 k = f) (ha : ins k (upI f i x) a = a') (h : Pm bb X E cn pg d me (pc + 1, lv, st, (mhp (mO m l a') c, N), nc, ns) Q) : Pm bb X E cn pg d me (pc, lv, .int (i32 x) :: .int (i32 i) :: .ref q :: st, (mhp (mO m l a) c, N), nc, ns) Q := by
  subst hf ha
  simp only [Bool.and_eq_true, decide_eq_true_eq] at hk
  obtain ⟨k1, k2, rfl, k4⟩ := hk
  refine Pm_step hi (fun call => ?_) h
  show ag_liftH (ag_do af_O ad_iast 1 pc lv (.int (i32 x) :: .int (i32 i) :: .ref (mcl k) :: st) (mhp (mO m l a) c, N)) nc ns = _
  unfold ag_do ad_iast
  dsimp only
  unfold ag_acc
  rw [show af_O.1 (mhp (mO m l a) c, N) (mcl k) = _ from mhp_a _ c k1, mce3 _ k2]
  dsimp only
  rw [if_pos ⟨rfl, idx_in h0 h1 k4⟩, upd_i32 h0 (by omega)]
  have e : (.inl (0, mln k, .inl (fun j : Nat => i32 (upI ((mO m l a).2 k) i x j))) : am_C) = mce (mO (mO m l a) [] [(k, upI ((mO m l a).2 k) i x)]) k := by
    rw [mce3 _ k2]
    show _ = (.inl (0, mln k, .inl (fun j : Nat => i32 ((if k = k then upI ((mO m l a).2 k) i x else _) j))) : am_C)
    rw [if_pos rfl]
  rw [e]
  show some (Sum.inl (pc + 1, lv, st, (fun j => if j = mcl k then some (mce (mO (mO m l a) [] [(k, upI ((mO m l a).2 k) i x)]) k) else mhp (mO m l a) c j, N), nc, ns)) = _
  rw [mhp_seta _ c k1, mO_a]
theorem Pm_last {k q len p p' p'' : Nat} {i x : Int} (hi : me.2.2.2.2.2 pc = some (.lastore, len, p, p', p'')) (hk : (mok k && (decide (mkd k = 4) && (decide (mcl k = q) && decide (mln k < 1000000)))) = true) (h0 : 0 ≤ i) (h1 : i < mln k) {f : Int → Int} (hf : (mO m l a).2 k = f) (ha : ins k (upI f i x) a = a') (h : Pm bb X E cn pg d me (pc + 1, lv, st, (mhp (mO m l a') c, N), nc, ns) Q) : Pm bb X E cn pg d me (pc, lv, .long (i64 x) :: .int (i32 i) :: .ref q :: st, (mhp (mO m l a) c, N), nc, ns) Q := by
  subst hf ha
  simp only [Bool.and_eq_true, decide_eq_true_eq] at hk
  obtain ⟨k1, k2, rfl, k4⟩ := hk
  refine Pm_step hi (fun call => ?_) h
  show ag_liftH (ag_do af_O ad_last 1 pc lv (.long (i64 x) :: .int (i32 i) :: .ref (mcl k) :: st) (mhp (mO m l a) c, N)) nc ns = _
  unfold ag_do ad_last
  dsimp only
  unfold ag_acc
  rw [show af_O.1 (mhp (mO m l a) c, N) (mcl k) = _ from mhp_a _ c k1, mce4 _ k2]
  dsimp only
  rw [if_pos ⟨rfl, idx_in h0 h1 k4⟩, upd_i64 h0 (by omega)]
  have e : (.inl (1, mln k, .inr (.inl (fun j : Nat => i64 (upI ((mO m l a).2 k) i x j)))) : am_C) = mce (mO (mO m l a) [] [(k, upI ((mO m l a).2 k) i x)]) k := by
    rw [mce4 _ k2]
    show _ = (.inl (1, mln k, .inr (.inl (fun j : Nat => i64 ((if k = k then upI ((mO m l a).2 k) i x else _) j)))) : am_C)
    rw [if_pos rfl]
  rw [e]
  show some (Sum.inl (pc + 1, lv, st, (fun j => if j = mcl k then some (mce (mO (mO m l a) [] [(k, upI ((mO m l a).2 k) i x)]) k) else mhp (mO m l a) c j, N), nc, ns)) = _
  rw [mhp_seta _ c k1, mO_a]
theorem Pm_bast {k q len p p' p'' : Nat} {i x : Int} (hi : me.2.2.2.2.2 pc = some (.bastore, len, p, p', p'')) (hk : (mok k && (decide (mkd k = 5) && (decide (mcl k = q) && decide (mln k < 1000000)))) = true) (h0 : 0 ≤ i) (h1 : i < mln k) (hx : x = 0 ∨ x = 1) {f : Int → Int} (hf : (mO m l a).2 k = f) (ha : ins k (upI f i x) a = a') (h : Pm bb X E cn pg d me (pc + 1, lv, st, (mhp (mO m l a') c, N), nc, ns) Q) : Pm bb X E cn pg d me (pc, lv, .int (i32 x) :: .int (i32 i) :: .ref q :: st, (mhp (mO m l a) c, N), nc, ns) Q := by
  subst hf ha
  simp only [Bool.and_eq_true, decide_eq_true_eq] at hk
  obtain ⟨k1, k2, rfl, k4⟩ := hk
  refine Pm_step hi (fun call => ?_) h
  show ag_liftH (ag_do af_O ad_bast 1 pc lv (.int (i32 x) :: .int (i32 i) :: .ref (mcl k) :: st) (mhp (mO m l a) c, N)) nc ns = _
  unfold ag_do ad_bast
  dsimp only
  unfold ag_acc
  rw [show af_O.1 (mhp (mO m l a) c, N) (mcl k) = _ from mhp_a _ c k1, mce5 _ k2]
  dsimp only
  rw [if_pos ⟨Or.inr rfl, idx_in h0 h1 k4⟩, nar01 hx, upd_i32 h0 (by omega)]
  have e : (.inl (3, mln k, .inl (fun j : Nat => i32 (upI ((mO m l a).2 k) i x j))) : am_C) = mce (mO (mO m l a) [] [(k, upI ((mO m l a).2 k) i x)]) k := by
    rw [mce5 _ k2]
    show _ = (.inl (3, mln k, .inl (fun j : Nat => i32 ((if k = k then upI ((mO m l a).2 k) i x else _) j))) : am_C)
    rw [if_pos rfl]
  rw [e]
  show some (Sum.inl (pc + 1, lv, st, (fun j => if j = mcl k then some (mce (mO (mO m l a) [] [(k, upI ((mO m l a).2 k) i x)]) k) else mhp (mO m l a) c j, N), nc, ns)) = _
  rw [mhp_seta _ c k1, mO_a]
end PM3
section PM4
variable {bb : Nat} {w : wX} {D : Nat} {me : am_M} {Q : ag_Re af_T → Prop} {pc nc ns N : Nat} {lv : List (Nat × Value)} {st : List Value} {t : af_T} {m : mR} {c : Nat → Option am_C} {l : List (Nat × Int)} {a : List (Nat × (Int → Int))} {i : am_I}
theorem P_ld (pc' : Nat) (v : Value) (hi : me.2.2.2.2.2 pc = some i) (hs : ∀ call, ag_step af_O 8192 w.1 (nm_E w.2.1 w.2.2.1 w.2.2.2) nm_cn (D + 1) call me i (pc, lv, st, t, nc, ns) = some (.inl (pc', lv, v :: st, t, nc, ns))) (h : PP bb w D me (pc', lv, v :: st, t, nc, ns) Q) : PP bb w D me (pc, lv, st, t, nc, ns) Q := Pm_step hi hs h
theorem P_sto (pc' : Nat) (lv' : List (Nat × Value)) {v : Value} (hi : me.2.2.2.2.2 pc = some i) (hs : ∀ call, ag_step af_O 8192 w.1 (nm_E w.2.1 w.2.2.1 w.2.2.2) nm_cn (D + 1) call me i (pc, lv, v :: st, t, nc, ns) = some (.inl (pc', lv', st, t, nc, ns))) (h : PP bb w D me (pc', lv', st, t, nc, ns) Q) : PP bb w D me (pc, lv, v :: st, t, nc, ns) Q := Pm_step hi hs h
theorem P_goto (pc' : Nat) (hi : me.2.2.2.2.2 pc = some i) (hs : ∀ call, ag_step af_O 8192 w.1 (nm_E w.2.1 w.2.2.1 w.2.2.2) nm_cn (D + 1) call me i (pc, lv, st, t, nc, ns) = some (.inl (pc', lv, st, t, nc, ns))) (h : PP bb w D me (pc', lv, st, t, nc, ns) Q) : PP bb w D me (pc, lv, st, t, nc, ns) Q := Pm_step hi hs h
theorem P_gf (pc' : Nat) (v : Value) {idx k k1 k2 k3 k4 : Nat} (hi0 : me.2.2.2.2.2 pc = some (.aload_n 0, 1, k1, k2, k3)) (hg : am_get lv 0 = some (.ref 189)) (hi : me.2.2.2.2.2 (pc + 1) = some (.getfield idx, k4, 12, k, 0)) (hk : decide (k < 179) = true) (hv : mfv (mO m l a) k = v) (hp : pc + 1 + 3 = pc') (h : PP bb w D me (pc', lv, v :: st, (mhp (mO m l a) c, N), nc, ns) Q) : PP bb w D me (pc, lv, st, (mhp (mO m l a) c, N), nc, ns) Q := by
  subst hp
  refine Pm_step (S' := (pc + 1, lv, .ref 189 :: st, (mhp (mO m l a) c, N), nc, ns)) hi0 (fun call => ?_) (Pm_getf (r := 0) hi (of_decide_eq_true hk) hv h)
  show ag_lift (am_aload 0 1 me.2.2.1 pc lv st) _ nc ns = _
  unfold am_aload
  rw [hg]
  rfl
theorem P_pf (pc' : Nat) {l' : List (Nat × Int)} (x : Int) {idx k len : Nat} {v : Value} (hi : me.2.2.2.2.2 pc = some (.putfield idx, len, 12, k, 0)) (hk : decide (k < 179) = true) (hf : am_fit (nm_ft 12 k) v = true) (hv : mfv (mO (mO m l a) [(k, x)] []) k = v) (hl : ins k x l = l') (hp : pc + 3 = pc') (h : PP bb w D me (pc', lv, st, (mhp (mO m l' a) c, N), nc, ns) Q) : PP bb w D me (pc, lv, v :: .ref 189 :: st, (mhp (mO m l a) c, N), nc, ns) Q := by
  subst hp
  exact Pm_putf hi (of_decide_eq_true hk) hf hv hl h
theorem P_gf1 (pc' : Nat) (v : Value) {idx k k4 : Nat} (hi : me.2.2.2.2.2 pc = some (.getfield idx, k4, 12, k, 0)) (hk : decide (k < 179) = true) (hv : mfv (mO m l a) k = v) (hp : pc + 3 = pc') (h : PP bb w D me (pc', lv, v :: st, (mhp (mO m l a) c, N), nc, ns) Q) : PP bb w D me (pc, lv, .ref 189 :: st, (mhp (mO m l a) c, N), nc, ns) Q := by
  subst hp
  exact Pm_getf (r := 0) hi (of_decide_eq_true hk) hv h
theorem P_pop (pc' : Nat) {u : Value} (hi : me.2.2.2.2.2 pc = some i) (hs : ∀ call, ag_step af_O 8192 w.1 (nm_E w.2.1 w.2.2.1 w.2.2.2) nm_cn (D + 1) call me i (pc, lv, u :: st, t, nc, ns) = some (.inl (pc', lv, st, t, nc, ns))) (h : PP bb w D me (pc', lv, st, t, nc, ns) Q) : PP bb w D me (pc, lv, u :: st, t, nc, ns) Q := Pm_step hi hs h
theorem P_dup2 (pc' : Nat) {u v : Value} (hi : me.2.2.2.2.2 pc = some i) (hs : ∀ call, ag_step af_O 8192 w.1 (nm_E w.2.1 w.2.2.1 w.2.2.2) nm_cn (D + 1) call me i (pc, lv, u :: v :: st, t, nc, ns) = some (.inl (pc', lv, u :: v :: u :: v :: st, t, nc, ns))) (h : PP bb w D me (pc', lv, u :: v :: u :: v :: st, t, nc, ns) Q) : PP bb w D me (pc, lv, u :: v :: st, t, nc, ns) Q := Pm_step hi hs h
theorem P_cast {x : Int} (v : Int) (e : x = v) (h : PP bb w D me (pc, lv, .int (i32 v) :: st, t, nc, ns) Q) : PP bb w D me (pc, lv, .int (i32 x) :: st, t, nc, ns) Q := e ▸ h
theorem P_iald (pc' k : Nat) {q len p p' p'' : Nat} {i : Int} (f : Int → Int) (hi : me.2.2.2.2.2 pc = some (.iaload, len, p, p', p'')) (hp : pc + 1 = pc') (hk : (mok k && (decide (mkd k = 3) && (decide (mcl k = q) && decide (mln k < 1000000)))) = true) (h0 : 0 ≤ i) (h1 : i < mln k) (hf : (mO m l a).2 k = f) (h : PP bb w D me (pc', lv, .int (i32 (f i)) :: st, (mhp (mO m l a) c, N), nc, ns) Q) : PP bb w D me (pc, lv, .int (i32 i) :: .ref q :: st, (mhp (mO m l a) c, N), nc, ns) Q := by
  subst hp
  exact Pm_iald hi hk h0 h1 hf h
theorem P_bald (pc' k : Nat) {q len p p' p'' : Nat} {i : Int} (f : Int → Int) (hi : me.2.2.2.2.2 pc = some (.baload, len, p, p', p'')) (hp : pc + 1 = pc') (hk : (mok k && (decide (mkd k = 5) && (decide (mcl k = q) && decide (mln k < 1000000)))) = true) (h0 : 0 ≤ i) (h1 : i < mln k) (hf : (mO m l a).2 k = f) (h : PP bb w D me (pc', lv, .int (i32 (f i)) :: st, (mhp (mO m l a) c, N), nc, ns) Q) : PP bb w D me (pc, lv, .int (i32 i) :: .ref q :: st, (mhp (mO m l a) c, N), nc, ns) Q := by
  subst hp
  exact Pm_bald hi hk h0 h1 hf h
theorem P_lald (pc' k : Nat) {q len p p' p'' : Nat} {i : Int} (f : Int → Int) (hi : me.2.2.2.2.2 pc = some (.laload, len, p, p', p'')) (hp : pc + 1 = pc') (hk : (mok k && (decide (mkd k = 4) && (decide (mcl k = q) && decide (mln k < 1000000)))) = true) (h0 : 0 ≤ i) (h1 : i < mln k) (hf : (mO m l a).2 k = f) (h : PP bb w D me (pc', lv, .long (i64 (f i)) :: st, (mhp (mO m l a) c, N), nc, ns) Q) : PP bb w D me (pc, lv, .int (i32 i) :: .ref q :: st, (mhp (mO m l a) c, N), nc, ns) Q := by
  subst hp
  exact Pm_lald hi hk h0 h1 hf h
theorem P_iast (pc' k : Nat) {a' : List (Nat × (Int → Int))} {q len p p' p'' : Nat} {i x : Int} (f : Int → Int) (hi : me.2.2.2.2.2 pc = some (.iastore, len, p, p', p'')) (hp : pc + 1 = pc') (hk : (mok k && (decide (mkd k = 3) && (decide (mcl k = q) && decide (mln k < 1000000)))) = true) (h0 : 0 ≤ i) (h1 : i < mln k) (hf : (mO m l a).2 k = f) (ha : ins k (upI f i x) a = a') (h : PP bb w D me (pc', lv, st, (mhp (mO m l a') c, N), nc, ns) Q) : PP bb w D me (pc, lv, .int (i32 x) :: .int (i32 i) :: .ref q :: st, (mhp (mO m l a) c, N), nc, ns) Q := by
  subst hp
  exact Pm_iast hi hk h0 h1 hf ha h
theorem P_last (pc' k : Nat) {a' : List (Nat × (Int → Int))} {q len p p' p'' : Nat} {i x : Int} (f : Int → Int) (hi : me.2.2.2.2.2 pc = some (.lastore, len, p, p', p'')) (hp : pc + 1 = pc') (hk : (mok k && (decide (mkd k = 4) && (decide (mcl k = q) && decide (mln k < 1000000)))) = true) (h0 : 0 ≤ i) (h1 : i < mln k) (hf : (mO m l a).2 k = f) (ha : ins k (upI f i x) a = a') (h : PP bb w D me (pc', lv, st, (mhp (mO m l a') c, N), nc, ns) Q) : PP bb w D me (pc, lv, .long (i64 x) :: .int (i32 i) :: .ref q :: st, (mhp (mO m l a) c, N), nc, ns) Q := by
  subst hp
  exact Pm_last hi hk h0 h1 hf ha h
theorem P_bast (pc' k : Nat) {a' : List (Nat × (Int → Int))} {q len p p' p'' : Nat} {i x : Int} (f : Int → Int) (hi : me.2.2.2.2.2 pc = some (.bastore, len, p, p', p'')) (hp : pc + 1 = pc') (hk : (mok k && (decide (mkd k = 5) && (decide (mcl k = q) && decide (mln k < 1000000)))) = true) (h0 : 0 ≤ i) (h1 : i < mln k) (hx : x = 0 ∨ x = 1) (hf : (mO m l a).2 k = f) (ha : ins k (upI f i x) a = a') (h : PP bb w D me (pc', lv, st, (mhp (mO m l a') c, N), nc, ns) Q) : PP bb w D me (pc, lv, .int (i32 x) :: .int (i32 i) :: .ref q :: st, (mhp (mO m l a) c, N), nc, ns) Q := by
  subst hp
  exact Pm_bast hi hk h0 h1 hx hf ha h
theorem P_tsd (pt : Nat) {dflt lo hi x : Int} {offs : Array Int} {len p q r : Nat} (hi' : me.2.2.2.2.2 pc = some (.tableswitch dflt lo hi offs, len, p, q, r)) (ht : am_to pc dflt = some pt) (hx : R32 x) (hr : x < lo ∨ hi < x) (h : PP bb w D me (pt, lv, st, t, nc, ns) Q) : PP bb w D me (pc, lv, .int (i32 x) :: st, t, nc, ns) Q := by
  refine Pm_step hi' (fun call => ?_) h
  show ag_lift (if (i32 x).toInt < lo ∨ hi < (i32 x).toInt then am_jump (am_to pc dflt) lv st else _) t nc ns = _
  rw [i32_to hx, if_pos hr, ht]
  rfl
theorem P_lkd (pt : Nat) {dflt x : Int} {ps : Array (Int × Int)} {len p q r : Nat} (hi' : me.2.2.2.2.2 pc = some (.lookupswitch dflt ps, len, p, q, r)) (ht : am_to pc dflt = some pt) (hx : R32 x) (ho : Op.lookupswitch.offset ps.toList dflt x = dflt) (h : PP bb w D me (pt, lv, st, t, nc, ns) Q) : PP bb w D me (pc, lv, .int (i32 x) :: st, t, nc, ns) Q := by
  refine Pm_step hi' (fun call => ?_) h
  show ag_lift (am_jump (am_to pc (Op.lookupswitch.offset ps.toList dflt (i32 x).toInt)) lv st) t nc ns = _
  rw [i32_to hx, ho, ht]
  rfl
end PM4
/-! ===== ints that are cut ===== -/
def cut (z : Int) : Int := (i32 z).toInt
def cutl (z : Int) : Int := (i64 z).toInt
theorem cut_r {z : Int} : R32 (cut z) := ⟨Int32.le_toInt _, Int32.toInt_lt _⟩
theorem cutl_r {z : Int} : R64 (cutl z) := ⟨Int64.le_toInt _, Int64.toInt_lt _⟩
theorem i32_cut (z : Int) : i32 (cut z) = i32 z := i32_of _
theorem i64_cut (z : Int) : i64 (cutl z) = i64 z := Int64.ofInt_toInt _
theorem cut_id {z : Int} (h : R32 z) : cut z = z := i32_to h
theorem cutl_id {z : Int} (h : R64 z) : cutl z = z := i64_to h
theorem cut_i {z : Int} (h1 : -2147483648 ≤ z) (h2 : z < 2147483648) : cut z = z := cut_id ⟨h1, h2⟩
theorem cutl_i {z : Int} (h1 : -9223372036854775808 ≤ z) (h2 : z < 9223372036854775808) : cutl z = z := cutl_id ⟨h1, h2⟩
theorem l32 (z : Int) (h : (decide (-2147483648 ≤ z) && decide (z < 2147483648)) = true) : R32 z := by
  rw [Bool.and_eq_true, decide_eq_true_eq, decide_eq_true_eq] at h
  exact h
theorem l64 (z : Int) (h : (decide (-9223372036854775808 ≤ z) && decide (z < 9223372036854775808)) = true) : R64 z := by
  rw [Bool.and_eq_true, decide_eq_true_eq, decide_eq_true_eq] at h
  exact h
theorem R32_64 {z : Int} (h : R32 z) : R64 z := ⟨by have := h.1; omega, by have := h.2; omega⟩
theorem t32_r {v : Int32} : R32 v.toInt := ⟨Int32.le_toInt _, Int32.toInt_lt _⟩
theorem t64_r {v : Int64} : R64 v.toInt := ⟨Int64.le_toInt _, Int64.toInt_lt _⟩
def and32 (x y : Int) : Int := (i32 x &&& i32 y).toInt
def or32 (x y : Int) : Int := (i32 x ||| i32 y).toInt
def xor32 (x y : Int) : Int := (i32 x ^^^ i32 y).toInt
def shl32 (x y : Int) : Int := (i32 x <<< (i32 y &&& 31)).toInt
def shr32 (x y : Int) : Int := (i32 x >>> (i32 y &&& 31)).toInt
def ushr32 (x y : Int) : Int := (((i32 x).toUInt32 >>> ((i32 y).toUInt32 &&& Int32.toUInt32 31)).toInt32).toInt
def i2b32 (x : Int) : Int := ((i32 x).toInt8.toInt32).toInt
def i2c32 (x : Int) : Int := (((i32 x).toUInt32 % 65536).toInt32).toInt
def and64 (x y : Int) : Int := (i64 x &&& i64 y).toInt
def or64 (x y : Int) : Int := (i64 x ||| i64 y).toInt
def xor64 (x y : Int) : Int := (i64 x ^^^ i64 y).toInt
def shl64 (x y : Int) : Int := (i64 x <<< ((i32 y).toInt64 &&& 63)).toInt
def shr64 (x y : Int) : Int := (i64 x >>> ((i32 y).toInt64 &&& 63)).toInt
def ushr64 (x y : Int) : Int := (((i64 x).toUInt64 >>> ((i32 y).toInt64.toUInt64 &&& Int64.toUInt64 63)).toInt64).toInt
def cmp64 (x y : Int) : Int := if y < x then 1 else if x = y then 0 else -1
theorem cmp64_r {x y : Int} : R32 (cmp64 x y) := by
  unfold cmp64
  split
  · exact ⟨by decide, by decide⟩
  · split
    · exact ⟨by decide, by decide⟩
    · exact ⟨by decide, by decide⟩
theorem o_cmp {x y : Int} (hx : R64 x) (hy : R64 y) : lg_cmp (i64 x) (i64 y) = i32 (cmp64 x y) := by
  have e1 : i64 x > i64 y ↔ y < x := by
    show i64 y < i64 x ↔ _
    rw [Int64.lt_iff_toInt_lt, i64_to hx, i64_to hy]
  have e2 : i64 x = i64 y ↔ x = y := ⟨fun h => by rw [← i64_to hx, ← i64_to hy, h], fun h => by rw [h]⟩
  unfold lg_cmp cmp64
  by_cases h1 : y < x
  · rw [if_pos (e1.mpr h1), if_pos h1]
    rfl
  · rw [if_neg (fun h => h1 (e1.mp h)), if_neg h1]
    by_cases h2 : x = y
    · rw [if_pos (e2.mpr h2), if_pos h2]
      rfl
    · rw [if_neg (fun h => h2 (e2.mp h)), if_neg h2]
      rfl
theorem o_add {x y : Int} : i32 x + i32 y = i32 (cut (x + y)) := (i32_add x y).trans (i32_cut _).symm
theorem o_sub {x y : Int} : i32 x - i32 y = i32 (cut (x - y)) := (i32_sub x y).trans (i32_cut _).symm
theorem o_mul {x y : Int} : i32 x * i32 y = i32 (cut (x * y)) := (i32_mul x y).trans (i32_cut _).symm
theorem o_neg {x : Int} : -(i32 x) = i32 (cut (-x)) := by
  rw [i32_cut]
  exact (Int32.ofInt_neg x).symm
theorem p_add {x y : Int} : i64 x + i64 y = i64 (cutl (x + y)) := (i64_add x y).trans (i64_cut _).symm
theorem p_sub {x y : Int} : i64 x - i64 y = i64 (cutl (x - y)) := (i64_sub x y).trans (i64_cut _).symm
theorem p_mul {x y : Int} : i64 x * i64 y = i64 (cutl (x * y)) := (i64_mul x y).trans (i64_cut _).symm
theorem o_i2l {x : Int} (h : R32 x) : (i32 x).toInt64 = i64 x := i32_64 h
theorem o_l2i {x : Int} : (i64 x).toInt32 = i32 (cut x) := (i64_32 x).trans (i32_cut _).symm
theorem i32_tdiv {x y : Int} (hx : R32 x) (hy : R32 y) (h1 : y ≠ -1) : i32 x / i32 y = i32 (x.tdiv y) := by
  have e : (i32 x / i32 y).toInt = x.tdiv y := by
    rw [Int32.toInt_div_of_ne_right _ _ (fun h => ?_), i32_to hx, i32_to hy]
    have h2 : i32 y = i32 (-1) := h
    rw [i32_eq hy ⟨by omega, by omega⟩] at h2
    exact h1 h2
  rw [← i32_of (i32 x / i32 y), e]
theorem i32_tmod {x y : Int} (hx : R32 x) (hy : R32 y) (h1 : y ≠ -1) : i32 x - i32 x / i32 y * i32 y = i32 (x.tmod y) := by
  rw [i32_tdiv hx hy h1, i32_mul, i32_sub]
  congr 1
  have := Int.mul_tdiv_add_tmod x y
  rw [Int.mul_comm] at this
  omega
theorem tdiv_r {x y : Int} (hx : R32 x) (hy : 0 < y) : R32 (x.tdiv y) := by
  obtain ⟨a, b⟩ := hx
  have h1 := Int.natAbs_tdiv_le_natAbs x y
  have h2 : x.natAbs ≤ 2147483648 := by omega
  by_cases h : 0 ≤ x
  · have := Int.tdiv_nonneg h (Int.le_of_lt hy)
    exact ⟨by omega, by omega⟩
  · have h3 : x.tdiv y ≤ 0 := by
      have := Int.tdiv_nonneg (a := -x) (b := y) (by omega) (Int.le_of_lt hy)
      rw [Int.neg_tdiv] at this
      omega
    exact ⟨by omega, by omega⟩
theorem tmod_r {x y : Int} (hx : R32 x) (hy : 0 < y) (hy2 : y < 2147483648) : R32 (x.tmod y) := by
  have h1 := Int.tmod_lt_of_pos x hy
  have h2 := Int.lt_tmod_of_pos x hy
  exact ⟨by omega, by omega⟩
def nar1 (x : Int) : Int := (vp_nar (am_ty 3) (i32 x)).toInt
theorem idx_out {i : Int} {n : Nat} (hi : R32 i) (h : ¬ (0 ≤ i ∧ i < n)) : i32 i < 0 ∨ n ≤ (i32 i).toNatClampNeg := by
  by_cases h0 : 0 ≤ i
  · right
    have e := i32_nat h0 hi.2
    omega
  · left
    rw [i32_0, i32_lt hi R32_0]
    omega
/-! ===== canonical records: every field and element is the int or long that it stands for ===== -/
def lg (k : Nat) : Bool := ([12, 68, 72, 84, 91, 92, 97, 98, 115, 133, 134, 138, 142, 143, 144, 145, 146, 147, 160, 161, 162, 171, 172, 173, 174, 178] : List Nat).any (Nat.beq k)
def rV (b : Bool) (z : Int) : Prop := match b with
  | true => R64 z
  | false => R32 z
def Cn (m : mR) : Prop := (∀ k, rV (lg k) (m.1 k)) ∧ (∀ k i, rV (lg k) (m.2 k i))
theorem Cn_i {m : mR} (h : Cn m) (k : Nat) (hk : lg k = false) : R32 (m.1 k) := by
  have := h.1 k
  rw [hk] at this
  exact this
theorem Cn_l {m : mR} (h : Cn m) (k : Nat) (hk : lg k = true) : R64 (m.1 k) := by
  have := h.1 k
  rw [hk] at this
  exact this
def rE (k : Nat) (f : Int → Int) : Prop := ∀ i, rV (lg k) (f i)
theorem Cn_a {m : mR} (h : Cn m) (k : Nat) : rE k (m.2 k) := h.2 k
theorem rE_i {k : Nat} {f : Int → Int} (h : rE k f) (hk : lg k = false) (i : Int) : R32 (f i) := by
  have := h i
  rw [hk] at this
  exact this
theorem rE_l {k : Nat} {f : Int → Int} (h : rE k f) (hk : lg k = true) (i : Int) : R64 (f i) := by
  have := h i
  rw [hk] at this
  exact this
theorem rV_i {k : Nat} {z : Int} (hk : lg k = false) (h : R32 z) : rV (lg k) z := by
  rw [hk]
  exact h
theorem rV_l {k : Nat} {z : Int} (hk : lg k = true) (h : R64 z) : rV (lg k) z := by
  rw [hk]
  exact h
theorem rE_ui {k : Nat} {f : Int → Int} {i x : Int} (h : rE k f) (hk : lg k = false) (hx : R32 x) : rE k (upI f i x) := by
  intro j
  unfold upI
  split
  · exact rV_i hk hx
  · exact h j
theorem rE_ul {k : Nat} {f : Int → Int} {i x : Int} (h : rE k f) (hk : lg k = true) (hx : R64 x) : rE k (upI f i x) := by
  intro j
  unfold upI
  split
  · exact rV_l hk hx
  · exact h j
def rF (l : List (Nat × Int)) : Prop := match l with
  | [] => True
  | q :: r => rV (lg q.1) q.2 ∧ rF r
def rA (l : List (Nat × (Int → Int))) : Prop := match l with
  | [] => True
  | q :: r => rE q.1 q.2 ∧ rA r
theorem Cn_mO {m : mR} (h : Cn m) {l : List (Nat × Int)} {a : List (Nat × (Int → Int))} (hl : rF l) (ha : rA a) : Cn (mO m l a) := by
  refine ⟨fun k => ?_, fun k i => ?_⟩
  · show rV (lg k) (olk l k (m.1 k))
    have h0 := h.1 k
    clear ha
    induction l with
    | nil => exact h0
    | cons q r ih =>
      show rV (lg k) (if q.1 = k then q.2 else olk r k (m.1 k))
      split
      · rename_i e
        rw [← e]
        exact hl.1
      · exact ih hl.2
  · show rV (lg k) (olk a k (m.2 k) i)
    have h0 := h.2 k i
    clear hl
    induction a with
    | nil => exact h0
    | cons q r ih =>
      show rV (lg k) ((if q.1 = k then q.2 else olk r k (m.2 k)) i)
      split
      · rename_i e
        rw [← e]
        exact ha.1 i
      · exact ih ha.2
/-! ===== answers ===== -/
def FR0 (c : Nat → Option am_C) (N : Nat) : Int × mR → ag_Re af_T → Prop := fun y r => Cn y.2 ∧ r = (.inl none, (mhp y.2 c, N), 0, 0)
def FR1 (c : Nat → Option am_C) (N : Nat) : Int × mR → ag_Re af_T → Prop := fun y r => R32 y.1 ∧ Cn y.2 ∧ r = (.inl (some (.int (i32 y.1))), (mhp y.2 c, N), 0, 0)
def FR2 (c : Nat → Option am_C) (N : Nat) : Int × mR → ag_Re af_T → Prop := fun y r => R64 y.1 ∧ Cn y.2 ∧ r = (.inl (some (.long (i64 y.1))), (mhp y.2 c, N), 0, 0)
def FP1 (t : af_T) : Int → ag_Re af_T → Prop := fun y r => R32 y ∧ r = (.inl (some (.int (i32 y))), t, 0, 0)
def FP2 (t : af_T) : Int → ag_Re af_T → Prop := fun y r => R64 y ∧ r = (.inl (some (.long (i64 y))), t, 0, 0)
def FP0 (t : af_T) : Int → ag_Re af_T → Prop := fun _ r => r = (.inl none, t, 0, 0)
def jk (l : List (Nat × Int)) : Nat → Int := fun n => olk l n 0
section PX
variable {bb : Nat} {w : wX} {D : Nat} {me : am_M} {Q : ag_Re af_T → Prop} {pc nc ns N : Nat} {lv : List (Nat × Value)} {st : List Value} {t : af_T} {m : mR} {c : Nat → Option am_C} {l : List (Nat × Int)} {a : List (Nat × (Int → Int))} {i : am_I} {α β : Type} {F : β → ag_Re af_T → Prop}
theorem P_some {S : ag_St af_T} {y : β} (h : PP bb w D me S (F y)) : PP bb w D me S (QS F (some y)) := Pm_w h (fun _ hr => ⟨y, rfl, hr⟩)
theorem P_bnd {S : ag_St af_T} {T : Option α} {k : α → Option β} (h : PP bb w D me S (QS (fun y => QS F (k y)) T)) : PP bb w D me S (QS F (bnd T k)) := Pm_w h (fun _ hr => QS_b hr)
theorem P1_ld (pc' : Nat) (v : Value) (hi : me.2.2.2.2.2 pc = some i) (hs : ∀ call, ag_step af_O 8192 w.1 (nm_E w.2.1 w.2.2.1 w.2.2.2) nm_cn (D + 1) call me i (pc, lv, st, t, nc, ns) = some (.inl (pc', lv, v :: st, t, nc, ns))) (h : PP bb w D me (pc', lv, v :: st, t, nc, ns) Q) : PP (bb + 1) w D me (pc, lv, st, t, nc, ns) Q := Pm_step1 hi hs h
theorem P_op (pc' : Nat) (x : Int) (v : Int32) {st' : List Value} (hi : me.2.2.2.2.2 pc = some i) (hs : ∀ call, ag_step af_O 8192 w.1 (nm_E w.2.1 w.2.2.1 w.2.2.2) nm_cn (D + 1) call me i (pc, lv, st', t, nc, ns) = some (.inl (pc', lv, .int v :: st, t, nc, ns))) (hv : v = i32 x) (h : PP bb w D me (pc', lv, .int (i32 x) :: st, t, nc, ns) Q) : PP bb w D me (pc, lv, st', t, nc, ns) Q := by
  subst hv
  exact Pm_step hi hs h
theorem P_opl (pc' : Nat) (x : Int) (v : Int64) {st' : List Value} (hi : me.2.2.2.2.2 pc = some i) (hs : ∀ call, ag_step af_O 8192 w.1 (nm_E w.2.1 w.2.2.1 w.2.2.2) nm_cn (D + 1) call me i (pc, lv, st', t, nc, ns) = some (.inl (pc', lv, .long v :: st, t, nc, ns))) (hv : v = i64 x) (h : PP bb w D me (pc', lv, .long (i64 x) :: st, t, nc, ns) Q) : PP bb w D me (pc, lv, st', t, nc, ns) Q := by
  subst hv
  exact Pm_step hi hs h
theorem P_div (pc' : Nat) {x y : Int} {len p q r : Nat} (hi : me.2.2.2.2.2 pc = some (.idiv, len, p, q, r)) (hp : pc + 1 = pc') (hx : R32 x) (hy : 0 < y) (hy2 : y < 2147483648) (h : PP bb w D me (pc', lv, .int (i32 (x.tdiv y)) :: st, t, nc, ns) Q) : PP bb w D me (pc, lv, .int (i32 y) :: .int (i32 x) :: st, t, nc, ns) Q := by
  subst hp
  refine Pm_step (S' := (pc + 1, lv, .int (i32 x / i32 y) :: st, t, nc, ns)) hi (fun call => ?_) (by rw [i32_tdiv hx ⟨by omega, hy2⟩ (by omega)]; exact h)
  show ag_lift (if i32 y = 0 then none else some (pc + 1, lv, .int (i32 x / i32 y) :: st)) t nc ns = _
  rw [if_neg (fun e => by rw [i32_0, i32_eq ⟨by omega, hy2⟩ R32_0] at e; omega)]
  rfl
theorem P_rem (pc' : Nat) {x y : Int} {len p q r : Nat} (hi : me.2.2.2.2.2 pc = some (.irem, len, p, q, r)) (hp : pc + 1 = pc') (hx : R32 x) (hy : 0 < y) (hy2 : y < 2147483648) (h : PP bb w D me (pc', lv, .int (i32 (x.tmod y)) :: st, t, nc, ns) Q) : PP bb w D me (pc, lv, .int (i32 y) :: .int (i32 x) :: st, t, nc, ns) Q := by
  subst hp
  refine Pm_step (S' := (pc + 1, lv, .int (i32 x - i32 x / i32 y * i32 y) :: st, t, nc, ns)) hi (fun call => ?_) (by rw [i32_tmod hx ⟨by omega, hy2⟩ (by omega)]; exact h)
  show ag_lift (if i32 y = 0 then none else some (pc + 1, lv, .int (i32 x - i32 x / i32 y * i32 y) :: st)) t nc ns = _
  rw [if_neg (fun e => by rw [i32_0, i32_eq ⟨by omega, hy2⟩ R32_0] at e; omega)]
  rfl
theorem P_inc (pc' : Nat) (lv' : List (Nat × Value)) {j len p q r : Nat} {n x : Int} (hi : me.2.2.2.2.2 pc = some (.iinc j n, len, p, q, r)) (hg : am_get lv j = some (.int (i32 x))) (hj : j < me.2.2.1) (hp : pc + 3 = pc') (hl : am_st1 j (.int (i32 (cut (x + n)))) lv = lv') (h : PP bb w D me (pc', lv', st, t, nc, ns) Q) : PP bb w D me (pc, lv, st, t, nc, ns) Q := by
  subst hp hl
  refine Pm_step hi (fun call => ?_) h
  show ag_lift (am_iinc j n me.2.2.1 pc lv st) t nc ns = _
  unfold am_iinc
  rw [hg]
  dsimp only
  rw [if_pos hj, show i32 x + Int32.ofInt n = i32 (cut (x + n)) from o_add]
  rfl
theorem P_lv {a b : List (Nat × Value)} (h1 : ndk (a.map Prod.fst) = true) (h2 : ndk (b.map Prod.fst) = true) (hs : lvS a b) (h : PP bb w D me (pc, b, st, t, nc, ns) Q) : PP bb w D me (pc, a, st, t, nc, ns) Q := Pm_lv h1 h2 hs h
theorem P_ifF (pt pf : Nat) {p : Prop} {dp : Decidable p} {A B : Option β} {cd : ClassFile.Cond} {off x : Int} {len p1 q r : Nat} (hi : me.2.2.2.2.2 pc = some (.ifCond cd off, len, p1, q, r)) (ht : am_to pc off = some pt) (hp : pc + 3 = pf) (hx : R32 x) (he : p = cz cd x 0) (h1 : p → PP bb w D me (pt, lv, st, t, nc, ns) (QS F A)) (h2 : ¬ p → PP bb w D me (pf, lv, st, t, nc, ns) (QS F B)) : PP bb w D me (pc, lv, .int (i32 x) :: st, t, nc, ns) (QS F (@ite _ p dp A B)) := by
  subst hp
  refine Pm_if hi ht hx (fun h => ?_) (fun h => ?_)
  · rw [← he] at h
    rw [if_pos h]
    exact h1 h
  · rw [← he] at h
    rw [if_neg h]
    exact h2 h
theorem P_icF (pt pf : Nat) {p : Prop} {dp : Decidable p} {A B : Option β} {cd : ClassFile.Cond} {off x y : Int} {len p1 q r : Nat} (hi : me.2.2.2.2.2 pc = some (.if_icmp cd off, len, p1, q, r)) (ht : am_to pc off = some pt) (hp : pc + 3 = pf) (hx : R32 x) (hy : R32 y) (he : p = cz cd x y) (h1 : p → PP bb w D me (pt, lv, st, t, nc, ns) (QS F A)) (h2 : ¬ p → PP bb w D me (pf, lv, st, t, nc, ns) (QS F B)) : PP bb w D me (pc, lv, .int (i32 y) :: .int (i32 x) :: st, t, nc, ns) (QS F (@ite _ p dp A B)) := by
  subst hp
  refine Pm_icmp hi ht hx hy (fun h => ?_) (fun h => ?_)
  · rw [← he] at h
    rw [if_pos h]
    exact h1 h
  · rw [← he] at h
    rw [if_neg h]
    exact h2 h
theorem P_ifE (pt pf : Nat) {p : Prop} {dp : Decidable p} {A B : Option β} {off x : Int} {len p1 q r : Nat} (hi : me.2.2.2.2.2 pc = some (.ifCond .ne off, len, p1, q, r)) (ht : am_to pc off = some pt) (hp : pc + 3 = pf) (hx : R32 x) (he : p = (x = 0)) (h1 : p → PP bb w D me (pf, lv, st, t, nc, ns) (QS F A)) (h2 : ¬ p → PP bb w D me (pt, lv, st, t, nc, ns) (QS F B)) : PP bb w D me (pc, lv, .int (i32 x) :: st, t, nc, ns) (QS F (@ite _ p dp A B)) := by
  subst hp
  refine Pm_if hi ht hx (fun h => ?_) (fun h => ?_)
  · have h : ¬ p := by rw [he]; exact h
    rw [if_neg h]
    exact h2 h
  · have h : p := by rw [he]; exact Decidable.not_not.mp h
    rw [if_pos h]
    exact h1 h
theorem P_icE (pt pf : Nat) {p : Prop} {dp : Decidable p} {A B : Option β} {off x y : Int} {len p1 q r : Nat} (hi : me.2.2.2.2.2 pc = some (.if_icmp .ne off, len, p1, q, r)) (ht : am_to pc off = some pt) (hp : pc + 3 = pf) (hx : R32 x) (hy : R32 y) (he : p = (x = y)) (h1 : p → PP bb w D me (pf, lv, st, t, nc, ns) (QS F A)) (h2 : ¬ p → PP bb w D me (pt, lv, st, t, nc, ns) (QS F B)) : PP bb w D me (pc, lv, .int (i32 y) :: .int (i32 x) :: st, t, nc, ns) (QS F (@ite _ p dp A B)) := by
  subst hp
  refine Pm_icmp hi ht hx hy (fun h => ?_) (fun h => ?_)
  · have h : ¬ p := by rw [he]; exact h
    rw [if_neg h]
    exact h2 h
  · have h : p := by rw [he]; exact Decidable.not_not.mp h
    rw [if_pos h]
    exact h1 h
/-- one of a switch's cases -/
theorem P_cs {S : ag_St af_T} {p : Prop} {dp : Decidable p} {A B : Option β} (h1 : p → PP bb w D me S (QS F A)) (h2 : ¬ p → PP bb w D me S (QS F B)) : PP bb w D me S (QS F (@ite _ p dp A B)) := by
  by_cases h : p
  · rw [if_pos h]
    exact h1 h
  · rw [if_neg h]
    exact h2 h
/-- a branch whose outcome is known -/
theorem P_ifT (pt pf : Nat) {cd : ClassFile.Cond} {off x : Int} {len p1 q r : Nat} (hi : me.2.2.2.2.2 pc = some (.ifCond cd off, len, p1, q, r)) (ht : am_to pc off = some pt) (hp : pc + 3 = pf) (hx : R32 x) (he : cz cd x 0) (h1 : PP bb w D me (pt, lv, st, t, nc, ns) Q) : PP bb w D me (pc, lv, .int (i32 x) :: st, t, nc, ns) Q := Pm_if hi ht hx (fun _ => h1) (fun h => absurd he h)
theorem P_ifN (pt pf : Nat) {cd : ClassFile.Cond} {off x : Int} {len p1 q r : Nat} (hi : me.2.2.2.2.2 pc = some (.ifCond cd off, len, p1, q, r)) (ht : am_to pc off = some pt) (hp : pc + 3 = pf) (hx : R32 x) (he : ¬ cz cd x 0) (h1 : PP bb w D me (pf, lv, st, t, nc, ns) Q) : PP bb w D me (pc, lv, .int (i32 x) :: st, t, nc, ns) Q := by
  subst hp
  exact Pm_if hi ht hx (fun h => absurd h he) (fun _ => h1)
theorem P_ca0 (pc' mi : Nat) (av rest : List Value) {M : mR} {T : Option (Int × mR)} {k : Int × mR → Option β} (hi : me.2.2.2.2.2 pc = some i) (hs : ∀ call, ag_step af_O 8192 w.1 (nm_E w.2.1 w.2.2.1 w.2.2.2) nm_cn (D + 1) call me i (pc, lv, st, (mhp M c, N), 0, 0) = ag_back af_O 8192 (nm_E w.2.1 w.2.2.1 w.2.2.2) me.2.2.2.2.1 pc lv rest 0 0 (call mi av (mhp M c, N))) (hp : pc + 3 = pc')
    (hc : PC w D mi av (mhp M c, N) (QS (FR0 c N) T)) (h : ∀ y : Int × mR, Cn y.2 → PP bb w D me (pc', lv, rest, (mhp (mO y.2 [] []) c, N), 0, 0) (QS F (k y))) : PP bb w D me (pc, lv, st, (mhp M c, N), 0, 0) (QS F (bnd T k)) := by
  subst hp
  refine Pm_call hi hs hc (fun r hr => Or.inl ?_)
  obtain ⟨y, rfl, h1, rfl⟩ := hr
  exact ⟨_, _, 0, 0, rfl, h y h1⟩
theorem P_ca1 (pc' mi : Nat) (av rest : List Value) {M : mR} {T : Option (Int × mR)} {k : Int × mR → Option β} (hi : me.2.2.2.2.2 pc = some i) (hs : ∀ call, ag_step af_O 8192 w.1 (nm_E w.2.1 w.2.2.1 w.2.2.2) nm_cn (D + 1) call me i (pc, lv, st, (mhp M c, N), 0, 0) = ag_back af_O 8192 (nm_E w.2.1 w.2.2.1 w.2.2.2) me.2.2.2.2.1 pc lv rest 0 0 (call mi av (mhp M c, N))) (hp : pc + 3 = pc')
    (hc : PC w D mi av (mhp M c, N) (QS (FR1 c N) T)) (h : ∀ y : Int × mR, R32 y.1 → Cn y.2 → PP bb w D me (pc', lv, .int (i32 y.1) :: rest, (mhp (mO y.2 [] []) c, N), 0, 0) (QS F (k y))) : PP bb w D me (pc, lv, st, (mhp M c, N), 0, 0) (QS F (bnd T k)) := by
  subst hp
  refine Pm_call hi hs hc (fun r hr => Or.inl ?_)
  obtain ⟨y, rfl, h0, h1, rfl⟩ := hr
  exact ⟨_, _, 0, 0, rfl, h y h0 h1⟩
theorem P_ca2 (pc' mi : Nat) (av rest : List Value) {M : mR} {T : Option (Int × mR)} {k : Int × mR → Option β} (hi : me.2.2.2.2.2 pc = some i) (hs : ∀ call, ag_step af_O 8192 w.1 (nm_E w.2.1 w.2.2.1 w.2.2.2) nm_cn (D + 1) call me i (pc, lv, st, (mhp M c, N), 0, 0) = ag_back af_O 8192 (nm_E w.2.1 w.2.2.1 w.2.2.2) me.2.2.2.2.1 pc lv rest 0 0 (call mi av (mhp M c, N))) (hp : pc + 3 = pc')
    (hc : PC w D mi av (mhp M c, N) (QS (FR2 c N) T)) (h : ∀ y : Int × mR, R64 y.1 → Cn y.2 → PP bb w D me (pc', lv, .long (i64 y.1) :: rest, (mhp (mO y.2 [] []) c, N), 0, 0) (QS F (k y))) : PP bb w D me (pc, lv, st, (mhp M c, N), 0, 0) (QS F (bnd T k)) := by
  subst hp
  refine Pm_call hi hs hc (fun r hr => Or.inl ?_)
  obtain ⟨y, rfl, h0, h1, rfl⟩ := hr
  exact ⟨_, _, 0, 0, rfl, h y h0 h1⟩
theorem P_cp1 (pc' mi : Nat) (av rest : List Value) {T : Option Int} {k : Int → Option β} (hi : me.2.2.2.2.2 pc = some i) (hs : ∀ call, ag_step af_O 8192 w.1 (nm_E w.2.1 w.2.2.1 w.2.2.2) nm_cn (D + 1) call me i (pc, lv, st, t, 0, 0) = ag_back af_O 8192 (nm_E w.2.1 w.2.2.1 w.2.2.2) me.2.2.2.2.1 pc lv rest 0 0 (call mi av t)) (hp : pc + 3 = pc')
    (hc : PC w D mi av t (QS (FP1 t) T)) (h : ∀ y : Int, R32 y → PP bb w D me (pc', lv, .int (i32 y) :: rest, t, 0, 0) (QS F (k y))) : PP bb w D me (pc, lv, st, t, 0, 0) (QS F (bnd T k)) := by
  subst hp
  refine Pm_call hi hs hc (fun r hr => Or.inl ?_)
  obtain ⟨y, rfl, h0, rfl⟩ := hr
  exact ⟨_, _, 0, 0, rfl, h y h0⟩
theorem P_cp2 (pc' mi : Nat) (av rest : List Value) {T : Option Int} {k : Int → Option β} (hi : me.2.2.2.2.2 pc = some i) (hs : ∀ call, ag_step af_O 8192 w.1 (nm_E w.2.1 w.2.2.1 w.2.2.2) nm_cn (D + 1) call me i (pc, lv, st, t, 0, 0) = ag_back af_O 8192 (nm_E w.2.1 w.2.2.1 w.2.2.2) me.2.2.2.2.1 pc lv rest 0 0 (call mi av t)) (hp : pc + 3 = pc')
    (hc : PC w D mi av t (QS (FP2 t) T)) (h : ∀ y : Int, R64 y → PP bb w D me (pc', lv, .long (i64 y) :: rest, t, 0, 0) (QS F (k y))) : PP bb w D me (pc, lv, st, t, 0, 0) (QS F (bnd T k)) := by
  subst hp
  refine Pm_call hi hs hc (fun r hr => Or.inl ?_)
  obtain ⟨y, rfl, h0, rfl⟩ := hr
  exact ⟨_, _, 0, 0, rfl, h y h0⟩
theorem P_cp0 (pc' mi : Nat) (av rest : List Value) {T : Option Int} {k : Int → Option β} (hi : me.2.2.2.2.2 pc = some i) (hs : ∀ call, ag_step af_O 8192 w.1 (nm_E w.2.1 w.2.2.1 w.2.2.2) nm_cn (D + 1) call me i (pc, lv, st, t, 0, 0) = ag_back af_O 8192 (nm_E w.2.1 w.2.2.1 w.2.2.2) me.2.2.2.2.1 pc lv rest 0 0 (call mi av t)) (hp : pc + 3 = pc')
    (hc : PC w D mi av t (QS (FP0 t) T)) (h : ∀ y : Int, PP bb w D me (pc', lv, rest, t, 0, 0) (QS F (k y))) : PP bb w D me (pc, lv, st, t, 0, 0) (QS F (bnd T k)) := by
  subst hp
  refine Pm_call hi hs hc (fun r hr => Or.inl ?_)
  obtain ⟨y, rfl, rfl⟩ := hr
  exact ⟨_, _, 0, 0, rfl, h y⟩
theorem P_rp0 {len p q r : Nat} (hi : me.2.2.2.2.2 pc = some (.return_, len, p, q, r)) (hr : me.2.2.2.1 = none) : PP bb w D me (pc, lv, [], t, 0, 0) (QS (FP0 t) (some 0)) := by
  refine Pm_end (r := (.inl none, t, 0, 0)) hi (fun call => ?_) ⟨_, rfl, rfl⟩
  show ag_end (am_return me.2.2.2.1 [] [] 0 0) _ = _
  rw [hr]
  rfl
theorem P_aldx (pc' : Nat) {p q r : Nat} (v : Value) (hi : me.2.2.2.2.2 pc = some (.aload_n 2, 1, p, q, r)) (hg : am_get lv 2 = some v) (hp : pc + 1 = pc') (h : PP bb w D me (pc', lv, v :: st, t, nc, ns) Q) : PP bb w D me (pc, lv, st, t, nc, ns) Q := by
  subst hp
  have key : (am_aload 2 1 me.2.2.1 pc lv st = none) ∨ (am_aload 2 1 me.2.2.1 pc lv st = some (pc + 1, lv, v :: st)) := by
    unfold am_aload
    rw [hg]
    cases v with
    | ref x => exact Or.inr rfl
    | null => exact Or.inr rfl
    | _ => exact Or.inl rfl
  rcases key with e | e
  · refine Pm_no hi (fun call => ?_)
    show ag_lift (am_aload 2 1 me.2.2.1 pc lv st) t nc ns = none
    rw [e]
    rfl
  · refine Pm_step (S' := (pc + 1, lv, v :: st, t, nc, ns)) hi (fun call => ?_) h
    show ag_lift (am_aload 2 1 me.2.2.1 pc lv st) t nc ns = _
    rw [e]
    rfl
theorem P_cq1 (pc' mi : Nat) (av rest : List Value) (x : Int) {T : Option Int} (hi : me.2.2.2.2.2 pc = some i) (hs : ∀ call, ag_step af_O 8192 w.1 (nm_E w.2.1 w.2.2.1 w.2.2.2) nm_cn (D + 1) call me i (pc, lv, st, t, 0, 0) = ag_back af_O 8192 (nm_E w.2.1 w.2.2.1 w.2.2.2) me.2.2.2.2.1 pc lv rest 0 0 (call mi av t)) (hp : pc + 3 = pc')
    (hc : PC w D mi av t (QS (FP1 t) T)) (hT : T = some x) (h : PP bb w D me (pc', lv, .int (i32 x) :: rest, t, 0, 0) Q) : PP bb w D me (pc, lv, st, t, 0, 0) Q := by
  subst hp
  refine Pm_call hi hs hc (fun r hr => Or.inl ?_)
  obtain ⟨y, h1, h0, rfl⟩ := hr
  rw [hT] at h1
  cases h1
  exact ⟨_, _, 0, 0, rfl, h⟩
theorem P_nil {S : ag_St af_T} (hi : me.2.2.2.2.2 S.1 = none) : PP bb w D me S Q := by
  intro fuel n r hn hr
  cases n with
  | zero => cases hr
  | succ n =>
    rw [ag_run, hi] at hr
    cases hr
/-- ends -/
theorem P_re0 {len p q r : Nat} (hi : me.2.2.2.2.2 pc = some (.return_, len, p, q, r)) (hr : me.2.2.2.1 = none) (hm : Cn m) : PP bb w D me (pc, lv, [], (mhp m c, N), 0, 0) (QS (FR0 c N) (some (0, m))) := by
  refine Pm_end (r := (.inl none, (mhp m c, N), 0, 0)) hi (fun call => ?_) ⟨_, rfl, hm, rfl⟩
  show ag_end (am_return me.2.2.2.1 [] [] 0 0) _ = _
  rw [hr]
  rfl
theorem ire {v : Int32} {ret : Option FieldType} {r : am_Re} {nc ns : Nat} (h : am_ireturn ret [.int v] [] nc ns = some (.inr r)) : r = (.inl (some (.int v)), [], nc, ns) := by
  unfold am_ireturn at h
  dsimp only at h
  split at h
  · cases h
    rfl
  · split at h
    · cases h
      rfl
    · cases h
  · split at h
    · cases h
      rfl
    · cases h
  · split at h
    · cases h
      rfl
    · cases h
  · cases h
theorem ire2 {v : Int32} {ret : Option FieldType} {nc ns : Nat} : am_ireturn ret [.int v] [] nc ns = none ∨ am_ireturn ret [.int v] [] nc ns = some (.inr (.inl (some (.int v)), [], nc, ns)) := by
  unfold am_ireturn
  dsimp only
  split
  · exact Or.inr rfl
  · split
    · exact Or.inr rfl
    · exact Or.inl rfl
  · split
    · exact Or.inr rfl
    · exact Or.inl rfl
  · split
    · exact Or.inr rfl
    · exact Or.inl rfl
  · exact Or.inl rfl
theorem P_reI {x : Int} {len p q r : Nat} (hi : me.2.2.2.2.2 pc = some (.ireturn, len, p, q, r)) (h : Q (.inl (some (.int (i32 x))), t, 0, 0)) : PP bb w D me (pc, lv, [.int (i32 x)], t, 0, 0) Q := by
  rcases ire2 (v := i32 x) (ret := me.2.2.2.1) (nc := 0) (ns := 0) with e | e
  · refine Pm_no hi (fun call => ?_)
    show ag_end (am_ireturn me.2.2.2.1 [.int (i32 x)] [] 0 0) t = none
    rw [e]
    rfl
  · refine Pm_end hi (fun call => ?_) h
    show ag_end (am_ireturn me.2.2.2.1 [.int (i32 x)] [] 0 0) t = _
    rw [e]
    rfl
theorem P_re1 {x : Int} {len p q r : Nat} (hi : me.2.2.2.2.2 pc = some (.ireturn, len, p, q, r)) (hx : R32 x) (hm : Cn m) : PP bb w D me (pc, lv, [.int (i32 x)], (mhp m c, N), 0, 0) (QS (FR1 c N) (some (x, m))) := P_reI hi ⟨_, rfl, hx, hm, rfl⟩
theorem P_rp1 {x : Int} {len p q r : Nat} (hi : me.2.2.2.2.2 pc = some (.ireturn, len, p, q, r)) (hx : R32 x) : PP bb w D me (pc, lv, [.int (i32 x)], t, 0, 0) (QS (FP1 t) (some x)) := P_reI hi ⟨_, rfl, hx, rfl⟩
theorem P_re2 {x : Int} {len p q r : Nat} (hi : me.2.2.2.2.2 pc = some (.lreturn, len, p, q, r)) (hr : me.2.2.2.1 = some .long) (hx : R64 x) (hm : Cn m) : PP bb w D me (pc, lv, [.long (i64 x)], (mhp m c, N), 0, 0) (QS (FR2 c N) (some (x, m))) := by
  refine Pm_end (r := (.inl (some (.long (i64 x))), (mhp m c, N), 0, 0)) hi (fun call => ?_) ⟨_, rfl, hx, hm, rfl⟩
  show ag_end (am_lreturn me.2.2.2.1 [.long (i64 x)] [] 0 0) _ = _
  rw [hr]
  rfl
theorem P_rp2 {x : Int} {len p q r : Nat} (hi : me.2.2.2.2.2 pc = some (.lreturn, len, p, q, r)) (hr : me.2.2.2.1 = some .long) (hx : R64 x) : PP bb w D me (pc, lv, [.long (i64 x)], t, 0, 0) (QS (FP2 t) (some x)) := by
  refine Pm_end (r := (.inl (some (.long (i64 x))), t, 0, 0)) hi (fun call => ?_) ⟨_, rfl, hx, rfl⟩
  show ag_end (am_lreturn me.2.2.2.1 [.long (i64 x)] [] 0 0) _ = _
  rw [hr]
  rfl
/-- a boolean field: what is no truth value is stuck -/
theorem P_pz (pc' : Nat) {l' : List (Nat × Int)} (x : Int) {idx k len : Nat} (hi : me.2.2.2.2.2 pc = some (.putfield idx, len, 12, k, 0)) (hk : decide (k < 179) = true) (hf : nm_ft 12 k = .boolean) (hx : R32 x) (hv : mfv (mO (mO m l a) [(k, x)] []) k = .int (i32 x)) (hl : ins k x l = l') (hp : pc + 3 = pc') (h : PP bb w D me (pc', lv, st, (mhp (mO m l' a) c, N), nc, ns) Q) : PP bb w D me (pc, lv, .int (i32 x) :: .ref 189 :: st, (mhp (mO m l a) c, N), nc, ns) Q := by
  by_cases h01 : x = 0 ∨ x = 1
  · exact P_pf pc' x hi hk (by rw [hf]; exact fit01 h01) hv hl hp h
  · refine Pm_no hi (fun call => ?_)
    show ag_liftH (ag_do af_O (ad_putf 12 k (nm_ft 12 k)) 3 pc lv (.int (i32 x) :: .ref 189 :: st) (mhp (mO m l a) c, N)) nc ns = none
    unfold ag_do ad_putf
    dsimp only
    unfold ag_acc
    rw [show af_O.1 (mhp (mO m l a) c, N) 189 = _ from mhp_o _ c]
    dsimp only
    rw [if_neg (fun e => ?_)]
    · rfl
    · have e2 := e.2.2
      rw [hf] at e2
      have e3 : (decide (i32 x = 0) || decide (i32 x = 1)) = true := e2
      rw [Bool.or_eq_true, decide_eq_true_eq, decide_eq_true_eq, i32_0, show (1 : Int32) = i32 1 from rfl, i32_eq hx R32_0, i32_eq hx ⟨by decide, by decide⟩] at e3
      exact h01 e3
end PX
section PM5
variable {bb : Nat} {X : ag_X} {E : am_En} {cn : Nat → Nat} {pg : Nat → am_M} {d : Nat} {me : am_M} {Q : ag_Re af_T → Prop} {pc nc ns N : Nat} {lv : List (Nat × Value)} {st : List Value} {t : af_T} {m : mR} {c : Nat → Option am_C} {l l' : List (Nat × Int)} {a a' : List (Nat × (Int → Int))}
theorem Pm_bastn {k q len p p' p'' : Nat} {i x : Int} (hi : me.2.2.2.2.2 pc = some (.bastore, len, p, p', p'')) (hk : (mok k && (decide (mkd k = 5) && (decide (mcl k = q) && decide (mln k < 1000000)))) = true) (h0 : 0 ≤ i) (h1 : i < mln k) {f : Int → Int} (hf : (mO m l a).2 k = f) (ha : ins k (upI f i (nar1 x)) a = a') (h : Pm bb X E cn pg d me (pc + 1, lv, st, (mhp (mO m l a') c, N), nc, ns) Q) : Pm bb X E cn pg d me (pc, lv, .int (i32 x) :: .int (i32 i) :: .ref q :: st, (mhp (mO m l a) c, N), nc, ns) Q := by
  subst hf ha
  simp only [Bool.and_eq_true, decide_eq_true_eq] at hk
  obtain ⟨k1, k2, rfl, k4⟩ := hk
  refine Pm_step hi (fun call => ?_) h
  show ag_liftH (ag_do af_O ad_bast 1 pc lv (.int (i32 x) :: .int (i32 i) :: .ref (mcl k) :: st) (mhp (mO m l a) c, N)) nc ns = _
  unfold ag_do ad_bast
  dsimp only
  unfold ag_acc
  rw [show af_O.1 (mhp (mO m l a) c, N) (mcl k) = _ from mhp_a _ c k1, mce5 _ k2]
  dsimp only
  rw [if_pos ⟨Or.inr rfl, idx_in h0 h1 k4⟩, show vp_nar (am_ty 3) (i32 x) = i32 (nar1 x) from (i32_of _).symm, upd_i32 h0 (by omega)]
  have e : (.inl (3, mln k, .inl (fun j : Nat => i32 (upI ((mO m l a).2 k) i (nar1 x) j))) : am_C) = mce (mO (mO m l a) [] [(k, upI ((mO m l a).2 k) i (nar1 x))]) k := by
    rw [mce5 _ k2]
    show _ = (.inl (3, mln k, .inl (fun j : Nat => i32 ((if k = k then upI ((mO m l a).2 k) i (nar1 x) else _) j))) : am_C)
    rw [if_pos rfl]
  rw [e]
  show some (Sum.inl (pc + 1, lv, st, (fun j => if j = mcl k then some (mce (mO (mO m l a) [] [(k, upI ((mO m l a).2 k) i (nar1 x))]) k) else mhp (mO m l a) c j, N), nc, ns)) = _
  rw [mhp_seta _ c k1, mO_a]
end PM5
section PM6
variable {bb : Nat} {w : wX} {D : Nat} {me : am_M} {Q : ag_Re af_T → Prop} {pc nc ns N : Nat} {lv : List (Nat × Value)} {st : List Value} {t : af_T} {m : mR} {c : Nat → Option am_C} {l : List (Nat × Int)} {a : List (Nat × (Int → Int))} {i : am_I}
theorem P_iald2 (pc' k : Nat) {q len p p' p'' : Nat} {i : Int} (f : Int → Int) (hi : me.2.2.2.2.2 pc = some (.iaload, len, p, p', p'')) (hp : pc + 1 = pc') (hk : (mok k && (decide (mkd k = 3) && (decide (mcl k = q) && decide (mln k < 1000000)))) = true) (hr : R32 i) (hf : (mO m l a).2 k = f) (h : PP bb w D me (pc', lv, .int (i32 (f i)) :: st, (mhp (mO m l a) c, N), nc, ns) Q) : PP bb w D me (pc, lv, .int (i32 i) :: .ref q :: st, (mhp (mO m l a) c, N), nc, ns) Q := by
  by_cases hb : 0 ≤ i ∧ i < mln k
  · exact P_iald pc' k f hi hp hk hb.1 hb.2 hf h
  · simp only [Bool.and_eq_true, decide_eq_true_eq] at hk
    obtain ⟨k1, k2, rfl, k4⟩ := hk
    refine Pm_no hi (fun call => ?_)
    show ag_liftH (ag_iaload af_O w.1 pc lv (.int (i32 i) :: .ref (mcl k) :: st) (mhp (mO m l a) c, N)) nc ns = none
    unfold ag_iaload
    dsimp only
    rw [if_pos (mok_lt k1)]
    unfold ag_do ad_iald
    dsimp only
    unfold ag_acc
    rw [show af_O.1 (mhp (mO m l a) c, N) (mcl k) = _ from mhp_a _ c k1, mce3 _ k2]
    dsimp only
    rw [if_neg (fun e => e.2 (idx_out hr hb))]
    rfl
theorem P_bald2 (pc' k : Nat) {q len p p' p'' : Nat} {i : Int} (f : Int → Int) (hi : me.2.2.2.2.2 pc = some (.baload, len, p, p', p'')) (hp : pc + 1 = pc') (hk : (mok k && (decide (mkd k = 5) && (decide (mcl k = q) && decide (mln k < 1000000)))) = true) (hr : R32 i) (hf : (mO m l a).2 k = f) (h : PP bb w D me (pc', lv, .int (i32 (f i)) :: st, (mhp (mO m l a) c, N), nc, ns) Q) : PP bb w D me (pc, lv, .int (i32 i) :: .ref q :: st, (mhp (mO m l a) c, N), nc, ns) Q := by
  by_cases hb : 0 ≤ i ∧ i < mln k
  · exact P_bald pc' k f hi hp hk hb.1 hb.2 hf h
  · simp only [Bool.and_eq_true, decide_eq_true_eq] at hk
    obtain ⟨k1, k2, rfl, k4⟩ := hk
    refine Pm_no hi (fun call => ?_)
    show ag_liftH (ag_baload af_O (nm_E w.2.1 w.2.2.1 w.2.2.2) pc lv (.int (i32 i) :: .ref (mcl k) :: st) (mhp (mO m l a) c, N)) nc ns = none
    unfold ag_baload
    dsimp only
    rw [if_pos (mok_lt k1)]
    unfold ag_do ad_bald
    dsimp only
    unfold ag_acc
    rw [show af_O.1 (mhp (mO m l a) c, N) (mcl k) = _ from mhp_a _ c k1, mce5 _ k2]
    dsimp only
    rw [if_neg (fun e => e.2 (idx_out hr hb))]
    rfl
theorem P_lald2 (pc' k : Nat) {q len p p' p'' : Nat} {i : Int} (f : Int → Int) (hi : me.2.2.2.2.2 pc = some (.laload, len, p, p', p'')) (hp : pc + 1 = pc') (hk : (mok k && (decide (mkd k = 4) && (decide (mcl k = q) && decide (mln k < 1000000)))) = true) (hr : R32 i) (hf : (mO m l a).2 k = f) (h : PP bb w D me (pc', lv, .long (i64 (f i)) :: st, (mhp (mO m l a) c, N), nc, ns) Q) : PP bb w D me (pc, lv, .int (i32 i) :: .ref q :: st, (mhp (mO m l a) c, N), nc, ns) Q := by
  by_cases hb : 0 ≤ i ∧ i < mln k
  · exact P_lald pc' k f hi hp hk hb.1 hb.2 hf h
  · simp only [Bool.and_eq_true, decide_eq_true_eq] at hk
    obtain ⟨k1, k2, rfl, k4⟩ := hk
    refine Pm_no hi (fun call => ?_)
    show ag_liftH (ag_do af_O ad_lald 1 pc lv (.int (i32 i) :: .ref (mcl k) :: st) (mhp (mO m l a) c, N)) nc ns = none
    unfold ag_do ad_lald
    dsimp only
    unfold ag_acc
    rw [show af_O.1 (mhp (mO m l a) c, N) (mcl k) = _ from mhp_a _ c k1, mce4 _ k2]
    dsimp only
    rw [if_neg (fun e => e.2 (idx_out hr hb))]
    rfl
theorem P_iast2 (pc' k : Nat) {a' : List (Nat × (Int → Int))} {q len p p' p'' : Nat} {i x : Int} (f : Int → Int) (hi : me.2.2.2.2.2 pc = some (.iastore, len, p, p', p'')) (hp : pc + 1 = pc') (hk : (mok k && (decide (mkd k = 3) && (decide (mcl k = q) && decide (mln k < 1000000)))) = true) (hr : R32 i) (hf : (mO m l a).2 k = f) (ha : ins k (upI f i x) a = a') (h : PP bb w D me (pc', lv, st, (mhp (mO m l a') c, N), nc, ns) Q) : PP bb w D me (pc, lv, .int (i32 x) :: .int (i32 i) :: .ref q :: st, (mhp (mO m l a) c, N), nc, ns) Q := by
  by_cases hb : 0 ≤ i ∧ i < mln k
  · exact P_iast pc' k f hi hp hk hb.1 hb.2 hf ha h
  · simp only [Bool.and_eq_true, decide_eq_true_eq] at hk
    obtain ⟨k1, k2, rfl, k4⟩ := hk
    refine Pm_no hi (fun call => ?_)
    show ag_liftH (ag_do af_O ad_iast 1 pc lv (.int (i32 x) :: .int (i32 i) :: .ref (mcl k) :: st) (mhp (mO m l a) c, N)) nc ns = none
    unfold ag_do ad_iast
    dsimp only
    unfold ag_acc
    rw [show af_O.1 (mhp (mO m l a) c, N) (mcl k) = _ from mhp_a _ c k1, mce3 _ k2]
    dsimp only
    rw [if_neg (fun e => e.2 (idx_out hr hb))]
    rfl
theorem P_last2 (pc' k : Nat) {a' : List (Nat × (Int → Int))} {q len p p' p'' : Nat} {i x : Int} (f : Int → Int) (hi : me.2.2.2.2.2 pc = some (.lastore, len, p, p', p'')) (hp : pc + 1 = pc') (hk : (mok k && (decide (mkd k = 4) && (decide (mcl k = q) && decide (mln k < 1000000)))) = true) (hr : R32 i) (hf : (mO m l a).2 k = f) (ha : ins k (upI f i x) a = a') (h : PP bb w D me (pc', lv, st, (mhp (mO m l a') c, N), nc, ns) Q) : PP bb w D me (pc, lv, .long (i64 x) :: .int (i32 i) :: .ref q :: st, (mhp (mO m l a) c, N), nc, ns) Q := by
  by_cases hb : 0 ≤ i ∧ i < mln k
  · exact P_last pc' k f hi hp hk hb.1 hb.2 hf ha h
  · simp only [Bool.and_eq_true, decide_eq_true_eq] at hk
    obtain ⟨k1, k2, rfl, k4⟩ := hk
    refine Pm_no hi (fun call => ?_)
    show ag_liftH (ag_do af_O ad_last 1 pc lv (.long (i64 x) :: .int (i32 i) :: .ref (mcl k) :: st) (mhp (mO m l a) c, N)) nc ns = none
    unfold ag_do ad_last
    dsimp only
    unfold ag_acc
    rw [show af_O.1 (mhp (mO m l a) c, N) (mcl k) = _ from mhp_a _ c k1, mce4 _ k2]
    dsimp only
    rw [if_neg (fun e => e.2 (idx_out hr hb))]
    rfl
theorem P_bast2 (pc' k : Nat) {a' : List (Nat × (Int → Int))} {q len p p' p'' : Nat} {i x : Int} (f : Int → Int) (hi : me.2.2.2.2.2 pc = some (.bastore, len, p, p', p'')) (hp : pc + 1 = pc') (hk : (mok k && (decide (mkd k = 5) && (decide (mcl k = q) && decide (mln k < 1000000)))) = true) (hr : R32 i) (hf : (mO m l a).2 k = f) (ha : ins k (upI f i (nar1 x)) a = a') (h : PP bb w D me (pc', lv, st, (mhp (mO m l a') c, N), nc, ns) Q) : PP bb w D me (pc, lv, .int (i32 x) :: .int (i32 i) :: .ref q :: st, (mhp (mO m l a) c, N), nc, ns) Q := by
  by_cases hb : 0 ≤ i ∧ i < mln k
  · subst hp
    exact Pm_bastn hi hk hb.1 hb.2 hf ha h
  · simp only [Bool.and_eq_true, decide_eq_true_eq] at hk
    obtain ⟨k1, k2, rfl, k4⟩ := hk
    refine Pm_no hi (fun call => ?_)
    show ag_liftH (ag_do af_O ad_bast 1 pc lv (.int (i32 x) :: .int (i32 i) :: .ref (mcl k) :: st) (mhp (mO m l a) c, N)) nc ns = none
    unfold ag_do ad_bast
    dsimp only
    unfold ag_acc
    rw [show af_O.1 (mhp (mO m l a) c, N) (mcl k) = _ from mhp_a _ c k1, mce5 _ k2]
    dsimp only
    rw [if_neg (fun e => e.2 (idx_out hr hb))]
    rfl
end PM6
section PWH
variable {w : wX} {D : Nat} {me : am_M} {σ ξ : Type} {body : σ → Option (Sum σ ξ)} {CS : σ → Prop} {CX : ξ → Prop} {hd : σ → (Nat → Int) → ag_St af_T} {ex : ξ → (Nat → Int) → ag_St af_T} {Qx : ξ → ag_Re af_T → Prop}
/-- a loop: what its body does once, the loop does as often as it goes round -/
theorem P_whl (hb : ∀ (bb : Nat) (Q2 : Sum σ ξ → ag_Re af_T → Prop), (∀ s j, CS s → PP bb w D me (hd s j) (Q2 (.inl s))) → (∀ x j, CX x → PP bb w D me (ex x j) (Q2 (.inr x))) → ∀ s j, CS s → PP (bb + 1) w D me (hd s j) (QS Q2 (body s))) : ∀ (bb : Nat), (∀ x j, CX x → PP bb w D me (ex x j) (Qx x)) → ∀ s j, CS s → PP bb w D me (hd s j) (QS Qx (whl body s)) := by
  intro bb
  induction bb with
  | zero => exact fun _ s j _ => Pm_0
  | succ bb ih =>
    intro hx s j hs
    have hx' : ∀ x j, CX x → PP bb w D me (ex x j) (Qx x) := fun x j h fuel n r hn hr => hx x j h fuel n r (by omega) hr
    refine Pm_w (hb bb (sel (fun s' => QS Qx (whl body s')) Qx) (fun s' j' hs' => ih hx' s' j' hs') hx' s j hs) (fun r hr => ?_)
    obtain ⟨y, h1, h2⟩ := hr
    rw [whl_eq, h1]
    cases y with
    | inl s' => exact h2
    | inr x => exact ⟨x, rfl, h2⟩
end PWH
