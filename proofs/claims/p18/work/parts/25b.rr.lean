/-! ===== what a function's answer is like, if it has one; two functions side by side ===== -/
def RP {α : Type} (X : Option α) (P : α → Prop) : Prop := ∀ x, X = some x → P x
def RR {α β : Type} (X : Option α) (Y : Option β) (P : α → β → Prop) : Prop := ∀ x y, X = some x → Y = some y → P x y
section RPS
variable {α β γ δ : Type} {X : Option α} {P P' : α → Prop} {Q : β → Prop} {k : α → Option β}
theorem RP_w (h : RP X P) (g : ∀ x, P x → P' x) : RP X P' := fun x hx => g x (h x hx)
theorem RP_T (X : Option α) : RP X (fun _ => True) := fun _ _ => trivial
theorem RP_some {x : α} (h : P x) : RP (some x) P := fun y hy => by cases hy; exact h
theorem RP_none : RP (none : Option α) P := fun y hy => by cases hy
theorem RP_bnd (h : RP X P) (g : ∀ x, P x → RP (k x) Q) : RP (bnd X k) Q := by
  intro y hy
  cases X with
  | none => cases hy
  | some x => exact g x (h x rfl) y hy
theorem RP_bndT (g : ∀ x, RP (k x) Q) : RP (bnd X k) Q := RP_bnd (RP_T X) (fun x _ => g x)
theorem RP_ite {p : Prop} {dp : Decidable p} {A B : Option α} (h1 : p → RP A P) (h2 : ¬ p → RP B P) : RP (@ite _ p dp A B) P := by
  by_cases h : p
  · rw [if_pos h]; exact h1 h
  · rw [if_neg h]; exact h2 h
theorem RP_sl {P1 : α → Prop} {P2 : γ → Prop} {f : α → Option β} {g : γ → Option β} (h1 : ∀ e, P1 e → RP (f e) Q) (h2 : ∀ e, P2 e → RP (g e) Q) (x : Sum α γ) (hx : sel P1 P2 x) : RP (sel f g x) Q := by
  cases x with
  | inl e => exact h1 e hx
  | inr e => exact h2 e hx
theorem RP_slT {f : α → Option β} {g : γ → Option β} (h1 : ∀ e, RP (f e) Q) (h2 : ∀ e, RP (g e) Q) (x : Sum α γ) : RP (sel f g x) Q := by
  cases x with
  | inl e => exact h1 e
  | inr e => exact h2 e
theorem RP_whl {σ ξ : Type} {f : σ → Option (Sum σ ξ)} {I : σ → Prop} {E : ξ → Prop} (hb : ∀ s, I s → RP (f s) (sel I E)) {s : σ} (hs : I s) : RP (whl f s) E := by
  intro x hx
  obtain ⟨n, hn⟩ := whl_ex hx
  clear hx
  induction n generalizing s with
  | zero => cases hn
  | succ n ih =>
    unfold whlN at hn
    cases hf : f s with
    | none => rw [hf] at hn; cases hn
    | some y =>
      rw [hf] at hn
      have h := hb s hs y hf
      cases y with
      | inl s' => exact ih h hn
      | inr x' => cases hn; exact h
end RPS
theorem sl_w {α β : Type} {P1 P1' : α → Prop} {P2 P2' : β → Prop} (h1 : ∀ z, P1 z → P1' z) (h2 : ∀ z, P2 z → P2' z) (z : Sum α β) (hz : sel P1 P2 z) : sel P1' P2' z := by
  cases z with
  | inl e => exact h1 e hz
  | inr e => exact h2 e hz
section RRS
variable {α β γ δ : Type} {X : Option α} {Y : Option β} {P P' : α → β → Prop} {k : α → Option γ} {l : β → Option δ} {Q : γ → δ → Prop}
theorem RR_w (h : RR X Y P) (g : ∀ x y, P x y → P' x y) : RR X Y P' := fun x y hx hy => g x y (h x y hx hy)
theorem RR_bnd (h : RR X Y P) (g : ∀ x y, P x y → RR (k x) (l y) Q) : RR (bnd X k) (bnd Y l) Q := by
  intro x y hx hy
  cases X with
  | none => cases hx
  | some a =>
    cases Y with
    | none => cases hy
    | some b => exact g a b (h a b rfl rfl) x y hx hy
theorem RR_l {A : α → Prop} {Z : Option δ} (h : RP X A) (g : ∀ x, A x → RR (k x) Z Q) : RR (bnd X k) Z Q := by
  intro x y hx hy
  cases X with
  | none => cases hx
  | some a => exact g a (h a rfl) x y hx hy
theorem RR_r {B : β → Prop} {Z : Option γ} (h : RP Y B) (g : ∀ y, B y → RR Z (l y) Q) : RR Z (bnd Y l) Q := by
  intro x y hx hy
  cases Y with
  | none => cases hy
  | some b => exact g b (h b rfl) x y hx hy
theorem RR_some {x : α} {y : β} (h : P x y) : RR (some x) (some y) P := fun a b ha hb => by cases ha; cases hb; exact h
theorem RR_il {p : Prop} {dp : Decidable p} {A B : Option α} (h1 : p → RR A Y P) (h2 : ¬ p → RR B Y P) : RR (@ite _ p dp A B) Y P := by
  by_cases h : p
  · rw [if_pos h]; exact h1 h
  · rw [if_neg h]; exact h2 h
theorem RR_ir {p : Prop} {dp : Decidable p} {A B : Option β} (h1 : p → RR X A P) (h2 : ¬ p → RR X B P) : RR X (@ite _ p dp A B) P := by
  by_cases h : p
  · rw [if_pos h]; exact h1 h
  · rw [if_neg h]; exact h2 h
/-- both go the same way -/
theorem RR_ii {p q : Prop} {dp : Decidable p} {dq : Decidable q} {A B : Option α} {C D : Option β} (e : p ↔ q) (h1 : p → q → RR A C P) (h2 : ¬ p → ¬ q → RR B D P) : RR (@ite _ p dp A B) (@ite _ q dq C D) P := by
  by_cases h : p
  · rw [if_pos h, if_pos (e.mp h)]; exact h1 h (e.mp h)
  · rw [if_neg h, if_neg (fun g => h (e.mpr g))]; exact h2 h (fun g => h (e.mpr g))
/-- the second's answer is of one kind whatever the first's is -/
theorem RR_pr {A : α → Prop} {B : β → Prop} (h1 : RP X A) (h2 : RP Y B) : RR X Y (fun x y => A x ∧ B y) := fun x y hx hy => ⟨h1 x hx, h2 y hy⟩
theorem RR_whl {σ ξ τ ζ : Type} {f : σ → Option (Sum σ ξ)} {g : τ → Option (Sum τ ζ)} {I : σ → τ → Prop} {E : ξ → ζ → Prop} (hb : ∀ s t, I s t → RR (f s) (g t) (fun u v => sel (fun s' => sel (fun t' => I s' t') (fun _ => False) v) (fun x => sel (fun _ => False) (fun y => E x y) v) u)) {s : σ} {t : τ} (hs : I s t) : RR (whl f s) (whl g t) E := by
  intro x y hx hy
  obtain ⟨n, hn⟩ := whl_ex hx
  clear hx
  induction n generalizing s t with
  | zero => cases hn
  | succ n ih =>
    unfold whlN at hn
    rw [whl_eq] at hy
    cases hf : f s with
    | none => rw [hf] at hn; cases hn
    | some u =>
      cases hg : g t with
      | none => rw [hg] at hy; cases hy
      | some v =>
        rw [hf] at hn
        rw [hg] at hy
        have h := hb s t hs u v hf hg
        cases u with
        | inl s' =>
          cases v with
          | inl t' => exact ih h hy hn
          | inr y' => exact False.elim h
        | inr x' =>
          cases v with
          | inl t' => exact False.elim h
          | inr y' => cases hn; cases hy; exact h
/-- loops that may end at different times -/
theorem RR_whl2 {σ ξ τ ζ : Type} {f : σ → Option (Sum σ ξ)} {g : τ → Option (Sum τ ζ)} {I : σ → τ → Prop} {E : ξ → ζ → Prop} (hb : ∀ s t, I s t → RR (f s) (g t) (fun u v => (∃ s' t', u = .inl s' ∧ v = .inl t' ∧ I s' t') ∨ (∃ x y, u = .inr x ∧ v = .inr y ∧ E x y) ∨ (∃ x t', u = .inr x ∧ v = .inl t' ∧ RP (whl g t') (E x)) ∨ (∃ s' y, u = .inl s' ∧ v = .inr y ∧ RP (whl f s') (fun x => E x y)))) {s : σ} {t : τ} (hs : I s t) : RR (whl f s) (whl g t) E := by
  intro x y hx hy
  obtain ⟨n, hn⟩ := whl_ex hx
  clear hx
  induction n generalizing s t with
  | zero => cases hn
  | succ n ih =>
    unfold whlN at hn
    rw [whl_eq] at hy
    cases hf : f s with
    | none => rw [hf] at hn; cases hn
    | some u =>
      cases hg : g t with
      | none => rw [hg] at hy; cases hy
      | some v =>
        rw [hf] at hn
        rw [hg] at hy
        rcases hb s t hs u v hf hg with ⟨s', t', rfl, rfl, h⟩ | ⟨x', y', rfl, rfl, h⟩ | ⟨x', t', rfl, rfl, h⟩ | ⟨s', y', rfl, rfl, h⟩
        · exact ih h hy hn
        · cases hn
          cases hy
          exact h
        · cases hn
          exact h y hy
        · cases hy
          exact h x (whl_of hn)
end RRS
/-! ===== frames of the reference, where a fault stays ===== -/
def UR (u v : List Nat) (x y : mR) : Prop := fr u v x y ∧ (0 < x.1 10 → 0 < y.1 10)
theorem UR_0 {u v : List Nat} {x : mR} : UR u v x x := ⟨fr_0, id⟩
theorem UR_s {u v u' v' : List Nat} {x y z : mR} (h2 : UR u v y z) (h : UR u' v' x y) (s1 : sbl u u' = true) (s2 : sbl v v' = true) : UR u' v' x z := ⟨fr_s h2.1 h.1 s1 s2, fun g => h2.2 (h.2 g)⟩
theorem UR_m {u v : List Nat} {x y : mR} {l : List (Nat × Int)} {a : List (Nat × (Int → Int))} (h : UR u v x y) (s1 : sbl (l.map Prod.fst) u = true) (s2 : sbl (a.map Prod.fst) v = true) (hf : 0 < y.1 10 → 0 < (mO y l a).1 10) : UR u v x (mO y l a) := ⟨fr_m h.1 s1 s2, fun g => hf (h.2 g)⟩
