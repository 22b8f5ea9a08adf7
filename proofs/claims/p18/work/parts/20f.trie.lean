/-! ===== THE PURE MACHINE, part 29: a heap of rows of rows of rows, quick to reckon with ===== -/
abbrev at_T : Type := List (List (List am_C)) × Nat
def at_at (t : List (List (List am_C))) (q : Nat) : Option am_C := match t[q / 256]? with
  | some a => match a[q / 16 % 16]? with
    | some b => b[q % 16]?
    | none => none
  | none => none
def at_put (t : List (List (List am_C))) (q : Nat) (c : am_C) : List (List (List am_C)) := match t[q / 256]? with
  | some a => match a[q / 16 % 16]? with
    | some b => t.set (q / 256) (a.set (q / 16 % 16) (b.set (q % 16) c))
    | none => t
  | none => t
def at_O : ag_O at_T := (fun t q => if q < t.2 then at_at t.1 q else none, fun t q c => (at_put t.1 q c, t.2), fun t c => (at_put t.1 t.2 c, t.2 + 1), fun t => t.2)
def at_0 : at_T := (List.replicate 32 (List.replicate 16 (List.replicate 16 (.inr (99, [])))), 0)
def at_R (t : at_T) (h : List am_C) : Prop := t.2 = h.length ∧ t.2 ≤ 8192 ∧ (∀ q, q < 8192 → (at_at t.1 q).isSome) ∧ ∀ q, q < t.2 → at_at t.1 q = h[q]?
theorem at_put_at (t : List (List (List am_C))) (p q : Nat) (c : am_C) (hp : (at_at t p).isSome) : at_at (at_put t p c) q = if q = p then some c else at_at t q := by
  unfold at_at at hp
  split at hp
  · rename_i a ha
    split at hp
    · rename_i b hb
      have hc : p % 16 < b.length := by
        obtain ⟨v, hv⟩ := Option.isSome_iff_exists.mp hp
        exact (List.getElem?_eq_some_iff.mp hv).1
      have hlb : p / 16 % 16 < a.length := (List.getElem?_eq_some_iff.mp hb).1
      have hla : p / 256 < t.length := (List.getElem?_eq_some_iff.mp ha).1
      have e : at_put t p c = t.set (p / 256) (a.set (p / 16 % 16) (b.set (p % 16) c)) := by
        unfold at_put
        rw [ha]
        dsimp only
        rw [hb]
      rw [e]
      unfold at_at
      by_cases h1 : q / 256 = p / 256
      · rw [h1, List.getElem?_set_self hla, ha]
        dsimp only
        by_cases h2 : q / 16 % 16 = p / 16 % 16
        · rw [h2, List.getElem?_set_self hlb, hb]
          dsimp only
          by_cases h3 : q % 16 = p % 16
          · rw [h3, List.getElem?_set_self hc, if_pos (by omega)]
          · rw [List.getElem?_set_ne (fun z => h3 z.symm), if_neg (fun z => h3 (by rw [z]))]
        · rw [List.getElem?_set_ne (fun z => h2 z.symm), if_neg (fun z => h2 (by rw [z]))]
      · rw [List.getElem?_set_ne (fun z => h1 z.symm), if_neg (fun z => h1 (by rw [z]))]
    · cases hp
  · cases hp
theorem at_ok : ag_R at_O 8192 at_R := by
  refine ⟨fun t h q c hR hq => ?_, fun t h q c c' hR hq => ?_, fun t h c hR hl => ?_, fun t h hR => hR.1, by decide⟩
  · have hq : (if q < t.2 then at_at t.1 q else none) = some c := hq
    split at hq
    · rename_i hl
      rw [← hR.2.2.2 q hl]
      exact hq
    · cases hq
  · have hq : (if q < t.2 then at_at t.1 q else none) = some c := hq
    split at hq
    · rename_i hl
      have hs : (at_at t.1 q).isSome := by rw [hq]; rfl
      refine ⟨by rw [List.length_set]; exact hR.1, hR.2.1, fun q' h' => ?_, fun q' h' => ?_⟩
      · show (at_at (at_put t.1 q c') q').isSome = true
        rw [at_put_at _ _ _ _ hs]
        split
        · rfl
        · exact hR.2.2.1 q' h'
      · show at_at (at_put t.1 q c') q' = _
        rw [at_put_at _ _ _ _ hs]
        have hl' : q < h.length := by rw [← hR.1]; exact hl
        split
        · rename_i hz
          rw [hz, List.getElem?_set_self hl']
        · rename_i hz
          rw [List.getElem?_set_ne (fun z => hz z.symm)]
          exact hR.2.2.2 q' h'
    · cases hq
  · have hl : t.2 < 8192 := hl
    have hs : (at_at t.1 t.2).isSome := hR.2.2.1 _ hl
    refine ⟨?_, hl, fun q' h' => ?_, fun q' h' => ?_⟩
    · show t.2 + 1 = (h ++ [c]).length
      rw [List.length_append, hR.1]
      rfl
    · show (at_at (at_put t.1 t.2 c) q').isSome = true
      rw [at_put_at _ _ _ _ hs]
      split
      · rfl
      · exact hR.2.2.1 q' h'
    · show at_at (at_put t.1 t.2 c) q' = _
      have h' : q' < t.2 + 1 := h'
      rw [at_put_at _ _ _ _ hs]
      split
      · rename_i hz
        rw [hz, hR.1, List.getElem?_append_right (Nat.le_refl _), Nat.sub_self]
        rfl
      · rename_i hz
        have : q' < h.length := by rw [← hR.1]; omega
        rw [List.getElem?_append_left this]
        exact hR.2.2.2 q' (by omega)
theorem at_0_ok : at_R at_0 [] := by
  refine ⟨rfl, by decide, fun q hq => ?_, fun q hq => absurd hq (Nat.not_lt_zero _)⟩
  unfold at_at at_0
  dsimp only
  rw [List.getElem?_replicate, if_pos (by omega)]
  dsimp only
  rw [List.getElem?_replicate, if_pos (by omega)]
  dsimp only
  rw [List.getElem?_replicate, if_pos (by omega)]
  rfl
