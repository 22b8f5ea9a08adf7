/-! ===== THE PURE MACHINE, part 30: a heap of which only some cells are known ===== -/
abbrev av_T : Type := List (Nat × am_C) × Nat
def av_at (l : List (Nat × am_C)) (q : Nat) : Option am_C := match l with
  | [] => none
  | k :: r => if k.1 = q then some k.2 else av_at r q
def av_O : ag_O av_T := (fun t q => av_at t.1 q, fun t q c => ((q, c) :: t.1, t.2), fun t c => ((t.2, c) :: t.1, t.2 + 1), fun t => t.2)
def av_R (t : av_T) (h : List am_C) : Prop := t.2 = h.length ∧ ∀ q c, av_at t.1 q = some c → h[q]? = some c
theorem av_ok : ag_R av_O 8192 av_R := by
  refine ⟨fun t h q c hR hq => hR.2 q c hq, fun t h q c c' hR hq => ?_, fun t h c hR hl => ?_, fun t h hR => hR.1, by decide⟩
  · have hlt : q < h.length := (List.getElem?_eq_some_iff.mp (hR.2 q c hq)).1
    refine ⟨by rw [List.length_set]; exact hR.1, fun q' d hd => ?_⟩
    have hd2 : (if q = q' then some c' else av_at t.1 q') = some d := hd
    split at hd2
    · rename_i hz
      cases hd2
      rw [← hz]
      exact List.getElem?_set_self hlt
    · rename_i hz
      rw [List.getElem?_set_ne hz]
      exact hR.2 q' d hd2
  · have e := hR.1
    refine ⟨?_, fun q' d hd => ?_⟩
    · show t.2 + 1 = (h ++ [c]).length
      rw [List.length_append, e]
      rfl
    · have hd : (if t.2 = q' then some c else av_at t.1 q') = some d := hd
      split at hd
      · rename_i hz
        cases hd
        rw [← hz, e, List.getElem?_append_right (Nat.le_refl _), Nat.sub_self]
        rfl
      · have h1 := hR.2 q' d hd
        rw [List.getElem?_append_left (List.getElem?_eq_some_iff.mp h1).1]
        exact h1
theorem av_nil (h : List am_C) : av_R ([], h.length) h := ⟨rfl, fun q c hz => by cases hz⟩
theorem av_cons {l : List (Nat × am_C)} {n : Nat} {h : List am_C} {q : Nat} {c : am_C} (hR : av_R (l, n) h) (hq : h[q]? = some c) : av_R ((q, c) :: l, n) h := ⟨hR.1, fun q' d hd => by
  have hd2 : (if q = q' then some c else av_at l q') = some d := hd
  split at hd2
  · rename_i hz
    cases hd2
    rw [← hz]
    exact hq
  · exact hR.2 q' d hd2⟩
