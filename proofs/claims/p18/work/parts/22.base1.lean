/-! ===== WHAT A RUN COMES TO, over a heap that is a function; no count of steps is kept ===== -/
abbrev af_T : Type := (Nat → Option am_C) × Nat
def af_O : ag_O af_T := (fun t q => t.1 q, fun t q c => (fun j => if j = q then some c else t.1 j, t.2), fun t c => (fun j => if j = t.2 then some c else t.1 j, t.2 + 1), fun t => t.2)
def af_R (t : af_T) (h : List am_C) : Prop := t.2 = h.length ∧ ∀ q c, t.1 q = some c → h[q]? = some c
theorem af_ok : ag_R af_O 8192 af_R := by
  refine ⟨fun t h q c hR hq => hR.2 q c hq, fun t h q c c' hR hq => ?_, fun t h c hR hl => ?_, fun t h hR => hR.1, by decide⟩
  · have hlt : q < h.length := (List.getElem?_eq_some_iff.mp (hR.2 q c hq)).1
    refine ⟨by rw [List.length_set]; exact hR.1, fun q' d hd => ?_⟩
    have hd2 : (if q' = q then some c' else t.1 q') = some d := hd
    split at hd2
    · rename_i hz
      cases hd2
      rw [hz]
      exact List.getElem?_set_self hlt
    · rename_i hz
      rw [List.getElem?_set_ne (fun e => hz e.symm)]
      exact hR.2 q' d hd2
  · have e := hR.1
    refine ⟨?_, fun q' d hd => ?_⟩
    · show t.2 + 1 = (h ++ [c]).length
      rw [List.length_append, e]
      rfl
    · have hd : (if q' = t.2 then some c else t.1 q') = some d := hd
      split at hd
      · rename_i hz
        cases hd
        rw [hz, e, List.getElem?_append_right (Nat.le_refl _), Nat.sub_self]
        rfl
      · have h1 := hR.2 q' d hd
        rw [List.getElem?_append_left (List.getElem?_eq_some_iff.mp h1).1]
        exact h1
section TM
variable {X : ag_X} {E : am_En} {cn : Nat → Nat} {pg : Nat → am_M}
def Tc (X : ag_X) (E : am_En) (cn : Nat → Nat) (pg : Nat → am_M) (d mi : Nat) (av : List Value) (t : af_T) (Q : ag_Re af_T → Prop) : Prop := ∃ r, Q r ∧ ∃ F, ∀ fuel, F ≤ fuel → ag_call af_O 8192 X E cn pg fuel d mi av t = some r
def Tm (X : ag_X) (E : am_En) (cn : Nat → Nat) (pg : Nat → am_M) (d : Nat) (me : am_M) (S : ag_St af_T) (Q : ag_Re af_T → Prop) : Prop := ∃ r, Q r ∧ ∃ F, ∀ fuel, F ≤ fuel → ∀ n, F ≤ n → ag_run af_O 8192 X E cn (d + 1) (ag_call af_O 8192 X E cn pg fuel d) me n S = some r
variable {d : Nat} {me : am_M} {S S' : ag_St af_T} {Q Q' : ag_Re af_T → Prop} {i : am_I} {pc nc ns : Nat} {lv : List (Nat × Value)} {st : List Value} {t : af_T}
theorem Tm_w (h : Tm X E cn pg d me S Q) (hq : ∀ r, Q r → Q' r) : Tm X E cn pg d me S Q' := by
  obtain ⟨r, a, b⟩ := h
  exact ⟨r, hq r a, b⟩
theorem Tc_w {mi : Nat} {av : List Value} (h : Tc X E cn pg d mi av t Q) (hq : ∀ r, Q r → Q' r) : Tc X E cn pg d mi av t Q' := by
  obtain ⟨r, a, b⟩ := h
  exact ⟨r, hq r a, b⟩
theorem Tm_step (hi : me.2.2.2.2.2 S.1 = some i) (hs : ∀ call, ag_step af_O 8192 X E cn (d + 1) call me i S = some (.inl S')) (h : Tm X E cn pg d me S' Q) : Tm X E cn pg d me S Q := by
  obtain ⟨r, hq, F, hF⟩ := h
  refine ⟨r, hq, F + 1, fun fuel hf n hn => ?_⟩
  obtain ⟨n, rfl⟩ : ∃ k, n = k + 1 := ⟨n - 1, by omega⟩
  rw [ag_run, hi]
  dsimp only
  rw [hs]
  exact hF fuel (by omega) n (by omega)
theorem Tm_end {r : ag_Re af_T} (hi : me.2.2.2.2.2 S.1 = some i) (hs : ∀ call, ag_step af_O 8192 X E cn (d + 1) call me i S = some (.inr r)) (h : Q r) : Tm X E cn pg d me S Q := by
  refine ⟨r, h, 1, fun fuel hf n hn => ?_⟩
  obtain ⟨n, rfl⟩ : ∃ k, n = k + 1 := ⟨n - 1, by omega⟩
  rw [ag_run, hi]
  dsimp only
  rw [hs]
theorem Tm_call {mi : Nat} {av rest : List Value} {Qc : ag_Re af_T → Prop} (hi : me.2.2.2.2.2 pc = some i) (hs : ∀ call, ag_step af_O 8192 X E cn (d + 1) call me i (pc, lv, st, t, nc, ns) = ag_back af_O 8192 E me.2.2.2.2.1 pc lv rest nc ns (call mi av t))
    (hc : Tc X E cn pg d mi av t Qc) (h : ∀ r, Qc r → ∃ v t' k n, r = (.inl v, t', k, n) ∧ Tm X E cn pg d me (pc + 3, lv, v.toList ++ rest, t', nc + k, ns + n) Q) : Tm X E cn pg d me (pc, lv, st, t, nc, ns) Q := by
  obtain ⟨rc, hqc, F1, hF1⟩ := hc
  obtain ⟨v, t', k, n, rfl, r, hq, F2, hF2⟩ := h rc hqc
  refine ⟨r, hq, F1 + F2 + 1, fun fuel hf n hn => ?_⟩
  obtain ⟨n, rfl⟩ : ∃ k, n = k + 1 := ⟨n - 1, by omega⟩
  rw [ag_run, show me.2.2.2.2.2 (pc, lv, st, t, nc, ns).1 = some i from hi]
  dsimp only
  rw [hs, hF1 fuel (by omega)]
  exact hF2 fuel (by omega) n (by omega)
theorem Tc_of {mi : Nat} {av : List Value} (hc : decide (am_cat av ≤ (pg mi).2.2.1) = true) (h : Tm X E cn pg d (pg mi) (0, lv_args 0 av, [], t, 0, 0) Q) : Tc X E cn pg (d + 1) mi av t Q := by
  obtain ⟨r, hq, F, hF⟩ := h
  refine ⟨r, hq, F, fun fuel hf => ?_⟩
  unfold ag_call
  rw [if_pos (of_decide_eq_true hc)]
  exact hF fuel hf fuel hf
end TM
/-! ===== INTS: an Int stands for the int that it is cut to ===== -/
def i32 (z : Int) : Int32 := Int32.ofInt z
def i64 (z : Int) : Int64 := Int64.ofInt z
def R32 (z : Int) : Prop := -2147483648 ≤ z ∧ z < 2147483648
def R64 (z : Int) : Prop := -9223372036854775808 ≤ z ∧ z < 9223372036854775808
theorem i32_to {z : Int} (h : R32 z) : (i32 z).toInt = z := Int32.toInt_ofInt_of_le h.1 h.2
theorem i64_to {z : Int} (h : R64 z) : (i64 z).toInt = z := Int64.toInt_ofInt_of_le h.1 h.2
theorem i32_add (a b : Int) : i32 a + i32 b = i32 (a + b) := (Int32.ofInt_add a b).symm
theorem i32_sub (a b : Int) : i32 a - i32 b = i32 (a - b) := (Int32.ofInt_sub a b).symm
theorem i32_mul (a b : Int) : i32 a * i32 b = i32 (a * b) := (Int32.ofInt_mul a b).symm
theorem i64_add (a b : Int) : i64 a + i64 b = i64 (a + b) := (Int64.ofInt_add a b).symm
theorem i64_sub (a b : Int) : i64 a - i64 b = i64 (a - b) := (Int64.ofInt_sub a b).symm
theorem i64_mul (a b : Int) : i64 a * i64 b = i64 (a * b) := (Int64.ofInt_mul a b).symm
theorem i32_lt {a b : Int} (ha : R32 a) (hb : R32 b) : i32 a < i32 b ↔ a < b := by rw [Int32.lt_iff_toInt_lt, i32_to ha, i32_to hb]
theorem i32_le {a b : Int} (ha : R32 a) (hb : R32 b) : i32 a ≤ i32 b ↔ a ≤ b := by rw [Int32.le_iff_toInt_le, i32_to ha, i32_to hb]
theorem i32_eq {a b : Int} (ha : R32 a) (hb : R32 b) : i32 a = i32 b ↔ a = b := ⟨fun h => by rw [← i32_to ha, ← i32_to hb, h], fun h => by rw [h]⟩
theorem i32_0 : (0 : Int32) = i32 0 := rfl
theorem R32_0 : R32 0 := ⟨by decide, by decide⟩
theorem i32_nat {z : Int} (h0 : 0 ≤ z) (h1 : z < 2147483648) : ((i32 z).toNatClampNeg : Int) = z := by
  rw [Int32.toNatClampNeg, i32_to ⟨by omega, h1⟩]
  omega
theorem i32_of (x : Int32) : i32 x.toInt = x := Int32.ofInt_toInt x
/-! ===== THE REFERENCE'S OBJECT: its ints and longs as Ints, its arrays as functions ===== -/
abbrev mR : Type := (Nat → Int) × (Nat → Int → Int)
def mkd (k : Nat) : Nat := ([3, 0, 3, 3, 3, 0, 0, 0, 0, 0, 0, 0, 1, 0, 3, 3, 3, 3, 3, 0, 0, 0, 0, 0, 0, 0, 0, 0, 0, 3, 3, 3, 3, 3, 3, 3, 3, 3, 3, 3, 3, 3, 3, 3, 3, 3, 3, 3, 3, 3, 3, 3, 3, 3, 3, 3, 3, 3, 5, 5, 3, 3, 3, 3, 0, 3, 3, 3, 4, 0, 0, 2, 1, 0, 0, 0, 3, 3, 3, 3, 3, 3, 3, 5, 4, 3, 3, 3, 3, 5, 5, 4, 4, 3, 3, 3, 3, 4, 4, 0, 0, 3, 3, 3, 3, 3, 3, 3, 3, 3, 3, 3, 3, 3, 3, 4, 5, 3, 3, 0, 3, 3, 3, 5, 3, 0, 5, 2, 2, 0, 0, 3, 3, 4, 4, 5, 5, 5, 4, 3, 3, 3, 4, 4, 4, 4, 4, 4, 0, 0, 0, 0, 0, 3, 3, 3, 3, 3, 3, 3, 4, 4, 4, 3, 3, 3, 3, 3, 3, 3, 3, 4, 4, 4, 4, 5, 0, 2, 4] : List Nat).getD k 9
def mln (k : Nat) : Nat := ([178, 0, 20, 4000, 4000, 0, 0, 0, 0, 0, 0, 0, 0, 0, 120, 120, 120, 120, 38, 0, 0, 0, 0, 0, 0, 0, 0, 0, 0, 12, 12, 192, 192, 192, 12, 16, 8, 16, 16, 16, 16, 16, 16, 16, 16, 128, 16, 64, 64, 64, 16, 8, 8, 8, 8, 8, 8, 8, 8, 8, 48, 48, 48, 48, 0, 800, 800, 800, 800, 0, 0, 0, 0, 0, 0, 0, 60, 60, 60, 60, 540, 540, 540, 540, 540, 60, 60, 60, 60, 60, 60, 60, 60, 8, 96, 16, 16, 128, 128, 0, 0, 240, 240, 240, 240, 240, 240, 240, 240, 16, 32, 32, 32, 32, 64, 32, 16, 8, 8, 0, 48, 48, 48, 12, 12, 0, 16, 0, 0, 0, 0, 48, 12, 12, 12, 10608, 10608, 384, 512, 8, 768, 768, 3072, 3072, 3072, 4, 4, 4, 0, 0, 0, 0, 0, 41, 41, 41, 41, 41, 41, 5248, 164, 164, 164, 128, 128, 128, 128, 128, 114688, 6144, 16, 192, 16, 800, 4, 12, 0, 0, 4] : List Nat).getD k 0
def mcl (k : Nat) : Nat := ([190, 0, 191, 192, 193, 0, 0, 0, 0, 0, 0, 0, 0, 0, 194, 195, 196, 197, 198, 0, 0, 0, 0, 0, 0, 0, 0, 0, 0, 199, 200, 201, 202, 203, 204, 205, 206, 207, 208, 209, 210, 211, 212, 213, 214, 215, 216, 217, 218, 219, 220, 221, 222, 223, 224, 225, 226, 227, 228, 229, 230, 231, 232, 233, 0, 234, 235, 236, 237, 0, 0, 0, 0, 0, 0, 0, 238, 239, 240, 241, 242, 243, 244, 245, 246, 247, 248, 249, 250, 251, 252, 253, 254, 255, 256, 257, 258, 259, 260, 0, 0, 261, 262, 263, 264, 265, 266, 267, 268, 269, 270, 271, 272, 273, 274, 275, 276, 277, 278, 0, 279, 280, 281, 282, 283, 0, 284, 0, 0, 0, 0, 285, 286, 287, 288, 289, 290, 291, 292, 293, 294, 295, 296, 297, 298, 299, 300, 301, 0, 0, 0, 0, 0, 302, 303, 304, 305, 306, 307, 308, 309, 310, 311, 312, 313, 314, 315, 316, 317, 318, 319, 320, 321, 322, 323, 324, 0, 0, 325] : List Nat).getD k 0
def mar : List Nat := [0, 2, 3, 4, 14, 15, 16, 17, 18, 29, 30, 31, 32, 33, 34, 35, 36, 37, 38, 39, 40, 41, 42, 43, 44, 45, 46, 47, 48, 49, 50, 51, 52, 53, 54, 55, 56, 57, 58, 59, 60, 61, 62, 63, 65, 66, 67, 68, 76, 77, 78, 79, 80, 81, 82, 83, 84, 85, 86, 87, 88, 89, 90, 91, 92, 93, 94, 95, 96, 97, 98, 101, 102, 103, 104, 105, 106, 107, 108, 109, 110, 111, 112, 113, 114, 115, 116, 117, 118, 120, 121, 122, 123, 124, 126, 131, 132, 133, 134, 135, 136, 137, 138, 139, 140, 141, 142, 143, 144, 145, 146, 147, 153, 154, 155, 156, 157, 158, 159, 160, 161, 162, 163, 164, 165, 166, 167, 168, 169, 170, 171, 172, 173, 174, 175, 178]
def mfv (M : mR) (k : Nat) : Value := match mkd k with
  | 0 => .int (i32 (M.1 k))
  | 1 => .long (i64 (M.1 k))
  | 2 => .int (i32 (M.1 k))
  | _ => .ref (mcl k)
def mce (M : mR) (k : Nat) : am_C := match mkd k with
  | 3 => .inl (0, mln k, .inl (fun j => i32 (M.2 k j)))
  | 5 => .inl (3, mln k, .inl (fun j => i32 (M.2 k j)))
  | _ => .inl (1, mln k, .inr (.inl (fun j => i64 (M.2 k j))))
def mfl (M : mR) : List Value := (List.range 179).map (mfv M)
/-- the heap: the object at 189, its arrays behind it, all else in c -/
def mhp (M : mR) (c : Nat → Option am_C) : Nat → Option am_C := fun q => if q < 189 then c q else if q = 189 then some (.inr (12, mfl M)) else if q < 189 + 1 + 136 then some (mce M (mar.getD (q - (189 + 1)) 0)) else c q
def olk {α : Type} (l : List (Nat × α)) (k : Nat) (d : α) : α := match l with
  | [] => d
  | q :: r => if q.1 = k then q.2 else olk r k d
def ins {α : Type} (k : Nat) (x : α) (l : List (Nat × α)) : List (Nat × α) := match l with
  | [] => [(k, x)]
  | q :: r => if q.1 = k then (k, x) :: r else if k < q.1 then (k, x) :: q :: r else q :: ins k x r
def mrg {α : Type} (l m : List (Nat × α)) : List (Nat × α) := match m with
  | [] => l
  | q :: r => mrg (ins q.1 q.2 l) r
def mO (m : mR) (l : List (Nat × Int)) (a : List (Nat × (Int → Int))) : mR := (fun k => olk l k (m.1 k), fun k => olk a k (m.2 k))
def upI (f : Int → Int) (i x : Int) : Int → Int := fun j => if j = i then x else f j
theorem olk_ins {α : Type} (k : Nat) (x : α) (l : List (Nat × α)) (j : Nat) (d : α) : olk (ins k x l) j d = if k = j then x else olk l j d := by
  induction l with
  | nil => rfl
  | cons q r ih =>
    unfold ins
    split
    · rename_i h
      show (if k = j then x else olk r j d) = if k = j then x else if q.1 = j then q.2 else olk r j d
      by_cases hk : k = j
      · rw [if_pos hk, if_pos hk]
      · rw [if_neg hk, if_neg hk, if_neg (by rw [h]; exact hk)]
    · rename_i h
      split
      · rfl
      · show (if q.1 = j then q.2 else olk (ins k x r) j d) = if k = j then x else if q.1 = j then q.2 else olk r j d
        rw [ih]
        by_cases hk : k = j
        · rw [if_pos hk, if_pos hk, if_neg (by rw [← hk]; exact h)]
        · rw [if_neg hk, if_neg hk]
theorem olk_mrg {α : Type} (m : List (Nat × α)) : ∀ (l : List (Nat × α)) (j : Nat) (d : α), m.Pairwise (fun a b => a.1 < b.1) → olk (mrg l m) j d = olk m j (olk l j d) := by
  induction m with
  | nil => intro l j d _; rfl
  | cons q r ih =>
    intro l j d hp
    show olk (mrg (ins q.1 q.2 l) r) j d = if q.1 = j then q.2 else olk r j (olk l j d)
    rw [ih _ _ _ (List.pairwise_cons.mp hp).2, olk_ins]
    by_cases h : q.1 = j
    · rw [if_pos h, if_pos h]
      have hn : ∀ (d : α), olk r j d = d := by
        have hlt := (List.pairwise_cons.mp hp).1
        clear ih hp
        induction r with
        | nil => intro d; rfl
        | cons p s ih =>
          intro d
          show (if p.1 = j then p.2 else olk s j d) = d
          have := hlt p List.mem_cons_self
          rw [if_neg (by omega)]
          exact ih (fun a ha => hlt a (List.mem_cons_of_mem _ ha)) d
      exact hn _
    · rw [if_neg h, if_neg h]
theorem mO_mO (m : mR) (l l' : List (Nat × Int)) (a a' : List (Nat × (Int → Int))) (h1 : l'.Pairwise (fun a b => a.1 < b.1)) (h2 : a'.Pairwise (fun a b => a.1 < b.1)) : mO (mO m l a) l' a' = mO m (mrg l l') (mrg a a') := by
  unfold mO
  refine Prod.ext ?_ ?_
  · funext k
    exact (olk_mrg l' l k _ h1).symm
  · funext k
    exact (olk_mrg a' a k _ h2).symm
theorem mO_f (m : mR) (l : List (Nat × Int)) (a : List (Nat × (Int → Int))) (k : Nat) (x : Int) : mO (mO m l a) [(k, x)] [] = mO m (ins k x l) a := mO_mO m l [(k, x)] a [] (List.pairwise_singleton _ _) List.Pairwise.nil
theorem mO_a (m : mR) (l : List (Nat × Int)) (a : List (Nat × (Int → Int))) (k : Nat) (f : Int → Int) : mO (mO m l a) [] [(k, f)] = mO m l (ins k f a) := mO_mO m l [] a [(k, f)] List.Pairwise.nil (List.pairwise_singleton _ _)
theorem mO_0 (m : mR) : mO m [] [] = m := rfl
theorem mhp_o (M : mR) (c : Nat → Option am_C) : mhp M c 189 = some (.inr (12, mfl M)) := by
  unfold mhp
  rw [if_neg (by omega), if_pos rfl]
theorem mfl_at (M : mR) {k : Nat} (hk : k < 179) : (mfl M)[k]? = some (mfv M k) := by
  unfold mfl
  rw [List.getElem?_map, List.getElem?_range hk]
  rfl
theorem mfl_len (M : mR) : (mfl M).length = 179 := by
  unfold mfl
  rw [List.length_map, List.length_range]
theorem mfl_set (M : mR) {k : Nat} {v : Value} {x : Int} (hk : k < 179) (hv : mfv (mO M [(k, x)] []) k = v) : (mfl M).set k v = mfl (mO M [(k, x)] []) := by
  apply List.ext_getElem?
  intro j
  by_cases hj : j = k
  · subst hj
    rw [List.getElem?_set_self (by rw [mfl_len]; exact hk), mfl_at _ hk, hv]
  · rw [List.getElem?_set_ne (fun e => hj e.symm)]
    by_cases hl : j < 179
    · rw [mfl_at _ hl, mfl_at _ hl]
      have e : (mO M [(k, x)] []).1 j = M.1 j := by
        show (if k = j then x else M.1 j) = M.1 j
        rw [if_neg (fun e => hj e.symm)]
      unfold mfv
      rw [e]
    · rw [List.getElem?_eq_none (by rw [mfl_len]; omega), List.getElem?_eq_none (by rw [mfl_len]; omega)]
theorem mhp_setf (M : mR) (c : Nat → Option am_C) (k : Nat) (x : Int) : (fun j => if j = 189 then some (.inr (12, mfl (mO M [(k, x)] []))) else mhp M c j) = mhp (mO M [(k, x)] []) c := by
  funext j
  unfold mhp
  by_cases h0 : j = 189
  · subst h0
    rw [if_pos rfl, if_neg (by omega), if_pos rfl]
  · have e : ∀ q, mce (mO M [(k, x)] []) q = mce M q := fun q => rfl
    rw [if_neg h0, if_neg h0, if_neg h0, e]
def mok (k : Nat) : Bool := decide (3 ≤ mkd k) && (decide (mkd k < 6) && (decide (189 < mcl k) && (decide (mcl k < 189 + 1 + 136) && decide (mar.getD (mcl k - (189 + 1)) 0 = k))))
theorem mhp_a (M : mR) (c : Nat → Option am_C) {k : Nat} (hk : mok k = true) : mhp M c (mcl k) = some (mce M k) := by
  unfold mok at hk
  simp only [Bool.and_eq_true, decide_eq_true_eq] at hk
  obtain ⟨-, -, h1, h2, h3⟩ := hk
  unfold mhp
  rw [if_neg (by omega), if_neg (by omega), if_pos h2, h3]
theorem mar_inj : ∀ q, q < 136 → mar.getD q 0 = mar.getD q 0 ∧ mcl (mar.getD q 0) = q + (189 + 1) := by decide +kernel
theorem mhp_seta (M : mR) (c : Nat → Option am_C) {k : Nat} (hk : mok k = true) (f : Int → Int) : (fun j => if j = mcl k then some (mce (mO M [] [(k, f)]) k) else mhp M c j) = mhp (mO M [] [(k, f)]) c := by
  unfold mok at hk
  simp only [Bool.and_eq_true, decide_eq_true_eq] at hk
  obtain ⟨-, -, h1, h2, h3⟩ := hk
  funext j
  unfold mhp
  by_cases h0 : j < 189
  · rw [if_neg (by omega), if_pos h0, if_pos h0]
  · rw [if_neg h0, if_neg h0]
    by_cases h4 : j = 189
    · subst h4
      rw [if_neg (by omega), if_pos rfl, if_pos rfl]
      rfl
    · rw [if_neg h4, if_neg h4]
      by_cases h5 : j < 189 + 1 + 136
      · rw [if_pos h5, if_pos h5]
        by_cases h6 : j = mcl k
        · rw [if_pos h6]
          subst h6
          rw [h3]
        · rw [if_neg h6]
          have e : mar.getD (j - (189 + 1)) 0 ≠ k := by
            intro e
            have h7 := (mar_inj (j - (189 + 1)) (by omega)).2
            rw [e] at h7
            exact h6 (by omega)
          have e2 : (mO M [] [(k, f)]).2 (mar.getD (j - (189 + 1)) 0) = M.2 (mar.getD (j - (189 + 1)) 0) := by
            show (if k = mar.getD (j - (189 + 1)) 0 then f else M.2 (mar.getD (j - (189 + 1)) 0)) = _
            rw [if_neg (fun e3 => e e3.symm)]
          unfold mce
          rw [e2]
      · rw [if_neg h5, if_neg h5, if_neg (by omega)]
