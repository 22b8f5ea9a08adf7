/-! ===== RANGES of the reference's fields and arrays ===== -/
def flo (k : Nat) : Int := ([0, 0, 0, 0, 0, 0, 0, 0, 0, 0, 0, (-1), (-9223372036854775808), 0, 0, 0, 0, 0, 0, 0, 0, 0, 0, 0, 0, 0, 0, 0, 0, 0, 0, 0, 0, 0, 0, 0, 0, 0, 0, 0, 0, 0, 0, 0, 0, 0, 0, 0, 0, 0, 0, 0, 0, 0, 0, 0, 0, 0, 0, 0, 0, 0, 0, 0, (-1), 0, 0, 0, 0, 0, 0, 0, (-9223372036854775808), 0, 0, 0, 0, 0, 0, 0, 0, 0, 0, 0, 0, 0, 0, 0, 0, 0, 0, 0, 0, 0, 0, 0, 0, 0, 0, 0, 0, 0, 0, 0, 0, 0, 0, 0, 0, 0, 0, 0, 0, 0, 0, 0, 0, 0, 0, 0, 0, 0, 0, 0, 0, 0, 0, 0, 0, 0, (-1), 0, 0, 0, 0, 0, 0, 0, 0, 0, 0, 0, 0, 0, 0, 0, 0, 0, 0, 0, 0, 0, 0, 0, 0, 0, 0, 0, 0, 0, 0, 0, 0, 0, 0, 0, 0, 0, 0, 0, 0, 0, 0, 0, 0, 0, 0, 0, 0] : List Int).getD k 0
def fhi (k : Nat) : Int := ([0, 3, 0, 0, 0, 4000, 4000, 330, 4000, 4000, 8, 4000, 9223372036854775807, 120, 0, 0, 0, 0, 0, 12, 12, 16, 8, 16, 16, 16, 8, 48, 800, 0, 0, 0, 0, 0, 0, 0, 0, 0, 0, 0, 0, 0, 0, 0, 0, 0, 0, 0, 0, 0, 0, 0, 0, 0, 0, 0, 0, 0, 0, 0, 0, 0, 0, 0, 15, 0, 0, 0, 0, 1024, 4000, 1, 9223372036854775807, 60, 24, 3, 0, 0, 0, 0, 0, 0, 0, 0, 0, 0, 0, 0, 0, 0, 0, 0, 0, 0, 0, 0, 0, 0, 0, 240, 64, 0, 0, 0, 0, 0, 0, 0, 0, 0, 0, 0, 0, 0, 0, 0, 0, 0, 0, 8, 0, 0, 0, 0, 0, 12, 0, 1, 1, 12, 47, 0, 0, 0, 0, 0, 0, 0, 0, 0, 0, 0, 0, 0, 0, 0, 0, 0, 1000000, 40, 1000000, 1000000, 100000000, 0, 0, 0, 0, 0, 0, 0, 0, 0, 0, 0, 0, 0, 0, 0, 0, 0, 0, 0, 0, 0, 0, 0, 128, 1, 0] : List Int).getD k 0
def elo (k : Nat) : Int := ([0, 0, 0, 0, 0, 0, 0, 0, 0, 0, 0, 0, 0, 0, 0, 0, 0, 0, 0, 0, 0, 0, 0, 0, 0, 0, 0, 0, 0, 0, 0, 0, 0, 0, 0, 0, 0, 0, (-1), 0, 0, 0, 0, 0, (-2), (-2), 0, 0, 0, 0, 0, 0, 0, 0, 0, 0, 0, 0, 0, 0, 0, (-1), (-1), (-1), 0, 0, 0, 0, (-9223372036854775808), 0, 0, 0, 0, 0, 0, 0, 0, 0, 0, 0, (-1), 0, 0, 0, (-9223372036854775808), 0, 0, 0, 0, 0, 0, (-9223372036854775808), (-9223372036854775808), 0, 0, 0, 0, (-9223372036854775808), (-9223372036854775808), 0, 0, 0, 0, 0, 0, 0, 0, 0, 0, 0, 0, 0, 0, 0, 0, (-9223372036854775808), 0, (-1), (-1), 0, 0, 0, 0, 0, 0, 0, 0, 0, 0, 0, 0, 0, 0, 0, 0, 0, 0, 0, (-9223372036854775808), 0, (-2147483648), 0, (-9223372036854775808), (-9223372036854775808), (-9223372036854775808), (-9223372036854775808), (-9223372036854775808), (-9223372036854775808), 0, 0, 0, 0, 0, 0, 0, (-2147483648), 0, (-2147483648), (-2147483648), 0, (-9223372036854775808), (-9223372036854775808), (-9223372036854775808), 0, 0, (-2147483648), (-1), 0, (-2147483648), (-2147483648), 0, (-9223372036854775808), (-9223372036854775808), (-9223372036854775808), (-9223372036854775808), 0, 0, 0, (-9223372036854775808)] : List Int).getD k 0
def ehi (k : Nat) : Int := ([255, 0, 255, 255, 255, 0, 0, 0, 0, 0, 0, 0, 0, 0, 4000, 4000, 7, 15, 255, 0, 0, 0, 0, 0, 0, 0, 0, 0, 0, 16, 1024, 4000, 4000, 64, 11, 64, 64, 4000, 15, 15, 4000, 6, 8, 1024, 15, 15, 4, 4000, 4000, 64, 13, 4, 4096, 8, 32, 4, 8, 15, 1, 1, 2, 47, 1, 7, 0, 408, 64, 191, 9223372036854775807, 0, 0, 0, 0, 0, 0, 0, 2, 4000, 330, 2, 330, 64, 4000, 1, 9223372036854775807, 64, 4000, 64, 4000, 1, 1, 9223372036854775807, 9223372036854775807, 64, 11, 800, 800, 9223372036854775807, 9223372036854775807, 0, 0, 330, 207, 7, 11, 800, 800, 800, 800, 192, 800, 800, 1024, 330, 15, 9223372036854775807, 1, 47, 1, 0, 240, 800, 800, 1, 11, 0, 1, 0, 0, 0, 0, 11, 48, 60000000, 200000, 1, 1, 1, 9223372036854775807, 96, 2147483647, 15, 9223372036854775807, 9223372036854775807, 9223372036854775807, 9223372036854775807, 9223372036854775807, 9223372036854775807, 0, 0, 0, 0, 0, 3, 128, 2147483647, 7, 2147483647, 2147483647, 255, 9223372036854775807, 9223372036854775807, 9223372036854775807, 3, 2, 2147483647, 896, 100000000, 2147483647, 2147483647, 96, 9223372036854775807, 9223372036854775807, 9223372036854775807, 9223372036854775807, 1, 0, 0, 9223372036854775807] : List Int).getD k 0
def kyL : List Int := [104, 101, 97, 100, 101, 114, 0, 117, 115, 101, 0, 109, 101, 116, 97, 0, 97, 114, 114, 97, 121, 0, 115, 116, 97, 116, 101, 0, 101, 120, 116, 114, 97, 99, 116, 0, 103, 111, 116, 111, 0, 115, 101, 108, 101, 99, 116, 0, 100, 101, 102, 97, 117, 108, 116, 0, 97, 99, 116, 105, 111, 110, 0, 116, 97, 98, 108, 101, 0, 107, 101, 121, 0, 101, 120, 97, 99, 116, 0, 112, 114, 101, 102, 105, 120, 0, 109, 97, 115, 107, 101, 100, 0, 97, 99, 116, 105, 111, 110, 115, 0, 114, 111, 111, 109, 0, 119, 97, 121, 115, 0, 115, 116, 97, 115, 104, 0, 99, 111, 110, 116, 114, 111, 108, 0, 97, 112, 112, 108, 121, 0, 105, 102, 0, 101, 108, 115, 101, 0, 101, 109, 105, 116, 0, 97, 100, 100, 0, 116, 97, 107, 101, 0, 100, 114, 111, 112, 0, 108, 111, 97, 100, 0, 115, 116, 111, 114, 101, 0, 118, 97, 108, 105, 100, 0, 97, 115, 0]
def gvL : List Int := [105, 110, 95, 112, 111, 114, 116, 0, 108, 101, 110, 103, 116, 104, 0, 111, 117, 116, 95, 112, 111, 114, 116, 0, 97, 99, 99, 101, 112, 116, 0, 114, 101, 106, 101, 99, 116, 0]
def kyF (i : Int) : Int := kyL.getD i.toNat 0
def gvF (i : Int) : Int := gvL.getD i.toNat 0
def ksL : List Int := [0, 7, 11, 16, 22, 28, 36, 41, 48, 56, 63, 69, 73, 79, 86, 93, 101, 106, 111, 117, 125, 131, 134, 139, 144, 148, 153, 158, 163, 169, 175, 178]
def knL : List Int := [6, 3, 4, 5, 5, 7, 4, 6, 7, 6, 5, 3, 5, 6, 6, 7, 4, 4, 5, 7, 5, 2, 4, 4, 3, 4, 4, 4, 5, 5, 2]
def gsL : List Int := [0, 8, 15, 24, 31, 38]
def gnL : List Int := [7, 6, 8, 6, 6]
def kst (k : Int) : Int := ksL.getD k.toNat 0
def klen (k : Int) : Int := knL.getD k.toNat 0
def gst (k : Int) : Int := gsL.getD k.toNat 0
def glen (k : Int) : Int := gnL.getD k.toNat 0
theorem kw_a (k : Int) (h0 : 0 ≤ k) (h1 : k < 31) : 0 ≤ kst k ∧ 1 ≤ klen k ∧ klen k ≤ 8 ∧ kst k + klen k ≤ 177 ∧ kyF (kst k + klen k) = 0 ∧ kst (k + 1) = kst k + klen k + 1 := by
  obtain ⟨n, rfl⟩ := Int.eq_ofNat_of_zero_le h0
  exact (by decide +kernel : ∀ n : Nat, n < 31 → 0 ≤ kst n ∧ 1 ≤ klen n ∧ klen n ≤ 8 ∧ kst n + klen n ≤ 177 ∧ kyF (kst n + klen n) = 0 ∧ kst (n + 1) = kst n + klen n + 1) n (by omega)
def LxP (wo he wi si fa : Int) : Prop := fa = 0 → (wo = 0 ∧ he = si ∧ wi = 1) ∨ (wo ≠ 0 ∧ 1 ≤ wi ∧ he + wi ≤ si)
def sameN (src : Int → Int) (here wide at' n : Int) : Prop := n = wide ∧ ∀ j, 0 ≤ j → j < n → src (at' + j) = src (here + j)
def sameG (src : Int → Int) (here wide k : Int) : Prop := glen k = wide ∧ ∀ j, 0 ≤ j → j < glen k → src (here + j) = gvF (gst k + j)
def isGH (src : Int → Int) (here wide r : Int) : Prop := (0 ≤ r ∧ r < 5 ∧ sameG src here wide r ∧ ∀ k, 0 ≤ k → k < r → ¬ sameG src here wide k) ∨ (r = -1 ∧ ∀ k, 0 ≤ k → k < 5 → ¬ sameG src here wide k)
theorem isGH_u {src : Int → Int} {here wide r s : Int} (h : isGH src here wide r) (g : isGH src here wide s) : r = s := by
  rcases h with ⟨a1, a2, a3, a4⟩ | ⟨a1, a2⟩ <;> rcases g with ⟨b1, b2, b3, b4⟩ | ⟨b1, b2⟩
  · apply Classical.byContradiction
    intro hn
    rcases Int.lt_or_gt_of_ne hn with h | h
    · exact b4 r a1 h a3
    · exact a4 s b1 h b3
  · exact absurd a3 (b2 r a1 a2)
  · exact absurd b3 (a2 s b1 b2)
  · omega
def isFH (src at' wd : Int → Int) (here wide n r : Int) : Prop := (0 ≤ r ∧ r < n ∧ sameN src here wide (at' r) (wd r) ∧ ∀ k, r < k → k < n → ¬ sameN src here wide (at' k) (wd k)) ∨ (r = -1 ∧ ∀ k, 0 ≤ k → k < n → ¬ sameN src here wide (at' k) (wd k))
theorem isFH_u {src at' wd : Int → Int} {here wide n r s : Int} (h : isFH src at' wd here wide n r) (g : isFH src at' wd here wide n s) : r = s := by
  rcases h with ⟨a1, a2, a3, a4⟩ | ⟨a1, a2⟩ <;> rcases g with ⟨b1, b2, b3, b4⟩ | ⟨b1, b2⟩
  · apply Classical.byContradiction
    intro hn
    rcases Int.lt_or_gt_of_ne hn with h | h
    · exact a4 s h b2 b3
    · exact b4 r h a2 a3
  · exact absurd a3 (b2 r a1 a2)
  · exact absurd b3 (a2 s b1 b2)
  · omega
def sortV (so : Int → Int) (g k : Int) : Int := if 0 ≤ g then (if g < 3 then 3 else 5) else if k < 0 then -1 else so k
def whichV (wh : Int → Int) (g k : Int) : Int := if 0 ≤ g then (if g < 3 then g else if g = 3 then -1 else -2) else wh k
section OLD
variable {src at' wd so wh : Int → Int} {here wide n s x r B : Int}
theorem old_ok (h : ∃ g k, isGH src here wide g ∧ (g < 0 → isFH src at' wd here wide n k) ∧ s = sortV so g k) (hs : 1 ≤ s) : ∀ g k, isGH src here wide g → g < 0 → isFH src at' wd here wide n k → 0 ≤ k := by
  obtain ⟨g0, k0, h1, h2, h3⟩ := h
  intro g k hg hl hk
  have e := isGH_u hg h1
  subst e
  have e2 := isFH_u hk (h2 hl)
  subst e2
  unfold sortV at h3
  rw [if_neg (by omega)] at h3
  apply Classical.byContradiction
  intro hn
  rw [if_pos (by omega)] at h3
  omega
theorem old_eq (h : ∃ g k, isGH src here wide g ∧ (g < 0 → isFH src at' wd here wide n k) ∧ s = sortV so g k) (h' : ∃ g k, isGH src here wide g ∧ (g < 0 → isFH src at' wd here wide n k) ∧ r = whichV wh g k) (hs : 1 ≤ s) : (s = 3 ∧ 0 ≤ r ∧ r < 3) ∨ (s = 5 ∧ (r = -1 ∨ r = -2)) ∨ ∃ k, 0 ≤ k ∧ k < n ∧ s = so k ∧ r = wh k := by
  have hok := old_ok h hs
  obtain ⟨g0, k0, h1, h2, h3⟩ := h
  obtain ⟨g, k, g1, g2, g3⟩ := h'
  have e := isGH_u g1 h1
  subst e
  unfold sortV at h3
  unfold whichV at g3
  by_cases hg : 0 ≤ g
  · rw [if_pos hg] at h3 g3
    by_cases h4 : g < 3
    · rw [if_pos h4] at h3 g3
      exact Or.inl ⟨h3, by omega, by omega⟩
    · rw [if_neg h4] at h3 g3
      refine Or.inr (Or.inl ⟨h3, ?_⟩)
      split at g3
      · exact Or.inl g3
      · exact Or.inr g3
  · rw [if_neg hg] at h3 g3
    have e2 := isFH_u (g2 (by omega)) (h2 (by omega))
    subst e2
    have hk := hok g k g1 (by omega) (h2 (by omega))
    rw [if_neg (by omega)] at h3
    refine Or.inr (Or.inr ⟨k, hk, ?_, h3, g3⟩)
    rcases h2 (by omega) with ⟨a1, a2, a3, a4⟩ | ⟨a1, a2⟩
    · exact a2
    · omega
theorem old_rg (h : ∃ g k, isGH src here wide g ∧ (g < 0 → isFH src at' wd here wide n k) ∧ s = sortV so g k) (h' : ∃ g k, isGH src here wide g ∧ (g < 0 → isFH src at' wd here wide n k) ∧ r = whichV wh g k) (hs : s = x) (hx : 1 ≤ x) (hx5 : x ≠ 5) (hB : ∀ k, 0 ≤ k → k < n → so k = x → 0 ≤ wh k ∧ wh k < B) (h3 : x = 3 → 3 ≤ B) : 0 ≤ r ∧ r < B := by
  rcases old_eq h h' (by omega) with ⟨a, b, c⟩ | ⟨a, b⟩ | ⟨k, a, b, c, d⟩
  · have := h3 (by omega)
    omega
  · omega
  · have := hB k a b (by omega)
    omega
end OLD
theorem kw_b (k n : Int) (h0 : 0 ≤ k) (h1 : k < 31) (h2 : 0 ≤ n) (h3 : n < klen k) : 0 < kyF (kst k + n) := by
  have hk := kw_a k h0 h1
  obtain ⟨k, rfl⟩ := Int.eq_ofNat_of_zero_le h0
  obtain ⟨n, rfl⟩ := Int.eq_ofNat_of_zero_le h2
  exact (by decide +kernel : ∀ k : Nat, k < 31 → ∀ n : Nat, n < 8 → (n : Int) < klen k → 0 < kyF (kst k + n)) k (by omega) n (by omega) h3
theorem gv_b (k n : Int) (h0 : 0 ≤ k) (h1 : k < 5) (h2 : 0 ≤ n) (h3 : n < glen k) (h4 : glen k ≤ 8) : 0 < gvF (gst k + n) := by
  obtain ⟨k, rfl⟩ := Int.eq_ofNat_of_zero_le h0
  obtain ⟨n, rfl⟩ := Int.eq_ofNat_of_zero_le h2
  exact (by decide +kernel : ∀ k : Nat, k < 5 → ∀ n : Nat, n < 8 → (n : Int) < glen k → 0 < gvF (gst k + n)) k (by omega) n (by omega) h3
theorem gv_a (k : Int) (h0 : 0 ≤ k) (h1 : k < 5) : 0 ≤ gst k ∧ 1 ≤ glen k ∧ glen k ≤ 8 ∧ gst k + glen k ≤ 37 ∧ gvF (gst k + glen k) = 0 ∧ gst (k + 1) = gst k + glen k + 1 := by
  obtain ⟨n, rfl⟩ := Int.eq_ofNat_of_zero_le h0
  exact (by decide +kernel : ∀ n : Nat, n < 5 → 0 ≤ gst n ∧ 1 ≤ glen n ∧ glen n ≤ 8 ∧ gst n + glen n ≤ 37 ∧ gvF (gst n + glen n) = 0 ∧ gst (n + 1) = gst n + glen n + 1) n (by omega)
def Ty (M : mR) : Prop := (∀ k, flo k ≤ M.1 k ∧ M.1 k ≤ fhi k) ∧ (∀ k i, elo k ≤ M.2 k i ∧ M.2 k i ≤ ehi k) ∧ M.2 0 = kyF ∧ M.2 18 = gvF
theorem Ty_mO {m : mR} (h : Ty m) {l : List (Nat × Int)} {a : List (Nat × (Int → Int))} (h0 : (mO m l a).2 0 = m.2 0) (h1 : (mO m l a).2 18 = m.2 18) (hl : rgF flo fhi l) (ha : rgA elo ehi a) : Ty (mO m l a) := ⟨fun k => rgF_ok hl h.1 k, fun k i => rgA_ok ha h.2.1 k i, h0.trans h.2.2.1, h1.trans h.2.2.2⟩
