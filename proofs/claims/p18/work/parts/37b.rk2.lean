/-! ===== nodes and deeds while headers, instances, metas, arrays come ===== -/
section MO2
theorem ND1_m {kd lf sg nb n n' : Int} {F I F' I' : Int → Int} (h : ND1 kd lf sg nb n F I) (hn : n ≤ n') (hF : ∀ i, 0 ≤ i → i < n → F' (I' i) = F (I i)) : ND1 kd lf sg nb n' F' I' := by
  rcases h with ⟨h1, h2, h3, h4, h5, h6⟩ | ⟨h1, h2, h3, h4, h5⟩ | h | h
  · exact Or.inl ⟨h1, h2, h3, by omega, by rw [hF _ (by omega) h4]; exact h5, h6⟩
  · exact Or.inr (Or.inl ⟨h1, h2, h3, by omega, h5⟩)
  · exact Or.inr (Or.inr (Or.inl h))
  · exact Or.inr (Or.inr (Or.inr h))
theorem PLS_m {n n' m m' a b : Int} {F I F' I' : Int → Int} (h : PLS n m F I a b) (hn : n ≤ n') (hm : m ≤ m') (hF : ∀ i, 0 ≤ i → i < n → F' (I' i) = F (I i)) : PLS n' m' F' I' a b := by
  rcases h with ⟨h1, h2, h3, h4⟩ | ⟨h1, h2, h3, h4⟩
  · exact Or.inl ⟨h1, by omega, h3, h4⟩
  · exact Or.inr ⟨h1, by omega, by rw [hF _ (by omega) h2]; exact h3, h4⟩
theorem DE1_m {n n' m m' r r' : Int} {F I F' I' : Int → Int} {k45 k46 k47 k48 k49 k50 k51 t101 t102 t103 t104 t105 t106 t107 t108 : Int} (h : DE1 n m r F I k45 k46 k47 k48 k49 k50 k51 t101 t102 t103 t104 t105 t106 t107 t108) (hn : n ≤ n') (hm : m ≤ m') (hr : r ≤ r') (hF : ∀ i, 0 ≤ i → i < n → F' (I' i) = F (I i)) : DE1 n' m' r' F' I' k45 k46 k47 k48 k49 k50 k51 t101 t102 t103 t104 t105 t106 t107 t108 := by
  rcases h with ⟨h1, h2, h3, h4⟩ | ⟨h1, h2, h3, ⟨h4, h5, h6⟩, h7⟩ | ⟨h1, h2, h3, ⟨h4, h5, h6⟩, h7⟩ | ⟨h1, h2, ⟨h3, h4, h5⟩, h6⟩ | h
  · exact Or.inl ⟨h1, h2, PLS_m h3 hn hm hF, h4⟩
  · exact Or.inr (Or.inl ⟨h1, h2, PLS_m h3 hn hm hF, ⟨h4, h5, by omega⟩, h7⟩)
  · exact Or.inr (Or.inr (Or.inl ⟨h1, h2, h3, ⟨h4, h5, by omega⟩, h7⟩))
  · exact Or.inr (Or.inr (Or.inr (Or.inl ⟨h1, h2, ⟨h3, by omega, h5⟩, h6⟩)))
  · exact Or.inr (Or.inr (Or.inr (Or.inr h)))
variable {K M K' M' : mR} {F A G C : List Nat}
theorem NDR_m (h : NDR K M) (hK : fr F A K K') (hM : fr G C M M') (c1 : chk [220] F = true) (c2 : chk [18, 19] A = true) (c3 : chk [28] G = true) (c4 : chk [65, 67] C = true) (hn : M.1 20 ≤ M'.1 20) (hF : ∀ i, 0 ≤ i → i < M.1 20 → M'.2 29 (M'.2 34 i) = M.2 29 (M.2 34 i)) : NDR K' M' := by
  unfold NDR
  rw [fr1 hK 220 (chk_1 c1 (by decide)), fr2 hK 18 (chk_1 c2 (by decide)), fr2 hK 19 (chk_1 c2 (by decide)), fr1 hM 28 (chk_1 c3 (by decide)), fr2 hM 65 (chk_1 c4 (by decide)), fr2 hM 67 (chk_1 c4 (by decide))]
  exact ⟨h.1, fun k k0 k1 => ND1_m (h.2 k k0 k1) hn hF⟩
theorem DE_m (h : DE K M) (hK : fr F A K K') (hM : fr G C M M') (c1 : chk [224] F = true) (c2 : chk [45, 46, 47, 48, 49, 50, 51] A = true) (c3 : chk [99] G = true) (c4 : chk [101, 102, 103, 104, 105, 106, 107, 108] C = true) (hn : M.1 20 ≤ M'.1 20) (hm : M.1 21 ≤ M'.1 21) (hr : M.1 22 ≤ M'.1 22) (hF : ∀ i, 0 ≤ i → i < M.1 20 → M'.2 29 (M'.2 34 i) = M.2 29 (M.2 34 i)) : DE K' M' := by
  unfold DE
  rw [fr1 hK 224 (chk_1 c1 (by decide)), fr2 hK 45 (chk_1 c2 (by decide)), fr2 hK 46 (chk_1 c2 (by decide)), fr2 hK 47 (chk_1 c2 (by decide)), fr2 hK 48 (chk_1 c2 (by decide)), fr2 hK 49 (chk_1 c2 (by decide)), fr2 hK 50 (chk_1 c2 (by decide)), fr2 hK 51 (chk_1 c2 (by decide)), fr1 hM 99 (chk_1 c3 (by decide)), fr2 hM 101 (chk_1 c4 (by decide)), fr2 hM 102 (chk_1 c4 (by decide)), fr2 hM 103 (chk_1 c4 (by decide)), fr2 hM 104 (chk_1 c4 (by decide)), fr2 hM 105 (chk_1 c4 (by decide)), fr2 hM 106 (chk_1 c4 (by decide)), fr2 hM 107 (chk_1 c4 (by decide)), fr2 hM 108 (chk_1 c4 (by decide))]
  exact ⟨h.1, fun k k0 k1 => DE1_m (h.2 k k0 k1) hn hm hr hF⟩
end MO2
