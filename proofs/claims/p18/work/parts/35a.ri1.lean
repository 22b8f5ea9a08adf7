/-! ===== the control: steps and blocks ===== -/
def CS1 (s k52 k53 k54 k55 k56 k57 k58 m60 m61 m62 m63 m120 m121 m122 n26 n99 : Int) : Prop := k52 = m60 ∧ k53 = m61 ∧ k54 = m62 ∧ k55 = m63 ∧ ((m61 = -1 ∧ m62 = -1) ∨ (0 ≤ m61 ∧ m61 < s ∧ (m62 = 0 ∨ m62 = 1))) ∧ ((m60 = 0 ∧ m63 = -1 ∧ k58 = -1 ∧ k56 = m120 ∧ 0 ≤ m120 ∧ m120 < n99) ∨ (m60 = 1 ∧ m63 = -1 ∧ k56 = -1 ∧ EXR k57 k58 m121 m122) ∨ (m60 = 2 ∧ (0 ≤ m63 ∧ m63 < n26) ∧ k56 = -1 ∧ k58 = -1))
def CSn (n : Int) (K M : mR) : Prop := ∀ s, 0 ≤ s → s < n → CS1 s (K.2 52 s) (K.2 53 s) (K.2 54 s) (K.2 55 s) (K.2 56 s) (K.2 57 s) (K.2 58 s) (M.2 60 s) (M.2 61 s) (M.2 62 s) (M.2 63 s) (M.2 120 s) (M.2 121 s) (M.2 122 s) (M.1 26) (M.1 99)
def CBd (n : Int) (K M : mR) : Prop := (K.1 227 = M.1 119 ∧ 0 ≤ M.1 119 ∧ M.1 119 ≤ 8) ∧ ∀ j, 0 ≤ j → j < M.1 119 → K.2 66 (j + 1) = M.2 117 j ∧ K.2 67 (j + 1) = M.2 118 j ∧ ((j = 0 ∧ M.2 117 j = -1 ∧ M.2 118 j = -1) ∨ (1 ≤ j ∧ 0 ≤ M.2 117 j ∧ M.2 117 j < n ∧ (M.2 118 j = 0 ∨ M.2 118 j = 1)))
def CAn (n : Int) (M : mR) : Prop := ∀ t, 0 ≤ t → t < M.1 26 → (M.2 59 t = 1 ∧ ∃ s, 0 ≤ s ∧ s < n ∧ M.2 63 s = t) ∨ (M.2 59 t = 0 ∧ ∀ s, 0 ≤ s → s < n → M.2 63 s ≠ t)
def CX0 (K M : mR) : Prop := XP K M ∧ M.1 64 = -1 ∧ DE K M ∧ M.1 99 ≤ M.1 8
def CB (K M : mR) : Prop := CX0 K M ∧ (K.1 225 = M.1 27 ∧ 0 ≤ M.1 27 ∧ M.1 27 ≤ 48 ∧ CSn (M.1 27) K M) ∧ CBd (M.1 27) K M ∧ CAn (M.1 27) M
/-- a step is begun -/
def SBg (kd n : Int) (K M : mR) : Prop := CX0 K M ∧ (K.1 225 = n + 1 ∧ M.1 27 = n + 1 ∧ 0 ≤ n ∧ n < 48 ∧ CSn n K M) ∧ (K.2 52 n = kd ∧ M.2 60 n = kd ∧ K.2 53 n = M.2 61 n ∧ K.2 54 n = M.2 62 n ∧ K.2 55 n = -1 ∧ M.2 63 n = -1 ∧ K.2 56 n = -1 ∧ K.2 58 n = -1 ∧ ((M.2 61 n = -1 ∧ M.2 62 n = -1) ∨ (0 ≤ M.2 61 n ∧ M.2 61 n < n ∧ (M.2 62 n = 0 ∨ M.2 62 n = 1)))) ∧ CBd n K M ∧ 1 ≤ M.1 119 ∧ CAn n M
section CT1
variable {K M K' M' : mR} {n kd : Int} {F A G C : List Nat}
theorem CSn_f (h : CSn n K M) (hK : fr F A K K') (hM : fr G C M M') (c2 : chk [52, 53, 54, 55, 56, 57, 58] A = true) (c3 : chk [26] G = true) (c4 : chk [60, 61, 62, 63, 120, 121, 122] C = true) (h99 : M.1 99 ≤ M'.1 99) : CSn n K' M' := by
  intro s s0 s1
  have := h s s0 s1
  rw [fr2 hK 52 (chk_1 c2 (by decide)), fr2 hK 53 (chk_1 c2 (by decide)), fr2 hK 54 (chk_1 c2 (by decide)), fr2 hK 55 (chk_1 c2 (by decide)), fr2 hK 56 (chk_1 c2 (by decide)), fr2 hK 57 (chk_1 c2 (by decide)), fr2 hK 58 (chk_1 c2 (by decide)), fr2 hM 60 (chk_1 c4 (by decide)), fr2 hM 61 (chk_1 c4 (by decide)), fr2 hM 62 (chk_1 c4 (by decide)), fr2 hM 63 (chk_1 c4 (by decide)), fr2 hM 120 (chk_1 c4 (by decide)), fr2 hM 121 (chk_1 c4 (by decide)), fr2 hM 122 (chk_1 c4 (by decide)), fr1 hM 26 (chk_1 c3 (by decide))]
  obtain ⟨a1, a2, a3, a4, a5, a6⟩ := this
  refine ⟨a1, a2, a3, a4, a5, ?_⟩
  rcases a6 with ⟨b1, b2, b3, b4, b5, b6⟩ | a6
  · exact Or.inl ⟨b1, b2, b3, b4, b5, by omega⟩
  · exact Or.inr a6
theorem CBd_f (h : CBd n K M) (hK : fr F A K K') (hM : fr G C M M') (c1 : chk [227] F = true) (c2 : chk [66, 67] A = true) (c3 : chk [119] G = true) (c4 : chk [117, 118] C = true) : CBd n K' M' := by
  unfold CBd
  rw [fr1 hK 227 (chk_1 c1 (by decide)), fr2 hK 66 (chk_1 c2 (by decide)), fr2 hK 67 (chk_1 c2 (by decide)), fr1 hM 119 (chk_1 c3 (by decide)), fr2 hM 117 (chk_1 c4 (by decide)), fr2 hM 118 (chk_1 c4 (by decide))]
  exact h
theorem CBd_n {n' : Int} (h : CBd n K M) (hn : n ≤ n') : CBd n' K M := by
  obtain ⟨h1, h2⟩ := h
  refine ⟨h1, fun j j0 j1 => ?_⟩
  obtain ⟨a1, a2, a3⟩ := h2 j j0 j1
  refine ⟨a1, a2, ?_⟩
  rcases a3 with a3 | ⟨b1, b2, b3, b4⟩
  · exact Or.inl a3
  · exact Or.inr ⟨b1, b2, by omega, b4⟩
theorem CAn_f (h : CAn n M) (hM : fr G C M M') (c3 : chk [26] G = true) (c4 : chk [59, 63] C = true) : CAn n M' := by
  unfold CAn
  rw [fr1 hM 26 (chk_1 c3 (by decide)), fr2 hM 59 (chk_1 c4 (by decide)), fr2 hM 63 (chk_1 c4 (by decide))]
  exact h
/-- a further step that applies no table -/
theorem CAn_1 (h : CAn n M) (hs : M.2 63 n = -1) : CAn (n + 1) M := by
  intro t t0 t1
  rcases h t t0 t1 with ⟨a1, s, s0, s1, s2⟩ | ⟨a1, a2⟩
  · exact Or.inl ⟨a1, s, s0, by omega, s2⟩
  · refine Or.inr ⟨a1, fun s s0 s1 => ?_⟩
    by_cases e : s = n
    · rw [e, hs]; omega
    · exact a2 s s0 (by omega)
theorem CSn_1 (h : CSn n K M) (h1 : CS1 n (K.2 52 n) (K.2 53 n) (K.2 54 n) (K.2 55 n) (K.2 56 n) (K.2 57 n) (K.2 58 n) (M.2 60 n) (M.2 61 n) (M.2 62 n) (M.2 63 n) (M.2 120 n) (M.2 121 n) (M.2 122 n) (M.1 26) (M.1 99)) : CSn (n + 1) K M := by
  intro s s0 s1
  by_cases e : s = n
  · rw [e]; exact h1
  · exact h s s0 (by omega)
theorem CX0_f (h : CX0 K M) (hL : LR K' M') (hK : fr F A K K') (hM : fr G C M M') (h8 : M.1 8 ≤ M'.1 8) (c1 : chk [214, 215, 216, 217, 219, 220, 221, 222, 223, 224] F = true) (c2 : chk [10, 11, 12, 13, 14, 15, 16, 18, 19, 39, 40, 41, 42, 45, 46, 47, 48, 49, 50, 51] A = true) (c3 : chk [6, 13, 19, 20, 21, 22, 23, 24, 25, 26, 28, 64, 99] G = true) (c4 : chk [4, 16, 17, 29, 30, 31, 32, 33, 34, 35, 36, 46, 47, 48, 49, 65, 67, 93, 101, 102, 103, 104, 105, 106, 107, 108] C = true) : CX0 K' M' := by
  obtain ⟨h1, h2, h3, h4⟩ := h
  refine ⟨XP_f h1 hL hK hM (chk_s c1 rfl) (chk_s c2 rfl) (chk_s c3 rfl) (chk_s c4 rfl), (fr1 hM 64 (chk_1 c3 (by decide))).trans h2, DE_f hK hM (chk_s c1 rfl) (chk_s c2 rfl) (chk_s c3 rfl) (chk_s c4 rfl) h3, ?_⟩
  rw [fr1 hM 99 (chk_1 c3 (by decide))]
  omega
theorem SBg_f (h : SBg kd n K M) (hL : LR K' M') (hK : fr F A K K') (hM : fr G C M M') (h8 : M.1 8 ≤ M'.1 8) (c1 : chk [214, 215, 216, 217, 219, 220, 221, 222, 223, 224, 225, 227] F = true) (c2 : chk [10, 11, 12, 13, 14, 15, 16, 18, 19, 39, 40, 41, 42, 45, 46, 47, 48, 49, 50, 51, 52, 53, 54, 55, 56, 57, 58, 66, 67] A = true) (c3 : chk [6, 13, 19, 20, 21, 22, 23, 24, 25, 26, 27, 28, 64, 99, 119] G = true) (c4 : chk [4, 16, 17, 29, 30, 31, 32, 33, 34, 35, 36, 46, 47, 48, 49, 59, 60, 61, 62, 63, 65, 67, 93, 101, 102, 103, 104, 105, 106, 107, 108, 117, 118, 120, 121, 122] C = true) : SBg kd n K' M' := by
  obtain ⟨h1, ⟨h2, h3, h4, h5, h6⟩, h7, h8', h9, h10⟩ := h
  refine ⟨CX0_f h1 hL hK hM h8 (chk_s c1 rfl) (chk_s c2 rfl) (chk_s c3 rfl) (chk_s c4 rfl), ⟨(fr1 hK 225 (chk_1 c1 (by decide))).trans h2, (fr1 hM 27 (chk_1 c3 (by decide))).trans h3, h4, h5, CSn_f h6 hK hM (chk_s c2 rfl) (chk_s c3 rfl) (chk_s c4 rfl) (by rw [fr1 hM 99 (chk_1 c3 (by decide))]; omega)⟩, ?_, CBd_f h8' hK hM (chk_s c1 rfl) (chk_s c2 rfl) (chk_s c3 rfl) (chk_s c4 rfl), ?_, CAn_f h10 hM (chk_s c3 rfl) (chk_s c4 rfl)⟩
  · rw [fr2 hK 52 (chk_1 c2 (by decide)), fr2 hK 53 (chk_1 c2 (by decide)), fr2 hK 54 (chk_1 c2 (by decide)), fr2 hK 55 (chk_1 c2 (by decide)), fr2 hK 56 (chk_1 c2 (by decide)), fr2 hK 58 (chk_1 c2 (by decide)), fr2 hM 60 (chk_1 c4 (by decide)), fr2 hM 61 (chk_1 c4 (by decide)), fr2 hM 62 (chk_1 c4 (by decide)), fr2 hM 63 (chk_1 c4 (by decide))]
    exact h7
  · rw [fr1 hM 119 (chk_1 c3 (by decide))]; exact h9
/-- a step comes -/
theorem step_s (h : CB K M) (hd : 1 ≤ M.1 119) (hn : M.1 27 < 48) : RR (kf_sp_add kd (K.2 66 (K.1 227)) (K.2 67 (K.1 227)) K) (rf_newStep kd M) (fun y z => y.1 = M.1 27 ∧ z.1 = M.1 27 ∧ SBg kd (M.1 27) y.2 z.2 ∧ z.2.1 8 = M.1 8 ∧ z.2.1 7 = M.1 7) := by
  obtain ⟨hX, ⟨h1, h2, h3, h4⟩, ⟨⟨d1, d2, d3⟩, d4⟩, h6⟩ := h
  have hf := hX.1.1.2.2.2.2
  unfold kf_sp_add rf_newStep rfl_newStep_18
  rw [if_neg (show ¬ M.1 27 = 48 by omega), if_pos (show M.1 10 ≤ 0 by omega), h1, cut_i (z := M.1 27 + 1) (by omega) (by omega), cut_i (z := M.1 27 + 1 - 1) (by omega) (by omega), cut_i (z := M.1 119 - 1) (by omega) (by omega), d1]
  obtain ⟨e1, e2, e3⟩ := d4 (M.1 119 - 1) (by omega) (by omega)
  rw [show M.1 119 - 1 + 1 = M.1 119 by omega] at e1 e2
  rw [e1, e2]
  have en : ∃ n, n = M.1 27 := ⟨_, rfl⟩
  obtain ⟨n, en⟩ := en
  rw [← en] at h2 h3 h4 h6 hn h1 e3 d4 ⊢
  have fK : fr [225] [52, 53, 54, 55, 56, 58] K (mO K [(225, n + 1)] [(52, upI (K.2 52) n kd), (53, upI (K.2 53) n (M.2 117 (M.1 119 - 1))), (54, upI (K.2 54) n (M.2 118 (M.1 119 - 1))), (55, upI (K.2 55) n (-1)), (56, upI (K.2 56) n (-1)), (58, upI (K.2 58) n (-1))]) := fr_m fr_0 rfl rfl
  have fM : fr [27] [60, 61, 62, 63] M (mO M [(27, n + 1)] [(60, upI (M.2 60) n kd), (61, upI (M.2 61) n (M.2 117 (M.1 119 - 1))), (62, upI (M.2 62) n (M.2 118 (M.1 119 - 1))), (63, upI (M.2 63) n (-1))]) := fr_m fr_0 rfl rfl
  refine RR_some ⟨rfl, by show n + 1 - 1 = n; omega, ⟨?_, ⟨rfl, rfl, h2, hn, ?_⟩, ?_, CBd_f ⟨⟨d1, d2, d3⟩, d4⟩ fK fM rfl rfl rfl rfl, hd, ?_⟩, rfl, rfl⟩
  · exact CX0_f hX hX.1.1 fK fM (Int.le_refl _) rfl rfl rfl rfl
  · intro s s0 s1
    have q := h4 s s0 s1
    have ne : s ≠ n := by omega
    show CS1 s (upI (K.2 52) n kd s) (upI (K.2 53) n (M.2 117 (M.1 119 - 1)) s) (upI (K.2 54) n (M.2 118 (M.1 119 - 1)) s) (upI (K.2 55) n (-1) s) (upI (K.2 56) n (-1) s) (K.2 57 s) (upI (K.2 58) n (-1) s) (upI (M.2 60) n kd s) (upI (M.2 61) n (M.2 117 (M.1 119 - 1)) s) (upI (M.2 62) n (M.2 118 (M.1 119 - 1)) s) (upI (M.2 63) n (-1) s) (M.2 120 s) (M.2 121 s) (M.2 122 s) (M.1 26) (M.1 99)
    rw [upI_n ne, upI_n ne, upI_n ne, upI_n ne, upI_n ne, upI_n ne, upI_n ne, upI_n ne, upI_n ne, upI_n ne]
    exact q
  · show upI (K.2 52) n kd n = kd ∧ upI (M.2 60) n kd n = kd ∧ upI (K.2 53) n (M.2 117 (M.1 119 - 1)) n = upI (M.2 61) n (M.2 117 (M.1 119 - 1)) n ∧ upI (K.2 54) n (M.2 118 (M.1 119 - 1)) n = upI (M.2 62) n (M.2 118 (M.1 119 - 1)) n ∧ upI (K.2 55) n (-1) n = -1 ∧ upI (M.2 63) n (-1) n = -1 ∧ upI (K.2 56) n (-1) n = -1 ∧ upI (K.2 58) n (-1) n = -1 ∧ ((upI (M.2 61) n (M.2 117 (M.1 119 - 1)) n = -1 ∧ upI (M.2 62) n (M.2 118 (M.1 119 - 1)) n = -1) ∨ (0 ≤ upI (M.2 61) n (M.2 117 (M.1 119 - 1)) n ∧ upI (M.2 61) n (M.2 117 (M.1 119 - 1)) n < n ∧ (upI (M.2 62) n (M.2 118 (M.1 119 - 1)) n = 0 ∨ upI (M.2 62) n (M.2 118 (M.1 119 - 1)) n = 1)))
    rw [upI_s, upI_s, upI_s, upI_s, upI_s, upI_s, upI_s, upI_s, upI_s, upI_s]
    refine ⟨rfl, rfl, rfl, rfl, rfl, rfl, rfl, rfl, ?_⟩
    rcases e3 with ⟨-, q1, q2⟩ | ⟨-, q1, q2, q3⟩
    · exact Or.inl ⟨q1, q2⟩
    · exact Or.inr ⟨q1, q2, q3⟩
  · intro t t0 t1
    show (M.2 59 t = 1 ∧ ∃ s, 0 ≤ s ∧ s < n ∧ upI (M.2 63) n (-1) s = t) ∨ (M.2 59 t = 0 ∧ ∀ s, 0 ≤ s → s < n → upI (M.2 63) n (-1) s ≠ t)
    rcases h6 t t0 t1 with ⟨a1, s, s0, s1, s2⟩ | ⟨a1, a2⟩
    · exact Or.inl ⟨a1, s, s0, s1, by rw [upI_n (by omega)]; exact s2⟩
    · refine Or.inr ⟨a1, fun s s0 s1 => ?_⟩
      rw [upI_n (by omega)]
      exact a2 s s0 s1
end CT1
