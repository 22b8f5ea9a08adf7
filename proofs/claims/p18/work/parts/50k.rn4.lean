/-! ===== the relation between calls ===== -/
section RLS
variable {K K' M M' : mR} {F A G C : List Nat}
def LDR (K M : mR) : Prop := (M.1 128 = 1 ∧ K.1 226 = M.1 129 ∧ (1 ≤ M.1 129 ∧ M.1 129 ≤ 12) ∧ SGR K M ∧ HME K M) ∨ (M.1 128 = 0 ∧ K.1 226 = 0)
def BYR (K M : mR) : Prop := (∀ i, -128 ≤ K.2 1 i ∧ K.2 1 i ≤ 127) ∧ (∀ i, 0 ≤ M.2 3 i ∧ M.2 3 i ≤ 255) ∧ (∀ i, 0 ≤ M.2 4 i ∧ M.2 4 i ≤ 255) ∧ M.2 0 = kyF ∧ M.2 18 = gvF
def REL0 (K M : mR) : Prop := BYR K M ∧ TPE K M ∧ RDY K M ∧ KWD K ∧ K.1 201 = M.1 127 ∧ (M.1 127 = 0 ∨ M.1 127 = 1) ∧ (M.1 127 = 1 → RDk K M) ∧ (LDR K M ∧ (M.1 128 = 1 → M.1 127 = 1)) ∧ K.1 202 = M.1 130 ∧ K.1 232 = M.1 148 ∧ K.1 233 = M.1 150 ∧ K.1 235 = M.1 152
theorem RDk_f (h : RDk K M) (hK : fr F A K K') (hM : fr G C M M') (c1 : chk [214, 215, 216, 217, 218, 219, 220, 221, 222, 223, 224, 225] F = true) (c2 : chk [10, 11, 12, 13, 14, 15, 16, 17, 18, 19, 26, 30, 33, 34, 35, 36, 37, 39, 40, 41, 42, 43, 44, 45, 46, 47, 48, 49, 50, 51, 52, 53, 54, 55, 56, 57, 58, 72, 73, 74, 75, 76, 77, 79, 80, 81, 82, 83] A = true) (c3 : chk [6, 13, 19, 20, 21, 22, 23, 24, 25, 26, 27, 28, 99, 125] G = true) (c4 : chk [4, 16, 17, 29, 30, 31, 32, 33, 34, 35, 36, 37, 38, 39, 41, 42, 44, 45, 46, 47, 48, 49, 50, 51, 52, 53, 54, 55, 56, 57, 58, 60, 61, 62, 63, 65, 67, 93, 101, 102, 103, 104, 105, 106, 107, 108, 109, 110, 111, 112, 113, 114, 120, 121, 122, 124] C = true) : RDk K' M' := by
  obtain ⟨h1, h2, h3, h4, h5, h6, h7, h8, ⟨h9, h10, h11, h12⟩, h13⟩ := h
  have e25 := fr1 hM 25 (chk_1 c3 (by decide))
  have e26 := fr1 hM 26 (chk_1 c3 (by decide))
  have e27 := fr1 hM 27 (chk_1 c3 (by decide))
  have e99 := fr1 hM 99 (chk_1 c3 (by decide))
  have k225 := fr1 hK 225 (chk_1 c1 (by decide))
  refine ⟨BP_f hK hM (chk_s c1 rfl) (chk_s c2 rfl) (chk_s c3 rfl) (chk_s c4 rfl) h1, AR_f hK hM rfl (chk_s c2 rfl) (chk_s c3 rfl) (chk_s c4 rfl) h2, NDR_f hK hM (chk_s c1 rfl) (chk_s c2 rfl) (chk_s c3 rfl) (chk_s c4 rfl) h3, DE_f hK hM (chk_s c1 rfl) (chk_s c2 rfl) (chk_s c3 rfl) (chk_s c4 rfl) h4, ACw_f h5 hK hM (chk_s c2 rfl) (chk_s c3 rfl) (chk_s c4 rfl), SO_f hK hM rfl (chk_s c2 rfl) (chk_s c3 rfl) (chk_s c4 rfl) h6, SGd_f2 h7 hK hM (chk_s c2 rfl) (chk_s c3 rfl) (chk_s c4 rfl), TBn_f2 h8 hK hM (by omega) e26 (chk_s c2 rfl) (chk_s c4 rfl), ⟨by omega, by omega, by omega, ?_⟩, EMx_f h13 hK hM (chk_s c1 rfl) (chk_s c2 rfl) (chk_s c3 rfl) (chk_s c4 rfl)⟩
  rw [e27]
  exact CSn_f h12 hK hM (chk_s c2 rfl) (chk_s c3 rfl) (chk_s c4 rfl) (by omega)
theorem LDR_f (h : LDR K M) (hK : fr F A K K') (hM : fr G C M M') (c1 : chk [226] F = true) (c2 : chk [59, 63, 64, 65] A = true) (c3 : chk [27, 128, 129] G = true) (c4 : chk [131, 132, 133, 134] C = true) : LDR K' M' := by
  unfold LDR SGR HME
  rw [fr1 hK 226 (chk_1 c1 (by decide)), fr2 hK 59 (chk_1 c2 (by decide)), fr2 hK 63 (chk_1 c2 (by decide)), fr2 hK 64 (chk_1 c2 (by decide)), fr2 hK 65 (chk_1 c2 (by decide)), fr1 hM 27 (chk_1 c3 (by decide)), fr1 hM 128 (chk_1 c3 (by decide)), fr1 hM 129 (chk_1 c3 (by decide)), fr2 hM 131 (chk_1 c4 (by decide)), fr2 hM 132 (chk_1 c4 (by decide)), fr2 hM 133 (chk_1 c4 (by decide)), fr2 hM 134 (chk_1 c4 (by decide))]
  exact h
theorem TPE_f (h : TPE K M) (hK : fr F A K K') (hM : fr G C M M') (c1 : chk [200] F = true) (c2 : chk [1] A = true) (c3 : chk [5] G = true) (c4 : chk [3] C = true) : TPE K' M' := by
  unfold TPE
  rw [fr1 hK 200 (chk_1 c1 (by decide)), fr2 hK 1 (chk_1 c2 (by decide)), fr1 hM 5 (chk_1 c3 (by decide)), fr2 hM 3 (chk_1 c4 (by decide))]
  exact h
theorem BYR_f (h : BYR K M) (hK : fr F A K K') (hM : fr G C M M') (c2 : chk [1] A = true) (c4 : chk [0, 3, 4, 18] C = true) : BYR K' M' := by
  unfold BYR
  rw [fr2 hK 1 (chk_1 c2 (by decide)), fr2 hM 0 (chk_1 c4 (by decide)), fr2 hM 3 (chk_1 c4 (by decide)), fr2 hM 4 (chk_1 c4 (by decide)), fr2 hM 18 (chk_1 c4 (by decide))]
  exact h
theorem RDY_f (h : RDY K M) (hK : fr F A K K') (hM : fr G C M M') (c2 : chk [0] A = true) (c4 : chk [2] C = true) : RDY K' M' := by
  unfold RDY
  rw [fr2 hK 0 (chk_1 c2 (by decide)), fr2 hM 2 (chk_1 c4 (by decide))]
  exact h
theorem KWD_f (h : KWD K) (hK : fr F A K K') (c2 : chk [5] A = true) : KWD K' := by
  unfold KWD
  rw [fr2 hK 5 (chk_1 c2 (by decide))]
  exact h
/-- a call that leaves all of it as it was -/
theorem REL_f (h : REL0 K M) (hK : fr F A K K') (hM : fr G C M M') (c1 : chk RFk F = true) (c2 : chk RAk A = true) (c3 : chk RFm G = true) (c4 : chk RAx C = true) : REL0 K' M' := by
  obtain ⟨h0, h1, h2, h3, h4, h5, h6, ⟨h7, h7b⟩, h8, h9, h10, h11⟩ := h
  have e127 := fr1 hM 127 (chk_1 c3 (by decide))
  have e128 := fr1 hM 128 (chk_1 c3 (by decide))
  have e130 := fr1 hM 130 (chk_1 c3 (by decide))
  have e148 := fr1 hM 148 (chk_1 c3 (by decide))
  have e150 := fr1 hM 150 (chk_1 c3 (by decide))
  have e152 := fr1 hM 152 (chk_1 c3 (by decide))
  have k201 := fr1 hK 201 (chk_1 c1 (by decide))
  have k202 := fr1 hK 202 (chk_1 c1 (by decide))
  have k232 := fr1 hK 232 (chk_1 c1 (by decide))
  have k233 := fr1 hK 233 (chk_1 c1 (by decide))
  have k235 := fr1 hK 235 (chk_1 c1 (by decide))
  exact ⟨BYR_f h0 hK hM (chk_s c2 rfl) (chk_s c4 rfl), TPE_f h1 hK hM (chk_s c1 rfl) (chk_s c2 rfl) (chk_s c3 rfl) (chk_s c4 rfl), RDY_f h2 hK hM (chk_s c2 rfl) (chk_s c4 rfl), KWD_f h3 hK (chk_s c2 rfl), by omega, by omega, fun q => RDk_f (h6 (by omega)) hK hM (chk_s c1 rfl) (chk_s c2 rfl) (chk_s c3 rfl) (chk_s c4 rfl), ⟨LDR_f h7 hK hM (chk_s c1 rfl) (chk_s c2 rfl) (chk_s c3 rfl) (chk_s c4 rfl), fun q => by have := h7b (by omega); omega⟩, by omega, by omega, by omega, by omega⟩
/-- packet, entry, run: the line's counts, perhaps the tape -/
theorem REL_l (h : REL0 K M) (hK : fr F A K K') (hM : fr G C M M') (hT : TPE K' M') (e1 : K'.1 232 = M'.1 148) (e2 : K'.1 233 = M'.1 150) (e3 : K'.1 235 = M'.1 152) (c1 : chk [201, 202, 214, 215, 216, 217, 218, 219, 220, 221, 222, 223, 224, 225, 226] F = true) (c2 : chk RAk A = true) (c3 : chk [6, 13, 19, 20, 21, 22, 23, 24, 25, 26, 27, 28, 99, 125, 127, 128, 129, 130] G = true) (c4 : chk RAx C = true) : REL0 K' M' := by
  obtain ⟨h0, h1, h2, h3, h4, h5, h6, ⟨h7, h7b⟩, h8, h9, h10, h11⟩ := h
  have e127 := fr1 hM 127 (chk_1 c3 (by decide))
  have e128 := fr1 hM 128 (chk_1 c3 (by decide))
  have e130 := fr1 hM 130 (chk_1 c3 (by decide))
  have k201 := fr1 hK 201 (chk_1 c1 (by decide))
  have k202 := fr1 hK 202 (chk_1 c1 (by decide))
  exact ⟨BYR_f h0 hK hM (chk_s c2 rfl) (chk_s c4 rfl), hT, RDY_f h2 hK hM (chk_s c2 rfl) (chk_s c4 rfl), KWD_f h3 hK (chk_s c2 rfl), by omega, by omega, fun q => RDk_f (h6 (by omega)) hK hM (chk_s c1 rfl) (chk_s c2 rfl) (chk_s c3 rfl) (chk_s c4 rfl), ⟨LDR_f h7 hK hM (chk_s c1 rfl) (chk_s c2 rfl) (chk_s c3 rfl) (chk_s c4 rfl), fun q => by have := h7b (by omega); omega⟩, by omega, e1, e2, e3⟩
/-- what lay() needs -/
theorem LYP_r (h : RDk K M) (hg : RGE M) (h99 : M.1 99 ≤ 4000) : LYP K M := by
  obtain ⟨h1, h2, h3, h4, h5, h6, h7, h8, ⟨h9, h10, h11, h12⟩, h13⟩ := h
  obtain ⟨-, r1, r2, r3, r4, r5, r6, r7, r8, hsum⟩ := id h1.1
  exact ⟨⟨h3, by omega, by omega, h99, h4, hg⟩, h5, by omega, h8, ⟨h10, h11⟩, h12, ⟨h9, by omega⟩, h1.2.2.2.2.2.2⟩
/-- behind lay() -/
theorem REL_lay {y : Int × Int × mR} {z : Int × mR} (h : REL0 K M) (hR : LYR K M y z) : REL0 y.2.2 z.2 := by
  obtain ⟨h0, h1, h2, h3, h4, h5, h6, ⟨h7, h7b⟩, h8, h9, h10, h11⟩ := h
  rcases hR with ⟨q1, q2, q3, q4, q5, q6, q7, q8, q9, q10, q11, q12, fK, fM, q13, q14⟩ | ⟨q1, q2, q3, fM⟩ | ⟨q1, q2, q3, fM⟩ | ⟨q1, q2, q3, q4, q5, fK, fM⟩
  · have e127 : z.2.1 127 = M.1 127 := fr1 fM 127 rfl
    refine ⟨BYR_f h0 fK fM rfl rfl, TPE_f h1 fK fM rfl rfl rfl rfl, RDY_f h2 fK fM rfl rfl, KWD_f h3 fK rfl, ?_, by omega, fun q => RDk_f (h6 q9) fK fM rfl rfl rfl rfl, ⟨Or.inl ⟨q8, by omega, by omega, q13, q14⟩, fun _ => by omega⟩, by omega, ?_, ?_, ?_⟩
    · rw [fr1 fK 201 rfl, e127]; exact h4
    · rw [fr1 fK 232 rfl, fr1 fM 148 rfl]; exact h9
    · rw [fr1 fK 233 rfl, fr1 fM 150 rfl]; exact h10
    · rw [fr1 fK 235 rfl, fr1 fM 152 rfl]; exact h11
  · rw [q3]
    exact REL_f ⟨h0, h1, h2, h3, h4, h5, h6, ⟨h7, h7b⟩, h8, h9, h10, h11⟩ (fr_0 : fr [] [] K K) fM rfl rfl rfl rfl
  · rw [q3]
    exact REL_f ⟨h0, h1, h2, h3, h4, h5, h6, ⟨h7, h7b⟩, h8, h9, h10, h11⟩ (fr_0 : fr [] [] K K) fM rfl rfl rfl rfl
  · have e127 : z.2.1 127 = M.1 127 := fr1 fM 127 rfl
    have k226 : y.2.2.1 226 = K.1 226 := fr1 fK 226 rfl
    have e128 : z.2.1 128 = M.1 128 := fr1 fM 128 rfl
    have hl : M.1 128 = 0 ∧ K.1 226 = 0 := by
      rcases h7 with ⟨r1, -⟩ | r
      · omega
      · exact r
    refine ⟨BYR_f h0 fK fM rfl rfl, TPE_f h1 fK fM rfl rfl rfl rfl, RDY_f h2 fK fM rfl rfl, KWD_f h3 fK rfl, ?_, by omega, fun q => RDk_f (h6 q3) fK fM rfl rfl rfl rfl, ⟨Or.inr ⟨by omega, by omega⟩, fun q => by omega⟩, q5, ?_, ?_, ?_⟩
    · rw [fr1 fK 201 rfl, e127]; exact h4
    · rw [fr1 fK 232 rfl, fr1 fM 148 rfl]; exact h9
    · rw [fr1 fK 233 rfl, fr1 fM 150 rfl]; exact h10
    · rw [fr1 fK 235 rfl, fr1 fM 152 rfl]; exact h11
end RLS
