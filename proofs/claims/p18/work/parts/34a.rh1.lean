/-! ===== tables ===== -/
def TK (t : Int) (K M : mR) : Prop := K.2 72 t = M.2 51 t ∧ 0 ≤ M.2 51 t ∧ M.2 51 t ≤ 4 ∧ (∀ i, 0 ≤ i → i < M.2 51 t → K.2 79 (65536 * t + i) = M.2 110 (4 * t + i) ∧ 0 ≤ K.2 80 (65536 * t + i) ∧ K.2 80 (65536 * t + i) + 1 = M.2 111 (4 * t + i) ∧ K.2 82 (65536 * t + i) = M.2 112 (4 * t + i) ∧ 1 ≤ M.2 112 (4 * t + i) ∧ M.2 112 (4 * t + i) ≤ 64 ∧ K.2 81 (65536 * t + i) = M.2 113 (4 * t + i) ∧ (M.2 113 (4 * t + i) = 312 ∨ M.2 113 (4 * t + i) = 313 ∨ M.2 113 (4 * t + i) = 314)) ∧ M.2 52 t = sumW (M.2 112) (4 * t) (M.2 51 t).toNat
def TL (n t : Int) (K M : mR) : Prop := K.2 73 t = M.2 53 t ∧ 0 ≤ M.2 53 t ∧ M.2 53 t ≤ 8 ∧ ∀ i, 0 ≤ i → i < M.2 53 t → K.2 83 (65536 * t + i) = M.2 114 (8 * t + i) ∧ 0 ≤ M.2 114 (8 * t + i) ∧ M.2 114 (8 * t + i) < n
def TE (t : Int) (M : mR) : Prop := (M.2 58 t = 1 ∧ ∀ i, 0 ≤ i → i < M.2 51 t → M.2 113 (4 * t + i) = 312) ∨ (M.2 58 t = 0 ∧ ∃ i, 0 ≤ i ∧ i < M.2 51 t ∧ M.2 113 (4 * t + i) ≠ 312)
def TB1 (n t : Int) (K M : mR) : Prop := TK t K M ∧ TL n t K M ∧ TE t M ∧ (K.2 74 t = M.2 57 t ∧ 0 ≤ M.2 57 t ∧ M.2 57 t < n) ∧ (K.2 75 t = M.2 54 t ∧ 1 ≤ M.2 54 t ∧ M.2 54 t ≤ 32) ∧ (K.2 76 t = M.2 55 t ∧ 0 ≤ M.2 55 t ∧ M.2 55 t ≤ 4) ∧ K.2 77 t = M.2 56 t ∧ 0 ≤ M.2 56 t ∧ M.2 56 t ≤ 8
def TBn (d : Int) (K M : mR) : Prop := ∀ t, 0 ≤ t → t < d → TB1 (M.1 25) t K M
/-- a table's rows are the same -/
def AT (t : Int) (K M K' M' : mR) : Prop := (K'.2 72 t = K.2 72 t ∧ K'.2 73 t = K.2 73 t ∧ K'.2 74 t = K.2 74 t ∧ K'.2 75 t = K.2 75 t ∧ K'.2 76 t = K.2 76 t ∧ K'.2 77 t = K.2 77 t) ∧ (∀ i, 0 ≤ i → i < 8 → K'.2 79 (65536 * t + i) = K.2 79 (65536 * t + i) ∧ K'.2 80 (65536 * t + i) = K.2 80 (65536 * t + i) ∧ K'.2 81 (65536 * t + i) = K.2 81 (65536 * t + i) ∧ K'.2 82 (65536 * t + i) = K.2 82 (65536 * t + i) ∧ K'.2 83 (65536 * t + i) = K.2 83 (65536 * t + i)) ∧ (M'.2 51 t = M.2 51 t ∧ M'.2 52 t = M.2 52 t ∧ M'.2 53 t = M.2 53 t ∧ M'.2 54 t = M.2 54 t ∧ M'.2 55 t = M.2 55 t ∧ M'.2 56 t = M.2 56 t ∧ M'.2 57 t = M.2 57 t ∧ M'.2 58 t = M.2 58 t) ∧ (∀ i, 0 ≤ i → i < 4 → M'.2 110 (4 * t + i) = M.2 110 (4 * t + i) ∧ M'.2 111 (4 * t + i) = M.2 111 (4 * t + i) ∧ M'.2 112 (4 * t + i) = M.2 112 (4 * t + i) ∧ M'.2 113 (4 * t + i) = M.2 113 (4 * t + i)) ∧ ∀ i, 0 ≤ i → i < 8 → M'.2 114 (8 * t + i) = M.2 114 (8 * t + i)
section TBS
variable {K M K' M' : mR} {t n : Int}
theorem TK_c (h : TK t K M) (hA : AT t K M K' M') : TK t K' M' := by
  obtain ⟨h1, h2, h3, h4, h5⟩ := h
  obtain ⟨⟨a1, -⟩, a2, ⟨a3, a4, -⟩, a5, -⟩ := hA
  unfold TK
  rw [a1, a3, a4]
  refine ⟨h1, h2, h3, fun i i0 i1 => ?_, ?_⟩
  · obtain ⟨b1, b2, b3, b4, b5⟩ := a2 i i0 (by omega)
    obtain ⟨c1, c2, c3, c4⟩ := a5 i i0 (by omega)
    rw [b1, b2, b3, b4, c1, c2, c3, c4]
    exact h4 i i0 i1
  · rw [h5]
    exact sumW_c (fun i hi => ((a5 i (by omega) (by omega)).2.2.1).symm)
theorem TL_c (h : TL n t K M) (hA : AT t K M K' M') : TL n t K' M' := by
  obtain ⟨h1, h2, h3, h4⟩ := h
  obtain ⟨⟨-, a1, -⟩, a2, ⟨-, -, a3, -⟩, -, a5⟩ := hA
  unfold TL
  rw [a1, a3]
  refine ⟨h1, h2, h3, fun i i0 i1 => ?_⟩
  rw [(a2 i i0 (by omega)).2.2.2.2, a5 i i0 (by omega)]
  exact h4 i i0 i1
theorem TE_c (h : TE t M) (h4 : M.2 51 t ≤ 4) (hA : AT t K M K' M') : TE t M' := by
  obtain ⟨-, -, ⟨a3, -, -, -, -, -, -, a4⟩, a5, -⟩ := hA
  unfold TE
  rw [a3, a4]
  rcases h with ⟨h1, h2⟩ | ⟨h1, i, i0, i1, i2⟩
  · refine Or.inl ⟨h1, fun i i0 i1 => ?_⟩
    rw [(a5 i i0 (by omega)).2.2.2]
    exact h2 i i0 i1
  · refine Or.inr ⟨h1, i, i0, i1, ?_⟩
    rw [(a5 i i0 (by omega)).2.2.2]
    exact i2
theorem TB1_c (h : TB1 n t K M) (hA : AT t K M K' M') : TB1 n t K' M' := by
  obtain ⟨h1, h2, h3, h4, h5, h6, h7⟩ := h
  have h9 := h1.2.2.1
  obtain ⟨⟨-, -, a74, a75, a76, a77⟩, -, ⟨-, -, -, a54, a55, a56, a57, -⟩, -, -⟩ := id hA
  refine ⟨TK_c h1 hA, TL_c h2 hA, TE_c h3 h9 hA, ?_, ?_, ?_, ?_⟩
  · rw [a74, a57]; exact h4
  · rw [a75, a54]; exact h5
  · rw [a76, a55]; exact h6
  · rw [a77, a56]; exact h7
theorem TB1_n {n' : Int} (h : TB1 n t K M) (hn : n ≤ n') : TB1 n' t K M := by
  obtain ⟨h1, ⟨l1, l2, l3, l4⟩, h3, ⟨h4, h5, h6⟩, h7⟩ := h
  exact ⟨h1, ⟨l1, l2, l3, fun i i0 i1 => ⟨(l4 i i0 i1).1, (l4 i i0 i1).2.1, by have := (l4 i i0 i1).2.2; omega⟩⟩, h3, ⟨h4, h5, by omega⟩, h7⟩
theorem AT_f {F A G C : List Nat} (hK : fr F A K K') (hM : fr G C M M') (c2 : chk [72, 73, 74, 75, 76, 77, 79, 80, 81, 82, 83] A = true) (c4 : chk [51, 52, 53, 54, 55, 56, 57, 58, 110, 111, 112, 113, 114] C = true) : AT t K M K' M' := by
  refine ⟨?_, fun i _ _ => ?_, ?_, fun i _ _ => ?_, fun i _ _ => ?_⟩
  · rw [fr2 hK 72 (chk_1 c2 (by decide)), fr2 hK 73 (chk_1 c2 (by decide)), fr2 hK 74 (chk_1 c2 (by decide)), fr2 hK 75 (chk_1 c2 (by decide)), fr2 hK 76 (chk_1 c2 (by decide)), fr2 hK 77 (chk_1 c2 (by decide))]
    exact ⟨rfl, rfl, rfl, rfl, rfl, rfl⟩
  · rw [fr2 hK 79 (chk_1 c2 (by decide)), fr2 hK 80 (chk_1 c2 (by decide)), fr2 hK 81 (chk_1 c2 (by decide)), fr2 hK 82 (chk_1 c2 (by decide)), fr2 hK 83 (chk_1 c2 (by decide))]
    exact ⟨rfl, rfl, rfl, rfl, rfl⟩
  · rw [fr2 hM 51 (chk_1 c4 (by decide)), fr2 hM 52 (chk_1 c4 (by decide)), fr2 hM 53 (chk_1 c4 (by decide)), fr2 hM 54 (chk_1 c4 (by decide)), fr2 hM 55 (chk_1 c4 (by decide)), fr2 hM 56 (chk_1 c4 (by decide)), fr2 hM 57 (chk_1 c4 (by decide)), fr2 hM 58 (chk_1 c4 (by decide))]
    exact ⟨rfl, rfl, rfl, rfl, rfl, rfl, rfl, rfl⟩
  · rw [fr2 hM 110 (chk_1 c4 (by decide)), fr2 hM 111 (chk_1 c4 (by decide)), fr2 hM 112 (chk_1 c4 (by decide)), fr2 hM 113 (chk_1 c4 (by decide))]
    exact ⟨rfl, rfl, rfl, rfl⟩
  · rw [fr2 hM 114 (chk_1 c4 (by decide))]
theorem AT_t {K2 M2 : mR} (h : AT t K M K' M') (h2 : AT t K' M' K2 M2) : AT t K M K2 M2 := by
  obtain ⟨⟨a1, a2, a3, a4, a5, a6⟩, b, ⟨c1, c2, c3, c4, c5, c6, c7, c8⟩, d, e⟩ := h
  obtain ⟨⟨a1', a2', a3', a4', a5', a6'⟩, b', ⟨c1', c2', c3', c4', c5', c6', c7', c8'⟩, d', e'⟩ := h2
  refine ⟨⟨a1'.trans a1, a2'.trans a2, a3'.trans a3, a4'.trans a4, a5'.trans a5, a6'.trans a6⟩, fun i i0 i1 => ?_, ⟨c1'.trans c1, c2'.trans c2, c3'.trans c3, c4'.trans c4, c5'.trans c5, c6'.trans c6, c7'.trans c7, c8'.trans c8⟩, fun i i0 i1 => ?_, fun i i0 i1 => (e' i i0 i1).trans (e i i0 i1)⟩
  · obtain ⟨p1, p2, p3, p4, p5⟩ := b i i0 i1
    obtain ⟨q1, q2, q3, q4, q5⟩ := b' i i0 i1
    exact ⟨q1.trans p1, q2.trans p2, q3.trans p3, q4.trans p4, q5.trans p5⟩
  · obtain ⟨p1, p2, p3, p4⟩ := d i i0 i1
    obtain ⟨q1, q2, q3, q4⟩ := d' i i0 i1
    exact ⟨q1.trans p1, q2.trans p2, q3.trans p3, q4.trans p4⟩
theorem hasKey_k {v : Int} (h0 : 0 ≤ K.2 72 t) (h4 : K.2 72 t ≤ 4) : RP (kf_tb_hasKey t v K) (fun r => (r = 1 ∧ ∃ i, 0 ≤ i ∧ i < K.2 72 t ∧ K.2 81 (65536 * t + i) = v) ∨ (r = 0 ∧ ∀ i, 0 ≤ i → i < K.2 72 t → K.2 81 (65536 * t + i) ≠ v)) := by
  unfold kf_tb_hasKey
  refine RP_bnd (P := sel (fun _ : Unit => ∃ i, 0 ≤ i ∧ i < K.2 72 t ∧ K.2 81 (65536 * t + i) = v) (fun _ : Unit => ∀ i, 0 ≤ i → i < K.2 72 t → K.2 81 (65536 * t + i) ≠ v)) ?_ (RP_sl (fun e he => RP_some (Or.inl ⟨rfl, he⟩)) (fun e he => RP_some (Or.inr ⟨rfl, he⟩)))
  refine RP_whl (I := fun s : Int => 0 ≤ s ∧ s ≤ 4 ∧ ∀ i, 0 ≤ i → i < s → K.2 81 (65536 * t + i) ≠ v) (fun s hs => ?_) ⟨by decide, by decide, fun i a b => absurd b (by omega)⟩
  obtain ⟨s0, s1, s2⟩ := hs
  unfold kfb_tb_hasKey_2
  refine RP_ite (fun g => RP_some (fun i i0 i1 => s2 i i0 (by omega))) (fun g => RP_ite (fun g2 => RP_some ⟨s, s0, by omega, g2⟩) (fun g2 => ?_))
  rw [cut_i (by omega) (by omega)]
  refine RP_some ⟨by omega, by omega, fun i i0 i1 => ?_⟩
  by_cases e : i = s
  · rw [e]; exact g2
  · exact s2 i i0 (by omega)
theorem isHashed_k (h0 : 0 ≤ K.2 72 t) (h4 : K.2 72 t ≤ 4) : RP (kf_tb_isHashed t K) (fun r => (r = 1 ∧ ∀ i, 0 ≤ i → i < K.2 72 t → K.2 81 (65536 * t + i) = 312) ∨ (r = 0 ∧ ∃ i, 0 ≤ i ∧ i < K.2 72 t ∧ K.2 81 (65536 * t + i) ≠ 312)) := by
  unfold kf_tb_isHashed
  refine RP_bnd (P := sel (fun _ : Unit => ∃ i, 0 ≤ i ∧ i < K.2 72 t ∧ K.2 81 (65536 * t + i) ≠ 312) (fun _ : Unit => ∀ i, 0 ≤ i → i < K.2 72 t → K.2 81 (65536 * t + i) = 312)) ?_ (RP_sl (fun e he => RP_some (Or.inr ⟨rfl, he⟩)) (fun e he => RP_some (Or.inl ⟨rfl, he⟩)))
  refine RP_whl (I := fun s : Int => 0 ≤ s ∧ s ≤ 4 ∧ ∀ i, 0 ≤ i → i < s → K.2 81 (65536 * t + i) = 312) (fun s hs => ?_) ⟨by decide, by decide, fun i a b => absurd b (by omega)⟩
  obtain ⟨s0, s1, s2⟩ := hs
  unfold kfb_tb_isHashed_2
  refine RP_ite (fun g => RP_some (fun i i0 i1 => s2 i i0 (by omega))) (fun g => RP_ite (fun g2 => ?_) (fun g2 => RP_some ⟨s, s0, by omega, g2⟩))
  rw [cut_i (by omega) (by omega)]
  refine RP_some ⟨by omega, by omega, fun i i0 i1 => ?_⟩
  by_cases e : i = s
  · rw [e]; exact g2
  · exact s2 i i0 (by omega)
theorem lists_k {v : Int} (h0 : 0 ≤ K.2 73 t) (h8 : K.2 73 t ≤ 8) : RP (kf_tb_lists t v K) (fun r => (r = 1 ∧ ∃ i, 0 ≤ i ∧ i < K.2 73 t ∧ K.2 83 (65536 * t + i) = v) ∨ (r = 0 ∧ ∀ i, 0 ≤ i → i < K.2 73 t → K.2 83 (65536 * t + i) ≠ v)) := by
  unfold kf_tb_lists
  refine RP_bnd (P := sel (fun _ : Unit => ∃ i, 0 ≤ i ∧ i < K.2 73 t ∧ K.2 83 (65536 * t + i) = v) (fun _ : Unit => ∀ i, 0 ≤ i → i < K.2 73 t → K.2 83 (65536 * t + i) ≠ v)) ?_ (RP_sl (fun e he => RP_some (Or.inl ⟨rfl, he⟩)) (fun e he => RP_some (Or.inr ⟨rfl, he⟩)))
  refine RP_whl (I := fun s : Int => 0 ≤ s ∧ s ≤ 8 ∧ ∀ i, 0 ≤ i → i < s → K.2 83 (65536 * t + i) ≠ v) (fun s hs => ?_) ⟨by decide, by decide, fun i a b => absurd b (by omega)⟩
  obtain ⟨s0, s1, s2⟩ := hs
  unfold kfb_tb_lists_2
  refine RP_ite (fun g => RP_some (fun i i0 i1 => s2 i i0 (by omega))) (fun g => RP_ite (fun g2 => RP_some ⟨s, s0, by omega, g2⟩) (fun g2 => ?_))
  rw [cut_i (by omega) (by omega)]
  refine RP_some ⟨by omega, by omega, fun i i0 i1 => ?_⟩
  by_cases e : i = s
  · rw [e]; exact g2
  · exact s2 i i0 (by omega)
end TBS
