/-! ===== the two lexers and their names, side by side ===== -/
def smp (s : Int) : Int := if s ≤ 5 then 299 + s else 303 + s
theorem sm_inj {a b : Int} (a0 : 1 ≤ a ∧ a ≤ 7) (b0 : 1 ≤ b ∧ b ≤ 7) : smp a = smp b ↔ a = b := by
  unfold smp
  constructor
  · intro h
    split at h <;> split at h <;> omega
  · intro h
    rw [h]
def NMR (K M : mR) : Prop := NMs M ∧ K.1 203 = M.1 13 + 5 ∧ (∀ k, 0 ≤ k → k < M.1 13 → PK (K.2 6 (k + 5)) (K.2 7 (k + 5)) (fun i => M.2 4 (M.2 14 k + i)) (M.2 15 k) ∧ R64 (K.2 6 (k + 5)) ∧ R64 (K.2 7 (k + 5)) ∧ K.2 8 (k + 5) = smp (M.2 16 k) ∧ (1 ≤ M.2 16 k ∧ M.2 16 k ≤ 7) ∧ K.2 9 (k + 5) = M.2 17 k ∧ 0 ≤ M.2 17 k ∧ M.2 17 k ≤ 15) ∧ (∀ g, 0 ≤ g → g < 5 → pkH (K.2 6 g) (fun j => gvF (gst g + j)) (glen g) 0 ∧ R64 (K.2 6 g) ∧ K.2 7 g = 0 ∧ K.2 8 g = (if g < 3 then 302 else 304) ∧ K.2 9 g = (if g < 3 then g else g + 13)) ∧ (∀ i j, 0 ≤ i → i < j → j < K.1 203 → ¬ (K.2 6 i = K.2 6 j ∧ K.2 7 i = K.2 7 j)) ∧ M.2 18 = gvF
def LR (K M : mR) : Prop := LT K M ∧ LX K M ∧ NMR K M ∧ K.1 213 = 0 ∧ M.1 10 = 0
section LRS
variable {K M K' M' : mR}
theorem LT_c (h : LT K M) (k4 : K'.1 204 = K.1 204) (a1 : K'.2 1 = K.2 1) (a5 : K'.2 5 = K.2 5) (m6 : M'.1 6 = M.1 6) (b4 : M'.2 4 = M.2 4) (b0 : M'.2 0 = M.2 0) : LT K' M' := by
  unfold LT SRC KSRC TXR KWD at *
  rw [k4, a1, a5, m6, b4, b0]
  exact h
theorem NMR_c (h : NMR K M) (k3 : K'.1 203 = K.1 203) (a6 : K'.2 6 = K.2 6) (a7 : K'.2 7 = K.2 7) (a8 : K'.2 8 = K.2 8) (a9 : K'.2 9 = K.2 9) (m13 : M'.1 13 = M.1 13) (m6 : M'.1 6 = M.1 6) (b4 : M'.2 4 = M.2 4) (b14 : M'.2 14 = M.2 14) (b15 : M'.2 15 = M.2 15) (b16 : M'.2 16 = M.2 16) (b17 : M'.2 17 = M.2 17) (b18 : M'.2 18 = M.2 18) : NMR K' M' := by
  unfold NMR NMs at *
  rw [k3, a6, a7, a8, a9, m13, m6, b4, b14, b15, b16, b17, b18]
  exact h
theorem wm_hi {w : Int} (h : 13 ≤ w) : wm w = w := by
  unfold wm
  rw [if_neg (by omega), if_neg (by omega), if_neg (by omega), if_neg (by omega), if_neg (by omega), if_neg (by omega), if_neg (by omega), if_neg (by omega), if_neg (by omega), if_neg (by omega), if_neg (by omega), if_neg (by omega), if_neg (by omega)]
theorem wm_lo {w : Int} (h0 : 0 ≤ w) (h1 : w ≤ 12) (h3 : w ≠ 3) : (wm w < 33 ∨ 126 < wm w) ∧ (wm w < 300 ∨ 330 < wm w) ∧ (wm w = 256 ↔ w = 1) ∧ (wm w = 257 ↔ w = 2) ∧ (wm w = 258 ↔ w = 0) := by
  have e : w = 0 ∨ w = 1 ∨ w = 2 ∨ w = 4 ∨ w = 5 ∨ w = 6 ∨ w = 7 ∨ w = 8 ∨ w = 9 ∨ w = 10 ∨ w = 11 ∨ w = 12 := by omega
  rcases e with rfl | rfl | rfl | rfl | rfl | rfl | rfl | rfl | rfl | rfl | rfl | rfl <;> decide
theorem wm_256 {w : Int} (h : wdom w) : wm w = 256 ↔ w = 1 := by
  rcases h with ⟨a, b, c⟩ | ⟨a, b⟩ | ⟨a, b⟩
  · exact (wm_lo a b c).2.2.1
  · rw [wm_hi (by omega)]
    omega
  · rw [wm_hi (by omega)]
    omega
theorem wm_257 {w : Int} (h : wdom w) : wm w = 257 ↔ w = 2 := by
  rcases h with ⟨a, b, c⟩ | ⟨a, b⟩ | ⟨a, b⟩
  · exact (wm_lo a b c).2.2.2.1
  · rw [wm_hi (by omega)]
    omega
  · rw [wm_hi (by omega)]
    omega
theorem wm_big {w c : Int} (h : wdom w) (hc : (33 ≤ c ∧ c ≤ 126) ∨ (300 ≤ c ∧ c ≤ 330)) : wm w = c ↔ w = c := by
  rcases h with ⟨a, b, d⟩ | ⟨a, b⟩ | ⟨a, b⟩
  · obtain ⟨q1, q2, -⟩ := wm_lo a b d
    omega
  · rw [wm_hi (by omega)]
  · rw [wm_hi (by omega)]
theorem wm_258 {w : Int} (h : wdom w) : wm w = 258 ↔ w = 0 := by
  rcases h with ⟨a, b, c⟩ | ⟨a, b⟩ | ⟨a, b⟩
  · exact (wm_lo a b c).2.2.2.2
  · rw [wm_hi (by omega)]
    omega
  · rw [wm_hi (by omega)]
    omega
/-- the answers of two functions, of which the second's is in z -/
def LVq (V : Int → Int → Prop) (y : Int × Int × mR) (z : Int × mR) : Prop := (y.1 = 0 ∧ V y.2.1 z.1 ∧ LR y.2.2 z.2) ∨ (y.1 ≠ 0 ∧ 0 < z.2.1 10)
theorem rr_adv1 (hL : LT K M) (hN : NMR K M) (ho : K.1 213 = 0) (hf : M.1 10 = 0) {p : Int} (hk : K.1 205 = p) (hm : cut (M.1 8 + M.1 9) = p) (p0 : 0 ≤ p) (p1 : p ≤ M.1 6) : RR (kf_tx_advance K) (rf_next M) (LVq (fun _ _ => True)) := by
  intro y z hy hz
  have h := rr_adv0 hL ho hf hk hm p0 p1 y z hy hz
  have f1 := u_kf_tx_advance K y hy
  have f2 := (u_rf_next M z hz).1
  rcases h with ⟨h1, h2, h3⟩ | h
  · refine Or.inl ⟨h1, trivial, ?_, h2, ?_, ?_, h3⟩
    · exact LT_c hL (fr1 f1 204 rfl) (fr2 f1 1 rfl) (fr2 f1 5 rfl) (fr1 f2 6 rfl) (fr2 f2 4 rfl) (fr2 f2 0 rfl)
    · exact NMR_c hN (fr1 f1 203 rfl) (fr2 f1 6 rfl) (fr2 f1 7 rfl) (fr2 f1 8 rfl) (fr2 f1 9 rfl) (fr1 f2 13 rfl) (fr1 f2 6 rfl) (fr2 f2 4 rfl) (fr2 f2 14 rfl) (fr2 f2 15 rfl) (fr2 f2 16 rfl) (fr2 f2 17 rfl) (fr2 f2 18 rfl)
    · exact (fr1 f1 213 rfl).trans ho
  · exact Or.inr h
theorem LX_end (h : LX K M) (h0 : M.1 7 ≠ 0) (hS : SRC M) : ∃ p, K.1 205 = p ∧ cut (M.1 8 + M.1 9) = p ∧ 0 ≤ p ∧ p ≤ M.1 6 := by
  obtain ⟨a1, a2, a3, a4, a5, a6, -⟩ := h
  obtain ⟨b1, b2, b3⟩ := a6 h0
  have := hS.2.1
  exact ⟨M.1 8 + M.1 9, b1, cut_i (by omega) (by omega), by omega, b3⟩
theorem rr_adv (h : LR K M) (h0 : M.1 7 ≠ 0) : RR (kf_tx_advance K) (rf_next M) (LVq (fun _ _ => True)) := by
  obtain ⟨hL, hX, hN, ho, hf⟩ := h
  obtain ⟨p, p1, p2, p3, p4⟩ := LX_end hX h0 hL.1
  exact rr_adv1 hL hN ho hf p1 p2 p3 p4
/-- behind a word that is wanted -/
theorem rr_exp (h : LR K M) {c : Int} (hc : (33 ≤ c ∧ c ≤ 126) ∨ (300 ≤ c ∧ c ≤ 330)) : RR (kf_tx_expect c K) (rf_need c M) (LVq (fun _ _ => True)) := by
  have hX := h.2.1
  have hf := h.2.2.2.2
  unfold kf_tx_expect rf_need kfl_tx_expect_12
  rw [if_pos (show M.1 10 ≤ 0 by omega), hX.1]
  refine RR_ii (wm_big hX.2.1 hc) (fun g1 g2 => ?_) (fun g1 g2 => ?_)
  · refine RR_bnd (rr_adv h (by omega)) (fun y z hyz => ?_)
    rcases hyz with ⟨e1, e2, e3⟩ | ⟨e1, e2⟩
    · rw [if_pos e1]
      exact RR_some (Or.inl ⟨rfl, trivial, e3⟩)
    · rw [if_neg e1]
      exact RR_some (Or.inr ⟨e1, e2⟩)
  · refine RR_w (RR_pr (A := fun y : Int × Int × mR => y.1 ≠ 0) (B := fun z : Int × mR => 0 < z.2.1 10) ?_ ?_) (fun _ _ q => Or.inr q)
    · refine RP_bnd (refuse_1 _) (fun y hy => ?_)
      rw [if_neg hy]
      exact RP_some hy
    · refine RP_bnd ?_ (fun z hz => RP_some (P := fun z : Int × mR => 0 < z.2.1 10) hz)
      unfold rf_bad
      exact RP_bnd (wrong_1 (by decide)) (fun z hz => RP_some hz)
end LRS
