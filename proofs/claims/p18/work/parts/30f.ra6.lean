/-! ===== THE TWO LEXERS give the same words ===== -/
def TXR (K M : mR) : Prop := K.1 204 = M.1 6 ∧ ∀ i, 0 ≤ i → i < M.1 6 → K.2 1 i = (if M.2 4 i < 128 then M.2 4 i else M.2 4 i - 256)
/-- the text and what never changes -/
def LT (K M : mR) : Prop := SRC M ∧ KSRC K ∧ TXR K M ∧ KWD K ∧ M.2 0 = kyF
def wdom (w : Int) : Prop := (0 ≤ w ∧ w ≤ 12 ∧ w ≠ 3) ∨ (33 ≤ w ∧ w ≤ 126) ∨ (300 ≤ w ∧ w ≤ 330)
/-- the word at hand -/
def LX (K M : mR) : Prop := K.1 206 = wm (M.1 7) ∧ wdom (M.1 7) ∧ K.1 207 = M.1 8 ∧ 0 ≤ M.1 8 ∧ M.1 8 ≤ M.1 6 ∧ (M.1 7 ≠ 0 → K.1 205 = M.1 8 + M.1 9 ∧ 1 ≤ M.1 9 ∧ M.1 8 + M.1 9 ≤ M.1 6) ∧ (M.1 7 = 0 → M.1 8 = M.1 6 ∧ K.1 205 = M.1 6 ∧ M.1 9 = 1) ∧ (M.1 7 = 2 → K.1 208 = M.1 12) ∧ (M.1 7 = 1 → M.1 9 ≤ 16 ∧ (∀ i, 0 ≤ i → i < M.1 9 → namP (M.2 4 (M.1 8 + i))) ∧ PK (K.1 209) (K.1 210) (fun i => M.2 4 (M.1 8 + i)) (M.1 9) ∧ R64 (K.1 209) ∧ R64 (K.1 210))
def AV (y : Int × Int × mR) (z : Int × mR) : Prop := (y.1 = 0 ∧ LX y.2.2 z.2 ∧ z.2.1 10 = 0) ∨ (y.1 ≠ 0 ∧ 0 < z.2.1 10)
section TXB
variable {K M : mR} {i : Int}
theorem tx_b (h : LT K M) (i0 : 0 ≤ i) (i1 : i < M.1 6) : and32 (K.2 1 i) 255 = M.2 4 i := by
  obtain ⟨⟨a1, a2, a3⟩, ⟨b1, b2, b3⟩, ⟨c1, c2⟩, d⟩ := h
  have e := c2 i i0 i1
  have h3 := a3 i
  rw [and_c (b3 i).1 (b3 i).2, e]
  by_cases h7 : M.2 4 i < 128
  · rw [if_pos h7, if_neg (by omega)]
  · rw [if_neg h7, if_pos (by omega)]
    omega
theorem tx_iff (h : LT K M) (i0 : 0 ≤ i) (i1 : i < M.1 6) {C : Int → Prop} (hC : ∀ c, C c → 0 ≤ c ∧ c < 128) : C (K.2 1 i) ↔ C (M.2 4 i) := by
  obtain ⟨⟨a1, a2, a3⟩, ⟨b1, b2, b3⟩, ⟨c1, c2⟩, d⟩ := h
  rw [c2 i i0 i1]
  have h3 := a3 i
  by_cases h7 : M.2 4 i < 128
  · rw [if_pos h7]
  · rw [if_neg h7]
    constructor
    · intro hc
      have := hC _ hc
      omega
    · intro hc
      have := hC _ hc
      omega
theorem namP_r {c : Int} (h : namP c) : 0 ≤ c ∧ c < 128 := by
  rcases h with h | h | h
  · exact ⟨by have := h.1; omega, by have := h.2; omega⟩
  · exact ⟨by have := h.1; omega, by have := h.2; omega⟩
  · omega
theorem namP_p {c : Int} (h : namP c) : 0 < c ∧ c < 128 := by
  rcases h with h | h | h
  · exact ⟨by have := h.1; omega, by have := h.2; omega⟩
  · exact ⟨by have := h.1; omega, by have := h.2; omega⟩
  · omega
theorem digP_r {c : Int} (h : digP c) : 0 ≤ c ∧ c < 128 := ⟨by have := h.1; omega, by have := h.2; omega⟩
theorem hexP_r {c : Int} (h : hexP c) : 0 ≤ c ∧ c < 128 := by
  rcases h with h | h
  · exact digP_r h
  · omega
theorem wsP_r {c : Int} (h : wsP c) : 0 ≤ c ∧ c < 128 := by
  rcases h with h | h <;> omega
theorem tx_run (h : LT K M) {C : Int → Prop} (hC : ∀ c, C c → 0 ≤ c ∧ c < 128) {p q : Int} (p0 : 0 ≤ p) (g : Run (fun i => C (K.2 1 i)) (K.1 204) p q) : Run (fun i => C (M.2 4 i)) (M.1 6) p q := by
  rw [h.2.2.1.1] at g
  exact Run_c (fun i i0 i1 => tx_iff h (by omega) i1 hC) g
theorem tx_id (h : LT K M) (i0 : 0 ≤ i) (i1 : i < M.1 6) (h7 : M.2 4 i < 128) : K.2 1 i = M.2 4 i := by
  rw [h.2.2.1.2 i i0 i1, if_pos h7]
end TXB
theorem fail_1 (a b : Int) (m : mR) : RP (kf_tx_fail a b m) (fun y => y.1 ≠ 0) := by
  have h45 : ∀ u m, RP (kfl_tx_fail_45 u m) (fun y => y.1 ≠ 0) := fun u m => RP_some (show (1 : Int) ≠ 0 by decide)
  have h29 : ∀ b v u m, RP (kfl_tx_fail_29 b v u m) (fun y => y.1 ≠ 0) := fun b v u m => by
    unfold kfl_tx_fail_29
    exact RP_ite (fun _ => h45 _ _) (fun _ => h45 _ _)
  have h18 : ∀ a b u m, RP (kfl_tx_fail_18 a b u m) (fun y => y.1 ≠ 0) := fun a b u m => by
    unfold kfl_tx_fail_18
    exact RP_ite (fun _ => h29 _ _ _ _) (fun _ => h29 _ _ _ _)
  unfold kf_tx_fail kfl_tx_fail_17
  exact RP_ite (fun _ => h18 _ _ _ _) (fun _ => RP_ite (fun _ => h18 _ _ _ _) (fun _ => h18 _ _ _ _))
theorem refuse_1 (m : mR) : RP (kf_tx_refuse m) (fun y => y.1 ≠ 0) := by
  unfold kf_tx_refuse kfl_tx_refuse_13
  exact RP_ite (fun _ => RP_some (show (1 : Int) ≠ 0 by decide)) (fun _ => RP_some (show (1 : Int) ≠ 0 by decide))
theorem adv255_0 {m : mR} (h : m.1 206 ≠ -1) : kfl_tx_advance_255 m = some (0, 0, m) := if_neg h
theorem adv255_1 {m : mR} (h : m.1 206 = -1) : RP (kfl_tx_advance_255 m) (fun y => y.1 ≠ 0) := by
  unfold kfl_tx_advance_255
  rw [if_pos h]
  refine RP_bnd (fail_1 _ _ _) (fun y hy => ?_)
  rw [if_neg hy]
  exact RP_some hy
theorem wrong_1 {a b : Int} {m : mR} (ha : 0 < a) : RP (rf_wrong a b m) (fun z => 0 < z.2.1 10) := by
  unfold rf_wrong
  refine RP_ite (fun h => RP_some ?_) (fun h => RP_some ?_)
  · exact ha
  · show 0 < m.1 10
    omega
theorem look210_0 {m : mR} (h : m.1 7 ≠ 3) : rfl_look_210 m = some (0, m) := if_neg h
theorem look210_1 {m : mR} (h : m.1 7 = 3) : RP (rfl_look_210 m) (fun z => 0 < z.2.1 10) := by
  unfold rfl_look_210
  rw [if_pos h]
  exact RP_bnd (wrong_1 (by decide)) (fun y hy => RP_some hy)
/-- both tell that there is no word -/
theorem av_bad {K M : mR} (hk : K.1 206 = -1) (hm : M.1 7 = 3) : RR (kfl_tx_advance_255 K) (bnd (rfl_look_210 M) fun y => some (0, y.2)) AV := RR_w (RR_pr (adv255_1 hk) (RP_bnd (look210_1 hm) (fun y hy => RP_some (P := fun z : Int × mR => 0 < z.2.1 10) hy))) (fun _ _ h => Or.inr h)
theorem av_okk {K M : mR} (hk : K.1 206 ≠ -1) (hm : M.1 7 ≠ 3) (hx : LX K M) (hf : M.1 10 = 0) : RR (kfl_tx_advance_255 K) (bnd (rfl_look_210 M) fun y => some (0, y.2)) AV := by
  rw [adv255_0 hk, look210_0 hm, bnd_some]
  exact RR_some (Or.inl ⟨rfl, hx, hf⟩)
theorem wm_3 {w : Int} (h : wdom w) : wm w ≠ -1 ∧ w ≠ 3 := by
  unfold wm wdom at *
  constructor
  · repeat' split
    all_goals omega
  · omega
theorem av_stop {K M : mR} (h6 : K.1 204 = M.1 6) (h7 : K.1 207 = M.1 6) (h5 : K.1 205 = M.1 6) (h8 : M.1 8 = M.1 6) (h0 : 0 ≤ M.1 6) (hf : M.1 10 = 0) : RR (kfl_tx_advance_255 (mO K [(206, 258)] [])) (bnd (rfl_look_210 (mO M [(7, 0), (9, 1)] [])) fun y => some (0, y.2)) AV :=
  av_okk (show (258 : Int) ≠ -1 by decide) (show (0 : Int) ≠ 3 by decide) ⟨rfl, Or.inl ⟨show (0 : Int) ≤ 0 by decide, show (0 : Int) ≤ 12 by decide, show (0 : Int) ≠ 3 by decide⟩, h7.trans h8.symm, by show 0 ≤ M.1 8; omega, by show M.1 8 ≤ M.1 6; omega, fun h => absurd rfl h, fun _ => ⟨h8, h5, rfl⟩, fun h => absurd (show (0 : Int) = 2 from h) (by decide), fun h => absurd (show (0 : Int) = 1 from h) (by decide)⟩ hf
