/-! ===== tables: all keys, the list ===== -/
section KE4
variable {K M : mR} {t : Int}
def kyI (t x : Int) (s : Int × mR) (w : Int × Int × mR) : Prop := TX t s.2 w.2.2 ∧ s.1 = w.2.2.2 51 t ∧ PM t w.1 w.2.1 w.2.2 ∧ (s.1 = 0 → w.2.2.1 7 = 311) ∧ x ≤ w.2.2.1 8
def FW2 (w : Sum mR (Int × Int × mR)) : Prop := sel (fun m => 0 < m.1 10) (fun s => 0 < s.2.2.1 10) w
def kyE (t x : Int) (u : Sum mR (Int × mR)) (w : Sum mR (Int × Int × mR)) : Prop := (∃ K p q M, u = Sum.inl K ∧ w = Sum.inr (p, q, M) ∧ TX t K M ∧ PM t p q M ∧ 1 ≤ M.2 51 t ∧ x ≤ M.1 8) ∨ ((∃ e : Int × mR, u = Sum.inr e ∧ e.1 ≠ 0) ∧ FW2 w)
theorem keys_s {x : Int} {s : Int × mR} {w : Int × Int × mR} (hI : kyI t x s w) : RR (whl (kfb_rd_table_66 t) s) (whl (rfb_takeTable_101 t) w) (kyE t x) := by
  refine RR_whl2 (I := kyI t x) (fun s w hI => ?_) hI
  obtain ⟨i, K⟩ := s
  obtain ⟨p, q, M⟩ := w
  obtain ⟨hT, hi, hpq, hw0, hx⟩ := hI
  have hT : TX t K M := hT
  have hi : i = M.2 51 t := hi
  have hpq : PM t p q M := hpq
  have hw0 : i = 0 → M.1 7 = 311 := hw0
  have hx : x ≤ M.1 8 := hx
  have hX := hT.1.1.2.1
  have hf := hT.1.1.2.2.2.2
  obtain ⟨k1, k2, k3, -⟩ := hT.2.2.2.2
  have deadw : ∀ (z : Int × Int × mR), 0 < z.2.2.1 10 → RP (whl (rfb_takeTable_101 t) z) FW2 := fun z hz => RP_w (uw_rfb_takeTable_101 t z) (fun v hv => by
    cases v with
    | inl m => exact hv.2 hz
    | inr m => exact hv.2 hz)
  unfold kfb_rd_table_66 rfb_takeTable_101 kfl_rd_table_88
  show RR (if (4 : Int) < i then some (Sum.inr (Sum.inl K)) else if i = 0 then bnd (kf_rd_keyLine t i K) fun y38 => if y38.1 = 0 then some (Sum.inl (cut (i + 1), y38.2.2)) else some (Sum.inr (Sum.inr (y38.1, y38.2.2))) else if K.1 206 = 311 then bnd (kf_rd_keyLine t i K) fun y38 => if y38.1 = 0 then some (Sum.inl (cut (i + 1), y38.2.2)) else some (Sum.inr (Sum.inr (y38.1, y38.2.2))) else some (Sum.inr (Sum.inl K))) (if M.1 10 = 0 then if M.1 7 = 311 then if M.2 51 t = 4 then bnd (rf_wrong 4 (M.1 8) M) fun y63 => rfl_takeTable_137 t p q y63.2 else rfl_takeTable_137 t p q M else some (Sum.inr (Sum.inr (p, q, M))) else some (Sum.inr (Sum.inr (p, q, M)))) _
  rw [if_neg (by omega), if_pos hf]
  by_cases w311 : M.1 7 = 311
  · have wk := (wm_big hX.2.1 (c := 311) (by omega)).mpr w311
    rw [if_pos w311]
    have main : RR (bnd (kf_rd_keyLine t i K) fun y38 => if y38.1 = 0 then some (Sum.inl (cut (i + 1), y38.2.2)) else some (Sum.inr (Sum.inr (y38.1, y38.2.2)))) (if M.2 51 t = 4 then bnd (rf_wrong 4 (M.1 8) M) fun y63 => rfl_takeTable_137 t p q y63.2 else rfl_takeTable_137 t p q M) (fun u v => (∃ s' t', u = .inl s' ∧ v = .inl t' ∧ kyI t x s' t') ∨ (∃ x' y, u = .inr x' ∧ v = .inr y ∧ kyE t x x' y) ∨ (∃ x' t', u = .inr x' ∧ v = .inl t' ∧ RP (whl (rfb_takeTable_101 t) t') (kyE t x x')) ∨ (∃ s' y, u = .inl s' ∧ v = .inr y ∧ RP (whl (kfb_rd_table_66 t) s') (fun x' => kyE t x x' y))) := by
      by_cases i4 : i < 4
      · rw [if_neg (by omega)]
        intro u v hu hv
        cases hk : kf_rd_keyLine t i K with
        | none => rw [hk] at hu; cases hu
        | some y =>
          rw [hk, bnd_some] at hu
          rcases key_s hT hi i4 hpq w311 y v hk hv with ⟨q0, p', q', M', rfl, q1, q2, q3, q4⟩ | ⟨q0, q1⟩
          · rw [if_pos q0, cut_i (by omega) (by omega)] at hu
            cases hu
            exact Or.inl ⟨_, _, rfl, rfl, q1, q2.symm, q3, fun e => by have e : i + 1 = 0 := e; omega, by show x ≤ M'.1 8; omega⟩
          · rw [if_neg q0] at hu
            cases hu
            cases v with
            | inl s' => exact Or.inr (Or.inr (Or.inl ⟨_, _, rfl, rfl, RP_w (deadw s' q1) (fun w hw => Or.inr ⟨⟨_, rfl, q0⟩, hw⟩)⟩))
            | inr r =>
              refine Or.inr (Or.inl ⟨_, _, rfl, rfl, Or.inr ⟨⟨_, rfl, q0⟩, ?_⟩⟩)
              cases r with
              | inl m => exact q1
              | inr m => exact q1
      · rw [if_pos (by omega)]
        intro u v hu hv
        have hu' : ∃ e : Int × mR, u = Sum.inr (Sum.inr e) ∧ e.1 ≠ 0 := by
          refine RP_e (P := fun u => ∃ e : Int × mR, u = Sum.inr (Sum.inr e) ∧ e.1 ≠ 0) hu ?_
          unfold kf_rd_keyLine
          rw [hX.1, if_pos wk, if_neg i4]
          exact thr_x (thr_l (A := fun y38 => kfl_rd_keyLine_33 t i y38.2.2) (fail_1 _ _ _)) (fun y hy => ⟨_, rfl, hy⟩)
        obtain ⟨e, rfl, he⟩ := hu'
        have hv' : ∃ m, v = Sum.inr (Sum.inl m) ∧ 0 < m.1 10 := by
          refine RP_e (P := fun v => ∃ m : mR, v = Sum.inr (Sum.inl m) ∧ 0 < m.1 10) hv (RP_bnd (wrong_1 (by decide)) (fun w hw => ?_))
          unfold rfl_takeTable_137
          rw [if_neg (by omega)]
          exact RP_some ⟨_, rfl, hw⟩
        obtain ⟨m, rfl, hm⟩ := hv'
        exact Or.inr (Or.inl ⟨_, _, rfl, rfl, Or.inr ⟨⟨_, rfl, he⟩, hm⟩⟩)
    rw [hX.1]
    refine RR_il (fun _ => main) (fun _ => RR_il (fun _ => main) (fun n => absurd wk n))
  · rw [if_neg w311]
    have i1 : i ≠ 0 := fun e => w311 (hw0 e)
    rw [if_neg i1, hX.1, if_neg (fun q => w311 ((wm_big hX.2.1 (by omega)).mp q))]
    exact RR_some (Or.inr (Or.inl ⟨_, _, rfl, rfl, Or.inl ⟨K, p, q, M, rfl, rfl, hT, hpq, by omega, hx⟩⟩))
/-- all kinds of keys are there -/
theorem TE_pm {p q : Int} (h : TK t K M) (hpq : PM t p q M) (h58 : M.2 58 t = (if p = 0 then (if q = 0 then 1 else 0) else 0)) : TE t M := by
  obtain ⟨h1, h2, h3, h4, h5⟩ := h
  rcases hpq with ⟨⟨p1, j, j0, j1, j2⟩ | ⟨p1, p2⟩, hq⟩
  · refine Or.inr ⟨by rw [h58, if_neg (by omega)], j, j0, j1, by omega⟩
  · rcases hq with ⟨q1, j, j0, j1, j2⟩ | ⟨q1, q2⟩
    · exact Or.inr ⟨by rw [h58, if_pos p1, if_neg (by omega)], j, j0, j1, by omega⟩
    · refine Or.inl ⟨by rw [h58, if_pos p1, if_pos q1], fun j j0 j1 => ?_⟩
      obtain ⟨-, -, -, -, -, -, -, e⟩ := h4 j j0 j1
      have := p2 j j0 j1
      have := q2 j j0 j1
      omega
def TY (t : Int) (K M : mR) : Prop := XP K M ∧ M.1 64 = -1 ∧ (0 ≤ t ∧ t + 1 = M.1 26) ∧ TBn t K M ∧ TK t K M ∧ TE t M ∧ TL (M.1 25) t K M
theorem TK_f {F A G C : List Nat} {K' M' : mR} (h : TK t K M) (hK : fr F A K K') (hM : fr G C M M') (c2 : chk [72, 79, 80, 81, 82] A = true) (c4 : chk [51, 52, 110, 111, 112, 113] C = true) : TK t K' M' := by
  unfold TK
  rw [fr2 hK 72 (chk_1 c2 (by decide)), fr2 hK 79 (chk_1 c2 (by decide)), fr2 hK 80 (chk_1 c2 (by decide)), fr2 hK 81 (chk_1 c2 (by decide)), fr2 hK 82 (chk_1 c2 (by decide)), fr2 hM 51 (chk_1 c4 (by decide)), fr2 hM 52 (chk_1 c4 (by decide)), fr2 hM 110 (chk_1 c4 (by decide)), fr2 hM 111 (chk_1 c4 (by decide)), fr2 hM 112 (chk_1 c4 (by decide)), fr2 hM 113 (chk_1 c4 (by decide))]
  exact h
theorem TE_f {G C : List Nat} {M' : mR} (h : TE t M) (hM : fr G C M M') (c4 : chk [51, 58, 113] C = true) : TE t M' := by
  unfold TE
  rw [fr2 hM 51 (chk_1 c4 (by decide)), fr2 hM 58 (chk_1 c4 (by decide)), fr2 hM 113 (chk_1 c4 (by decide))]
  exact h
theorem TL_f {F A G C : List Nat} {K' M' : mR} {n : Int} (h : TL n t K M) (hK : fr F A K K') (hM : fr G C M M') (c2 : chk [73, 83] A = true) (c4 : chk [53, 114] C = true) : TL n t K' M' := by
  unfold TL
  rw [fr2 hK 73 (chk_1 c2 (by decide)), fr2 hK 83 (chk_1 c2 (by decide)), fr2 hM 53 (chk_1 c4 (by decide)), fr2 hM 114 (chk_1 c4 (by decide))]
  exact h
theorem TY_f {F A G C : List Nat} {K' M' : mR} (h : TY t K M) (hL : LR K' M') (hK : fr F A K K') (hM : fr G C M M') (c1 : chk [214, 215, 216, 217, 219, 220, 221, 222, 223] F = true) (c2 : chk [10, 11, 12, 13, 14, 15, 16, 18, 19, 39, 40, 41, 42, 72, 73, 74, 75, 76, 77, 79, 80, 81, 82, 83] A = true) (c3 : chk [6, 13, 19, 20, 21, 22, 23, 24, 25, 26, 28, 64] G = true) (c4 : chk [4, 16, 17, 29, 30, 31, 32, 33, 34, 35, 36, 46, 47, 48, 49, 51, 52, 53, 54, 55, 56, 57, 58, 65, 67, 93, 110, 111, 112, 113, 114] C = true) : TY t K' M' := by
  obtain ⟨h1, h2, h3, h4, h5, h6, h7⟩ := h
  have x := TX_f ⟨h1, h2, h3, h4, h5⟩ hL hK hM c1 c2 c3 c4
  refine ⟨x.1, x.2.1, x.2.2.1, x.2.2.2.1, x.2.2.2.2, TE_f h6 hM (chk_s c4 rfl), ?_⟩
  rw [fr1 hM 25 (chk_1 c3 (by decide))]
  exact TL_f h7 hK hM (chk_s c2 rfl) (chk_s c4 rfl)
def LSt (t : Int) (M : mR) : Prop := ∀ a, 0 ≤ a → a < 16 → (M.2 116 a = 1 ∧ ∃ j, 0 ≤ j ∧ j < M.2 53 t ∧ M.2 114 (8 * t + j) = a) ∨ (M.2 116 a = 0 ∧ ∀ j, 0 ≤ j → j < M.2 53 t → M.2 114 (8 * t + j) ≠ a)
/-- no action is listed yet -/
theorem clear_r : RP (whl (rfb_takeList_9 t) (0, M)) (fun e => fr [] [116] M e ∧ ∀ a, 0 ≤ a → a < 16 → e.2 116 a = 0) := by
  refine RP_whl (I := fun s : Int × mR => 0 ≤ s.1 ∧ s.1 ≤ 16 ∧ fr [] [116] M s.2 ∧ ∀ a, 0 ≤ a → a < s.1 → s.2.2 116 a = 0) (fun s hs => ?_) ⟨(show (0 : Int) ≤ 0 by decide), (show (0 : Int) ≤ 16 by decide), fr_0, fun a a0 a1 => absurd (show a < 0 from a1) (by omega)⟩
  obtain ⟨s0, s1, s2, s3⟩ := hs
  unfold rfb_takeList_9
  refine RP_ite (fun g => RP_some ⟨s2, fun a a0 a1 => s3 a a0 (by omega)⟩) (fun g => ?_)
  rw [cut_i (by omega) (by omega)]
  refine RP_some ⟨by show 0 ≤ s.1 + 1; omega, by show s.1 + 1 ≤ 16; omega, fr_m s2 rfl rfl, fun a a0 a1 => ?_⟩
  have a1 : a < s.1 + 1 := a1
  show upI (s.2.2 116) s.1 (nar1 0) a = 0
  by_cases e : a = s.1
  · rw [e, upI_s]; rfl
  · rw [upI_n e]
    exact s3 a a0 (by omega)
end KE4
