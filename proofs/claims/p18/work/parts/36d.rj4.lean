/-! ===== states that come round, in the reference ===== -/
section CR4
variable {M m : mR}
def LD (M : mR) (c d : Int) : Prop := (0 ≤ M.2 44 c ∧ M.2 38 (M.2 44 c) = d) ∨ ∃ i, 0 ≤ i ∧ i < M.2 42 c ∧ 0 ≤ M.2 45 (8 * c + i) ∧ M.2 38 (M.2 45 (8 * c + i)) = d
def ER (M : mR) (c d : Int) : Prop := 0 ≤ c ∧ c < M.1 24 ∧ M.2 41 c ≤ 0 ∧ LD M c d
def SRr (M : mR) : Prop := (0 ≤ M.1 24 ∧ M.1 24 ≤ 16) ∧ ∀ c, 0 ≤ c → c < M.1 24 → (0 ≤ M.2 42 c ∧ M.2 42 c ≤ 8) ∧ ∀ d, LD M c d → 0 ≤ d ∧ d < M.1 24
theorem LD_f {F A : List Nat} (hM : fr F A M m) (c2 : chk [38, 42, 44, 45] A = true) {c d : Int} : LD m c d ↔ LD M c d := by
  unfold LD
  rw [fr2 hM 38 (chk_1 c2 (by decide)), fr2 hM 42 (chk_1 c2 (by decide)), fr2 hM 44 (chk_1 c2 (by decide)), fr2 hM 45 (chk_1 c2 (by decide))]
theorem leads_r {c d : Int} (c0 : 0 ≤ c) (c1 : c < 16) (h0 : 0 ≤ M.2 42 c) (h8 : M.2 42 c ≤ 8) : RP (rf_leads c d M) (fun r => (r = 1 ∧ LD M c d) ∨ (r = 0 ∧ ¬ LD M c d)) := by
  -- behind the first goal
  have go : ∀ u : Int, ((u = 1 ∧ (0 ≤ M.2 44 c ∧ M.2 38 (M.2 44 c) = d)) ∨ (u = 0 ∧ ¬ (0 ≤ M.2 44 c ∧ M.2 38 (M.2 44 c) = d))) → RP (rfl_leads_29 c d u M) (fun r => (r = 1 ∧ LD M c d) ∨ (r = 0 ∧ ¬ LD M c d)) := by
    intro u hu
    unfold rfl_leads_29
    refine RP_bnd (P := fun r => (r = 1 ∧ LD M c d) ∨ (r = 0 ∧ ¬ LD M c d)) ?_ (fun e he => RP_some he)
    rw [cut_i (by omega) (by omega)]
    refine RP_whl (I := fun q : Int × Int => 8 * c ≤ q.2 ∧ q.2 ≤ 8 * c + M.2 42 c ∧ ((q.1 = 1 ∧ ((0 ≤ M.2 44 c ∧ M.2 38 (M.2 44 c) = d) ∨ ∃ i, 0 ≤ i ∧ 8 * c + i < q.2 ∧ 0 ≤ M.2 45 (8 * c + i) ∧ M.2 38 (M.2 45 (8 * c + i)) = d)) ∨ (q.1 = 0 ∧ ¬ ((0 ≤ M.2 44 c ∧ M.2 38 (M.2 44 c) = d) ∨ ∃ i, 0 ≤ i ∧ 8 * c + i < q.2 ∧ 0 ≤ M.2 45 (8 * c + i) ∧ M.2 38 (M.2 45 (8 * c + i)) = d)))) (fun q hq => ?_) ⟨Int.le_refl _, by show 8 * c ≤ 8 * c + M.2 42 c; omega, ?_⟩
    · obtain ⟨a, i⟩ := q
      obtain ⟨q0, q1, q2⟩ := hq
      have q0 : 8 * c ≤ i := q0
      have q1 : i ≤ 8 * c + M.2 42 c := q1
      unfold rfb_leads_36 rfl_leads_86 rfl_leads_82 rfl_leads_87
      show RP (if cut (cut (8 * c) + M.2 42 c) ≤ i then some (Sum.inr a) else if a = 0 then if M.2 45 i < 0 then some (Sum.inl (0, cut (i + 1))) else if M.2 38 (M.2 45 i) = d then some (Sum.inl (1, cut (i + 1))) else some (Sum.inl (0, cut (i + 1))) else some (Sum.inl (1, cut (i + 1)))) _
      rw [cut_i (z := 8 * c) (by omega) (by omega), cut_i (z := 8 * c + M.2 42 c) (by omega) (by omega)]
      refine RP_ite (fun g => RP_some ?_) (fun g => ?_)
      · rcases q2 with ⟨p1, p2⟩ | ⟨p1, p2⟩
        · refine Or.inl ⟨p1, ?_⟩
          rcases p2 with p2 | ⟨j, j0, j1, j2⟩
          · exact Or.inl p2
          · exact Or.inr ⟨j, j0, by have j1 : 8 * c + j < i := j1; omega, j2⟩
        · refine Or.inr ⟨p1, fun p => p2 ?_⟩
          rcases p with p | ⟨j, j0, j1, j2⟩
          · exact Or.inl p
          · exact Or.inr ⟨j, j0, by show 8 * c + j < i; omega, j2⟩
      · rw [cut_i (z := i + 1) (by omega) (by omega)]
        have fin : ∀ a' : Int, ((a' = 1 ∧ ((0 ≤ M.2 44 c ∧ M.2 38 (M.2 44 c) = d) ∨ ∃ j, 0 ≤ j ∧ 8 * c + j < i + 1 ∧ 0 ≤ M.2 45 (8 * c + j) ∧ M.2 38 (M.2 45 (8 * c + j)) = d)) ∨ (a' = 0 ∧ ¬ ((0 ≤ M.2 44 c ∧ M.2 38 (M.2 44 c) = d) ∨ ∃ j, 0 ≤ j ∧ 8 * c + j < i + 1 ∧ 0 ≤ M.2 45 (8 * c + j) ∧ M.2 38 (M.2 45 (8 * c + j)) = d))) → sel (fun q : Int × Int => 8 * c ≤ q.2 ∧ q.2 ≤ 8 * c + M.2 42 c ∧ ((q.1 = 1 ∧ ((0 ≤ M.2 44 c ∧ M.2 38 (M.2 44 c) = d) ∨ ∃ i, 0 ≤ i ∧ 8 * c + i < q.2 ∧ 0 ≤ M.2 45 (8 * c + i) ∧ M.2 38 (M.2 45 (8 * c + i)) = d)) ∨ (q.1 = 0 ∧ ¬ ((0 ≤ M.2 44 c ∧ M.2 38 (M.2 44 c) = d) ∨ ∃ i, 0 ≤ i ∧ 8 * c + i < q.2 ∧ 0 ≤ M.2 45 (8 * c + i) ∧ M.2 38 (M.2 45 (8 * c + i)) = d)))) (fun r : Int => (r = 1 ∧ LD M c d) ∨ (r = 0 ∧ ¬ LD M c d)) (Sum.inl (a', i + 1)) := by
          intro a' ha
          exact ⟨by show 8 * c ≤ i + 1; omega, by show i + 1 ≤ 8 * c + M.2 42 c; omega, ha⟩
        have ei : 8 * c + (i - 8 * c) = i := by omega
        refine RP_ite (fun a0 => ?_) (fun a1 => ?_)
        · have a0 : a = 0 := a0
          have q2 : ¬ ((0 ≤ M.2 44 c ∧ M.2 38 (M.2 44 c) = d) ∨ ∃ j, 0 ≤ j ∧ 8 * c + j < i ∧ 0 ≤ M.2 45 (8 * c + j) ∧ M.2 38 (M.2 45 (8 * c + j)) = d) := by
            rcases q2 with ⟨p1, -⟩ | ⟨-, p2⟩
            · have p1 : a = 1 := p1
              omega
            · exact p2
          have no : ¬ (0 ≤ M.2 45 i ∧ M.2 38 (M.2 45 i) = d) → ¬ ((0 ≤ M.2 44 c ∧ M.2 38 (M.2 44 c) = d) ∨ ∃ j, 0 ≤ j ∧ 8 * c + j < i + 1 ∧ 0 ≤ M.2 45 (8 * c + j) ∧ M.2 38 (M.2 45 (8 * c + j)) = d) := by
            intro hn p
            rcases p with p | ⟨j, j0, j1, j2⟩
            · exact q2 (Or.inl p)
            · by_cases e : 8 * c + j = i
              · rw [e] at j2
                exact hn j2
              · exact q2 (Or.inr ⟨j, j0, by omega, j2⟩)
          refine RP_ite (fun g1 => RP_some (fin 0 (Or.inr ⟨rfl, no (fun p => by omega)⟩))) (fun g1 => RP_ite (fun g2 => RP_some (fin 1 (Or.inl ⟨rfl, Or.inr ⟨i - 8 * c, by omega, by omega, by rw [ei]; exact ⟨by omega, g2⟩⟩⟩))) (fun g2 => RP_some (fin 0 (Or.inr ⟨rfl, no (fun p => g2 p.2)⟩))))
        · refine RP_some (fin 1 (Or.inl ⟨rfl, ?_⟩))
          rcases q2 with ⟨-, p2⟩ | ⟨p1, -⟩
          · rcases p2 with p2 | ⟨j, j0, j1, j2⟩
            · exact Or.inl p2
            · exact Or.inr ⟨j, j0, by have j1 : 8 * c + j < i := j1; omega, j2⟩
          · exact absurd p1 a1
    · rcases hu with ⟨u1, u2⟩ | ⟨u1, u2⟩
      · exact Or.inl ⟨u1, Or.inl u2⟩
      · refine Or.inr ⟨u1, fun p => ?_⟩
        rcases p with p | ⟨j, j0, j1, j2⟩
        · exact u2 p
        · have j1 : 8 * c + j < 8 * c := j1
          omega
  unfold rf_leads rfl_leads_28
  refine RP_ite (fun g => go 0 (Or.inr ⟨rfl, fun p => by omega⟩)) (fun g => RP_ite (fun g2 => go 1 (Or.inl ⟨rfl, by omega, g2⟩)) (fun g2 => go 0 (Or.inr ⟨rfl, fun p => g2 p.2⟩)))
/-- first where the state itself leads -/
theorem round1_r {e : Int} (h : SRr M) (e0 : 0 ≤ e) (e1 : e < M.1 24) : RP (whl (rfb_comesRound_13 e) (0, M)) (fun m => fr [] [126] M m ∧ ∀ d, 0 ≤ d → d < M.1 24 → (m.2 126 d = 1 ∧ LD M e d) ∨ (m.2 126 d = 0 ∧ ¬ LD M e d)) := by
  have n1 := h.1.2
  refine RP_whl (I := fun q : Int × mR => 0 ≤ q.1 ∧ q.1 ≤ 16 ∧ fr [] [126] M q.2 ∧ ∀ d, 0 ≤ d → d < q.1 → d < M.1 24 → (q.2.2 126 d = 1 ∧ LD M e d) ∨ (q.2.2 126 d = 0 ∧ ¬ LD M e d)) (fun q hq => ?_) ⟨(show (0 : Int) ≤ 0 by decide), (show (0 : Int) ≤ 16 by decide), fr_0, fun d d0 d1 => absurd (show d < 0 from d1) (by omega)⟩
  obtain ⟨i, L⟩ := q
  obtain ⟨q0, q1, q2, q3⟩ := hq
  have q0 : 0 ≤ i := q0
  have q1 : i ≤ 16 := q1
  have q2 : fr [] [126] M L := q2
  unfold rfb_comesRound_13
  show RP (if L.1 24 ≤ i then some (Sum.inr L) else bnd (rf_leads e i L) fun y34 => some (Sum.inl (cut (i + 1), mO L [] [(126, upI (L.2 126) i (nar1 y34))]))) _
  rw [fr1 q2 24 rfl]
  refine RP_ite (fun g => RP_some ⟨q2, fun d d0 d1 => q3 d d0 (by show d < i; omega) d1⟩) (fun g => ?_)
  obtain ⟨⟨c0, c1⟩, -⟩ := h.2 e e0 e1
  refine RP_bnd (leads_r (M := L) e0 (by omega) (by rw [fr2 q2 42 rfl]; exact c0) (by rw [fr2 q2 42 rfl]; exact c1)) (fun r hr => ?_)
  rw [LD_f q2 rfl] at hr
  rw [cut_i (by omega) (by omega)]
  refine RP_some ⟨by show 0 ≤ i + 1; omega, by show i + 1 ≤ 16; omega, fr_m q2 rfl rfl, fun d d0 d1 d2 => ?_⟩
  have d1 : d < i + 1 := d1
  show (upI (L.2 126) i (nar1 r) d = 1 ∧ LD M e d) ∨ (upI (L.2 126) i (nar1 r) d = 0 ∧ ¬ LD M e d)
  by_cases ed : d = i
  · subst ed
    rw [upI_s]
    rcases hr with ⟨r1, r2⟩ | ⟨r1, r2⟩
    · rw [r1]; exact Or.inl ⟨rfl, r2⟩
    · rw [r1]; exact Or.inr ⟨rfl, r2⟩
  · rw [upI_n ed]
    exact q3 d d0 (by show d < i; omega) d2
end CR4
