/-! ===== the first stage for a step, side by side ===== -/
section EAR
variable {K M : mR} {j : Int}
def PO (j : Int) (M : mR) : Prop := ∀ s, 0 ≤ s → s < j → (0 ≤ M.2 131 s ∧ M.2 131 s < 12) ∧ (-1 ≤ M.2 61 s ∧ M.2 61 s < s) ∧ (0 ≤ M.2 61 s → M.2 131 (M.2 61 s) + 1 ≤ M.2 131 s)
theorem within_r {i : Int} (i0 : 0 ≤ i) (hp : -1 ≤ M.2 61 j ∧ M.2 61 j < j) (hP : PO j M) : RP (rf_isWithin j i M) (fun u => (u ≠ 0 ∧ 0 ≤ M.2 61 j ∧ (i = M.2 61 j ∨ M.2 131 i + 1 ≤ M.2 131 (M.2 61 j))) ∨ (u = 0 ∧ i ≠ M.2 61 j)) := by
  unfold rf_isWithin
  by_cases e0 : M.2 61 j = i
  · have e : rfb_isWithin_7 i M (M.2 61 j) = some (.inr (M.2 61 j)) := by
      unfold rfb_isWithin_7
      rw [if_neg (by omega), if_pos e0]
    rw [whl_eq, e]
    refine RP_bnd (P := fun q => q = M.2 61 j) (RP_some rfl) (fun q hq => ?_)
    unfold rfl_isWithin_26 rfl_isWithin_36
    rw [if_pos (by omega)]
    exact RP_some (Or.inl ⟨(show (1 : Int) ≠ 0 by decide), by omega, Or.inl e0.symm⟩)
  · refine RP_bnd (P := fun q => q < 0 ∨ (q = i → 0 ≤ M.2 61 j ∧ M.2 131 i + 1 ≤ M.2 131 (M.2 61 j))) (RP_whl (I := fun q : Int => q < 0 ∨ (q < j ∧ 0 ≤ M.2 61 j ∧ (q = M.2 61 j ∨ M.2 131 q + 1 ≤ M.2 131 (M.2 61 j)))) (fun q hq => ?_) (by by_cases g : M.2 61 j < 0; exact Or.inl g; exact Or.inr ⟨hp.2, by omega, Or.inl rfl⟩)) (fun q hq => ?_)
    · unfold rfb_isWithin_7
      refine RP_ite (fun g => RP_some (Or.inl g)) (fun g => RP_ite (fun g2 => RP_some (Or.inr (fun _ => ?_))) (fun g2 => RP_some ?_))
      · rcases hq with hq | ⟨h1, h2, h3⟩
        · exact absurd hq g
        · rcases h3 with h3 | h3
          · exact absurd (h3.symm.trans g2) e0
          · rw [← g2]
            exact ⟨h2, h3⟩
      · rcases hq with hq | ⟨h1, h2, h3⟩
        · exact absurd hq g
        · obtain ⟨b1, b2, b3⟩ := hP q (by omega) h1
          show M.2 61 q < 0 ∨ _
          by_cases g3 : M.2 61 q < 0
          · exact Or.inl g3
          · have b3 := b3 (by omega)
            refine Or.inr ⟨by omega, h2, Or.inr ?_⟩
            rcases h3 with h3 | h3
            · rw [← h3]; omega
            · omega
    · unfold rfl_isWithin_26 rfl_isWithin_36
      refine RP_ite (fun g => RP_some (Or.inl ⟨(show (1 : Int) ≠ 0 by decide), ?_⟩)) (fun g => RP_some (Or.inr ⟨rfl, fun q => e0 q.symm⟩))
      rcases hq with hq | hq
      · omega
      · obtain ⟨h1, h2⟩ := hq g
        exact ⟨h1, Or.inr h2⟩
def erI (j : Int) (M : mR) (p : Int × Int × Int) (q : Int × Int × Int × Int) : Prop := p.2.2 = q.2.2.2 ∧ 0 ≤ p.2.2 ∧ p.2.2 ≤ j ∧ q.2.2.1 = 1 ∧ p.2.1 = q.2.1 ∧ -1 ≤ p.2.1 ∧ 0 ≤ p.1 ∧ p.1 ≤ q.1 ∧ (q.1 ≤ p.1 ∨ (0 ≤ M.2 61 j ∧ q.1 ≤ M.2 131 (M.2 61 j))) ∧ (0 ≤ M.2 61 j → M.2 61 j < p.2.2 → M.2 131 (M.2 61 j) + 1 ≤ p.1) ∧ q.1 ≤ 12
def erE (j : Int) (M : mR) (u : Sum Unit (Int × Int)) (v : Int × Int × Int) : Prop := (∃ a b, u = Sum.inr (a, b) ∧ v = (a, b, 1) ∧ 0 ≤ a ∧ -1 ≤ b ∧ (0 ≤ M.2 61 j → M.2 131 (M.2 61 j) + 1 ≤ a)) ∨ (u = Sum.inl () ∧ v.2.2 = 0)
theorem can0_r {n m w : Int} {q : Int × Int × Int × Int} (h : q.2.2.1 = 0) : RP (whl (rfb_stageFor_12 j n m w M) q) (fun e => e.2.2 = 0) := by
  refine RP_whl (I := fun q : Int × Int × Int × Int => q.2.2.1 = 0) (fun q hq => ?_) h
  obtain ⟨a, b, c, i⟩ := q
  have hq : c = 0 := hq
  subst hq
  have t70 : ∀ v11 u0, RP (rfl_stageFor_70 j n m w a b 0 i v11 u0 M) (sel (fun q : Int × Int × Int × Int => q.2.2.1 = 0) (fun e : Int × Int × Int => e.2.2 = 0)) := by
    intro v11 u0
    have t86 : ∀ u, RP (rfl_stageFor_86 j n m w b 0 i v11 u M) (sel (fun q : Int × Int × Int × Int => q.2.2.1 = 0) (fun e : Int × Int × Int => e.2.2 = 0)) := by
      intro u
      unfold rfl_stageFor_86 rfl_stageFor_129 rfl_stageFor_122 rfl_stageFor_123 rfl_stageFor_129
      refine RP_bndT (fun y => RP_ite (fun _ => RP_some rfl) (fun _ => ?_))
      rw [if_pos rfl]
      exact RP_some rfl
    unfold rfl_stageFor_70
    exact RP_ite (fun _ => t86 _) (fun _ => t86 _)
  unfold rfb_stageFor_12 rfl_stageFor_47
  dsimp only
  exact RP_ite (fun _ => RP_some rfl) (fun _ => RP_bndT (fun y => RP_ite (fun _ => RP_bndT (fun y2 => RP_ite (fun _ => RP_bndT (fun y3 => RP_ite (fun _ => t70 _ _) (fun _ => t70 _ _))) (fun _ => t70 _ _))) (fun _ => t70 _ _)))
def erB (j n m w a b : Int) (K M : mR) (u : Sum (Int × Int × Int) (Sum Unit (Int × Int))) (v : Sum (Int × Int × Int × Int) (Int × Int × Int)) : Prop := (∃ s' t', u = Sum.inl s' ∧ v = Sum.inl t' ∧ erI j M s' t') ∨ (∃ x y, u = Sum.inr x ∧ v = Sum.inr y ∧ erE j M x y) ∨ (∃ x t', u = Sum.inr x ∧ v = Sum.inl t' ∧ RP (whl (rfb_stageFor_12 j n m w M) t') (erE j M x)) ∨ (∃ s' y, u = Sum.inl s' ∧ v = Sum.inr y ∧ RP (whl (kfb_sp_earliest_9 j n a b K) s') (fun x => erE j M x y))
theorem early_s {n m w a b : Int} (j0 : 0 ≤ j) (j1 : j < 48) (hp : -1 ≤ M.2 61 j ∧ M.2 61 j < j) (hk : K.2 53 j = M.2 61 j) (hP : PO j M) (hH : ∀ i, 0 ≤ i → i < j → K.2 59 i = M.2 131 i) (hS : ∀ i, 0 ≤ i → i ≤ j → SRW i K M) : RR (whl (kfb_sp_earliest_9 j n a b K) (0, (-1), 0)) (whl (rfb_stageFor_12 j n m w M) (0, (-1), 1, 0)) (erE j M) := by
  refine RR_whl2 (I := erI j M) (fun p q hI => ?_) ⟨rfl, (show (0 : Int) ≤ 0 by decide), j0, rfl, rfl, (show (-1 : Int) ≤ -1 by decide), (show (0 : Int) ≤ 0 by decide), (show (0 : Int) ≤ 0 by decide), Or.inl (show (0 : Int) ≤ 0 by decide), fun g1 g2 => by have g2 : M.2 61 j < 0 := g2; omega, (show (0 : Int) ≤ 12 by decide)⟩
  obtain ⟨f, o, i⟩ := p
  obtain ⟨l, o', c, i'⟩ := q
  obtain ⟨e1, i0, i1, e2, e3, o0, f0, fl, lf, pf, l12⟩ := hI
  have e1 : i = i' := e1
  have e2 : c = 1 := e2
  have e3 : o = o' := e3
  subst e1 e2 e3
  have i0 : 0 ≤ i := i0
  have i1 : i ≤ j := i1
  have o0 : -1 ≤ o := o0
  have f0 : 0 ≤ f := f0
  have fl : f ≤ l := fl
  have lf : l ≤ f ∨ (0 ≤ M.2 61 j ∧ l ≤ M.2 131 (M.2 61 j)) := lf
  have pf : 0 ≤ M.2 61 j → M.2 61 j < i → M.2 131 (M.2 61 j) + 1 ≤ f := pf
  have l12 : l ≤ 12 := l12
  show RR _ _ (erB j n m w a b K M)
  unfold kfb_sp_earliest_9 rfb_stageFor_12
  dsimp only
  by_cases g : j ≤ i
  · rw [if_pos g, if_pos g]
    refine RR_some (Or.inr (Or.inl ⟨_, _, rfl, rfl, Or.inl ⟨f, o, rfl, ?_, f0, o0, fun q => pf q (by omega)⟩⟩))
    have : l = f := by
      rcases lf with q | ⟨q1, q2⟩
      · omega
      · have := pf q1 (by omega)
        omega
    rw [this]
  rw [if_neg g, if_neg g]
  have hSi := hS i i0 i1
  have hSj := hS j j0 (Int.le_refl _)
  obtain ⟨⟨a1, a2⟩, -, -⟩ := hP i i0 (by omega)
  have hh := hH i i0 (by omega)
  have hP2 : 0 ≤ M.2 61 j → 0 ≤ M.2 131 (M.2 61 j) ∧ M.2 131 (M.2 61 j) < 12 := fun q => (hP _ q hp.2).1
  -- what both do with the terms
  have fin : ∀ tc tr : Int, 0 ≤ tc → tc ≤ tr → tr ≤ 12 → (tr ≤ tc ∨ (0 ≤ M.2 61 j ∧ tr ≤ M.2 131 (M.2 61 j))) → (i = M.2 61 j → M.2 131 i + 1 ≤ tc) → RR (kfl_sp_earliest_115 j n a b f o i tc K) (rfl_stageFor_70 j n m w l o 1 i (M.2 131 i) tr M) (erB j n m w a b K M) := by
    intro tc tr t0 t1 t2 t3 t4
    unfold kfl_sp_earliest_115
    rw [max_k, bnd_some]
    have e70 : ∃ l', (if tr ≤ l then l else tr) = l' := ⟨_, rfl⟩
    obtain ⟨l', hl'⟩ := e70
    have e71 : rfl_stageFor_70 j n m w l o 1 i (M.2 131 i) tr M = rfl_stageFor_86 j n m w o 1 i (M.2 131 i) l' M := by
      unfold rfl_stageFor_70
      rw [← hl']
      by_cases q : tr ≤ l
      · rw [if_pos q, if_pos q]
      · rw [if_neg q, if_neg q]
    have e72 : ∃ f', (if f < tc then tc else f) = f' := ⟨_, rfl⟩
    obtain ⟨f', hf'⟩ := e72
    rw [e71, hf']
    have r1 : (tr ≤ l ∧ l' = l) ∨ (l < tr ∧ l' = tr) := by
      by_cases q : tr ≤ l
      · rw [if_pos q] at hl'; exact Or.inl ⟨q, hl'.symm⟩
      · rw [if_neg q] at hl'; exact Or.inr ⟨by omega, hl'.symm⟩
    have r2 : (f < tc ∧ f' = tc) ∨ (tc ≤ f ∧ f' = f) := by
      by_cases q : f < tc
      · rw [if_pos q] at hf'; exact Or.inl ⟨q, hf'.symm⟩
      · rw [if_neg q] at hf'; exact Or.inr ⟨by omega, hf'.symm⟩
    have nx : ∀ o2, -1 ≤ o2 → erI j M (f', o2, i + 1) (l', o2, 1, i + 1) := by
      intro o2 ho2
      refine ⟨rfl, (by show 0 ≤ i + 1; omega), (by show i + 1 ≤ j; omega), rfl, rfl, ho2, (by show 0 ≤ f'; omega), (by show f' ≤ l'; omega), ?_, ?_, (by show l' ≤ 12; omega)⟩
      · show l' ≤ f' ∨ _
        rcases t3 with t3 | t3 <;> rcases lf with lf | lf <;> rcases r1 with r1 | r1 <;> rcases r2 with r2 | r2 <;> first | exact Or.inl (by omega) | exact Or.inr ⟨by omega, by omega⟩
      · intro q1 q2
        have q2 : M.2 61 j < i + 1 := q2
        show _ ≤ f'
        by_cases e : i = M.2 61 j
        · have := t4 e
          rw [← e]
          omega
        · have := pf q1 (by omega)
          omega
    unfold rfl_stageFor_86 kfl_sp_earliest_172 kfl_sp_earliest_163 kfl_sp_earliest_172 rfl_stageFor_129 rfl_stageFor_122 rfl_stageFor_118 rfl_stageFor_123 rfl_stageFor_129
    rw [cut_i (show -2147483648 ≤ i + 1 by omega) (by omega), hh]
    refine RR_r (shares_r i0 (by omega) j0 j1) (fun y hy => ?_)
    rcases hy with ⟨y1, y2⟩ | ⟨y1, y2⟩
    · rw [if_neg (fun q => (AR_i hSi hSj).mp q y2), if_neg y1, if_neg (show ¬ (1 : Int) = 0 by decide)]
      by_cases q1 : o = -1
      · rw [if_pos q1, if_pos (show o < 0 by omega)]
        exact RR_some (Or.inl ⟨_, _, rfl, rfl, nx _ (by omega)⟩)
      · rw [if_neg q1, if_neg (show ¬ o < 0 by omega)]
        by_cases q2 : o = M.2 131 i
        · rw [if_pos q2, if_pos q2]
          exact RR_some (Or.inl ⟨_, _, rfl, rfl, nx _ (by omega)⟩)
        · rw [if_neg q2, if_neg q2]
          exact RR_some (Or.inr (Or.inr (Or.inl ⟨_, _, rfl, rfl, RP_w (can0_r rfl) (fun e he => Or.inr ⟨rfl, he⟩)⟩)))
    · rw [if_pos ((AR_i hSi hSj).mpr y2), if_pos y1]
      exact RR_some (Or.inl ⟨_, _, rfl, rfl, nx _ o0⟩)
  -- the class's and the reference's tests
  have c59 : cut (K.2 59 i + 1) = M.2 131 i + 1 := by rw [hh, cut_i (by omega) (by omega)]
  have r59 : cut (M.2 131 i + 1) = M.2 131 i + 1 := cut_i (by omega) (by omega)
  have late : RR (kfl_sp_earliest_62 j n a b f o i K) (rfl_stageFor_47 j n m w l o 1 i (M.2 131 i) M) (erB j n m w a b K M) := by
    unfold kfl_sp_earliest_62 kfl_sp_earliest_67 rfl_stageFor_47
    rw [if_neg (show ¬ (1 : Int) = 0 by decide), c59, r59]
    exact fin _ _ (by omega) (Int.le_refl _) (by omega) (Or.inl (Int.le_refl _)) (fun _ => Int.le_refl _)
  have hG := MT_g hSi hSj
  refine RR_l (meet_10 i0 (by omega) j0 j1) (fun y1 h1 => RR_r (gives_r i0 (by omega) j0 j1) (fun z1 g1 => ?_))
  rcases h1 with ⟨h1, h1m⟩ | ⟨h1, h1m⟩
  · rw [if_neg (by omega)]
    rcases g1 with ⟨g1, -⟩ | ⟨g1, g1m⟩
    · rw [if_neg g1]
      exact late
    · exact absurd (hG.mp (Or.inl h1m)) g1m
  · rw [if_pos h1]
    refine RR_l (meet_11 i0 (by omega) j0 j1) (fun y2 h2 => ?_)
    rcases h2 with ⟨h2, h2m⟩ | ⟨h2, h2m⟩
    · rw [if_neg (by omega)]
      rcases g1 with ⟨g1, -⟩ | ⟨g1, g1m⟩
      · rw [if_neg g1]
        exact late
      · exact absurd (hG.mp (Or.inr h2m)) g1m
    · rw [if_pos h2]
      rcases g1 with ⟨-, g1m⟩ | ⟨g1, g1m⟩
      · exact absurd (hG.mpr g1m) (fun q => q.elim h1m h2m)
      · rw [if_pos g1, hk]
        refine RR_r (within_r i0 hp hP) (fun z2 g2 => ?_)
        rcases g2 with ⟨g2, p0, g3⟩ | ⟨g2, g3⟩
        · rw [if_neg g2]
          by_cases e : M.2 61 j = i
          · rw [if_pos e]
            exact late
          · rw [if_neg e]
            have g3 : M.2 131 i + 1 ≤ M.2 131 (M.2 61 j) := g3.elim (fun q => absurd q.symm e) id
            unfold kfl_sp_earliest_67 rfl_stageFor_47
            rw [if_pos rfl, r59]
            refine RR_l (RP_T _) (fun y3 _ => ?_)
            by_cases q : y3 = 0
            · rw [if_pos q]
              exact fin _ _ (Int.le_refl _) (by omega) (by omega) (Or.inr ⟨p0, g3⟩) (fun q => absurd q.symm e)
            · rw [if_neg q, hh]
              exact fin _ _ a1 (by omega) (by omega) (Or.inr ⟨p0, g3⟩) (fun q => absurd q.symm e)
        · rw [if_pos g2, if_neg (fun q => g3 q.symm)]
          unfold kfl_sp_earliest_67
          rw [if_pos rfl]
          refine RR_l (meet_01 i0 (by omega) j0 j1) (fun y3 h3 => RR_r (ahead_r i0 (by omega) j0 j1) (fun z3 g4 => ?_))
          have hA := MT_a hSi hSj
          rcases h3 with ⟨h3, h3m⟩ | ⟨h3, h3m⟩
          · rw [if_neg (by omega)]
            rcases g4 with ⟨g4, -⟩ | ⟨-, g4m⟩
            · rw [if_neg g4, hh]
              exact fin _ _ a1 (Int.le_refl _) (by omega) (Or.inl (Int.le_refl _)) (fun q => absurd q g3)
            · exact absurd (hA.mp h3m) g4m
          · rw [if_pos h3]
            rcases g4 with ⟨-, g4m⟩ | ⟨g4, -⟩
            · exact absurd (hA.mpr g4m) h3m
            · rw [if_pos g4]
              exact fin _ _ (Int.le_refl _) (Int.le_refl _) (by omega) (Or.inl (Int.le_refl _)) (fun q => absurd q g3)
end EAR
