/-! ===== entries of tables: masks, who is the same (both programs) ===== -/
section TQ1
variable {K M : mR} {t r : Int}
theorem bt_m1 {i : Nat} (h : i < 64) : bt64 (-1) i = true := (show ∀ k : Fin 64, bt64 (-1) k.val = true by decide) ⟨i, h⟩
theorem xor_r {x y : Int} : R64 (xor64 x y) := t64_r
theorem and_m1 {v : Int} (hv : R64 v) : and64 v (-1) = v := bt_eq and_r hv (fun i hi => by rw [bq_and, bt_m1 hi, Bool.and_true])
theorem rcut {v w : Int} (hv : R64 v) : rf_cut v w = some (and64 v (mk64 w)) := by
  unfold rf_cut rfl_cut_17 mk64
  by_cases h : w = 64
  · rw [if_pos h, if_pos h, and_m1 hv]
  · rw [if_neg h, if_neg h]
theorem ones_q {m : mR} {w : Int} (h : w ≤ 64) : kf_pw_ones w m = some (mk64 w) := by
  unfold kf_pw_ones kfl_pw_ones_17 mk64
  by_cases g : w < 64
  · rw [if_pos g, if_neg (by omega)]
  · rw [if_neg g, if_pos (by omega)]
theorem gap_e (x w : Int) : xor64 (and64 x (mk64 w)) (mk64 w) = and64 (xor64 x (-1)) (mk64 w) := bt_eq xor_r and_r (fun i hi => by
  rw [bq_xor, bq_and, bq_and, bq_xor, bt_m1 hi]
  cases bt64 x i <;> cases bt64 (mk64 w) i <;> rfl)
/-- a mask x is as its kind wants -/
def okm (kd w x : Int) : Prop := kd = 314 ∨ (kd = 312 ∧ and64 (xor64 x (-1)) (mk64 w) = 0) ∨ (kd = 313 ∧ and64 (and64 (xor64 x (-1)) (mk64 w)) (cutl (and64 (xor64 x (-1)) (mk64 w) + 1)) = 0)
def amI (t : Int) (M : mR) (s : Int × Int) : Prop := (0 ≤ s.2 ∧ s.2 ≤ M.2 51 t) ∧ ((s.1 = 1 ∧ ∀ i, 0 ≤ i → i < s.2 → okm (M.2 113 (4 * t + i)) (M.2 112 (4 * t + i)) (M.2 161 i)) ∨ (s.1 = 0 ∧ ∃ i, 0 ≤ i ∧ i < s.2 ∧ ¬ okm (M.2 113 (4 * t + i)) (M.2 112 (4 * t + i)) (M.2 161 i)))
theorem masks_r (t0 : 0 ≤ t) (t1 : t < 8) (h0 : 0 ≤ M.2 51 t) (h1 : M.2 51 t ≤ 4) : RP (rf_areMasks t M) (fun y => amI t M (y, M.2 51 t)) := by
  unfold rf_areMasks
  refine RP_bnd (P := fun e => amI t M (e, M.2 51 t)) (RP_whl (I := amI t M) (fun s hs => ?_) ⟨⟨Int.le_refl _, h0⟩, Or.inl ⟨rfl, fun i i0 i1 => by have i1 : i < 0 := i1; omega⟩⟩) (fun e he => RP_some he)
  obtain ⟨⟨a0, a1⟩, a2⟩ := hs
  unfold rfb_areMasks_4
  refine RP_ite (fun g => RP_some ?_) (fun g => ?_)
  · have e : s.2 = M.2 51 t := by omega
    show amI t M (s.1, M.2 51 t)
    rw [← e]
    exact ⟨⟨a0, a1⟩, a2⟩
  · rw [rcut xor_r, bnd_some, cut_i (z := 4 * t) (by omega) (by omega), cut_i (z := 4 * t + s.2) (by omega) (by omega)]
    have c1 : cut (s.2 + 1) = s.2 + 1 := cut_i (by omega) (by omega)
    have bad : (∃ i, 0 ≤ i ∧ i < s.2 + 1 ∧ ¬ okm (M.2 113 (4 * t + i)) (M.2 112 (4 * t + i)) (M.2 161 i)) → RP (rfl_areMasks_106 t s.2 M) (sel (amI t M) (fun e => amI t M (e, M.2 51 t))) := fun h => by
      unfold rfl_areMasks_106 rfl_areMasks_107
      rw [c1]
      exact RP_some (show amI t M (0, s.2 + 1) from ⟨⟨show 0 ≤ s.2 + 1 by omega, show s.2 + 1 ≤ M.2 51 t by omega⟩, Or.inr ⟨rfl, h⟩⟩)
    refine RP_ite (fun g1 => bad ?_) (fun g1 => ?_)
    · rcases a2 with ⟨q, -⟩ | ⟨-, i, i0, i1, i2⟩
      · omega
      · exact ⟨i, i0, by omega, i2⟩
    · have a3 : s.1 = 1 ∧ ∀ i, 0 ≤ i → i < s.2 → okm (M.2 113 (4 * t + i)) (M.2 112 (4 * t + i)) (M.2 161 i) := by
        rcases a2 with q | ⟨q, -⟩
        · exact q
        · exact absurd q g1
      have good : okm (M.2 113 (4 * t + s.2)) (M.2 112 (4 * t + s.2)) (M.2 161 s.2) → RP (rfl_areMasks_102 t s.2 M) (sel (amI t M) (fun e => amI t M (e, M.2 51 t))) := fun h => by
        unfold rfl_areMasks_102 rfl_areMasks_107
        rw [c1]
        refine RP_some (show amI t M (1, s.2 + 1) from ⟨⟨show 0 ≤ s.2 + 1 by omega, show s.2 + 1 ≤ M.2 51 t by omega⟩, Or.inl ⟨rfl, fun i i0 i1 => ?_⟩⟩)
        have i1 : i < s.2 + 1 := i1
        by_cases e : i = s.2
        · rw [e]; exact h
        · exact a3.2 i i0 (by omega)
      have bad2 : ¬ okm (M.2 113 (4 * t + s.2)) (M.2 112 (4 * t + s.2)) (M.2 161 s.2) → RP (rfl_areMasks_106 t s.2 M) (sel (amI t M) (fun e => amI t M (e, M.2 51 t))) := fun h => bad ⟨s.2, a0, by omega, h⟩
      have h82 : M.2 113 (4 * t + s.2) ≠ 314 → (M.2 113 (4 * t + s.2) = 312 → and64 (xor64 (M.2 161 s.2) (-1)) (mk64 (M.2 112 (4 * t + s.2))) ≠ 0) → RP (rfl_areMasks_82 t s.2 (and64 (xor64 (M.2 161 s.2) (-1)) (mk64 (M.2 112 (4 * t + s.2)))) (M.2 113 (4 * t + s.2)) M) (sel (amI t M) (fun e => amI t M (e, M.2 51 t))) := fun n1 n2 => by
        unfold rfl_areMasks_82
        refine RP_ite (fun g2 => RP_ite (fun g3 => good (Or.inr (Or.inr ⟨g2, cmp64_0.mp g3⟩))) (fun g3 => bad2 (fun q => ?_))) (fun g2 => bad2 (fun q => ?_))
        · rcases q with q | ⟨q, -⟩ | ⟨-, q⟩
          · exact n1 q
          · omega
          · exact g3 (cmp64_0.mpr q)
        · rcases q with q | ⟨q, q2⟩ | ⟨q, -⟩
          · exact n1 q
          · exact n2 q q2
          · exact g2 q
      refine RP_ite (fun g2 => good (Or.inl g2)) (fun g2 => RP_ite (fun g3 => RP_ite (fun g4 => good (Or.inr (Or.inl ⟨g3, cmp64_0.mp g4⟩))) (fun g4 => h82 g2 (fun _ q => g4 (cmp64_0.mpr q)))) (fun g3 => h82 g2 (fun q => absurd q g3)))
/-! the class cuts the keys of an operation -/
def ckQ (t r : Int) (K : mR) (i : Int) : Prop := okm (K.2 81 (65536 * t + i)) (K.2 82 (65536 * t + i)) (K.2 104 (65536 * r + i))
def ckI (t r : Int) (K : mR) (s : Int × Int × mR) : Prop := (0 ≤ s.2.1 ∧ s.2.1 ≤ K.2 72 t) ∧ fr [] [103, 104] K s.2.2 ∧ (∀ j, j < 65536 * r ∨ 65536 * r + s.2.1 ≤ j → s.2.2.2 103 j = K.2 103 j ∧ s.2.2.2 104 j = K.2 104 j) ∧ (∀ i, 0 ≤ i → i < s.2.1 → s.2.2.2 104 (65536 * r + i) = and64 (K.2 104 (65536 * r + i)) (mk64 (K.2 82 (65536 * t + i))) ∧ s.2.2.2 103 (65536 * r + i) = and64 (K.2 103 (65536 * r + i)) (and64 (K.2 104 (65536 * r + i)) (mk64 (K.2 82 (65536 * t + i))))) ∧ ((s.1 = 1 ∧ ∀ i, 0 ≤ i → i < s.2.1 → ckQ t r K i) ∨ (s.1 = 0 ∧ ∃ i, 0 ≤ i ∧ i < s.2.1 ∧ ¬ ckQ t r K i))
theorem and32_01 : and32 0 0 = 0 ∧ and32 0 1 = 0 ∧ and32 1 0 = 0 ∧ and32 1 1 = 1 := by decide
theorem cutk_k (h0 : 0 ≤ K.2 72 t) (h1 : K.2 72 t ≤ 4) (hw : ∀ i, 0 ≤ i → i < K.2 72 t → K.2 82 (65536 * t + i) ≤ 64 ∧ (K.2 81 (65536 * t + i) = 312 ∨ K.2 81 (65536 * t + i) = 313 ∨ K.2 81 (65536 * t + i) = 314)) : RP (kf_tb_cutKeys_b103_b104 t r r K) (fun y => ckI t r K (y.1, K.2 72 t, y.2)) := by
  unfold kf_tb_cutKeys_b103_b104
  refine RP_bnd (P := fun e => ckI t r K (e.1, K.2 72 t, e.2)) (RP_whl (I := ckI t r K) (fun s hs => ?_) ⟨⟨Int.le_refl _, h0⟩, fr_0, fun _ _ => ⟨rfl, rfl⟩, fun i i0 i1 => by have i1 : i < 0 := i1; omega, Or.inl ⟨rfl, fun i i0 i1 => by have i1 : i < 0 := i1; omega⟩⟩) (fun e he => RP_some he)
  obtain ⟨⟨a0, a1⟩, af, a2, a3, a4⟩ := hs
  have e72 : s.2.2.2 72 = K.2 72 := fr2 af 72 rfl
  have e81 : s.2.2.2 81 = K.2 81 := fr2 af 81 rfl
  have e82 : s.2.2.2 82 = K.2 82 := fr2 af 82 rfl
  unfold kfb_tb_cutKeys_b103_b104_5
  rw [e72, e81, e82]
  refine RP_ite (fun g => RP_some ?_) (fun g => ?_)
  · have e : s.2.1 = K.2 72 t := by omega
    show ckI t r K (s.1, K.2 72 t, s.2.2)
    rw [← e]
    exact ⟨⟨a0, a1⟩, af, a2, a3, a4⟩
  · obtain ⟨w1, w2⟩ := hw s.2.1 a0 (by omega)
    obtain ⟨x3, x4⟩ := a2 (65536 * r + s.2.1) (Or.inr (Int.le_refl _))
    rw [ones_q w1, bnd_some, upI_s, x3, x4, gap_e]
    have eW : ∃ W, W = mk64 (K.2 82 (65536 * t + s.2.1)) := ⟨_, rfl⟩
    obtain ⟨W, eW⟩ := eW
    rw [← eW]
    have em : ∃ m', m' = (mO s.2.2 [] [(103, upI (s.2.2.2 103) (65536 * r + s.2.1) (and64 (K.2 103 (65536 * r + s.2.1)) (and64 (K.2 104 (65536 * r + s.2.1)) W))), (104, upI (s.2.2.2 104) (65536 * r + s.2.1) (and64 (K.2 104 (65536 * r + s.2.1)) W))]) := ⟨_, rfl⟩
    obtain ⟨m', em⟩ := em
    rw [← em]
    have f' : fr [] [103, 104] K m' := by
      rw [em]
      exact fr_m af rfl rfl
    have m3 : m'.2 103 = upI (s.2.2.2 103) (65536 * r + s.2.1) (and64 (K.2 103 (65536 * r + s.2.1)) (and64 (K.2 104 (65536 * r + s.2.1)) W)) := by rw [em]; rfl
    have m4 : m'.2 104 = upI (s.2.2.2 104) (65536 * r + s.2.1) (and64 (K.2 104 (65536 * r + s.2.1)) W) := by rw [em]; rfl
    have m81 : m'.2 81 = K.2 81 := fr2 f' 81 rfl
    have c1 : cut (s.2.1 + 1) = s.2.1 + 1 := cut_i (by omega) (by omega)
    have fin : ∀ f : Int, ((f = 1 ∧ s.1 = 1 ∧ ckQ t r K s.2.1) ∨ (f = 0 ∧ (s.1 = 0 ∨ ¬ ckQ t r K s.2.1))) → RP (some (Sum.inl (f, cut (s.2.1 + 1), m')) : Option (Sum (Int × Int × mR) (Int × mR))) (sel (ckI t r K) (fun e => ckI t r K (e.1, K.2 72 t, e.2))) := fun f hf => by
      rw [c1]
      refine RP_some (show ckI t r K (f, s.2.1 + 1, m') from ⟨⟨show 0 ≤ s.2.1 + 1 by omega, show s.2.1 + 1 ≤ K.2 72 t by omega⟩, f', fun j hj => ?_, fun i i0 i1 => ?_, ?_⟩)
      · have hj : j < 65536 * r ∨ 65536 * r + (s.2.1 + 1) ≤ j := hj
        show m'.2 103 j = _ ∧ m'.2 104 j = _
        rw [m3, m4, upI_n (by omega), upI_n (by omega)]
        exact a2 j (by omega)
      · have i1 : i < s.2.1 + 1 := i1
        show m'.2 104 _ = _ ∧ m'.2 103 _ = _
        rw [m3, m4]
        by_cases e : i = s.2.1
        · rw [e, upI_s, upI_s, eW]
          exact ⟨rfl, rfl⟩
        · rw [upI_n (by omega), upI_n (by omega)]
          exact a3 i i0 (by omega)
      · rcases hf with ⟨q1, q2, q3⟩ | ⟨q1, q2⟩
        · refine Or.inl ⟨q1, fun i i0 i1 => ?_⟩
          have i1 : i < s.2.1 + 1 := i1
          by_cases e : i = s.2.1
          · rw [e]; exact q3
          · rcases a4 with ⟨-, p⟩ | ⟨p, -⟩
            · exact p i i0 (by omega)
            · omega
        · refine Or.inr ⟨q1, ?_⟩
          show ∃ i, 0 ≤ i ∧ i < s.2.1 + 1 ∧ ¬ ckQ t r K i
          rcases q2 with q2 | q2
          · rcases a4 with ⟨p, -⟩ | ⟨-, i, i0, i1, i2⟩
            · omega
            · exact ⟨i, i0, by omega, i2⟩
          · exact ⟨s.2.1, a0, by omega, q2⟩
    have s01 : s.1 = 0 ∨ s.1 = 1 := by
      rcases a4 with ⟨p, -⟩ | ⟨p, -⟩
      · exact Or.inr p
      · exact Or.inl p
    have key : ∀ a b : Int, ((a = 1 ∧ b = 1 ∧ ckQ t r K s.2.1) ∨ (((a = 0 ∧ b = 1) ∨ (a = 1 ∧ b = 0)) ∧ ¬ ckQ t r K s.2.1)) → RP (some (Sum.inl (and32 (and32 s.1 a) b, cut (s.2.1 + 1), m')) : Option (Sum (Int × Int × mR) (Int × mR))) (sel (ckI t r K) (fun e => ckI t r K (e.1, K.2 72 t, e.2))) := fun a b hab => by
      obtain ⟨z1, z2, z3, z4⟩ := and32_01
      refine fin _ ?_
      rcases hab with ⟨rfl, rfl, q⟩ | ⟨⟨rfl, rfl⟩ | ⟨rfl, rfl⟩, q⟩
      · rcases s01 with e | e
        · rw [e, z2, z2]; exact Or.inr ⟨rfl, Or.inl rfl⟩
        · rw [e, z4, z4]; exact Or.inl ⟨rfl, rfl, q⟩
      · rcases s01 with e | e
        · rw [e, z1, z2]; exact Or.inr ⟨rfl, Or.inl rfl⟩
        · rw [e, z3, z2]; exact Or.inr ⟨rfl, Or.inr q⟩
      · rcases s01 with e | e
        · rw [e, z2, z1]; exact Or.inr ⟨rfl, Or.inl rfl⟩
        · rw [e, z4, z3]; exact Or.inr ⟨rfl, Or.inr q⟩
    unfold kfl_tb_cutKeys_b103_b104_76 kfl_tb_cutKeys_b103_b104_81 kfl_tb_cutKeys_b103_b104_109 kfl_tb_cutKeys_b103_b104_114
    rw [m81]
    have eG : ∃ G, G = and64 (xor64 (K.2 104 (65536 * r + s.2.1)) (-1)) W := ⟨_, rfl⟩
    obtain ⟨G, eG⟩ := eG
    rw [← eG]
    have hq : ckQ t r K s.2.1 ↔ (K.2 81 (65536 * t + s.2.1) = 314 ∨ (K.2 81 (65536 * t + s.2.1) = 312 ∧ G = 0) ∨ (K.2 81 (65536 * t + s.2.1) = 313 ∧ and64 G (cutl (G + 1)) = 0)) := by
      unfold ckQ okm
      rw [← eW, ← eG]
    refine RP_ite (fun g1 => ?_) (fun g1 => ?_)
    · refine RP_ite (fun g2 => ?_) (fun g2 => ?_)
      · refine RP_ite (fun g3 => absurd g3 (by omega)) (fun _ => key 1 1 (Or.inl ⟨rfl, rfl, hq.mpr (Or.inr (Or.inl ⟨g1, cmp64_0.mp g2⟩))⟩))
      · refine RP_ite (fun g3 => absurd g3 (by omega)) (fun _ => key 0 1 (Or.inr ⟨Or.inl ⟨rfl, rfl⟩, fun q => ?_⟩))
        rcases hq.mp q with q | ⟨-, q⟩ | ⟨q, -⟩
        · omega
        · exact g2 (cmp64_0.mpr q)
        · omega
    · refine RP_ite (fun g3 => RP_ite (fun g4 => key 1 1 (Or.inl ⟨rfl, rfl, hq.mpr (Or.inr (Or.inr ⟨g3, cmp64_0.mp g4⟩))⟩)) (fun g4 => key 1 0 (Or.inr ⟨Or.inr ⟨rfl, rfl⟩, fun q => ?_⟩))) (fun g3 => key 1 1 (Or.inl ⟨rfl, rfl, hq.mpr (Or.inl (by omega))⟩))
      rcases hq.mp q with q | ⟨q, -⟩ | ⟨-, q⟩
      · omega
      · exact g1 q
      · exact g4 (cmp64_0.mpr q)
end TQ1
