/-! ===== two steps that meet ===== -/
section MEE
variable {K M : mR} {i j : Int}
theorem bt_and (x y : Int) (k : Nat) : bt (and64 x y) k = (bt x k && bt y k) := by
  unfold bt and64
  rw [show i64 ((i64 x &&& i64 y).toInt) = i64 x &&& i64 y from Int64.ofInt_toInt _, Int64.toBitVec_and, BitVec.getLsbD_and]
theorem and64_r (x y : Int) : R64 (and64 x y) := t64_r
theorem cmp64_z {x : Int} : cmp64 x 0 = 0 ↔ x = 0 := by
  unfold cmp64
  by_cases h : (0 : Int) < x
  · rw [if_pos h]
    exact ⟨fun q => absurd q (by decide), fun q => by omega⟩
  · rw [if_neg h]
    by_cases h2 : x = 0
    · rw [if_pos h2]
      exact ⟨fun _ => h2, fun _ => rfl⟩
    · rw [if_neg h2]
      exact ⟨fun q => absurd q (by decide), fun q => absurd q h2⟩
theorem and64_0 {x y : Int} : cmp64 (and64 x y) 0 = 0 ↔ ∀ k : Nat, k < 64 → ¬ (bt x k = true ∧ bt y k = true) := by
  rw [cmp64_z]
  constructor
  · intro h k hk hb
    have := bt_and x y k
    rw [h, bt_0, hb.1, hb.2] at this
    cases this
  · intro h
    refine bt_ext (and64_r x y) ⟨by decide, by decide⟩ (fun k hk => ?_)
    rw [bt_and, bt_0]
    cases h1 : bt x k with
    | false => rfl
    | true =>
      cases h2 : bt y k with
      | false => rfl
      | true => exact absurd ⟨h1, h2⟩ (h k hk)
/-- rows of sets that meet -/
def MT (k l : Int → Int) (i j : Int) : Prop := ∃ x, 0 ≤ x ∧ x < 256 ∧ xb k i x ∧ xb l j x
def MTn (k l : Int → Int) (i j n : Int) : Prop := ∀ x, 0 ≤ x → x < 64 * n → ¬ (xb k i x ∧ xb l j x)
theorem MT_1 {k l : Int → Int} {q : Int} (q0 : 0 ≤ q) (q4 : q < 4) (h : ¬ cmp64 (and64 (k (4 * i + q)) (l (4 * j + q))) 0 = 0) : MT k l i j := by
  rw [and64_0] at h
  have ⟨n, hn, hb⟩ : ∃ n : Nat, n < 64 ∧ (bt (k (4 * i + q)) n = true ∧ bt (l (4 * j + q)) n = true) := by
    refine Classical.byContradiction (fun hc => h (fun n hn hb => hc ⟨n, hn, hb⟩))
  refine ⟨64 * q + n, by omega, by omega, ?_, ?_⟩
  · unfold xb
    rw [show (64 * q + (n : Int)) / 64 = q by omega, show ((64 * q + (n : Int)) % 64).toNat = n by omega]
    exact hb.1
  · unfold xb
    rw [show (64 * q + (n : Int)) / 64 = q by omega, show ((64 * q + (n : Int)) % 64).toNat = n by omega]
    exact hb.2
theorem MT_0 {k l : Int → Int} {q : Int} (q0 : 0 ≤ q) (h : cmp64 (and64 (k (4 * i + q)) (l (4 * j + q))) 0 = 0) (hn : MTn k l i j q) : MTn k l i j (q + 1) := by
  rw [and64_0] at h
  intro x x0 x1 hx
  by_cases g : x < 64 * q
  · exact hn x x0 g hx
  · have e : x / 64 = q := by omega
    unfold xb at hx
    rw [e] at hx
    exact h _ (by omega) hx
theorem ix4 {s q : Int} (s0 : 0 ≤ s) (s1 : s < 48) (q0 : 0 ≤ q) (q1 : q < 4) : cut (cut (s * 4) + q) = 4 * s + q := by
  rw [cut_i (show -2147483648 ≤ s * 4 by omega) (by omega), cut_i (by omega) (by omega)]
  omega
theorem meet_10 (i0 : 0 ≤ i) (i1 : i < 48) (j0 : 0 ≤ j) (j1 : j < 48) : RP (kf_sp_meet_b61_b60 i j K) (fun r => (r = 1 ∧ MT (K.2 61) (K.2 60) i j) ∨ (r = 0 ∧ ¬ MT (K.2 61) (K.2 60) i j)) := by
  unfold kf_sp_meet_b61_b60
  refine RP_bnd (P := sel (fun _ => MT (K.2 61) (K.2 60) i j) (fun _ => ¬ MT (K.2 61) (K.2 60) i j)) (RP_whl (I := fun q : Int => 0 ≤ q ∧ q ≤ 4 ∧ MTn (K.2 61) (K.2 60) i j q) (fun q hq => ?_) ⟨Int.le_refl 0, by decide, fun x x0 x1 => absurd x1 (by omega)⟩) (RP_sl (fun _ h => RP_some (Or.inl ⟨rfl, h⟩)) (fun _ h => RP_some (Or.inr ⟨rfl, h⟩)))
  obtain ⟨q0, q4, hn⟩ := hq
  unfold kfb_sp_meet_b61_b60_3
  refine RP_ite (fun g => RP_some (fun ⟨x, x0, x1, x2⟩ => hn x x0 (by omega) x2)) (fun g => ?_)
  rw [ix4 i0 i1 q0 (by omega), ix4 j0 j1 q0 (by omega), cut_i (show -2147483648 ≤ q + 1 by omega) (by omega)]
  exact RP_ite (fun h => RP_some ⟨(by show 0 ≤ q + 1; omega), (by show q + 1 ≤ 4; omega), MT_0 q0 h hn⟩) (fun h => RP_some (MT_1 q0 (by omega) h))
theorem meet_01 (i0 : 0 ≤ i) (i1 : i < 48) (j0 : 0 ≤ j) (j1 : j < 48) : RP (kf_sp_meet_b60_b61 i j K) (fun r => (r = 1 ∧ MT (K.2 60) (K.2 61) i j) ∨ (r = 0 ∧ ¬ MT (K.2 60) (K.2 61) i j)) := by
  unfold kf_sp_meet_b60_b61
  refine RP_bnd (P := sel (fun _ => MT (K.2 60) (K.2 61) i j) (fun _ => ¬ MT (K.2 60) (K.2 61) i j)) (RP_whl (I := fun q : Int => 0 ≤ q ∧ q ≤ 4 ∧ MTn (K.2 60) (K.2 61) i j q) (fun q hq => ?_) ⟨Int.le_refl 0, by decide, fun x x0 x1 => absurd x1 (by omega)⟩) (RP_sl (fun _ h => RP_some (Or.inl ⟨rfl, h⟩)) (fun _ h => RP_some (Or.inr ⟨rfl, h⟩)))
  obtain ⟨q0, q4, hn⟩ := hq
  unfold kfb_sp_meet_b60_b61_3
  refine RP_ite (fun g => RP_some (fun ⟨x, x0, x1, x2⟩ => hn x x0 (by omega) x2)) (fun g => ?_)
  rw [ix4 i0 i1 q0 (by omega), ix4 j0 j1 q0 (by omega), cut_i (show -2147483648 ≤ q + 1 by omega) (by omega)]
  exact RP_ite (fun h => RP_some ⟨(by show 0 ≤ q + 1; omega), (by show q + 1 ≤ 4; omega), MT_0 q0 h hn⟩) (fun h => RP_some (MT_1 q0 (by omega) h))
theorem meet_11 (i0 : 0 ≤ i) (i1 : i < 48) (j0 : 0 ≤ j) (j1 : j < 48) : RP (kf_sp_meet_b61_b61 i j K) (fun r => (r = 1 ∧ MT (K.2 61) (K.2 61) i j) ∨ (r = 0 ∧ ¬ MT (K.2 61) (K.2 61) i j)) := by
  unfold kf_sp_meet_b61_b61
  refine RP_bnd (P := sel (fun _ => MT (K.2 61) (K.2 61) i j) (fun _ => ¬ MT (K.2 61) (K.2 61) i j)) (RP_whl (I := fun q : Int => 0 ≤ q ∧ q ≤ 4 ∧ MTn (K.2 61) (K.2 61) i j q) (fun q hq => ?_) ⟨Int.le_refl 0, by decide, fun x x0 x1 => absurd x1 (by omega)⟩) (RP_sl (fun _ h => RP_some (Or.inl ⟨rfl, h⟩)) (fun _ h => RP_some (Or.inr ⟨rfl, h⟩)))
  obtain ⟨q0, q4, hn⟩ := hq
  unfold kfb_sp_meet_b61_b61_3
  refine RP_ite (fun g => RP_some (fun ⟨x, x0, x1, x2⟩ => hn x x0 (by omega) x2)) (fun g => ?_)
  rw [ix4 i0 i1 q0 (by omega), ix4 j0 j1 q0 (by omega), cut_i (show -2147483648 ≤ q + 1 by omega) (by omega)]
  exact RP_ite (fun h => RP_some ⟨(by show 0 ≤ q + 1; omega), (by show q + 1 ≤ 4; omega), MT_0 q0 h hn⟩) (fun h => RP_some (MT_1 q0 (by omega) h))
/-- the reference's: writing meets reading or writing; reading meets writing -/
def GVm (i j : Int) (M : mR) (y : Int) : Prop := M.2 136 (221 * i + y) ≠ 0 ∧ (M.2 135 (221 * j + y) ≠ 0 ∨ M.2 136 (221 * j + y) ≠ 0)
def RAm (i j : Int) (M : mR) (y : Int) : Prop := M.2 135 (221 * i + y) ≠ 0 ∧ M.2 136 (221 * j + y) ≠ 0
def hx (y : Int) : Int := if y < 192 then 17 * (y / 16) + 1 + y % 16 else if y < 204 then 17 * (y - 192) else y
theorem hx_t {y : Int} (y0 : 0 ≤ y) (y1 : y < 221) : 0 ≤ hx y ∧ hx y < 221 ∧ th (hx y) = y := by
  unfold hx
  by_cases a : y < 192
  · rw [if_pos a]
    exact ⟨by omega, by omega, by rw [th_f (by omega) (by omega)]; omega⟩
  · rw [if_neg a]
    by_cases b : y < 204
    · rw [if_pos b]
      exact ⟨by omega, by omega, by rw [th_v (by omega) (by omega)]; omega⟩
    · rw [if_neg b]
      exact ⟨by omega, by omega, th_m (by omega)⟩
theorem MT_g (hi : SRW i K M) (hj : SRW j K M) : (MT (K.2 61) (K.2 60) i j ∨ MT (K.2 61) (K.2 61) i j) ↔ ∃ y, 0 ≤ y ∧ y < 221 ∧ GVm i j M y := by
  obtain ⟨⟨ri, rfi, rhi⟩, ⟨wi, wfi, whi⟩, -⟩ := hi
  obtain ⟨⟨rj, rfj, rhj⟩, ⟨wj, wfj, whj⟩, -⟩ := hj
  constructor
  · intro h
    rcases h with ⟨x, x0, x1, h1, h2⟩ | ⟨x, x0, x1, h1, h2⟩
    · have x2 : x < 221 := Classical.byContradiction (fun q => whi x (by omega) x1 h1)
      have g2 := (rj x x0 x2).mp h2
      rcases (wi x x0 x2).mp h1 with g1 | ⟨⟨f1, f2, f3⟩, -⟩
      · exact ⟨th x, (th_r x0 x2).1, (th_r x0 x2).2, g1, Or.inl g2⟩
      · have := rfj x x0 f1 f2 g2
        omega
    · have x2 : x < 221 := Classical.byContradiction (fun q => whi x (by omega) x1 h1)
      rcases (wi x x0 x2).mp h1 with g1 | ⟨⟨f1, f2, f3⟩, g1⟩
      · rcases (wj x x0 x2).mp h2 with g2 | ⟨⟨f1, f2, f3⟩, -⟩
        · exact ⟨th x, (th_r x0 x2).1, (th_r x0 x2).2, g1, Or.inr g2⟩
        · have := wfi x x0 f1 f2 g1
          omega
      · rcases (wj x x0 x2).mp h2 with g2 | ⟨-, g2⟩
        · have := wfj x x0 f1 f2 g2
          omega
        · refine ⟨192 + x / 17, by omega, by omega, ?_, Or.inr ?_⟩
          · rw [← Int.add_assoc]; exact g1
          · rw [← Int.add_assoc]; exact g2
  · intro ⟨y, y0, y1, g1, g2⟩
    obtain ⟨a0, a1, a2⟩ := hx_t y0 y1
    have w1 := (wi (hx y) a0 a1).mpr (Or.inl (by rw [a2]; exact g1))
    rcases g2 with g2 | g2
    · exact Or.inl ⟨hx y, a0, by omega, w1, (rj (hx y) a0 a1).mpr (by rw [a2]; exact g2)⟩
    · exact Or.inr ⟨hx y, a0, by omega, w1, (wj (hx y) a0 a1).mpr (Or.inl (by rw [a2]; exact g2))⟩
theorem MT_a (hi : SRW i K M) (hj : SRW j K M) : MT (K.2 60) (K.2 61) i j ↔ ∃ y, 0 ≤ y ∧ y < 221 ∧ RAm i j M y := by
  obtain ⟨⟨ri, rfi, rhi⟩, -, -⟩ := hi
  obtain ⟨-, ⟨wj, wfj, whj⟩, -⟩ := hj
  constructor
  · intro ⟨x, x0, x1, h1, h2⟩
    have x2 : x < 221 := Classical.byContradiction (fun q => rhi x (by omega) x1 h1)
    have g1 := (ri x x0 x2).mp h1
    rcases (wj x x0 x2).mp h2 with g2 | ⟨⟨f1, f2, f3⟩, -⟩
    · exact ⟨th x, (th_r x0 x2).1, (th_r x0 x2).2, g1, g2⟩
    · have := rfi x x0 f1 f2 g1
      omega
  · intro ⟨y, y0, y1, g1, g2⟩
    obtain ⟨a0, a1, a2⟩ := hx_t y0 y1
    exact ⟨hx y, a0, by omega, (ri (hx y) a0 a1).mpr (by rw [a2]; exact g1), (wj (hx y) a0 a1).mpr (Or.inl (by rw [a2]; exact g2))⟩
theorem ix221c {s y : Int} (s0 : 0 ≤ s) (s1 : s < 48) (y0 : 0 ≤ y) (y1 : y < 221) : cut (cut (221 * s) + y) = 221 * s + y := ix221 s0 s1 y0 (by omega)
theorem gives_r (i0 : 0 ≤ i) (i1 : i < 48) (j0 : 0 ≤ j) (j1 : j < 48) : RP (rf_givesTo i j M) (fun r => (r ≠ 0 ∧ ∃ y, 0 ≤ y ∧ y < 221 ∧ GVm i j M y) ∨ (r = 0 ∧ ¬ ∃ y, 0 ≤ y ∧ y < 221 ∧ GVm i j M y)) := by
  unfold rf_givesTo
  refine RP_bnd (P := fun r => (r ≠ 0 ∧ ∃ y, 0 ≤ y ∧ y < 221 ∧ GVm i j M y) ∨ (r = 0 ∧ ¬ ∃ y, 0 ≤ y ∧ y < 221 ∧ GVm i j M y)) (RP_whl (I := fun p : Int × Int => 0 ≤ p.2 ∧ p.2 ≤ 221 ∧ ((p.1 ≠ 0 ∧ ∃ y, 0 ≤ y ∧ y < 221 ∧ GVm i j M y) ∨ (p.1 = 0 ∧ ∀ y, 0 ≤ y → y < p.2 → ¬ GVm i j M y))) (fun p hp => ?_) ⟨Int.le_refl 0, (show (0 : Int) ≤ 221 by decide), Or.inr ⟨rfl, fun y y0 y1 => absurd (show y < 0 from y1) (by omega)⟩⟩) (fun e he => RP_some he)
  obtain ⟨u, k⟩ := p
  obtain ⟨k0, k1, hk⟩ := hp
  have k0 : 0 ≤ k := k0
  have k1 : k ≤ 221 := k1
  have hk : (u ≠ 0 ∧ ∃ y, 0 ≤ y ∧ y < 221 ∧ GVm i j M y) ∨ (u = 0 ∧ ∀ y, 0 ≤ y → y < k → ¬ GVm i j M y) := hk
  unfold rfb_givesTo_5 rfl_givesTo_69 rfl_givesTo_65 rfl_givesTo_70
  dsimp only
  refine RP_ite (fun g => RP_some ?_) (fun g => ?_)
  · rcases hk with hk | ⟨h1, h2⟩
    · exact Or.inl hk
    · exact Or.inr ⟨h1, fun ⟨y, y0, y1, hy⟩ => h2 y y0 (by omega) hy⟩
  rw [ix221c i0 i1 k0 (by omega), ix221c j0 j1 k0 (by omega), cut_i (show -2147483648 ≤ k + 1 by omega) (by omega)]
  have yes : GVm i j M k → RP (some (Sum.inl ((1 : Int), k + 1)) : Option (Sum (Int × Int) Int)) (sel (fun p : Int × Int => 0 ≤ p.2 ∧ p.2 ≤ 221 ∧ ((p.1 ≠ 0 ∧ ∃ y, 0 ≤ y ∧ y < 221 ∧ GVm i j M y) ∨ (p.1 = 0 ∧ ∀ y, 0 ≤ y → y < p.2 → ¬ GVm i j M y))) (fun r => (r ≠ 0 ∧ ∃ y, 0 ≤ y ∧ y < 221 ∧ GVm i j M y) ∨ (r = 0 ∧ ¬ ∃ y, 0 ≤ y ∧ y < 221 ∧ GVm i j M y))) := fun hy => RP_some ⟨(by show 0 ≤ k + 1; omega), (by show k + 1 ≤ 221; omega), Or.inl ⟨(show (1 : Int) ≠ 0 by decide), k, k0, by omega, hy⟩⟩
  have no : u = 0 → ¬ GVm i j M k → RP (some (Sum.inl ((0 : Int), k + 1)) : Option (Sum (Int × Int) Int)) (sel (fun p : Int × Int => 0 ≤ p.2 ∧ p.2 ≤ 221 ∧ ((p.1 ≠ 0 ∧ ∃ y, 0 ≤ y ∧ y < 221 ∧ GVm i j M y) ∨ (p.1 = 0 ∧ ∀ y, 0 ≤ y → y < p.2 → ¬ GVm i j M y))) (fun r => (r ≠ 0 ∧ ∃ y, 0 ≤ y ∧ y < 221 ∧ GVm i j M y) ∨ (r = 0 ∧ ¬ ∃ y, 0 ≤ y ∧ y < 221 ∧ GVm i j M y))) := by
    intro hu hy
    refine RP_some ⟨(by show 0 ≤ k + 1; omega), (by show k + 1 ≤ 221; omega), Or.inr ⟨rfl, fun y y0 y1 => ?_⟩⟩
    have y1 : y < k + 1 := y1
    rcases hk with ⟨h1, -⟩ | ⟨-, h2⟩
    · exact absurd hu h1
    · by_cases e : y = k
      · rw [e]; exact hy
      · exact h2 y y0 (by omega)
  refine RP_ite (fun hu => ?_) (fun hu => ?_)
  · refine RP_ite (fun h1 => no hu (fun q => q.1 h1)) (fun h1 => RP_ite (fun h2 => RP_ite (fun h3 => no hu (fun q => q.2.elim (fun w => w h2) (fun w => w h3))) (fun h3 => yes ⟨h1, Or.inr h3⟩)) (fun h2 => yes ⟨h1, Or.inl h2⟩))
  · rcases hk with ⟨h1, y, y0, y1, hy⟩ | ⟨h1, -⟩
    · exact RP_some ⟨(by show 0 ≤ k + 1; omega), (by show k + 1 ≤ 221; omega), Or.inl ⟨(show (1 : Int) ≠ 0 by decide), y, y0, y1, hy⟩⟩
    · exact absurd h1 hu
theorem ahead_r (i0 : 0 ≤ i) (i1 : i < 48) (j0 : 0 ≤ j) (j1 : j < 48) : RP (rf_readsAhead i j M) (fun r => (r ≠ 0 ∧ ∃ y, 0 ≤ y ∧ y < 221 ∧ RAm i j M y) ∨ (r = 0 ∧ ¬ ∃ y, 0 ≤ y ∧ y < 221 ∧ RAm i j M y)) := by
  unfold rf_readsAhead
  refine RP_bnd (P := fun r => (r ≠ 0 ∧ ∃ y, 0 ≤ y ∧ y < 221 ∧ RAm i j M y) ∨ (r = 0 ∧ ¬ ∃ y, 0 ≤ y ∧ y < 221 ∧ RAm i j M y)) (RP_whl (I := fun p : Int × Int => 0 ≤ p.2 ∧ p.2 ≤ 221 ∧ ((p.1 ≠ 0 ∧ ∃ y, 0 ≤ y ∧ y < 221 ∧ RAm i j M y) ∨ (p.1 = 0 ∧ ∀ y, 0 ≤ y → y < p.2 → ¬ RAm i j M y))) (fun p hp => ?_) ⟨Int.le_refl 0, (show (0 : Int) ≤ 221 by decide), Or.inr ⟨rfl, fun y y0 y1 => absurd (show y < 0 from y1) (by omega)⟩⟩) (fun e he => RP_some he)
  obtain ⟨u, k⟩ := p
  obtain ⟨k0, k1, hk⟩ := hp
  have k0 : 0 ≤ k := k0
  have k1 : k ≤ 221 := k1
  have hk : (u ≠ 0 ∧ ∃ y, 0 ≤ y ∧ y < 221 ∧ RAm i j M y) ∨ (u = 0 ∧ ∀ y, 0 ≤ y → y < k → ¬ RAm i j M y) := hk
  unfold rfb_readsAhead_5 rfl_readsAhead_53 rfl_readsAhead_49 rfl_readsAhead_54
  dsimp only
  refine RP_ite (fun g => RP_some ?_) (fun g => ?_)
  · rcases hk with hk | ⟨h1, h2⟩
    · exact Or.inl hk
    · exact Or.inr ⟨h1, fun ⟨y, y0, y1, hy⟩ => h2 y y0 (by omega) hy⟩
  rw [ix221c i0 i1 k0 (by omega), ix221c j0 j1 k0 (by omega), cut_i (show -2147483648 ≤ k + 1 by omega) (by omega)]
  have no : u = 0 → ¬ RAm i j M k → RP (some (Sum.inl ((0 : Int), k + 1)) : Option (Sum (Int × Int) Int)) (sel (fun p : Int × Int => 0 ≤ p.2 ∧ p.2 ≤ 221 ∧ ((p.1 ≠ 0 ∧ ∃ y, 0 ≤ y ∧ y < 221 ∧ RAm i j M y) ∨ (p.1 = 0 ∧ ∀ y, 0 ≤ y → y < p.2 → ¬ RAm i j M y))) (fun r => (r ≠ 0 ∧ ∃ y, 0 ≤ y ∧ y < 221 ∧ RAm i j M y) ∨ (r = 0 ∧ ¬ ∃ y, 0 ≤ y ∧ y < 221 ∧ RAm i j M y))) := by
    intro hu hy
    refine RP_some ⟨(by show 0 ≤ k + 1; omega), (by show k + 1 ≤ 221; omega), Or.inr ⟨rfl, fun y y0 y1 => ?_⟩⟩
    have y1 : y < k + 1 := y1
    rcases hk with ⟨h1, -⟩ | ⟨-, h2⟩
    · exact absurd hu h1
    · by_cases e : y = k
      · rw [e]; exact hy
      · exact h2 y y0 (by omega)
  refine RP_ite (fun hu => ?_) (fun hu => ?_)
  · refine RP_ite (fun h1 => no hu (fun q => q.1 h1)) (fun h1 => RP_ite (fun h2 => no hu (fun q => q.2 h2)) (fun h2 => RP_some ⟨(by show 0 ≤ k + 1; omega), (by show k + 1 ≤ 221; omega), Or.inl ⟨(show (1 : Int) ≠ 0 by decide), k, k0, by omega, h1, h2⟩⟩))
  · rcases hk with ⟨h1, y, y0, y1, hy⟩ | ⟨h1, -⟩
    · exact RP_some ⟨(by show 0 ≤ k + 1; omega), (by show k + 1 ≤ 221; omega), Or.inl ⟨(show (1 : Int) ≠ 0 by decide), y, y0, y1, hy⟩⟩
    · exact absurd h1 hu
/-- arrays in common -/
def ARm (i j : Int) (M : mR) (a : Int) : Prop := M.2 137 (8 * i + a) ≠ 0 ∧ M.2 137 (8 * j + a) ≠ 0
theorem shares_r (i0 : 0 ≤ i) (i1 : i < 48) (j0 : 0 ≤ j) (j1 : j < 48) : RP (rf_sharesArray i j M) (fun r => (r ≠ 0 ∧ ∃ y, 0 ≤ y ∧ y < 8 ∧ ARm i j M y) ∨ (r = 0 ∧ ¬ ∃ y, 0 ≤ y ∧ y < 8 ∧ ARm i j M y)) := by
  unfold rf_sharesArray
  refine RP_bnd (P := fun r => (r ≠ 0 ∧ ∃ y, 0 ≤ y ∧ y < 8 ∧ ARm i j M y) ∨ (r = 0 ∧ ¬ ∃ y, 0 ≤ y ∧ y < 8 ∧ ARm i j M y)) (RP_whl (I := fun p : Int × Int => 0 ≤ p.2 ∧ p.2 ≤ 8 ∧ ((p.1 ≠ 0 ∧ ∃ y, 0 ≤ y ∧ y < 8 ∧ ARm i j M y) ∨ (p.1 = 0 ∧ ∀ y, 0 ≤ y → y < p.2 → ¬ ARm i j M y))) (fun p hp => ?_) ⟨Int.le_refl 0, (show (0 : Int) ≤ 8 by decide), Or.inr ⟨rfl, fun y y0 y1 => absurd (show y < 0 from y1) (by omega)⟩⟩) (fun e he => RP_some he)
  obtain ⟨u, k⟩ := p
  obtain ⟨k0, k1, hk⟩ := hp
  have k0 : 0 ≤ k := k0
  have k1 : k ≤ 8 := k1
  have hk : (u ≠ 0 ∧ ∃ y, 0 ≤ y ∧ y < 8 ∧ ARm i j M y) ∨ (u = 0 ∧ ∀ y, 0 ≤ y → y < k → ¬ ARm i j M y) := hk
  unfold rfb_sharesArray_5 rfl_sharesArray_50 rfl_sharesArray_46 rfl_sharesArray_51
  dsimp only
  refine RP_ite (fun g => RP_some ?_) (fun g => ?_)
  · rcases hk with hk | ⟨h1, h2⟩
    · exact Or.inl hk
    · exact Or.inr ⟨h1, fun ⟨y, y0, y1, hy⟩ => h2 y y0 (by omega) hy⟩
  rw [show cut (cut (8 * i) + k) = 8 * i + k by rw [cut_i (show -2147483648 ≤ 8 * i by omega) (by omega), cut_i (by omega) (by omega)], show cut (cut (8 * j) + k) = 8 * j + k by rw [cut_i (show -2147483648 ≤ 8 * j by omega) (by omega), cut_i (by omega) (by omega)], cut_i (show -2147483648 ≤ k + 1 by omega) (by omega)]
  have no : u = 0 → ¬ ARm i j M k → RP (some (Sum.inl ((0 : Int), k + 1)) : Option (Sum (Int × Int) Int)) (sel (fun p : Int × Int => 0 ≤ p.2 ∧ p.2 ≤ 8 ∧ ((p.1 ≠ 0 ∧ ∃ y, 0 ≤ y ∧ y < 8 ∧ ARm i j M y) ∨ (p.1 = 0 ∧ ∀ y, 0 ≤ y → y < p.2 → ¬ ARm i j M y))) (fun r => (r ≠ 0 ∧ ∃ y, 0 ≤ y ∧ y < 8 ∧ ARm i j M y) ∨ (r = 0 ∧ ¬ ∃ y, 0 ≤ y ∧ y < 8 ∧ ARm i j M y))) := by
    intro hu hy
    refine RP_some ⟨(by show 0 ≤ k + 1; omega), (by show k + 1 ≤ 8; omega), Or.inr ⟨rfl, fun y y0 y1 => ?_⟩⟩
    have y1 : y < k + 1 := y1
    rcases hk with ⟨h1, -⟩ | ⟨-, h2⟩
    · exact absurd hu h1
    · by_cases e : y = k
      · rw [e]; exact hy
      · exact h2 y y0 (by omega)
  refine RP_ite (fun hu => ?_) (fun hu => ?_)
  · refine RP_ite (fun h1 => no hu (fun q => q.1 h1)) (fun h1 => RP_ite (fun h2 => no hu (fun q => q.2 h2)) (fun h2 => RP_some ⟨(by show 0 ≤ k + 1; omega), (by show k + 1 ≤ 8; omega), Or.inl ⟨(show (1 : Int) ≠ 0 by decide), k, k0, by omega, h1, h2⟩⟩))
  · rcases hk with ⟨h1, y, y0, y1, hy⟩ | ⟨h1, -⟩
    · exact RP_some ⟨(by show 0 ≤ k + 1; omega), (by show k + 1 ≤ 8; omega), Or.inl ⟨(show (1 : Int) ≠ 0 by decide), y, y0, y1, hy⟩⟩
    · exact absurd h1 hu
theorem and32_0 {x y : Int} : and32 x y = 0 ↔ ∀ b, 0 ≤ b → b < 32 → ¬ (btt x b ∧ btt y b) := by
  unfold and32
  rw [z32, Int32.toBitVec_and]
  constructor
  · intro h b b0 b1 hb
    have eb : b = ((b.toNat : Nat) : Int) := by omega
    rw [eb, btt_i (by omega), btt_i (by omega)] at hb
    have := congrArg (fun v => v.getLsbD b.toNat) h
    simp only [BitVec.getLsbD_and, hb.1, hb.2] at this
    simp at this
  · intro h
    apply BitVec.eq_of_getLsbD_eq
    intro n hn
    rw [BitVec.getLsbD_and]
    have q := h (n : Int) (by omega) (by omega)
    rw [btt_i hn, btt_i hn] at q
    cases h1 : (i32 x).toBitVec.getLsbD n with
    | false => simp
    | true =>
      cases h2 : (i32 y).toBitVec.getLsbD n with
      | false => simp
      | true => exact absurd ⟨h1, h2⟩ q
theorem AR_i (hi : SRW i K M) (hj : SRW j K M) : and32 (K.2 62 i) (K.2 62 j) = 0 ↔ ¬ ∃ y, 0 ≤ y ∧ y < 8 ∧ ARm i j M y := by
  rw [and32_0]
  constructor
  · intro h ⟨y, y0, y1, h1, h2⟩
    exact h y y0 (by omega) ⟨(hi.2.2 y y0 (by omega)).mpr ⟨y1, h1⟩, (hj.2.2 y y0 (by omega)).mpr ⟨y1, h2⟩⟩
  · intro h b b0 b1 hb
    have q1 := (hi.2.2 b b0 b1).mp hb.1
    have q2 := (hj.2.2 b b0 b1).mp hb.2
    exact h ⟨b, b0, q1.1, q1.2, q2.2⟩
end MEE
