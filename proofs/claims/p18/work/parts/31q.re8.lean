/-! ===== EXPRs whole ===== -/
/-- an EXPR is read: its last node against the reference's unit -/
def XG (x : Int) (a : Int) (K M : mR) : Prop := LR K M ∧ NDR K M ∧ BP K M ∧ (0 ≤ a ∧ a + 1 = M.1 28) ∧ OP K a (M.1 69) (M.1 71) (M.1 72) ∧ x ≤ M.1 8
def XV (P : Int → mR → mR → Prop) (y : Int × Int × mR) (z : Int × mR) : Prop := (y.1 = 0 ∧ P y.2.1 y.2.2 z.2) ∨ (0 < z.2.1 10 ∧ (y.1 ≠ 0 ∨ (y.1 = 0 ∧ DM y.2.2)))
section WHO
variable {K M : mR}
def whI (x : Int) (s : Int × Int × mR) (M' : mR) : Prop := 0 ≤ s.2.1 ∧ x ≤ M'.1 8 ∧ ((s.1 = 1 ∧ EB s.2.2 M' ∧ EW s.2.2 M' ∧ s.2.1 ≤ M'.1 8) ∨ (s.1 = 2 ∧ EB s.2.2 M' ∧ EU s.2.2 M' 1 ∧ s.2.1 + 1 ≤ M'.1 8) ∨ (s.1 = 0 ∧ EN s.2.2 M'))
def whD (s : Int × Int × mR) : Prop := (s.1 = 0 ∧ DM s.2.2) ∨ (s.1 = 1 ∧ D2 s.2.2 ∧ s.2.1 ≤ 4000)
theorem prefixes_d (h : D2 K) : RP (kf_fm_prefixes K) (fun y => y.1 ≠ 0 ∨ (y.1 = 0 ∧ D2 y.2.2)) := by
  unfold kf_fm_prefixes
  refine RP_bnd (pfx_d (s := (1, 0, K)) h) (fun x hx => ?_)
  cases x with
  | inl q => exact RP_some (Or.inr ⟨rfl, hx⟩)
  | inr e => exact RP_some (Or.inl hx)
theorem suffixes_d (h : DM K) : RP (kf_fm_suffixes K) (fun y => y.1 ≠ 0 ∨ (y.1 = 0 ∧ DM y.2.2)) := by
  unfold kf_fm_suffixes
  refine RP_bnd (sfx_d (s := (0, K)) h) (fun x hx => ?_)
  cases x with
  | inl q => exact RP_some (Or.inr ⟨rfl, hx⟩)
  | inr e => exact RP_some (Or.inl hx)
theorem goesOn_d (h : DM K) : RP (kf_fm_goesOn K) bC := by
  unfold kf_fm_goesOn
  refine RP_bnd (sngl_d (s := (0, K)) h) (fun x hx => ?_)
  cases x with
  | inl q => exact k29_d hx
  | inr e => exact RP_some (Or.inl hx)
theorem whole_d {s : Int × Int × mR} (h : whD s) : RP (whl kfb_fm_whole_24 s) (sel (fun q => DM q) (fun e => e.1 ≠ 0)) := by
  refine RP_whl (I := whD) (fun s hs => ?_) h
  obtain ⟨v, i, K1⟩ := s
  unfold kfb_fm_whole_24
  show RP (if (4000 : Int) < i then some (Sum.inr (Sum.inl K1)) else if v = 0 then some (Sum.inr (Sum.inl K1)) else if v = 1 then bnd (kf_fm_prefixes K1) fun y12 => if y12.1 = 0 then bnd (kf_fm_atom y12.2.2) fun y15 => if y15.1 = 0 then kfl_fm_whole_48 i y15.2.2 else some (Sum.inr (Sum.inr (y15.1, y15.2.2))) else some (Sum.inr (Sum.inr (y12.1, y12.2.2))) else kfl_fm_whole_48 i K1) _
  rcases hs with ⟨h1, h2⟩ | ⟨h1, h2, h3⟩
  · have h1 : v = 0 := h1
    rw [if_pos h1]
    exact RP_ite (fun _ => RP_some h2) (fun _ => RP_some h2)
  · have h1 : v = 1 := h1
    have h3 : i ≤ 4000 := h3
    rw [if_neg (by omega), if_neg (by omega), if_pos h1]
    refine RP_bnd (prefixes_d h2) (fun y hy => RP_ite (fun e => ?_) (fun e => RP_some e))
    rcases hy with hy | hy
    · exact absurd e hy
    · exact thr_x (atom_d hy.2) (fun y hy => hy)
/-- suffixes, and how it goes on -/
theorem w48_s {x i : Int} (hE : EB K M) (hU : EU K M 1) (hx : x ≤ M.1 8) (i0 : 0 ≤ i) (i1 : i + 1 ≤ M.1 8) : SM (kfl_fm_whole_48 i K) M (fun u M' => sel (fun s' => whI x s' M') (fun e => sel (fun q => EN q M' ∧ x ≤ M'.1 8) (fun _ => False) e) u) (fun u => sel whD (sel (fun q => DM q) (fun e => e.1 ≠ 0)) u) := by
  have h4 := hE.1.1.1.2.1
  have h86 := hE.1.2.1.2.2.2.2.1
  unfold kfl_fm_whole_48
  rw [cut_i (z := i + 1) (by omega) (by omega)]
  refine SM_bnd (suffixes_s hE hU) (fun y M1 hy => ?_) (fun y hy => ?_)
  · obtain ⟨y1, y2, y3, y4⟩ := hy
    rw [if_pos y1]
    refine SM_bnd (goesOn_s y2 y3) (fun w M2 hw => ?_) (fun w hw => ?_)
    · rcases hw with ⟨w1, w2, w3, w4, w5⟩ | ⟨w1, hw⟩
      · rw [if_pos w1]
        exact SM_some ⟨by show 0 ≤ i + 1; omega, by omega, Or.inl ⟨w2, w3, w4, by show i + 1 ≤ _; omega⟩⟩
      · rw [if_pos w1]
        rcases hw with ⟨w2, w3, w4, w5⟩ | ⟨w2, w3, w4⟩
        · exact SM_some ⟨by show 0 ≤ i + 1; omega, by omega, Or.inr (Or.inl ⟨w2, w3, w4, by show i + 1 + 1 ≤ _; omega⟩)⟩
        · exact SM_some ⟨by show 0 ≤ i + 1; omega, by omega, Or.inr (Or.inr ⟨w2, w3⟩)⟩
    · refine RP_ite (fun e => RP_some ?_) (fun e => RP_some e)
      rcases hw with hw | ⟨-, hw | hw⟩
      · exact absurd e hw
      · exact Or.inl hw
      · exact Or.inr ⟨hw.1, hw.2, by show i + 1 ≤ 4000; omega⟩
  · refine RP_ite (fun e => ?_) (fun e => RP_some e)
    rcases hy with hy | hy
    · exact absurd e hy
    · refine RP_bnd (goesOn_d hy.2) (fun w hw => RP_ite (fun e => RP_some ?_) (fun e => RP_some e))
      rcases hw with hw | ⟨-, hw⟩
      · exact absurd e hw
      · exact Or.inl hw
theorem wloop_s {x : Int} {s : Int × Int × mR} (h : whI x s M) : SM (whl kfb_fm_whole_24 s) M (fun e M' => sel (fun q => EN q M' ∧ x ≤ M'.1 8) (fun _ => False) e) (sel (fun q => DM q) (fun e => e.1 ≠ 0)) := by
  refine SM_whl (I := whI x) (D := whD) ?_ (fun s hs => whole_d hs) h
  intro s M1 hI
  obtain ⟨v, i, K1⟩ := s
  obtain ⟨i0, hx, hc⟩ := hI
  have i0 : 0 ≤ i := i0
  unfold kfb_fm_whole_24
  show SM (if (4000 : Int) < i then some (Sum.inr (Sum.inl K1)) else if v = 0 then some (Sum.inr (Sum.inl K1)) else if v = 1 then bnd (kf_fm_prefixes K1) fun y12 => if y12.1 = 0 then bnd (kf_fm_atom y12.2.2) fun y15 => if y15.1 = 0 then kfl_fm_whole_48 i y15.2.2 else some (Sum.inr (Sum.inr (y15.1, y15.2.2))) else some (Sum.inr (Sum.inr (y12.1, y12.2.2))) else kfl_fm_whole_48 i K1) M1 _ _
  rcases hc with ⟨c1, c2, c3, c4⟩ | ⟨c1, c2, c3, c4⟩ | ⟨c1, c2⟩
  · have c1 : v = 1 := c1
    have c2 : EB K1 M1 := c2
    have c4 : i ≤ M1.1 8 := c4
    have h4 := c2.1.1.1.2.1
    have h86 := c2.1.2.1.2.2.2.2.1
    rw [if_neg (by omega), if_neg (by omega), if_pos c1]
    refine SM_bnd (prefixes_s c2 c3) (fun y M2 hy => ?_) (fun y hy => ?_)
    · obtain ⟨y1, y2, y3, y4, y5⟩ := hy
      rw [if_pos y1]
      refine SM_bnd (atom_s y2 y3 y5) (fun w M3 hw => ?_) (fun w hw => ?_)
      · obtain ⟨w1, w2, w3, w4⟩ := hw
        rw [if_pos w1]
        exact w48_s w2 w3 (by omega) i0 (by omega)
      · refine RP_ite (fun e => ?_) (fun e => RP_some e)
        rcases hw with hw | hw
        · exact absurd e hw
        · unfold kfl_fm_whole_48
          refine RP_bnd (suffixes_d hw.2) (fun q hq => RP_ite (fun e => ?_) (fun e => RP_some e))
          rcases hq with hq | hq
          · exact absurd e hq
          · refine RP_bnd (goesOn_d hq.2) (fun w hw => RP_ite (fun e => RP_some ?_) (fun e => RP_some e))
            rcases hw with hw | ⟨-, hw⟩
            · exact absurd e hw
            · exact Or.inl hw
    · refine RP_ite (fun e => ?_) (fun e => RP_some e)
      rcases hy with hy | hy
      · exact absurd e hy
      · exact thr_x (atom_d hy.2) (fun y hy => hy)
  · have c1 : v = 2 := c1
    have c2 : EB K1 M1 := c2
    have c4 : i + 1 ≤ M1.1 8 := c4
    have h4 := c2.1.1.1.2.1
    have h86 := c2.1.2.1.2.2.2.2.1
    rw [if_neg (by omega), if_neg (by omega), if_neg (by omega)]
    exact w48_s c2 c3 hx i0 c4
  · have c1 : v = 0 := c1
    rw [if_pos c1]
    exact SM_il (fun _ => SM_some ⟨c2, hx⟩) (fun _ => SM_some ⟨c2, hx⟩)
/-- an EXPR -/
theorem whole_s {v : Int} (hL : LR K M) (hN : NDR K M) (hP : BP K M) (hv : v = M.1 64) (v0 : -1 ≤ M.1 64) (v1 : M.1 64 < M.1 25) : RR (kf_fm_whole v K) (rf_readExpr M) (XV (XG (M.1 8))) := by
  have hf := hL.2.2.2.2
  have n0 := hN.1.2.1
  unfold kf_fm_whole rf_readExpr kfl_fm_whole_63
  refine RR_r (begin_r (M := mO M [(73, 0), (74, 0), (75, 0)] []) hf (show (0 : Int) ≤ 0 by decide) (show (0 : Int) ≤ 1000 by decide) (show (0 : Int) ≤ 0 by decide) (show (0 : Int) ≤ 24 by decide)) (fun z hz => ?_)
  rcases hz with ⟨-, hB⟩ | ⟨h, -⟩
  · have hB' := hB
    obtain ⟨⟨b1, b2, b5⟩, b3, b4⟩ := hB
    have b2 : z.2.1 73 = 1 := b2
    have b3 : z.2.1 74 = 1 := b3
    have fK : fr [228, 229, 230, 231] [] K (mO K [(228, 0), (229, 0), (230, 1), (231, v)] []) := fr_m fr_0 rfl rfl
    have fM : fr [73, 74, 75] [76, 77, 78, 79, 80] M z.2 := fr_s b1 (fr_m fr_0 rfl rfl) rfl rfl
    have hL1 : LR (mO K [(228, 0), (229, 0), (230, 1), (231, v)] []) z.2 := LR_g hL fK fM rfl rfl rfl rfl hL.2.2.2.1 ((fr1 fM 10 rfl).trans hf)
    have hE : EB (mO K [(228, 0), (229, 0), (230, 1), (231, v)] []) z.2 := by
      refine ⟨hL1, NDR_f fK fM rfl rfl rfl rfl hN, BP_f fK fM rfl rfl rfl rfl hP, ?_, by omega, ?_, ?_, ?_⟩
      · rw [b3]
        rfl
      · rw [fr1 fM 64 rfl]
        exact hv
      · rw [fr1 fM 64 rfl]
        exact v0
      · rw [fr1 fM 64 rfl, fr1 fM 25 rfl]
        exact v1
    have hS : STK (mO K [(228, 0), (229, 0), (230, 1), (231, v)] []) z.2 3 1 0 0 0 1 := STK_beg (K := K) (M := mO M [(73, 0), (74, 0), (75, 0)] []) hB' (STK_nil _ _) (by decide) fK rfl
    have hW : EW (mO K [(228, 0), (229, 0), (230, 1), (231, v)] []) z.2 := by
      refine ⟨3, 0, 0, 0, ?_, by decide, rfl, rfl, ?_, b4⟩
      · rw [b2, b3]
        exact hS
      · rw [fr1 fM 28 rfl]
        omega
    have e8 : z.2.1 8 = M.1 8 := fr1 fM 8 rfl
    have m8 : 0 ≤ M.1 8 := hL.2.1.2.2.2.1
    have sm := wloop_s (x := M.1 8) (s := (1, 0, mO K [(228, 0), (229, 0), (230, 1), (231, v)] [])) (M := z.2) ⟨(show (0 : Int) ≤ 0 by decide), by omega, Or.inl ⟨rfl, hE, hW, by show (0 : Int) ≤ _; omega⟩⟩
    intro y w hy hw
    cases hk : whl kfb_fm_whole_24 (1, 0, mO K [(228, 0), (229, 0), (230, 1), (231, v)] []) with
    | none => rw [hk] at hy; cases hy
    | some a =>
      cases hm : whl rfb_readExpr_19 z.2 with
      | none => rw [hm] at hw; cases hw
      | some e =>
        rw [hk, bnd_some] at hy
        rw [hm, bnd_some] at hw
        cases hw
        rcases sm a e hk hm with ⟨M', q1, q2⟩ | ⟨q1, q2⟩
        · cases a with
          | inl q =>
            obtain ⟨⟨r1, r2, r3, r4, r5, r6, r7⟩, r8⟩ := q2
            rw [WX_3 r1.2.2.2.2 r5] at q1
            cases q1
            have hy : some (0, q.2 70 0, q) = some y := hy
            cases hy
            exact Or.inl ⟨rfl, r1, r2, r3, r6, r7, r8⟩
          | inr x => exact False.elim q2
        · refine Or.inr ⟨q1, ?_⟩
          cases a with
          | inl q =>
            have hy : some (0, q.2 70 0, q) = some y := hy
            cases hy
            exact Or.inr ⟨rfl, q2⟩
          | inr x =>
            have hy : some (x.1, 0, x.2) = some y := hy
            cases hy
            exact Or.inl q2
  · exact absurd (show (0 : Int) = 24 from h) (by decide)
/-- an EXPR's width looked at -/
theorem mustFit_s {x a w : Int} (h : XG x a K M) (hw : w ≤ 64) : RR (kf_fm_mustFit a w K) (rfl_exprOf_4 w M) (fun y z => (y.1 = 0 ∧ (LR y.2.2 z.2 ∧ NDR y.2.2 z.2 ∧ BP y.2.2 z.2 ∧ x ≤ z.2.1 8)) ∨ (y.1 ≠ 0 ∧ 0 < z.2.1 10)) := by
  obtain ⟨hL, hN, hP, ha, hop, hx⟩ := h
  have hf := hL.2.2.2.2
  obtain ⟨o0, o1, o2, o3⟩ := OP_r hop
  unfold kf_fm_mustFit rfl_exprOf_4 rfl_exprOf_43
  rw [if_pos hf]
  refine RR_l (fits_k (w := w) hop) (fun y hy => ?_)
  obtain ⟨f1, f2, f3⟩ := hy
  have fin : ∀ (q p : Int), (q ≠ 0 ↔ FIT (M.1 69) (M.1 71) (M.1 72) w) → RR (if y.1 = 0 then bnd (kf_tx_fail 7 ((y.2.2 23) a) y.2) fun y5 => if y5.1 = 0 then some ((0 : Int), (0 : Int), y5.2.2) else some (y5.1, 0, y5.2.2) else some (0, 0, y.2)) (bnd (rf_want q p M) fun y1 => some ((0 : Int), y1.2)) (fun y z => (y.1 = 0 ∧ (LR y.2.2 z.2 ∧ NDR y.2.2 z.2 ∧ BP y.2.2 z.2 ∧ x ≤ z.2.1 8)) ∨ (y.1 ≠ 0 ∧ 0 < z.2.1 10)) := by
    intro q p hq
    refine RR_r want_r (fun z hz => ?_)
    rcases f3 with ⟨g1, g2, g3⟩ | ⟨g1, g2⟩
    · rw [if_neg (by omega)]
      rcases hz with ⟨-, z2⟩ | ⟨z1, -⟩
      · rw [z2]
        exact RR_some (Or.inl ⟨rfl, LR_g hL f1 (G := []) (B := []) fr_0 rfl rfl rfl rfl ((fr1 f1 213 rfl).trans hL.2.2.2.1) hf, NDR_f f1 (G := []) (B := []) fr_0 rfl rfl rfl rfl hN, BP_f f1 (G := []) (B := []) fr_0 rfl rfl rfl rfl hP, hx⟩)
      · exact absurd (hq.mpr g2) (fun h => h z1)
    · rw [if_pos g1]
      rcases hz with ⟨z1, -⟩ | ⟨-, z2⟩
      · exact absurd (hq.mp z1) g2
      · exact RR_w (RR_pr (thr_l (A := fun y5 => some (0, 0, y5.2.2)) (fail_1 _ _ _)) (RP_some (P := fun z : Int × mR => 0 < z.2.1 10) z2)) (fun _ _ q => Or.inr q)
  rcases o0 with e | e
  · rw [if_pos e]
    refine RR_ir (fun g => fin 1 _ ⟨fun _ => ⟨fun _ => g, fun q => absurd e q⟩, fun _ => by decide⟩) (fun g => fin 0 _ ⟨fun q => absurd rfl q, fun q => absurd (q.1 e) g⟩)
  · rw [if_neg (show ¬ M.1 71 = 0 by omega)]
    refine RR_r (fits_r hw) (fun q hq => ?_)
    rcases hq with ⟨q1, q2⟩ | ⟨q1, q2⟩
    · exact fin q _ ⟨fun _ => ⟨fun h => absurd h (by omega), fun _ => q2⟩, fun _ => by omega⟩
    · exact fin q _ ⟨fun h => absurd q1 h, fun h => absurd (h.2 (by omega)) q2⟩
end WHO
