/-! ===== EXPRs: a sign, ? and : are opened; all choices that end are closed ===== -/
theorem nar1_b {x : Int} (h : x = 0 ∨ x = 1) : nar1 x = x := by
  rcases h with rfl | rfl
  · rfl
  · rfl
section OPQ
variable {K M : mR}
theorem opn2_s {O C : List Nat} {M1 : mR} {u : Int} (hL : LR K M) (fo : fr O C M M1) (cO : chk [6, 7, 8, 9, 10, 12, 13] O = true) (cC : chk [0, 4, 14, 15, 16, 17, 18] C = true) (h0 : M.1 7 ≠ 0) (hn : 0 ≤ K.1 228 ∧ K.1 228 < 288) : RR (kf_fm_open u K) (rf_next M1) (fun y z => (y.1 = 0 ∧ (LR y.2.2 z.2 ∧ fr [205, 206, 207, 208, 209, 210, 211, 212, 228] [68, 69] K y.2.2 ∧ y.2.2.1 228 = K.1 228 + 1 ∧ y.2.2.2 68 = upI (K.2 68) (K.1 228) u ∧ fr rF_next rA_next M1 z.2 ∧ M.1 8 + 1 ≤ z.2.1 8)) ∨ (y.1 ≠ 0 ∧ 0 < z.2.1 10)) := by
  unfold kf_fm_open kfl_fm_open_25
  rw [if_pos hn.2, cut_i (by omega) (by omega)]
  have f1 : fr [205, 206, 207, 208, 209, 210, 211, 212, 228] [68, 69] K (mO K [(228, K.1 228 + 1)] [(68, upI (K.2 68) (K.1 228) u), (69, upI (K.2 69) (K.1 228) (K.1 207))]) := fr_m fr_0 rfl rfl
  have hL1 : LR (mO K [(228, K.1 228 + 1)] [(68, upI (K.2 68) (K.1 228) u), (69, upI (K.2 69) (K.1 228) (K.1 207))]) M1 := LR_g hL (fr_m (u := [228]) (v := [68, 69]) fr_0 rfl rfl) fo rfl rfl (chk_s cO rfl) cC hL.2.2.2.1 ((fr1 fo 10 (chk_1 cO (by decide))).trans hL.2.2.2.2)
  have e7 : M1.1 7 = M.1 7 := fr1 fo 7 (chk_1 cO (by decide))
  have e8 : M1.1 8 = M.1 8 := fr1 fo 8 (chk_1 cO (by decide))
  intro y z hy hz
  cases hX : kf_tx_advance (mO K [(228, K.1 228 + 1)] [(68, upI (K.2 68) (K.1 228) u), (69, upI (K.2 69) (K.1 228) (K.1 207))]) with
  | none => rw [hX] at hy; cases hy
  | some x =>
    rw [hX, bnd_some] at hy
    rcases adv_s hL1 (by omega) x z hX hz with ⟨a1, a2, a3, a4, a5⟩ | ⟨a1, a2⟩
    · rw [if_pos a1] at hy
      cases hy
      refine Or.inl ⟨rfl, a2, fr_s a3 f1 rfl rfl, fr1 a3 228 rfl, fr2 a3 68 rfl, a4, by omega⟩
    · rw [if_neg a1] at hy
      cases hy
      exact Or.inr ⟨a1, a2⟩
/-- what goes on with an operand -/
def gW (x : Int) (y : Int × Int × mR) (M' : mR) : Prop := y.1 = 0 ∧ y.2.1 = 1 ∧ EB y.2.2 M' ∧ EW y.2.2 M' ∧ x ≤ M'.1 8
theorem psh_s {k : Int} {l : Nat} {B : Int × Int × mR → Prop} (hB : ∀ y, y.1 ≠ 0 → B y) (hE : EB K M) (hU : EU K M 2) (hh : M.1 73 = k + 1) (k0 : 0 ≤ k) (hk : M.2 76 k = 0) (hl : lvl (M.1 7) = l) (hl9 : l < 9) (hx : ∀ x : Nat, l ≤ x → x < 9 → M.2 80 (9 * k + x) < 0) : RR (kfl_fm_goesOn_111 K) (bnd (rf_next (mO M [] [(80, upI (M.2 80) (9 * k + l) (M.1 7)), (81, upI (M.2 81) (9 * k + l) (M.1 69)), (82, upI (M.2 82) (9 * k + l) (M.1 70)), (83, upI (M.2 83) (9 * k + l) (nar1 (M.1 71))), (84, upI (M.2 84) (9 * k + l) (M.1 72))])) fun y7 => rfl_goOn_277 y7.2) (PB (gW (M.1 8 + 1)) B) := by
  obtain ⟨t, n, p, Bd, hS, ht, hn, hp, hu, hu2, hop, hm⟩ := hU
  have sb0 := STK_b hS
  have hd2 := hE.2.2.2.2.1
  rw [hh] at hS
  obtain ⟨-, t0, n9, p9, B9, d0, n1, p1, B1, ed, s, s3, hg, hW⟩ := STK_3 hS ht hk
  have hW := WTS_dn (K := K) (M := M) (9 - l) l (by rw [show l + (9 - l) = 9 by omega]; exact hW) (fun x x0 x1 => hx x x0 (by omega))
  have sb := STK_b s
  have gb := STG_b hg
  have wb := WTS_b hW
  have hX := hE.1.2.1
  have h7 : M.1 7 ≠ 0 := by
    intro e
    rw [e] at hl
    have : lvl 0 = -1 := rfl
    omega
  obtain ⟨o0, o1, o2, o3⟩ := OP_r hop
  unfold kfl_fm_goesOn_111 rfl_goOn_277
  have fo : fr [] [80, 81, 82, 83, 84] M (mO M [] [(80, upI (M.2 80) (9 * k + l) (M.1 7)), (81, upI (M.2 81) (9 * k + l) (M.1 69)), (82, upI (M.2 82) (9 * k + l) (M.1 70)), (83, upI (M.2 83) (9 * k + l) (nar1 (M.1 71))), (84, upI (M.2 84) (9 * k + l) (M.1 72))]) := fr_m fr_0 rfl rfl
  refine RR_pq (opn2_s (u := K.1 206) hE.1 fo rfl rfl h7 (by omega)) (fun z hz => RP_some hz) (fun y hy => hB _ hy) (fun y z _ hG => ?_)
  obtain ⟨g1, g2, g3, g4, g5, g6⟩ := hG
  have fM : fr [7, 8, 9, 10, 11, 12, 75] [80, 81, 82, 83, 84] M (mO z.2 [(75, 0)] []) := fr_m (fr_s g5 (fr_s fo fr_0 rfl rfl) rfl rfl) rfl rfl
  have e80 : z.2.2 80 = upI (M.2 80) (9 * k + l) (M.1 7) := fr2 g5 80 rfl
  have e81 : z.2.2 81 = upI (M.2 81) (9 * k + l) (M.1 69) := fr2 g5 81 rfl
  have e83 : z.2.2 83 = upI (M.2 83) (9 * k + l) (nar1 (M.1 71)) := fr2 g5 83 rfl
  have e84 : z.2.2 84 = upI (M.2 84) (9 * k + l) (M.1 72) := fr2 g5 84 rfl
  have hA : AG n p Bd (k + 1) (9 * k + l) K M y.2.2 (mO z.2 [(75, 0)] []) := by
    refine ⟨fun i hi => ?_, fun i _ => ?_, fun i _ => ?_, fun i _ => ?_, fun i hi => ?_⟩
    · rw [g4, upI_n (by omega)]
    · rw [fr2 g2 70 rfl]
    · rw [fr2 g2 18 rfl, fr2 g2 22 rfl, fr2 g2 24 rfl]
      exact ⟨rfl, rfl, rfl⟩
    · rw [fr2 fM 76 rfl, fr2 fM 78 rfl, fr2 fM 79 rfl, fr2 fM 85 rfl, fr2 fM 89 rfl, fr2 fM 91 rfl, fr2 fM 87 rfl, fr2 fM 90 rfl, fr2 fM 92 rfl]
      exact ⟨rfl, rfl, rfl, rfl, rfl, rfl, rfl, rfl, rfl⟩
    · show z.2.2 80 i = _ ∧ z.2.2 81 i = _ ∧ z.2.2 83 i = _ ∧ z.2.2 84 i = _
      rw [e80, e81, e83, e84, upI_n (by omega), upI_n (by omega), upI_n (by omega), upI_n (by omega)]
      exact ⟨rfl, rfl, rfl, rfl⟩
  have hL2 : LR y.2.2 (mO z.2 [(75, 0)] []) := LR_g g1 (F := []) (A := []) (G := [75]) (B := []) fr_0 (fr_m fr_0 rfl rfl) rfl rfl rfl rfl g1.2.2.2.1 g1.2.2.2.2
  refine RR_some (Or.inl ⟨rfl, rfl, EB_a hE hL2 g2 fM rfl rfl rfl rfl, ⟨3, n + 1, p + 1, K.2 70 p + 1, ?_, by decide, by show y.2.2.1 228 = n + 1; omega, ?_, ?_, rfl⟩, g6⟩)
  · rw [show (mO z.2 [(75, 0)] []).1 73 = k + 1 from (fr1 fM 73 rfl).trans hh, show (mO z.2 [(75, 0)] []).1 74 = d0 + 1 from (fr1 fM 74 rfl).trans ed]
    refine STK_ch (STK_c s (AG_m hA (by omega) (by omega) (by omega) (by omega) (Int.le_refl _)) (by omega)) s3 ((hA.2.2.2.1 k (by omega)).1.trans hk) (STG_c hg (AG_m hA (by omega) (by omega) (by omega) (Int.le_refl _) (Int.le_refl _)) (by omega)) ?_
    have q80 : (mO z.2 [(75, 0)] []).2 80 (9 * k + l) = M.1 7 := by
      show z.2.2 80 (9 * k + l) = _
      rw [e80, upI_s]
    have hW2 := W_s (o := K.2 70 p) (WTS_c hW hA (Int.le_refl _)) (by rw [q80]; exact ⟨by have := hX.2.1; unfold wdom at this; omega, hX.2.1⟩) (by rw [q80]; exact hl) (by rw [q80, g4, ← hn, upI_s]; exact hX.1) (by rw [fr2 g2 70 rfl]) hu (by
      show OP y.2.2 (K.2 70 p) (z.2.2 81 _) (z.2.2 83 _) (z.2.2 84 _)
      rw [e81, e83, e84, upI_s, upI_s, upI_s, nar1_b o0]
      exact OP_c hop (by rw [fr2 g2 18 rfl]) (by rw [fr2 g2 22 rfl]) (by rw [fr2 g2 24 rfl]))
    have := WTS_n hW2 (9 - (l + 1)) (fun x x0 x1 => by
      show z.2.2 80 (9 * k + x) < 0
      rw [e80, upI_n (by omega)]
      exact hx x (by omega) (by omega))
    rw [show l + 1 + (9 - (l + 1)) = 9 by omega] at this
    exact this
  · exact (fr1 g2 229 rfl).trans hp
  · rw [fr1 fM 28 rfl]
    omega
/-- ? -/
theorem que_s {k : Int} {B : Int × Int × mR → Prop} (hB : ∀ y, y.1 ≠ 0 → B y) (hE : EB K M) (hU : EU K M 2) (hh : M.1 73 = k + 1) (k0 : 0 ≤ k) (hk : M.2 76 k = 0) (hst : M.2 79 k = 0) (hw : M.1 7 = 63) (hx : ∀ x : Nat, x < 9 → M.2 80 (9 * k + x) < 0) : RR (bnd (kf_fm_open 63 K) fun y38 => if y38.1 = 0 then some (0, 1, y38.2.2) else some (y38.1, 0, y38.2.2)) (bnd (rf_next (mO M [] [(79, upI (M.2 79) k 1), (85, upI (M.2 85) k (M.1 69)), (86, upI (M.2 86) k (M.1 70)), (89, upI (M.2 89) k (nar1 (M.1 71))), (91, upI (M.2 91) k (M.1 72))])) fun y13 => rfl_endOr_69 y13.2) (PB (gW (M.1 8 + 1)) B) := by
  obtain ⟨t, n, p, Bd, hS, ht, hn, hp, hu, hu2, hop, hm⟩ := hU
  have sb0 := STK_b hS
  have hd2 := hE.2.2.2.2.1
  rw [hh] at hS
  obtain ⟨-, t0, n9, p9, B9, d0, n1, p1, B1, ed, s, s3, hg, hW⟩ := STK_3 hS ht hk
  obtain ⟨rfl, rfl, rfl⟩ := WTS_dn (K := K) (M := M) 9 0 hW (fun x x0 x1 => hx x (by omega))
  have sb := STK_b s
  rcases hg with ⟨-, rfl, rfl, rfl⟩ | ⟨h1, -⟩
  · obtain ⟨o0, o1, o2, o3⟩ := OP_r hop
    unfold rfl_endOr_69
    have fo : fr [] [79, 85, 86, 89, 91] M (mO M [] [(79, upI (M.2 79) k 1), (85, upI (M.2 85) k (M.1 69)), (86, upI (M.2 86) k (M.1 70)), (89, upI (M.2 89) k (nar1 (M.1 71))), (91, upI (M.2 91) k (M.1 72))]) := fr_m fr_0 rfl rfl
    refine RR_pq (opn2_s (u := 63) hE.1 fo rfl rfl (by omega) (by omega)) (fun z hz => RP_some hz) (fun y hy => hB _ hy) (fun y z _ hG => ?_)
    obtain ⟨g1, g2, g3, g4, g5, g6⟩ := hG
    have fM : fr [7, 8, 9, 10, 11, 12, 75] [79, 85, 86, 89, 91] M (mO z.2 [(75, 0)] []) := fr_m (fr_s g5 (fr_s fo fr_0 rfl rfl) rfl rfl) rfl rfl
    have e79 : z.2.2 79 = upI (M.2 79) k 1 := fr2 g5 79 rfl
    have e85 : z.2.2 85 = upI (M.2 85) k (M.1 69) := fr2 g5 85 rfl
    have e89 : z.2.2 89 = upI (M.2 89) k (nar1 (M.1 71)) := fr2 g5 89 rfl
    have e91 : z.2.2 91 = upI (M.2 91) k (M.1 72) := fr2 g5 91 rfl
    have hA : AG n p Bd k (9 * k + 9) K M y.2.2 (mO z.2 [(75, 0)] []) := by
      refine ⟨fun i hi => ?_, fun i _ => ?_, fun i _ => ?_, fun i hi => ?_, fun i hi => ?_⟩
      · rw [g4, upI_n (by omega)]
      · rw [fr2 g2 70 rfl]
      · rw [fr2 g2 18 rfl, fr2 g2 22 rfl, fr2 g2 24 rfl]
        exact ⟨rfl, rfl, rfl⟩
      · show z.2.2 76 i = _ ∧ z.2.2 78 i = _ ∧ z.2.2 79 i = _ ∧ z.2.2 85 i = _ ∧ z.2.2 89 i = _ ∧ z.2.2 91 i = _ ∧ z.2.2 87 i = _ ∧ z.2.2 90 i = _ ∧ z.2.2 92 i = _
        rw [e79, e85, e89, e91, upI_n (by omega), upI_n (by omega), upI_n (by omega), upI_n (by omega)]
        have q76 : z.2.2 76 = M.2 76 := fr2 g5 76 rfl
        have q78 : z.2.2 78 = M.2 78 := fr2 g5 78 rfl
        have q87 : z.2.2 87 = M.2 87 := fr2 g5 87 rfl
        have q90 : z.2.2 90 = M.2 90 := fr2 g5 90 rfl
        have q92 : z.2.2 92 = M.2 92 := fr2 g5 92 rfl
        rw [q76, q78, q87, q90, q92]
        exact ⟨rfl, rfl, rfl, rfl, rfl, rfl, rfl, rfl, rfl⟩
      · rw [fr2 fM 80 rfl, fr2 fM 81 rfl, fr2 fM 83 rfl, fr2 fM 84 rfl]
        exact ⟨rfl, rfl, rfl, rfl⟩
    have hL2 : LR y.2.2 (mO z.2 [(75, 0)] []) := LR_g g1 (F := []) (A := []) (G := [75]) (B := []) fr_0 (fr_m fr_0 rfl rfl) rfl rfl rfl rfl g1.2.2.2.1 g1.2.2.2.2
    refine RR_some (Or.inl ⟨rfl, rfl, EB_a hE hL2 g2 fM rfl rfl rfl rfl, ⟨3, n + 1, p + 1, K.2 70 p + 1, ?_, by decide, by show y.2.2.1 228 = n + 1; omega, ?_, ?_, rfl⟩, g6⟩)
    · rw [show (mO z.2 [(75, 0)] []).1 73 = k + 1 from (fr1 fM 73 rfl).trans hh, show (mO z.2 [(75, 0)] []).1 74 = d0 + 1 from (fr1 fM 74 rfl).trans ed]
      have e70 : y.2.2.2 70 p = K.2 70 p := by rw [fr2 g2 70 rfl]
      refine STK_ch (n1 := n + 1) (p1 := p + 1) (B1 := K.2 70 p + 1) (STK_c s hA (by omega)) s3 ?_ (Or.inr ⟨?_, rfl, rfl, ?_, ?_, ?_, ?_⟩) ?_
      · show z.2.2 76 k = 0
        rw [show z.2.2 76 = M.2 76 from fr2 g5 76 rfl]
        exact hk
      · show z.2.2 79 k = 1
        rw [e79, upI_s]
      · rw [g4, ← hn, upI_s]
      · rw [e70]; exact hu
      · rw [e70]
      · show OP y.2.2 (y.2.2.2 70 p) (z.2.2 85 k) (z.2.2 89 k) (z.2.2 91 k)
        rw [e70, e85, e89, e91, upI_s, upI_s, upI_s, nar1_b o0]
        exact OP_c hop (by rw [fr2 g2 18 rfl]) (by rw [fr2 g2 22 rfl]) (by rw [fr2 g2 24 rfl])
      · exact WTS_n (j := 0) ⟨rfl, rfl, rfl⟩ 9 (fun x _ hx9 => by
          show z.2.2 80 (9 * k + x) < 0
          rw [show z.2.2 80 = M.2 80 from fr2 g5 80 rfl]
          exact hx x (by omega))
    · exact (fr1 g2 229 rfl).trans hp
    · rw [fr1 fM 28 rfl]
      omega
  · omega
/-- one EXPR more in one another -/
theorem dpn_s {t n p Bd : Int} (hE : EB K M) (hS : STK K M t (M.1 73) n p Bd (M.1 74)) : RR (kf_fm_deepen K) (rf_beginChoice M) (fun x q => (M.1 74 < 24 ∧ x = (0, 0, mO K [(230, M.1 74 + 1)] []) ∧ BGC M q.2) ∨ (0 < q.2.1 10 ∧ (x.1 ≠ 0 ∨ (x.1 = 0 ∧ D2 x.2.2)))) := by
  have sb := STK_b hS
  have hd := hE.2.2.2.1
  have hd2 := hE.2.2.2.2.1
  intro x q hx hq
  have dk := deepen_k x hx
  rw [hd, cut_i (by omega) (by omega)] at dk
  have bk := begin_r (M := M) hE.1.2.2.2.2 (by omega) (by omega) (by omega) (by omega) q hq
  rcases bk with ⟨b1, b2⟩ | ⟨b1, b2⟩
  · rcases dk with ⟨c1, c2⟩ | ⟨c1, -⟩
    · exact Or.inl ⟨b1, c2, b2⟩
    · omega
  · rcases dk with ⟨c1, -⟩ | ⟨-, c2⟩
    · omega
    · refine Or.inr ⟨b2, ?_⟩
      by_cases e : x.1 = 0
      · rcases c2 with c2 | c2
        · exact absurd e c2
        · exact Or.inr ⟨e, c2⟩
      · exact Or.inl e
/-- : -/
theorem col_s {k : Int} (hE : EB K M) (hU : EU K M 2) (hh : M.1 73 = k + 1) (k0 : 0 ≤ k) (hk : M.2 76 k = 0) (hst : M.2 79 k = 1) (hx : ∀ x : Nat, x < 9 → M.2 80 (9 * k + x) < 0) : RR (bnd (kf_tx_expect 58 K) fun y27 => if y27.1 = 0 then bnd (kf_fm_deepen (mO y27.2.2 [] [(68, upI (y27.2.2.2 68) (cut ((y27.2.2.1 228) - 1)) 58)])) fun y30 => if y30.1 = 0 then some (0, 1, y30.2.2) else some (y30.1, 0, y30.2.2) else some (y27.1, 0, y27.2.2)) (bnd (rf_need 58 (mO M [] [(79, upI (M.2 79) k 2), (87, upI (M.2 87) k (M.1 69)), (88, upI (M.2 88) k (M.1 70)), (90, upI (M.2 90) k (nar1 (M.1 71))), (92, upI (M.2 92) k (M.1 72))])) fun y8 => rfl_endOr_140 y8.2) (PB (gW (M.1 8 + 1)) (fun y => y.1 ≠ 0 ∨ (y.1 = 0 ∧ y.2.1 = 1 ∧ D2 y.2.2))) := by
  obtain ⟨t, n, p, Bd, hS, ht, hn, hp, hu, hu2, hop, hm⟩ := hU
  have sb0 := STK_b hS
  have hd2 := hE.2.2.2.2.1
  rw [hh] at hS
  obtain ⟨-, t0, n9, p9, B9, d0, n1, p1, B1, ed, s, s3, hg, hW⟩ := STK_3 hS ht hk
  obtain ⟨rfl, rfl, rfl⟩ := WTS_dn (K := K) (M := M) 9 0 hW (fun x x0 x1 => hx x (by omega))
  have sb := STK_b s
  rcases hg with ⟨h1, -⟩ | ⟨-, rfl, rfl, c1, c2, rfl, c3⟩
  · omega
  · obtain ⟨o0, o1, o2, o3⟩ := OP_r hop
    have fo : fr [] [79, 87, 88, 90, 92] M (mO M [] [(79, upI (M.2 79) k 2), (87, upI (M.2 87) k (M.1 69)), (88, upI (M.2 88) k (M.1 70)), (90, upI (M.2 90) k (nar1 (M.1 71))), (92, upI (M.2 92) k (M.1 72))]) := fr_m fr_0 rfl rfl
    have hL1 : LR K (mO M [] [(79, upI (M.2 79) k 2), (87, upI (M.2 87) k (M.1 69)), (88, upI (M.2 88) k (M.1 70)), (90, upI (M.2 90) k (nar1 (M.1 71))), (92, upI (M.2 92) k (M.1 72))]) := hE.1
    refine RR_pq (exp_s hL1 (c := 58) (by omega)) (fun z hz => RP_w (u_rfl_endOr_140 z.2) (fun w hw => hw.2 hz)) (fun y hy => Or.inl hy) (fun y z _ hG => ?_)
    obtain ⟨g1, g2, g5, g6⟩ := hG
    have en : cut (y.2.2.1 228 - 1) = n9 := by
      rw [fr1 g2 228 rfl, hn, cut_i (by omega) (by omega)]
      omega
    rw [en]
    have fM : fr [7, 8, 9, 10, 11, 12] [79, 87, 88, 90, 92] M z.2 := fr_s g5 (fr_s fo fr_0 rfl rfl) rfl rfl
    have fK : fr [205, 206, 207, 208, 209, 210, 211, 212] [68] K (mO y.2.2 [] [(68, upI (y.2.2.2 68) n9 58)]) := fr_m (fr_s g2 fr_0 rfl rfl) rfl rfl
    have e68 : (mO y.2.2 [] [(68, upI (y.2.2.2 68) n9 58)]).2 68 = upI (K.2 68) n9 58 := by
      show upI (y.2.2.2 68) n9 58 = _
      rw [fr2 g2 68 rfl]
    have e79 : z.2.2 79 = upI (M.2 79) k 2 := fr2 g5 79 rfl
    have e87 : z.2.2 87 = upI (M.2 87) k (M.1 69) := fr2 g5 87 rfl
    have e90 : z.2.2 90 = upI (M.2 90) k (nar1 (M.1 71)) := fr2 g5 90 rfl
    have e92 : z.2.2 92 = upI (M.2 92) k (M.1 72) := fr2 g5 92 rfl
    have q76 : z.2.2 76 = M.2 76 := fr2 g5 76 rfl
    have hA : AG n9 p9 B9 k (9 * k) K M (mO y.2.2 [] [(68, upI (y.2.2.2 68) n9 58)]) z.2 := by
      refine ⟨fun i hi => ?_, fun i _ => ?_, fun i _ => ?_, fun i hi => ?_, fun i hi => ?_⟩
      · rw [e68, upI_n (by omega)]
      · rw [fr2 fK 70 rfl]
      · rw [fr2 fK 18 rfl, fr2 fK 22 rfl, fr2 fK 24 rfl]
        exact ⟨rfl, rfl, rfl⟩
      · rw [e79, e87, e90, e92, upI_n (by omega), upI_n (by omega), upI_n (by omega), upI_n (by omega), q76, fr2 fM 78 rfl, fr2 fM 85 rfl, fr2 fM 89 rfl, fr2 fM 91 rfl]
        exact ⟨rfl, rfl, rfl, rfl, rfl, rfl, rfl, rfl, rfl⟩
      · rw [fr2 fM 80 rfl, fr2 fM 81 rfl, fr2 fM 83 rfl, fr2 fM 84 rfl]
        exact ⟨rfl, rfl, rfl, rfl⟩
    have hL2 : LR (mO y.2.2 [] [(68, upI (y.2.2.2 68) n9 58)]) z.2 := LR_g g1 (F := []) (A := [68]) (G := []) (B := []) (fr_m fr_0 rfl rfl) fr_0 rfl rfl rfl rfl g1.2.2.2.1 g1.2.2.2.2
    have hE2 : EB (mO y.2.2 [] [(68, upI (y.2.2.2 68) n9 58)]) z.2 := EB_a hE hL2 fK fM rfl rfl rfl rfl
    have k70 : (mO y.2.2 [] [(68, upI (y.2.2.2 68) n9 58)]).2 70 = K.2 70 := fr2 fK 70 rfl
    have opc : ∀ {o b r v : Int}, OP K o b r v → OP (mO y.2.2 [] [(68, upI (y.2.2.2 68) n9 58)]) o b r v := fun h => OP_c h (by rw [fr2 fK 18 rfl]) (by rw [fr2 fK 22 rfl]) (by rw [fr2 fK 24 rfl])
    have hS2 : STK (mO y.2.2 [] [(68, upI (y.2.2.2 68) n9 58)]) z.2 2 (z.2.1 73) (n9 + 1) (p9 + 2) (K.2 70 (p9 + 1) + 1) (z.2.1 74) := by
      rw [fr1 fM 73 rfl, hh, fr1 fM 74 rfl, ed]
      refine STK_c2 (o1 := K.2 70 p9) (STK_c s hA (Int.le_refl _)) s3 (by rw [q76]; exact hk) (by rw [e79, upI_s]) (by rw [e68, upI_s]) (by rw [k70]) (by rw [k70]) c2 (by omega) ?_ ?_
      · rw [fr2 fM 85 rfl, fr2 fM 89 rfl, fr2 fM 91 rfl]
        exact opc c3
      · rw [e87, e90, e92, upI_s, upI_s, upI_s, nar1_b o0]
        exact opc hop
    unfold rfl_endOr_140
    intro a w ha hw
    cases hD : kf_fm_deepen (mO y.2.2 [] [(68, upI (y.2.2.2 68) n9 58)]) with
    | none => rw [hD] at ha; cases ha
    | some x =>
      cases hC : rf_beginChoice z.2 with
      | none => rw [hC] at hw; cases hw
      | some q =>
        rw [hD, bnd_some] at ha
        rw [hC, bnd_some] at hw
        cases hw
        rcases dpn_s hE2 hS2 x q hD hC with ⟨d1, d2, d3⟩ | ⟨d1, d2⟩
        · subst d2
          rw [if_pos rfl] at ha
          cases ha
          have d3' := d3
          obtain ⟨⟨b1, b2, b5⟩, b3, b4⟩ := d3
          have f230 : fr [230] [] (mO y.2.2 [] [(68, upI (y.2.2.2 68) n9 58)]) (mO (mO y.2.2 [] [(68, upI (y.2.2.2 68) n9 58)]) [(230, z.2.1 74 + 1)] []) := fr_m fr_0 rfl rfl
          have hL3 : LR (mO (mO y.2.2 [] [(68, upI (y.2.2.2 68) n9 58)]) [(230, z.2.1 74 + 1)] []) q.2 := LR_g hL2 f230 b1 rfl rfl rfl rfl hL2.2.2.2.1 ((fr1 b1 10 rfl).trans hL2.2.2.2.2)
          refine Or.inl ⟨rfl, rfl, EB_f hE2 hL3 f230 b1 rfl rfl rfl rfl (by rw [b3]; rfl) (by show q.2.1 74 ≤ 24; omega), ⟨3, n9 + 1, p9 + 2, K.2 70 (p9 + 1) + 1, ?_, by decide, ?_, ?_, ?_, b4⟩, ?_⟩
          · rw [b2, b3]
            exact STK_beg d3' hS2 (by decide) f230 rfl
          · exact (fr1 g2 228 rfl).trans hn
          · show y.2.2.1 229 = p9 + 2
            rw [fr1 g2 229 rfl]
            omega
          · show K.2 70 (p9 + 1) + 1 ≤ q.2.1 28
            rw [fr1 b1 28 rfl, fr1 fM 28 rfl]
            omega
          · show M.1 8 + 1 ≤ q.2.1 8
            rw [fr1 b1 8 rfl]
            exact g6
        · refine Or.inr ⟨d1, ?_⟩
          rcases d2 with d2 | ⟨d2, d3⟩
          · rw [if_neg d2] at ha
            cases ha
            exact Or.inl d2
          · rw [if_pos d2] at ha
            cases ha
            exact Or.inr ⟨rfl, rfl, d3⟩
end OPQ
