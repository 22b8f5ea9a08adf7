/-! ===== EXPRs: what is closed ===== -/
def topv (K : mR) (n : Int) : Int := if n ≤ 0 then -1 else K.2 68 (n - 1)
section TOP
variable {K M : mR}
theorem top_k {n : Int} (h : K.1 228 = n) (n1 : n ≤ 10000) : kf_fm_top K = some (topv K n) := by
  unfold kf_fm_top kfl_fm_top_22 topv
  rw [h]
  by_cases e : n ≤ 0
  · rw [if_pos e, if_pos e]
  · rw [if_neg e, if_neg e, cut_i (by omega) (by omega)]
theorem topv_s {n : Int} (n0 : 0 ≤ n) : topv K (n + 1) = K.2 68 n := by
  unfold topv
  rw [if_neg (by omega), show n + 1 - 1 = n by omega]
/-- below a CHOICE -/
theorem tv_lo {t h n p B d : Int} (hs : STK K M t h n p B d) (ht : t < 3) : (t = 0 ∧ topv K n = -1) ∨ (t = 1 ∧ topv K n = 40) ∨ (t = 2 ∧ topv K n = 58) := by
  rcases STK_i hs with ⟨rfl, rfl, rfl, rfl, rfl, rfl⟩ | ⟨t0, k0, n0, d0, rfl, rfl, rfl, rfl, s, a, b, c⟩ | ⟨t0, k0, n0, rfl, rfl, rfl, s, a, b, c⟩ | ⟨t0, k0, n0, p0, B0, d0, o1, o2, rfl, rfl, rfl, rfl, rfl, rfl, s, a1, a2, a3, a4, a⟩ | ⟨t0, k0, n0, p0, B0, d0, n1, p1, B1, rfl, rfl, rfl, s, a, b, c, e⟩
  · exact Or.inl ⟨rfl, rfl⟩
  · omega
  · have := (STK_b s).2.2.2.1
    exact Or.inr (Or.inl ⟨rfl, by rw [topv_s (by omega)]; exact c⟩)
  · have := (STK_b s).2.2.2.1
    exact Or.inr (Or.inr ⟨rfl, by rw [topv_s (by omega)]; exact a4⟩)
  · omega
/-- below the waiting signs -/
theorem tv_st {t h n p B d n1 p1 B1 : Int} (hs : STK K M t h n p B d) (ht : t < 3) (hg : STG K M h n p B n1 p1 B1) : (M.2 79 h = 0 ∧ n1 = n ∧ ((t = 0 ∧ topv K n1 = -1) ∨ (t = 1 ∧ topv K n1 = 40) ∨ (t = 2 ∧ topv K n1 = 58))) ∨ (M.2 79 h = 1 ∧ topv K n1 = 63) := by
  rcases hg with ⟨a, rfl, rfl, rfl⟩ | ⟨a, rfl, rfl, b, -⟩
  · exact Or.inl ⟨a, rfl, tv_lo hs ht⟩
  · have := (STK_b hs).2.2.2.1
    exact Or.inr ⟨a, by rw [topv_s (by omega)]; exact b⟩
/-- the topmost waiting sign below a level -/
theorem tv_w {k n1 p1 B1 : Int} {j : Nat} {n p B : Int} (h : WTS K M k n1 p1 B1 j n p B) (n0 : 0 ≤ n1) : n = n1 ∨ (∃ w, wdom w ∧ 0 ≤ lvl w ∧ lvl w < j ∧ topv K n = wm w) := by
  induction j generalizing n p B with
  | zero => exact Or.inl h.1
  | succ j ih =>
    rcases h with ⟨-, h⟩ | ⟨n9, p9, B9, o, rfl, rfl, rfl, h, b, c, d, -⟩
    · rcases ih h with q | ⟨w, q1, q2, q3, q4⟩
      · exact Or.inl q
      · exact Or.inr ⟨w, q1, q2, by omega, q4⟩
    · have := (WTS_b h).1
      exact Or.inr ⟨_, b.2, by omega, by omega, by rw [topv_s (by omega)]; exact d⟩
theorem single_k (v : Int) (m : mR) : (kf_fm_isSingle v m = some 1 ∧ (v = 405 ∨ v = 126 ∨ v = 33)) ∨ (kf_fm_isSingle v m = some 0 ∧ v ≠ 405 ∧ v ≠ 126 ∧ v ≠ 33) := by
  unfold kf_fm_isSingle kfl_fm_isSingle_19 kfl_fm_isSingle_24
  by_cases a : v = 405
  · exact Or.inl ⟨if_pos a, Or.inl a⟩
  · by_cases b : v = 126
    · exact Or.inl ⟨by rw [if_neg a, if_pos b], Or.inr (Or.inl b)⟩
    · by_cases c : v = 33
      · exact Or.inl ⟨by rw [if_neg a, if_neg b, if_pos c], Or.inr (Or.inr c)⟩
      · exact Or.inr ⟨by rw [if_neg a, if_neg b, if_neg c], a, b, c⟩
theorem wm_lv {w : Int} (h : wdom w) (h0 : 0 ≤ lvl w) : wm w ≠ 405 ∧ wm w ≠ 126 ∧ wm w ≠ 33 ∧ wm w ≠ 400 ∧ wm w ≠ 257 ∧ w ≠ 401 ∧ w ≠ 402 ∧ w ≠ 404 ∧ (wm w = 9766 ↔ lvl w = 1) ∧ (wm w = 31868 ↔ lvl w = 0) ∧ (wm w = 11051 ↔ lvl w = 8) ∧ ((wm w = 15420 ∨ wm w = 15934) ↔ lvl w = 6) ∧ wm w ≠ 63 ∧ wm w ≠ 58 := by
  have key : ∀ x y z : Int, w = x → wm x = y → lvl x = z → (y ≠ 405 ∧ y ≠ 126 ∧ y ≠ 33 ∧ y ≠ 400 ∧ y ≠ 257 ∧ x ≠ 401 ∧ x ≠ 402 ∧ x ≠ 404 ∧ (y = 9766 ↔ z = 1) ∧ (y = 31868 ↔ z = 0) ∧ (y = 11051 ↔ z = 8) ∧ ((y = 15420 ∨ y = 15934) ↔ z = 6) ∧ y ≠ 63 ∧ y ≠ 58) → wm w ≠ 405 ∧ wm w ≠ 126 ∧ wm w ≠ 33 ∧ wm w ≠ 400 ∧ wm w ≠ 257 ∧ w ≠ 401 ∧ w ≠ 402 ∧ w ≠ 404 ∧ (wm w = 9766 ↔ lvl w = 1) ∧ (wm w = 31868 ↔ lvl w = 0) ∧ (wm w = 11051 ↔ lvl w = 8) ∧ ((wm w = 15420 ∨ wm w = 15934) ↔ lvl w = 6) ∧ wm w ≠ 63 ∧ wm w ≠ 58 := by
    intro x y z e1 e2 e3 hq
    subst e1
    rw [e2, e3]
    exact hq
  rcases lvl_c w with e | e | e | e | e | e | e | e | e | e | e | e | e | e | e | e | q
  · exact key 4 15677 2 e rfl rfl (by decide)
  · exact key 5 8509 2 e rfl rfl (by decide)
  · exact key 6 15421 2 e rfl rfl (by decide)
  · exact key 7 15933 2 e rfl rfl (by decide)
  · exact key 60 60 2 e rfl rfl (by decide)
  · exact key 62 62 2 e rfl rfl (by decide)
  · exact key 8 11051 8 e rfl rfl (by decide)
  · exact key 9 9766 1 e rfl rfl (by decide)
  · exact key 10 31868 0 e rfl rfl (by decide)
  · exact key 11 15420 6 e rfl rfl (by decide)
  · exact key 12 15934 6 e rfl rfl (by decide)
  · exact key 38 38 5 e rfl rfl (by decide)
  · exact key 43 43 7 e rfl rfl (by decide)
  · exact key 45 45 7 e rfl rfl (by decide)
  · exact key 94 94 4 e rfl rfl (by decide)
  · exact key 124 124 3 e rfl rfl (by decide)
  · have := lvl_in w
    omega
end TOP
/-- a node comes in the place of operands: both sides -/
theorem cls_s {Kx M1 : mR} {kd lf rt w pl sg nb q t n p B md : Int} (hE : EB Kx M1) (hS : STK Kx M1 t (M1.1 73) n p B (M1.1 74)) (ht : 3 ≤ t) (hn : Kx.1 228 = n) (hp : Kx.1 229 = p) (hB : B ≤ M1.1 28) (hm : M1.1 75 = md) (hk : kd ≠ 257) (hk4 : kd ≠ 400) (hs : sg ≠ 401 ∧ sg ≠ 402 ∧ sg ≠ 404) (w0 : 1 ≤ w) (w1 : w ≤ 64) : RR (kf_fm_add kd lf rt w pl Kx) (bnd (rf_node sg w nb 0 M1) fun y4 => bnd (rf_unit w q y4.2) fun y1 => some ((0 : Int), y1.2)) (fun y z => (y.1 = Kx.1 220 ∧ EB y.2 z.2 ∧ EU y.2 z.2 md ∧ fr [213, 220, 229] [18, 19, 20, 22, 23, 70] Kx y.2 ∧ y.2.1 229 = p + 1 ∧ (y.2.2 18 = upI (Kx.2 18) (M1.1 28) kd ∧ y.2.2 22 = upI (Kx.2 22) (M1.1 28) w ∧ y.2.2 70 = upI (Kx.2 70) p (M1.1 28)) ∧ fr [28, 69, 70, 71, 72] [65, 66, 67, 68] M1 z.2 ∧ z.2.1 28 = M1.1 28 + 1 ∧ OP y.2 (M1.1 28) (z.2.1 69) (z.2.1 71) (z.2.1 72)) ∨ (0 < z.2.1 10 ∧ DM y.2)) := by
  obtain ⟨⟨n1, n2, n3⟩, -⟩ := hE.2.1
  have hf := hE.1.2.2.2.2
  have sb := STK_b hS
  have hd2 := hE.2.2.2.2.1
  intro y z hy hz
  obtain ⟨y1, hA⟩ := add_k (by omega) (by omega) (by omega) (by omega) y hy
  cases hN : rf_node sg w nb 0 M1 with
  | none => rw [hN] at hz; cases hz
  | some x =>
    rw [hN, bnd_some] at hz
    unfold rf_unit at hz
    rw [bnd_some] at hz
    cases hz
    rcases node_r hf (by omega) (by omega) x hN with ⟨z1, hN⟩ | ⟨z1, z2⟩
    · have fM : fr [69, 70, 71, 72] [] x.2 (mO x.2 [(69, w), (70, q), (71, 0), (72, 0)] []) := fr_m fr_0 rfl rfl
      have hA' := hA
      obtain ⟨a1, a2, a3, a4, a5, a6, a7, a8⟩ := hA
      have hop : OP y.2 (M1.1 28) w 0 0 := by
        refine Or.inl ⟨rfl, ?_, ?_, w0, w1⟩
        · rw [a5, n1, upI_s]; exact hk
        · rw [a7, n1, upI_s]
      refine Or.inl ⟨y1, EB_add hE hA' hN (Or.inr (Or.inr (Or.inr ⟨hs.1, hs.2.1, hs.2.2, hk4⟩))) z1 fr_0 fM rfl rfl rfl rfl (F := []) (A := []), ?_, a1, by omega, ⟨by rw [a5, n1], by rw [a7, n1], by rw [a8, hp, n1]⟩, ?_, ?_, hop⟩
      · exact EU_add hS ht hn hp hB n1 hA' hN fr_0 fM rfl rfl (fun o _ => by rw [fr2 a1 24 rfl]) rfl rfl (F := []) (A := []) hop ((fr1 hN.1 75 rfl).trans hm)
      · exact fr_s fM (fr_s hN.1 fr_0 rfl rfl) rfl rfl
      · exact hN.2.1
    · refine Or.inr ⟨z2, ?_, ?_⟩
      · rw [hA.2.1, if_neg (by omega)]
      · rw [hA.2.2.1]
        omega
section SNG
variable {K M : mR}
def gG (K M : mR) (y : Int × Int × mR) (M' : mR) : Prop := y.1 = 0 ∧ EB y.2.2 M' ∧ EU y.2.2 M' 2 ∧ M'.1 8 = M.1 8 ∧ M'.1 7 = M.1 7 ∧ y.2.2.1 228 = K.1 228 - 1
/-- a sign of one operand is closed -/
theorem single_s {t h n p B d : Int} (hE : EB K M) (hS : STK K M t h n p B d) (hh : M.1 73 = h + 0) (hd : M.1 74 = d) (ht : t = 4) (hn : K.1 228 = n) (hp : K.1 229 = p + 1) (hu : B ≤ K.2 70 p) (hu2 : K.2 70 p + 1 = M.1 28) (hop : OP K (K.2 70 p) (M.1 69) (M.1 71) (M.1 72)) (hm : M.1 75 = 2) : RR (kf_fm_closeSingle K) (rf_goOn M) (PB (gG K M) bAt) := by
  have sb0 := STK_b hS
  rcases STK_i hS with ⟨e, -⟩ | ⟨t0, h0, n0, d0, -, rfl, rfl, rfl, s, a, b, c⟩ | ⟨t0, k0, n0, e, -⟩ | ⟨t0, k0, n0, p0, B0, d0, o1, o2, e, -⟩ | ⟨t0, k0, n0, p0, B0, d0, n1, p1, B1, e, -⟩
  · omega
  · have sb := STK_b s
    have hd2 := hE.2.2.2.2.1
    have h230 := hE.2.2.2.1
    have hf := hE.1.2.2.2.2
    obtain ⟨o0, o1, o2, o3⟩ := OP_r hop
    obtain ⟨⟨m1, m2, m3⟩, -⟩ := hE.2.1
    have e1 : cut (K.1 228 - 1) = n0 := by rw [hn, cut_i (by omega) (by omega)]; omega
    have e2 : cut (K.1 229 - 1) = p := by rw [hp, cut_i (by omega) (by omega)]; omega
    have e3 : cut (M.1 73 - 1) = h0 := by rw [hh, cut_i (by omega) (by omega)]; omega
    unfold kf_fm_closeSingle rf_goOn
    rw [e1, e2, e3, if_pos b]
    -- behind the look at the width
    have last : ∀ (K1 : mR) (u sg w at' : Int), fr [] [22] K K1 → (∀ i, i ≠ K.2 70 p → K1.2 22 i = K.2 22 i) → u ≠ 257 → u ≠ 400 → (sg ≠ 401 ∧ sg ≠ 402 ∧ sg ≠ 404) → 1 ≤ w → w ≤ 64 → RR (kfl_fm_closeSingle_74 u (K.2 70 p) w K1) (rfl_goOn_117 at' w sg (mO M [(73, cut (M.1 73 - 1)), (74, cut (M.1 74 - 1))] [])) (PB (gG K M) bAt) := by
      intro K1 u sg w at' fK ek hu1 hu4 hsg w0 w1
      unfold kfl_fm_closeSingle_74 rfl_goOn_117 rfl_goOn_123
      rw [fr1 fK 228 rfl, fr1 fK 229 rfl, fr1 fK 230 rfl, e1, e2, e3, h230, hd, cut_i (z := d0 + 1 - 1) (by omega) (by omega), show d0 + 1 - 1 = d0 by omega]
      have fK' : fr [228, 229, 230] [22] K (mO K1 [(228, n0), (229, p), (230, d0)] []) := fr_m (fr_s fK fr_0 rfl rfl) rfl rfl
      have fM' : fr [73, 74] [] M (mO M [(73, h0), (74, d0)] []) := fr_m fr_0 rfl rfl
      have hA : AG n0 p B h0 (9 * h0) K M (mO K1 [(228, n0), (229, p), (230, d0)] []) (mO M [(73, h0), (74, d0)] []) := by
        refine ⟨fun i _ => ?_, fun i _ => ?_, fun o ho => ⟨?_, ?_, ?_⟩, fun i _ => ⟨rfl, rfl, rfl, rfl, rfl, rfl, rfl, rfl, rfl⟩, fun i _ => ⟨rfl, rfl, rfl, rfl⟩⟩
        · rw [fr2 fK' 68 rfl]
        · rw [fr2 fK' 70 rfl]
        · rw [fr2 fK' 18 rfl]
        · exact ek o (by omega)
        · rw [fr2 fK' 24 rfl]
      have hE' : EB (mO K1 [(228, n0), (229, p), (230, d0)] []) (mO M [(73, h0), (74, d0)] []) := by
        refine EB_f hE (LR_g hE.1 fK' fM' rfl rfl rfl rfl ?_ hf) fK' fM' rfl rfl rfl rfl rfl (show d0 ≤ 24 by omega)
        exact (fr1 fK 213 rfl).trans hE.1.2.2.2.1
      intro y z hy hz
      cases hk : kf_fm_add u (K.2 70 p) 0 w (K1.2 69 n0) (mO K1 [(228, n0), (229, p), (230, d0)] []) with
      | none => rw [hk] at hy; cases hy
      | some x =>
        rw [hk, bnd_some] at hy
        cases hy
        rcases cls_s (q := at') hE' (STK_c s hA (Int.le_refl _)) a rfl rfl (show B ≤ M.1 28 by omega) hm hu1 hu4 hsg w0 w1 x z hk hz with ⟨q1, q2, q3, q4, q5, q6, q7, q8, q9⟩ | ⟨q1, q2⟩
        · refine Or.inl ⟨rfl, q2, q3, fr1 q7 8 rfl, fr1 q7 7 rfl, ?_⟩
          show x.2.1 228 = _
          rw [fr1 q4 228 rfl]
          show n0 = K.1 228 - 1
          omega
        · exact Or.inr ⟨q1, Or.inr ⟨rfl, q2⟩⟩
    have go73 : ∀ (K1 : mR) (u w at' : Int), fr [] [22] K K1 → (∀ i, i ≠ K.2 70 p → K1.2 22 i = K.2 22 i) → u = K.2 68 n0 → 1 ≤ w → w ≤ 64 → RR (kfl_fm_closeSingle_74 u (K.2 70 p) w K1) (rfl_goOn_73 h0 at' w M) (PB (gG K M) bAt) := by
      intro K1 u w at' fK ek hu1 w0 w1
      unfold rfl_goOn_73
      rcases c with ⟨c1, c2⟩ | ⟨c1, c2⟩ | ⟨c1, c2⟩
      · rw [c1, if_neg (by decide)]
        exact last K1 u 126 w at' fK ek (by omega) (by omega) ⟨by decide, by decide, by decide⟩ w0 w1
      · rw [c1, if_neg (by decide)]
        exact last K1 u 33 w at' fK ek (by omega) (by omega) ⟨by decide, by decide, by decide⟩ w0 w1
      · rw [c1, if_pos rfl]
        exact last K1 u 408 w at' fK ek (by omega) (by omega) ⟨by decide, by decide, by decide⟩ w0 w1
    unfold kfl_fm_closeSingle_43
    by_cases c33 : M.2 78 h0 = 33
    · have k33 : K.2 68 n0 = 33 := by
        rcases c with c | c | c
        · omega
        · exact c.2
        · omega
      rw [if_pos c33, if_pos k33]
      refine RR_l (fits_k hop) (fun y hy => ?_)
      refine RR_r (wantBit_r o0) (fun z hz => ?_)
      obtain ⟨f1, f2, f3⟩ := hy
      rcases f3 with ⟨y1, y2, y3⟩ | ⟨y1, y2⟩
      · rw [if_neg (by omega)]
        rcases hz with ⟨-, z2⟩ | ⟨z1, -⟩
        · rw [z2]
          unfold rfl_goOn_60
          rw [if_pos c33]
          exact go73 y.2 _ 1 _ f1 f2 rfl (by decide) (by decide)
        · exact absurd y2 z1
      · rw [if_pos y1]
        rcases hz with ⟨z1, -⟩ | ⟨-, z2⟩
        · exact absurd z1 y2
        · exact RR_xx (thr_x (fail_1 _ _ _) (fun y hy => Or.inl hy)) (RP_w (u_rfl_goOn_60 _ _ _ z.2) (fun w hw => hw.2 z2))
    · have k33 : K.2 68 n0 ≠ 33 := by omega
      rw [if_neg c33, if_neg k33]
      refine RR_l (fits_k hop) (fun y hy => ?_)
      obtain ⟨f1, f2, f3⟩ := hy
      have ok : FIT (M.1 69) (M.1 71) (M.1 72) (K.2 22 (K.2 70 p)) := by
        rw [o3]
        refine ⟨fun _ => rfl, fun q => ?_⟩
        rcases hop with hop | hop
        · exact absurd hop.1 q
        · exact Or.inl (by omega)
      rcases f3 with ⟨y1, y2, y3⟩ | ⟨y1, y2⟩
      · rw [if_neg (by omega)]
        unfold rfl_goOn_60
        rw [if_neg c33, o3]
        exact go73 y.2 _ _ _ f1 f2 rfl o1 o2
      · exact absurd ok y2
  · omega
  · omega
  · omega
end SNG
