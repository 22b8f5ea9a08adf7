/-! ===== EXPRs: with a node too many; the closing loop ===== -/
section DMS
variable {K M : mR}
theorem DM_f {F A : List Nat} {K' : mR} (h : DM K) (f : fr F A K K') (c : chk [213, 220] F = true) : DM K' := by
  unfold DM
  rw [fr1 f 213 (chk_1 c (by decide)), fr1 f 220 (chk_1 c (by decide))]
  exact h
theorem pair144_d {a b c e : Int} (h : DM K) : RP (kfl_fm_closePair_144 a b c e K) (fun y => y.1 ≠ 0 ∨ (y.1 = 0 ∧ DM y.2.2)) := by
  unfold kfl_fm_closePair_144
  exact RP_bnd (add_d (DM_f (F := [228, 229]) (A := []) h (fr_m fr_0 rfl rfl) rfl)) (fun y hy => RP_some (Or.inr ⟨rfl, hy⟩))
theorem thr_d {X : Option (Int × Int × mR)} {k1 : Int × Int × mR → Option (Int × Int × mR)} {A : Int × Int × mR → Prop} (h : RP X A) (g : ∀ y, A y → RP (k1 y) (fun y => y.1 ≠ 0 ∨ (y.1 = 0 ∧ DM y.2.2))) : RP (bnd X fun y => if y.1 = 0 then k1 y else some (y.1, 0, y.2.2)) (fun y => y.1 ≠ 0 ∨ (y.1 = 0 ∧ DM y.2.2)) := by
  refine RP_bnd h (fun y hy => ?_)
  exact RP_ite (fun _ => g y hy) (fun e => RP_some (Or.inl e))
theorem pair_d (h : DM K) : RP (kf_fm_closePair K) (fun y => y.1 ≠ 0 ∨ (y.1 = 0 ∧ DM y.2.2)) := by
  unfold kf_fm_closePair
  have b67 : ∀ a b c, RP (kfl_fm_closePair_67 a b c K) (fun y => y.1 ≠ 0 ∨ (y.1 = 0 ∧ DM y.2.2)) := by
    intro a b c
    unfold kfl_fm_closePair_67
    refine thr_d (u_kf_fm_agree _ _ K) (fun y hy => ?_)
    refine thr_d (u_kf_fm_agree _ _ y.2.2) (fun z hz => ?_)
    exact pair144_d (DM_f (DM_f h hy rfl) hz rfl)
  refine RP_bndT (fun y => ?_)
  refine RP_ite (fun _ => b67 _ _ _) (fun _ => RP_ite (fun _ => b67 _ _ _) (fun _ => RP_ite (fun _ => ?_) (fun _ => RP_ite (fun _ => pair144_d h) (fun _ => RP_ite (fun _ => pair144_d h) (fun _ => ?_)))))
  · exact thr_d (u_kf_fm_joined _ _ K) (fun y hy => pair144_d (DM_f h hy rfl))
  · refine thr_d (u_kf_fm_agree _ _ K) (fun y hy => ?_)
    unfold kfl_fm_closePair_142
    exact RP_ite (fun _ => pair144_d (DM_f h hy rfl)) (fun _ => pair144_d (DM_f h hy rfl))
theorem sng_d (h : DM K) : RP (kf_fm_closeSingle K) (fun y => y.1 ≠ 0 ∨ (y.1 = 0 ∧ DM y.2.2)) := by
  have b74 : ∀ {m : mR} (a b c : Int), DM m → RP (kfl_fm_closeSingle_74 a b c m) (fun y => y.1 ≠ 0 ∨ (y.1 = 0 ∧ DM y.2.2)) := by
    intro m a b c hm
    unfold kfl_fm_closeSingle_74
    exact RP_bnd (add_d (DM_f (F := [228, 229, 230]) (A := []) hm (fr_m fr_0 rfl rfl) rfl)) (fun y hy => RP_some (Or.inr ⟨rfl, hy⟩))
  have b43 : ∀ a b c, RP (kfl_fm_closeSingle_43 a b c K) (fun y => y.1 ≠ 0 ∨ (y.1 = 0 ∧ DM y.2.2)) := by
    intro a b c
    unfold kfl_fm_closeSingle_43
    refine RP_bnd (u_kf_nd_fits _ _ K) (fun y hy => ?_)
    refine RP_ite (fun _ => ?_) (fun _ => b74 _ _ _ (DM_f h hy rfl))
    exact thr_d (u_kf_tx_fail _ _ y.2) (fun z hz => b74 _ _ _ (DM_f (DM_f h hy rfl) hz rfl))
  unfold kf_fm_closeSingle
  exact RP_ite (fun _ => b43 _ _ _) (fun _ => b43 _ _ _)
theorem chc_d (h : DM K) : RP (kf_fm_closeChoice K) (fun y => y.1 ≠ 0 ∨ (y.1 = 0 ∧ DM y.2.2)) := by
  unfold kf_fm_closeChoice
  refine thr_d (u_kf_fm_agree _ _ K) (fun y hy => ?_)
  refine thr_d (u_kf_fm_agree _ _ y.2.2) (fun z hz => ?_)
  refine RP_bnd (add_d (DM_f (F := [228, 229, 230]) (A := []) (DM_f (DM_f h hy rfl) hz rfl) (fr_m fr_0 rfl rfl) rfl)) (fun x hx => RP_some (Or.inr ⟨rfl, ?_⟩))
  exact DM_f (F := []) (A := [21]) hx (fr_m fr_0 rfl rfl) rfl
theorem k126 (s : Int × mR) : kfb_fm_goesOn_126 s = kfb_fm_goesOn_63 0 1 s := by
  unfold kfb_fm_goesOn_126 kfb_fm_goesOn_63
  congr 1
  cases kf_fm_top s.2 with
  | none => rfl
  | some v =>
    rw [bnd_some, bnd_some]
    cases kf_fm_levelOf v s.2 with
    | none => rfl
    | some y =>
      rw [bnd_some, bnd_some]
      by_cases e : y ≤ 0
      · rw [if_pos e, if_pos (by omega)]
      · rw [if_neg e, if_neg (by omega)]
theorem clo_d {v c : Int} {s : Int × mR} (h : DM s.2) : RP (whl (kfb_fm_goesOn_63 v c) s) (sel (fun q => DM q) (fun e => e.1 ≠ 0)) := by
  refine RP_whl (I := fun s : Int × mR => DM s.2) (fun s hs => ?_) h
  unfold kfb_fm_goesOn_63
  refine RP_ite (fun _ => RP_some hs) (fun _ => RP_bndT (fun a => RP_bndT (fun b => RP_ite (fun _ => RP_some hs) (fun _ => ?_))))
  refine RP_bnd (pair_d hs) (fun y hy => ?_)
  refine RP_ite (fun e => RP_some ?_) (fun e => RP_some e)
  rcases hy with hy | hy
  · exact absurd e hy
  · exact hy.2
/-- what stands on top while the levels from one on are empty -/
theorem top_lv {k : Int} {s : Nat} (hU : EU K M 2) (hd : M.1 74 ≤ 24) (hh : M.1 73 = k + 1) (hk : M.2 76 k = 0) (hs : s ≤ 9) (hx : ∀ x : Nat, s ≤ x → x < 9 → M.2 80 (9 * k + x) < 0) : ∃ v l, kf_fm_top K = some v ∧ kf_fm_levelOf v K = some l ∧ 0 ≤ l ∧ l ≤ s ∧ (v = 405 ∨ v = 126 ∨ v = 33 → False) := by
  obtain ⟨t, n, p, B, hS, ht, hn, hp, hu, hu2, hop, hm⟩ := hU
  have sb := STK_b hS
  rw [hh] at hS
  obtain ⟨-, t0, n9, p9, B9, d0, n1, p1, B1, ed, s9, s3, hg, hW⟩ := STK_3 hS ht hk
  have hW := WTS_dn (K := K) (M := M) (9 - s) s (by rw [show s + (9 - s) = 9 by omega]; exact hW) (fun x x0 x1 => hx x x0 (by omega))
  have n9' := (STK_b s9).2.2.2.1
  have gb := STG_b hg
  refine ⟨topv K n, ?_⟩
  rcases tv_w hW (by omega) with e | ⟨w, w1, w2, w3, w4⟩
  · have : topv K n = -1 ∨ topv K n = 40 ∨ topv K n = 58 ∨ topv K n = 63 := by
      rw [e]
      rcases tv_st s9 s3 hg with ⟨-, -, q⟩ | q
      · omega
      · omega
    rcases this with q | q | q | q
    · exact ⟨0, top_k hn (by omega), by rw [q]; rfl, by omega, by omega, by omega⟩
    · exact ⟨0, top_k hn (by omega), by rw [q]; rfl, by omega, by omega, by omega⟩
    · exact ⟨0, top_k hn (by omega), by rw [q]; rfl, by omega, by omega, by omega⟩
    · exact ⟨0, top_k hn (by omega), by rw [q]; rfl, by omega, by omega, by omega⟩
  · have wl := wm_lv w1 w2
    exact ⟨lvl w + 1, top_k hn (by omega), by rw [w4]; exact lvl_k w1 K, by omega, by omega, by omega⟩
/-- a waiting sign on top -/
theorem top_wt {k : Int} {j : Nat} (hU : EU K M 2) (hd : M.1 74 ≤ 24) (hh : M.1 73 = k + 1) (hk : M.2 76 k = 0) (hj : j < 9) (hx : ∀ x : Nat, j < x → x < 9 → M.2 80 (9 * k + x) < 0) (hw : 0 ≤ M.2 80 (9 * k + j)) : ∃ v, kf_fm_top K = some v ∧ kf_fm_levelOf v K = some ((j : Int) + 1) ∧ 1 ≤ K.1 228 ∧ K.1 228 ≤ 264 := by
  obtain ⟨t, n, p, B, hS, ht, hn, hp, hu, hu2, hop, hm⟩ := hU
  have sb := STK_b hS
  rw [hh] at hS
  obtain ⟨-, t0, n9, p9, B9, d0, n1, p1, B1, ed, s9, s3, hg, hW⟩ := STK_3 hS ht hk
  have hW := WTS_dn (K := K) (M := M) (9 - (j + 1)) (j + 1) (by rw [show j + 1 + (9 - (j + 1)) = 9 by omega]; exact hW) (fun x x0 x1 => hx x (by omega) (by omega))
  have n9' := (STK_b s9).2.2.2.1
  have gb := STG_b hg
  rcases hW with ⟨h, -⟩ | ⟨n0, p0, B0, o, rfl, rfl, rfl, hW, ⟨-, w1⟩, w2, w3, w4, w5, w6⟩
  · omega
  · have wb := WTS_b hW
    refine ⟨topv K (n0 + 1), top_k hn (by omega), ?_, by omega, by omega⟩
    rw [topv_s (by omega), w3, lvl_k w1 K, w2]
/-- where the closing has come to -/
def CLG (K0 M0 : mR) (k : Int) (s : Nat) (K M : mR) : Prop := EB K M ∧ EU K M 2 ∧ M.1 73 = k + 1 ∧ M.2 76 k = 0 ∧ (∀ x : Nat, s ≤ x → x < 9 → M.2 80 (9 * k + x) < 0) ∧ (∀ x : Nat, x < s → M.2 80 (9 * k + x) = M0.2 80 (9 * k + x)) ∧ M.1 8 = M0.1 8 ∧ M.1 7 = M0.1 7
theorem clo_s {k l v : Int} {s : Nat} (hs : s ≤ 9) (hl : l ≤ s) (k0 : 0 ≤ k) (k1 : k ≤ 1000) : ∀ (d : Nat) (i : Int) (K M K0 M0 : mR) (y : Sum mR (Int × mR)) (e : mR), s + d ≤ 9 → CLG K0 M0 k (s + d) K M → 0 ≤ i → i + K.1 228 ≤ 264 → whl (kfb_fm_goesOn_63 v (s + 1)) (i, K) = some y → whl (rfb_goOn_162 k l) (((s + d : Nat) : Int) - 1, M) = some e → (∃ K' M', y = Sum.inl K' ∧ whl (rfb_goOn_162 k l) ((s : Int) - 1, M') = some e ∧ CLG K0 M0 k s K' M') ∨ (0 < e.1 10 ∧ sel (fun q => DM q) (fun x => x.1 ≠ 0) y) := by
  intro d
  induction d with
  | zero =>
    intro i K M K0 M0 y e hsd hC i0 i1 hy he
    obtain ⟨hE, hU, hh, hk, hx, hx2, h8, h7⟩ := id hC
    obtain ⟨v9, l9, a1, a2, a3, a4, -⟩ := top_lv (s := s) hU hE.2.2.2.2.1 hh hk hs hx
    have hn : 0 ≤ K.1 228 := by
      obtain ⟨t, n, p, B, hS, ht, hn, -⟩ := hU
      have := (STK_b hS).2.2.2.1
      omega
    rw [whl_eq] at hy
    unfold kfb_fm_goesOn_63 at hy
    rw [if_neg (show ¬ (288 : Int) ≤ i by omega), a1, bnd_some, a2, bnd_some, if_pos (by omega), bnd_some] at hy
    have hy : some (Sum.inl K) = some y := hy
    cases hy
    exact Or.inl ⟨K, M, rfl, he, hC⟩
  | succ d ih =>
    intro i K M K0 M0 y e hsd hC i0 i1 hy he
    obtain ⟨hE, hU, hh, hk, hx, hx2, h8, h7⟩ := id hC
    have hn : 0 ≤ K.1 228 := by
      obtain ⟨t, n, p, B, hS, ht, hn, -⟩ := hU
      have := (STK_b hS).2.2.2.1
      omega
    have ej : (((s + (d + 1) : Nat) : Int) - 1) = ((s + d : Nat) : Int) := by omega
    rw [ej] at he
    rw [whl_eq] at he
    unfold rfb_goOn_162 at he
    have he : bnd (if ((s + d : Nat) : Int) < 0 then some (Sum.inr M) else if ((s + d : Nat) : Int) < l then some (Sum.inr M) else if (0 : Int) ≤ M.2 80 (cut (cut (9 * k) + ((s + d : Nat) : Int))) then bnd (rf_join (cut (cut (9 * k) + ((s + d : Nat) : Int))) M) fun y14 => rfl_goOn_198 k l ((s + d : Nat) : Int) y14.2 else rfl_goOn_198 k l ((s + d : Nat) : Int) M) (sel (whl (rfb_goOn_162 k l)) some) = some e := he
    rw [if_neg (by omega), if_neg (by omega), cut_i (z := 9 * k) (by omega) (by omega), cut_i (z := 9 * k + ((s + d : Nat) : Int)) (by omega) (by omega)] at he
    unfold rfl_goOn_198 at he
    rw [cut_i (z := ((s + d : Nat) : Int) + -1) (by omega) (by omega)] at he
    by_cases hw : 0 ≤ M.2 80 (9 * k + ((s + d : Nat) : Int))
    · rw [if_pos hw, bnd_a] at he
      obtain ⟨v9, a1, a2, a3, a4⟩ := top_wt (j := s + d) hU hE.2.2.2.2.1 hh hk (by omega) (fun x x0 x1 => hx x (by omega) x1) hw
      rw [whl_eq] at hy
      unfold kfb_fm_goesOn_63 at hy
      rw [if_neg (show ¬ (288 : Int) ≤ i by omega), a1, bnd_some, a2, bnd_some, if_neg (by omega), bnd_a] at hy
      cases hp : kf_fm_closePair K with
      | none => rw [hp] at hy; cases hy
      | some x =>
        cases hq : rf_join (9 * k + ((s + d : Nat) : Int)) M with
        | none => rw [hq] at he; cases he
        | some z =>
          rw [hp, bnd_some] at hy
          rw [hq, bnd_some, bnd_some] at he
          have he : whl (rfb_goOn_162 k l) (((s + d : Nat) : Int) + -1, z.2) = some e := he
          rcases pair_s (j := s + d) hE hU hh hk (by omega) (fun x x0 x1 => hx x (by omega) x1) hw x z hp hq with ⟨⟨g1, g2, g3, g4, g5, g6⟩, g7, g8, g9, g10⟩ | ⟨g1, g2⟩
          · rw [if_pos g1, bnd_some, cut_i (by omega) (by omega)] at hy
            have hy : whl (kfb_fm_goesOn_63 v (s + 1)) (i + 1, x.2.2) = some y := hy
            refine ih (i + 1) x.2.2 z.2 K0 M0 y e (by omega) ⟨g2, g3, by rw [g7]; exact hh, g8, g9, fun x x0 => ?_, g4.trans h8, g5.trans h7⟩ (by omega) (by omega) hy he
            rw [g10 x x0]
            exact hx2 x (by omega)
          · have ef : 0 < e.1 10 := (uw_rfb_goOn_162 k l _ e he).2 g1
            refine Or.inr ⟨ef, ?_⟩
            by_cases x1 : x.1 = 0
            · rw [if_pos x1, bnd_some] at hy
              have hy : whl (kfb_fm_goesOn_63 v (s + 1)) (cut (i + 1), x.2.2) = some y := hy
              rcases g2 with g2 | g2
              · exact absurd x1 g2
              · exact clo_d (s := (cut (i + 1), x.2.2)) g2.2 y hy
            · rw [if_neg x1, bnd_some] at hy
              have hy : some (Sum.inr (x.1, x.2.2)) = some y := hy
              cases hy
              exact x1
    · rw [if_neg hw, bnd_some] at he
      have he : whl (rfb_goOn_162 k l) (((s + d : Nat) : Int) + -1, M) = some e := he
      refine ih i K M K0 M0 y e (by omega) ⟨hE, hU, hh, hk, fun x x0 x1 => ?_, fun x x0 => hx2 x (by omega), h8, h7⟩ i0 i1 hy he
      by_cases ex : x = s + d
      · rw [ex]
        omega
      · exact hx x (by omega) x1
end DMS
