/-! ===== EXPRs: ( and all that stands ahead; a node more ===== -/
section BRK
variable {K M : mR}
theorem PB_w {α : Type} {X : Option α} {Y : Option (Int × mR)} {P P' : α → mR → Prop} {B B' : α → Prop} (h : RR X Y (PB P B)) (g1 : ∀ y M', P y M' → P' y M') (g2 : ∀ y, B y → B' y) : RR X Y (PB P' B') := fun y z hy hz => by
  rcases h y z hy hz with a | ⟨a, b⟩
  · exact Or.inl (g1 _ _ a)
  · exact Or.inr ⟨a, g2 _ b⟩
def bP (u : Sum (Int × Int × mR) (Sum mR (Int × mR))) : Prop := sel (fun s => D2 s.2.2) (sel (fun q => D2 q) (fun e => e.1 ≠ 0)) u
theorem brk_s {v i : Int} (hE : EB K M) (hW : EW K M) (hw : M.1 7 = 40) : RR (bnd (kf_fm_open 40 K) fun y17 => if y17.1 = 0 then bnd (kf_fm_deepen y17.2.2) fun y20 => if y20.1 = 0 then kfl_fm_prefixes_144 v i y20.2.2 else some (Sum.inr (Sum.inr (y20.1, y20.2.2))) else some (Sum.inr (Sum.inr (y17.1, y17.2.2)))) (bnd (rf_open 2 (M.1 8) 0 M) fun y43 => rfl_wantUnit_204 y43.2) (PB (fun u M' => ∃ K', u = Sum.inl (v, cut (i + 1), K') ∧ EB K' M' ∧ EW K' M' ∧ M.1 8 + 1 ≤ M'.1 8) bP) := by
  obtain ⟨hL, hN, hP, hd, hd2, ha, ha1, ha2⟩ := id hE
  obtain ⟨t, n, p, B, hS, ht, hn, hp, hB, hm⟩ := hW
  have sb := STK_b hS
  have hX := hL.2.1
  have hf := hL.2.2.2.2
  refine RR_r (open_r (M := M) sb.2.2.1 (by omega)) (fun z1 hO => ?_)
  unfold rfl_wantUnit_204
  refine RR_pq (opn_s (u := 40) hL hO rfl (by omega) (by omega)) (fun z hz => RP_w (u_rfl_wantUnit_208 z.2) (fun w hw => hw.2 hz)) (fun y hy => hy) (fun y z h1 hG => ?_)
  obtain ⟨g1, g2, g3, g4, g5, g6⟩ := hG
  have hO' := hO
  obtain ⟨o1, o2, o3, o4, o5, o6, o7⟩ := hO
  have fM : fr [7, 8, 9, 10, 11, 12, 73] [76, 77, 78, 79, 80] M z.2 := fr_s g5 (fr_s o1 fr_0 rfl rfl) rfl rfl
  have e74 : z.2.1 74 = M.1 74 := (fr1 g5 74 rfl).trans (fr1 o1 74 rfl)
  have e73 : z.2.1 73 = M.1 73 + 1 := (fr1 g5 73 rfl).trans o2
  have hA : AG n p B (M.1 73) (9 * M.1 73) K M y.2.2 z.2 := AG_open hO' g5 g2 rfl rfl (fun i hi => by rw [g4, upI_n (by omega)])
  have hS2 : STK y.2.2 z.2 1 (z.2.1 73) (n + 1) p B (z.2.1 74) := by
    rw [e73, e74]
    refine STK_br (STK_c hS hA (Int.le_refl _)) ht ?_ ?_
    · rw [fr2 g5 76 rfl, o3, upI_s]
    · rw [g4, ← hn, upI_s]
  have e230 : y.2.2.1 230 = M.1 74 := (fr1 g2 230 rfl).trans hd
  unfold rfl_wantUnit_208
  intro a w ha9 hw9
  cases hD : kf_fm_deepen y.2.2 with
  | none => rw [hD] at ha9; cases ha9
  | some x =>
    cases hC : rf_beginChoice z.2 with
    | none => rw [hC] at hw9; cases hw9
    | some q =>
      rw [hD, bnd_some] at ha9
      rw [hC, bnd_some] at hw9
      cases hw9
      have dk := deepen_k x hD
      rw [e230, cut_i (by omega) (by omega)] at dk
      have bk := begin_r (M := z.2) g1.2.2.2.2 (by omega) (by omega) (by omega) (by omega) q hC
      rw [e74] at bk
      by_cases hdp : M.1 74 < 24
      · rcases bk with ⟨-, bk⟩ | ⟨bk, -⟩
        · rcases dk with ⟨-, dk⟩ | ⟨dk, -⟩
          · subst dk
            rw [if_pos rfl] at ha9
            unfold kfl_fm_prefixes_144 at ha9
            cases ha9
            have bk' := bk
            obtain ⟨⟨b1, b2, b5⟩, b3, b4⟩ := bk
            have fM2 : fr [7, 8, 9, 10, 11, 12, 73, 74, 75] [76, 77, 78, 79, 80] M q.2 := fr_s b1 (fr_s fM fr_0 rfl rfl) rfl rfl
            have fK2 : fr [205, 206, 207, 208, 209, 210, 211, 212, 228, 230] [68, 69] K (mO y.2.2 [(230, M.1 74 + 1)] []) := fr_m (fr_s g2 fr_0 rfl rfl) rfl rfl
            have hL2 : LR (mO y.2.2 [(230, M.1 74 + 1)] []) q.2 := LR_g g1 (F := [230]) (A := []) (fr_m fr_0 rfl rfl) b1 rfl rfl rfl rfl g1.2.2.2.1 ((fr1 b1 10 rfl).trans g1.2.2.2.2)
            refine Or.inl ⟨_, rfl, EB_f hE hL2 fK2 fM2 rfl rfl rfl rfl ?_ (by show q.2.1 74 ≤ 24; omega), ⟨3, n + 1, p, B, ?_, by decide, ?_, ?_, ?_, b4⟩, ?_⟩
            · rw [b3, e74]
              rfl
            · rw [b2, b3]
              exact STK_beg bk' hS2 (by decide) (F := [230]) (A := []) (fr_m fr_0 rfl rfl) rfl
            · show y.2.2.1 228 = n + 1
              omega
            · exact (fr1 fK2 229 rfl).trans hp
            · rw [fr1 fM2 28 rfl]
              exact hB
            · rw [fr1 b1 8 rfl]
              exact g6
          · omega
        · omega
      · rcases bk with ⟨bk, -⟩ | ⟨-, bk⟩
        · omega
        · rcases dk with ⟨dk, -⟩ | ⟨-, dk⟩
          · omega
          · refine Or.inr ⟨bk, ?_⟩
            by_cases e : x.1 = 0
            · rw [if_pos e] at ha9
              unfold kfl_fm_prefixes_144 at ha9
              cases ha9
              rcases dk with dk | dk
              · exact absurd e dk
              · exact dk
            · rw [if_neg e] at ha9
              cases ha9
              exact e
def NP (M : mR) : Prop := M.1 7 ≠ 40 ∧ M.1 7 ≠ 126 ∧ M.1 7 ≠ 33 ∧ M.1 7 ≠ 45
theorem pfx_d {s : Int × Int × mR} (h : D2 s.2.2) : RP (whl kfb_fm_prefixes_4 s) (sel (fun q => D2 q) (fun e => e.1 ≠ 0)) := by
  refine RP_whl (I := fun s : Int × Int × mR => D2 s.2.2) (fun s hs => ?_) h
  obtain ⟨h1, h2, h3, h4, h5, h6, h7⟩ := id hs
  unfold kfb_fm_prefixes_4
  refine RP_ite (fun _ => RP_some hs) (fun _ => RP_ite (fun _ => RP_some hs) (fun _ => ?_))
  rw [if_neg h4, if_neg h5, if_neg h6, if_neg h7]
  unfold kfl_fm_prefixes_144
  exact RP_some hs
theorem prefixes_s (hE : EB K M) (hW : EW K M) : SM (kf_fm_prefixes K) M (fun y M' => y.1 = 0 ∧ EB y.2.2 M' ∧ EW y.2.2 M' ∧ M.1 8 ≤ M'.1 8 ∧ NP M') (fun y => y.1 ≠ 0 ∨ (y.1 = 0 ∧ D2 y.2.2)) := by
  unfold kf_fm_prefixes
  refine SM_bnd (P := fun x M' => sel (fun q => EB q M' ∧ EW q M' ∧ M.1 8 ≤ M'.1 8 ∧ NP M') (fun _ => False) x) (B := sel (fun q => D2 q) (fun e => e.1 ≠ 0)) ?_ (fun x M' hx => ?_) (fun x hx => ?_)
  · have m0 : 0 ≤ M.1 8 := hE.1.2.1.2.2.2.1
    refine SM_whl (I := fun (s : Int × Int × mR) M' => EB s.2.2 M' ∧ EW s.2.2 M' ∧ M.1 8 ≤ M'.1 8 ∧ 0 ≤ s.2.1 ∧ s.2.1 ≤ M'.1 8 + 1 ∧ ((s.1 = 1 ∧ s.2.1 ≤ M'.1 8) ∨ (s.1 = 0 ∧ NP M'))) (D := fun s => D2 s.2.2) ?_ (fun s hs => pfx_d hs) ⟨hE, hW, Int.le_refl _, (show (0 : Int) ≤ 0 by decide), by show (0 : Int) ≤ _; omega, Or.inl ⟨rfl, m0⟩⟩
    intro s M1 hI
    obtain ⟨v, i, K1⟩ := s
    obtain ⟨hE1, hW1, h8, i0, i1, hc⟩ := hI
    have hE1 : EB K1 M1 := hE1
    have hW1 : EW K1 M1 := hW1
    have i0 : 0 ≤ i := i0
    have i1 : i ≤ M1.1 8 + 1 := i1
    have hc : (v = 1 ∧ i ≤ M1.1 8) ∨ (v = 0 ∧ NP M1) := hc
    have hX := hE1.1.2.1
    have hf := hE1.1.2.2.2.2
    have hT := hE1.1.1.1.2.1
    have h86 := hX.2.2.2.2.1
    have h75 : M1.1 75 = 0 := by
      obtain ⟨t, n, p, B, _, _, _, _, _, hm⟩ := hW1
      exact hm
    unfold kfb_fm_prefixes_4
    show SM (if (4000 : Int) < i then some (Sum.inr (Sum.inl K1)) else if v = 0 then some (Sum.inr (Sum.inl K1)) else if K1.1 206 = 40 then bnd (kf_fm_open 40 K1) fun y17 => if y17.1 = 0 then bnd (kf_fm_deepen y17.2.2) fun y20 => if y20.1 = 0 then kfl_fm_prefixes_144 v i y20.2.2 else some (Sum.inr (Sum.inr (y20.1, y20.2.2))) else some (Sum.inr (Sum.inr (y17.1, y17.2.2))) else if K1.1 206 = 126 then kfl_fm_prefixes_76 v i K1 else if K1.1 206 = 33 then kfl_fm_prefixes_76 v i K1 else if K1.1 206 = 45 then kfl_fm_prefixes_76 v i K1 else kfl_fm_prefixes_144 0 i K1) M1 _ _
    rcases hc with ⟨c1, c2⟩ | ⟨c1, c2⟩
    · rw [if_neg (by omega), if_neg (by omega), hX.1]
      -- a sign of one operand, or (
      have more : ∀ K' M', (EB K' M' ∧ EW K' M' ∧ M1.1 8 + 1 ≤ M'.1 8) → (EB K' M' ∧ EW K' M' ∧ M.1 8 ≤ M'.1 8 ∧ 0 ≤ cut (i + 1) ∧ cut (i + 1) ≤ M'.1 8 + 1 ∧ ((v = 1 ∧ cut (i + 1) ≤ M'.1 8) ∨ (v = 0 ∧ NP M'))) := by
        intro K' M' ⟨q1, q2, q3⟩
        rw [cut_i (by omega) (by omega)]
        exact ⟨q1, q2, by omega, by omega, by omega, Or.inl ⟨c1, by omega⟩⟩
      have signs : (M1.1 7 = 126 ∨ M1.1 7 = 33 ∨ M1.1 7 = 45) → SM (kfl_fm_prefixes_76 v i K1) M1 (fun u M' => sel (fun s' : Int × Int × mR => EB s'.2.2 M' ∧ EW s'.2.2 M' ∧ M.1 8 ≤ M'.1 8 ∧ 0 ≤ s'.2.1 ∧ s'.2.1 ≤ M'.1 8 + 1 ∧ ((s'.1 = 1 ∧ s'.2.1 ≤ M'.1 8) ∨ (s'.1 = 0 ∧ NP M'))) (fun x => sel (fun q => EB q M' ∧ EW q M' ∧ M.1 8 ≤ M'.1 8 ∧ NP M') (fun _ => False) x) u) (fun u => sel (fun s : Int × Int × mR => D2 s.2.2) (sel (fun q => D2 q) (fun e => e.1 ≠ 0)) u) := by
        intro hw
        refine SM_st (Y := rfl_wantUnit_32 (M1.1 8) M1) ?_ (PB_w (pre_s hE1 hW1 hw) (fun u M' hu => ?_) (fun u hu => ?_))
        · rw [WX_0 hf h75]
          congr 1
          unfold rf_wantUnit
          rcases hw with e | e | e
          · rw [if_pos e]
          · rw [if_neg (by omega), if_pos e]
          · rw [if_neg (by omega), if_neg (by omega), if_pos e]
        · obtain ⟨K', rfl, q⟩ := hu
          exact more K' M' q
        · obtain ⟨e, rfl, q⟩ := hu
          exact q
      have wb : ∀ c : Int, 33 ≤ c → c ≤ 126 → (wm (M1.1 7) = c ↔ M1.1 7 = c) := fun c c0 c1 => wm_big hX.2.1 (Or.inl ⟨c0, c1⟩)
      by_cases w40 : M1.1 7 = 40
      · rw [if_pos ((wb 40 (by omega) (by omega)).mpr w40)]
        refine SM_st (Y := bnd (rf_open 2 (M1.1 8) 0 M1) fun y43 => rfl_wantUnit_204 y43.2) ?_ (PB_w (brk_s hE1 hW1 w40) (fun u M' hu => ?_) (fun u hu => hu))
        · rw [WX_0 hf h75]
          congr 1
          unfold rf_wantUnit
          rw [if_neg (by omega), if_neg (by omega), if_neg (by omega), if_neg (by omega), if_neg (by omega), if_neg (by omega), if_pos w40]
        · obtain ⟨K', rfl, q⟩ := hu
          exact more K' M' q
      · rw [if_neg (fun q => w40 ((wb 40 (by omega) (by omega)).mp q))]
        by_cases w126 : M1.1 7 = 126
        · rw [if_pos ((wb 126 (by omega) (by omega)).mpr w126)]
          exact signs (Or.inl w126)
        · rw [if_neg (fun q => w126 ((wb 126 (by omega) (by omega)).mp q))]
          by_cases w33 : M1.1 7 = 33
          · rw [if_pos ((wb 33 (by omega) (by omega)).mpr w33)]
            exact signs (Or.inr (Or.inl w33))
          · rw [if_neg (fun q => w33 ((wb 33 (by omega) (by omega)).mp q))]
            by_cases w45 : M1.1 7 = 45
            · rw [if_pos ((wb 45 (by omega) (by omega)).mpr w45)]
              exact signs (Or.inr (Or.inr w45))
            · rw [if_neg (fun q => w45 ((wb 45 (by omega) (by omega)).mp q))]
              unfold kfl_fm_prefixes_144
              rw [cut_i (by omega) (by omega)]
              exact SM_some ⟨hE1, hW1, h8, by show 0 ≤ i + 1; omega, by show i + 1 ≤ _; omega, Or.inr ⟨rfl, w40, w126, w33, w45⟩⟩
    · have ex : SM (some (Sum.inr (Sum.inl K1)) : Option (Sum (Int × Int × mR) (Sum mR (Int × mR)))) M1 (fun u M' => sel (fun s' : Int × Int × mR => EB s'.2.2 M' ∧ EW s'.2.2 M' ∧ M.1 8 ≤ M'.1 8 ∧ 0 ≤ s'.2.1 ∧ s'.2.1 ≤ M'.1 8 + 1 ∧ ((s'.1 = 1 ∧ s'.2.1 ≤ M'.1 8) ∨ (s'.1 = 0 ∧ NP M'))) (fun x => sel (fun q => EB q M' ∧ EW q M' ∧ M.1 8 ≤ M'.1 8 ∧ NP M') (fun _ => False) x) u) (fun u => sel (fun s : Int × Int × mR => D2 s.2.2) (sel (fun q => D2 q) (fun e => e.1 ≠ 0)) u) := SM_some ⟨hE1, hW1, h8, c2⟩
      rw [if_pos c1]
      exact SM_il (fun _ => ex) (fun _ => ex)
  · cases x with
    | inl q => exact SM_some ⟨rfl, hx⟩
    | inr e => exact False.elim hx
  · cases x with
    | inl q => exact RP_some (Or.inr ⟨rfl, hx⟩)
    | inr e => exact RP_some (Or.inl hx)
end BRK
/-- a node more, the latest operand -/
theorem EB_add {Kx M K1 K' M1 M' : mR} {F A G B : List Nat} {kd lf w sg nb : Int} (hE : EB Kx M) (hA : ADK Kx K1 kd lf w) (hN : NDM M M1 sg nb) (hd : ND1 kd lf sg nb (M.1 20) (M.2 29) (M.2 34)) (hb : M.1 28 < 800) (fK : fr F A K1 K') (fM : fr G B M1 M') (c1 : chk [203, 204, 205, 206, 207, 208, 209, 210, 213, 214, 215, 216, 217, 219, 220, 221, 222, 223, 230, 231] F = true) (c2 : chk [1, 5, 6, 7, 8, 9, 10, 11, 12, 13, 14, 18, 19, 39, 40, 41, 42] A = true) (c3 : chk [6, 7, 8, 9, 10, 12, 13, 19, 20, 21, 22, 23, 24, 25, 26, 28, 64, 74] G = true) (c4 : chk [0, 4, 14, 15, 16, 17, 18, 29, 30, 31, 32, 33, 34, 35, 46, 47, 48, 49, 65, 67] B = true) : EB K' M' := by
  obtain ⟨h1, h2, h3, h4, h5, h6, h7, h8⟩ := hE
  have hA' := hA
  have hN' := hN
  obtain ⟨a1, a2, a3, a4, a5, a6, a7, a8⟩ := hA
  obtain ⟨b1, b2, b3, b4⟩ := hN
  have e220 : Kx.1 220 = M.1 28 := h2.1.1
  have hL1 : LR K1 M1 := LR_g h1 a1 b1 rfl rfl rfl rfl (by rw [a2, if_pos (by omega)]) ((fr1 b1 10 rfl).trans h1.2.2.2.2)
  have e213 : K'.1 213 = 0 := (fr1 fK 213 (chk_1 c1 (by decide))).trans hL1.2.2.2.1
  have e10 : M'.1 10 = 0 := (fr1 fM 10 (chk_1 c3 (by decide))).trans hL1.2.2.2.2
  have e231 : K'.1 231 = Kx.1 231 := (fr1 fK 231 (chk_1 c1 (by decide))).trans (fr1 a1 231 rfl)
  have e64 : M'.1 64 = M.1 64 := (fr1 fM 64 (chk_1 c3 (by decide))).trans (fr1 b1 64 rfl)
  have e25 : M'.1 25 = M.1 25 := (fr1 fM 25 (chk_1 c3 (by decide))).trans (fr1 b1 25 rfl)
  have e230 : K'.1 230 = Kx.1 230 := (fr1 fK 230 (chk_1 c1 (by decide))).trans (fr1 a1 230 rfl)
  have e74 : M'.1 74 = M.1 74 := (fr1 fM 74 (chk_1 c3 (by decide))).trans (fr1 b1 74 rfl)
  refine ⟨LR_g hL1 fK fM (chk_s c1 rfl) (chk_s c2 rfl) (chk_s c3 rfl) (chk_s c4 rfl) e213 e10, NDR_f fK fM (chk_s c1 rfl) (chk_s c2 rfl) (chk_s c3 rfl) (chk_s c4 rfl) (NDR_new h2 hA' hN' hd hb), BP_f fK fM (chk_s c1 rfl) (chk_s c2 rfl) (chk_s c3 rfl) (chk_s c4 rfl) (BP_f a1 b1 rfl rfl rfl rfl h3), ?_, ?_, ?_, ?_, ?_⟩
  · rw [e230, e74]; exact h4
  · rw [e74]; exact h5
  · rw [e231, e64]; exact h6
  · rw [e64]; exact h7
  · rw [e64, e25]; exact h8
theorem EU_add {Kx M K1 K' M1 M' : mR} {F A G C : List Nat} {kd lf w sg nb t n p B md : Int} (hS : STK Kx M t (M.1 73) n p B (M.1 74)) (ht : 3 ≤ t) (hn : Kx.1 228 = n) (hp : Kx.1 229 = p) (hB : B ≤ M.1 28) (e0 : Kx.1 220 = M.1 28) (hA : ADK Kx K1 kd lf w) (hN : NDM M M1 sg nb) (fK : fr F A K1 K') (fM : fr G C M1 M') (c1 : chk [228, 229] F = true) (c2 : chk [18, 22, 68, 70] A = true) (e24 : ∀ o, o < M.1 28 → K'.2 24 o = Kx.2 24 o) (c3 : chk [28, 73, 74] G = true) (c4 : chk [76, 78, 79, 80, 81, 83, 84, 85, 87, 89, 90, 91, 92] C = true) (hop : OP K' (M.1 28) (M'.1 69) (M'.1 71) (M'.1 72)) (hm : M'.1 75 = md) : EU K' M' md := by
  obtain ⟨a1, a2, a3, a4, a5, a6, a7, a8⟩ := hA
  obtain ⟨b1, b2, b3, b4⟩ := hN
  have e73 : M'.1 73 = M.1 73 := (fr1 fM 73 (chk_1 c3 (by decide))).trans (fr1 b1 73 rfl)
  have e74 : M'.1 74 = M.1 74 := (fr1 fM 74 (chk_1 c3 (by decide))).trans (fr1 b1 74 rfl)
  have e28 : M'.1 28 = M.1 28 + 1 := (fr1 fM 28 (chk_1 c3 (by decide))).trans b2
  have e70 : K'.2 70 = upI (Kx.2 70) p (M.1 28) := by
    rw [fr2 fK 70 (chk_1 c2 (by decide)), a8, hp, e0]
  have ep : K'.2 70 p = M.1 28 := by rw [e70, upI_s]
  refine ⟨t, n, p, B, ?_, ht, ?_, ?_, ?_, ?_, ?_, hm⟩
  · rw [e73, e74]
    refine STK_c hS (q := 9 * M.1 73) ⟨fun i _ => ?_, fun i hi => ?_, fun o ho => ?_, fun i _ => ?_, fun i _ => ?_⟩ (Int.le_refl _)
    · rw [fr2 fK 68 (chk_1 c2 (by decide)), fr2 a1 68 rfl]
    · rw [e70, upI_n (by omega)]
    · rw [fr2 fK 18 (chk_1 c2 (by decide)), fr2 fK 22 (chk_1 c2 (by decide)), a5, a7, upI_n (by omega), upI_n (by omega), e24 o (by omega)]
      exact ⟨rfl, rfl, rfl⟩
    · rw [fr2 fM 76 (chk_1 c4 (by decide)), fr2 fM 78 (chk_1 c4 (by decide)), fr2 fM 79 (chk_1 c4 (by decide)), fr2 fM 85 (chk_1 c4 (by decide)), fr2 fM 89 (chk_1 c4 (by decide)), fr2 fM 91 (chk_1 c4 (by decide)), fr2 fM 87 (chk_1 c4 (by decide)), fr2 fM 90 (chk_1 c4 (by decide)), fr2 fM 92 (chk_1 c4 (by decide)), fr2 b1 76 rfl, fr2 b1 78 rfl, fr2 b1 79 rfl, fr2 b1 85 rfl, fr2 b1 89 rfl, fr2 b1 91 rfl, fr2 b1 87 rfl, fr2 b1 90 rfl, fr2 b1 92 rfl]
      exact ⟨rfl, rfl, rfl, rfl, rfl, rfl, rfl, rfl, rfl⟩
    · rw [fr2 fM 80 (chk_1 c4 (by decide)), fr2 fM 81 (chk_1 c4 (by decide)), fr2 fM 83 (chk_1 c4 (by decide)), fr2 fM 84 (chk_1 c4 (by decide)), fr2 b1 80 rfl, fr2 b1 81 rfl, fr2 b1 83 rfl, fr2 b1 84 rfl]
      exact ⟨rfl, rfl, rfl, rfl⟩
  · rw [fr1 fK 228 (chk_1 c1 (by decide)), fr1 a1 228 rfl]
    exact hn
  · rw [fr1 fK 229 (chk_1 c1 (by decide)), a4, hp]
  · rw [ep]
    exact hB
  · rw [ep, e28]
  · rw [ep]
    exact hop
