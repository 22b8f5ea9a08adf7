/-! ===== tables: keys ===== -/
theorem RR_gq {β : Type} {X : Option (Int × Int × mR)} {Y : Option (Int × mR)} {G : Int → mR → Int → mR → Prop} {FB : β → Prop} {Q : Int × Int × mR → β → Prop} {k1 : Int × Int × mR → Option (Int × Int × mR)} {l : Int × mR → Option β} (h : RR X Y (GV G)) (hq : ∀ y v, y.1 ≠ 0 → FB v → Q y v) (hs : ∀ z : Int × mR, 0 < z.2.1 10 → RP (l z) FB) (g : ∀ a K1 b M1, G a K1 b M1 → RR (k1 (0, a, K1)) (l (b, M1)) Q) : RR (bnd X fun y => if y.1 = 0 then k1 y else some (y.1, 0, y.2.2)) (bnd Y l) Q := by
  intro x w hx hw
  cases hX : X with
  | none => rw [hX] at hx; cases hx
  | some y =>
    cases hY : Y with
    | none => rw [hY] at hw; cases hw
    | some z =>
      rw [hX, bnd_some] at hx
      rw [hY, bnd_some] at hw
      obtain ⟨t, a, K1⟩ := y
      obtain ⟨b, M1⟩ := z
      rcases h _ _ hX hY with ⟨h1, h2⟩ | ⟨h1, h2⟩
      · have h1 : t = 0 := h1
        subst h1
        have hx : (if (0 : Int) = 0 then k1 (0, a, K1) else some (0, 0, K1)) = some x := hx
        rw [if_pos rfl] at hx
        exact g a K1 b M1 h2 x w hx hw
      · have hx : (if t = 0 then k1 (t, a, K1) else some (t, 0, K1)) = some x := hx
        rw [if_neg h1] at hx
        cases hx
        exact hq _ _ h1 (hs _ h2 w hw)
theorem RR_gx {β : Type} {X : Option (Int × Int × mR)} {Y : Option (Int × mR)} {P : Int → mR → mR → Prop} {FB : β → Prop} {Q : Int × Int × mR → β → Prop} {A B : mR → Prop} {k1 : Int × Int × mR → Option (Int × Int × mR)} {l : Int × mR → Option β} (h : RR X Y (XV P)) (u1 : RP X (fun y => A y.2.2)) (u2 : RP Y (fun z => B z.2)) (hq : ∀ y v, y.1 ≠ 0 → FB v → Q y v) (hs : ∀ z : Int × mR, 0 < z.2.1 10 → RP (l z) FB) (hd : ∀ a K1, DM K1 → RP (k1 (0, a, K1)) (fun w => w.1 ≠ 0)) (g : ∀ a K1 b M1, P a K1 M1 → A K1 → B M1 → RR (k1 (0, a, K1)) (l (b, M1)) Q) : RR (bnd X fun y => if y.1 = 0 then k1 y else some (y.1, 0, y.2.2)) (bnd Y l) Q := by
  intro x w hx hw
  cases hX : X with
  | none => rw [hX] at hx; cases hx
  | some y =>
    cases hY : Y with
    | none => rw [hY] at hw; cases hw
    | some z =>
      rw [hX, bnd_some] at hx
      rw [hY, bnd_some] at hw
      obtain ⟨t, a, K1⟩ := y
      obtain ⟨b, M1⟩ := z
      rcases h _ _ hX hY with ⟨h1, h2⟩ | ⟨h1, h2⟩
      · have h1 : t = 0 := h1
        subst h1
        have hx : (if (0 : Int) = 0 then k1 (0, a, K1) else some (0, 0, K1)) = some x := hx
        rw [if_pos rfl] at hx
        exact g a K1 b M1 h2 (u1 _ hX) (u2 _ hY) x w hx hw
      · have hx : (if t = 0 then k1 (t, a, K1) else some (t, 0, K1)) = some x := hx
        rcases h2 with h2 | ⟨h2, h3⟩
        · have h2 : ¬ t = 0 := h2
          rw [if_neg h2] at hx
          cases hx
          exact hq _ _ h2 (hs _ h1 w hw)
        · have h2 : t = 0 := h2
          subst h2
          rw [if_pos rfl] at hx
          exact hq _ _ (hd a K1 h3 x hx) (hs _ h1 w hw)
def TX (t : Int) (K M : mR) : Prop := XP K M ∧ M.1 64 = -1 ∧ (0 ≤ t ∧ t + 1 = M.1 26) ∧ TBn t K M ∧ TK t K M
def PM (t p q : Int) (M : mR) : Prop := ((p = 1 ∧ ∃ i, 0 ≤ i ∧ i < M.2 51 t ∧ M.2 113 (4 * t + i) = 313) ∨ (p = 0 ∧ ∀ i, 0 ≤ i → i < M.2 51 t → M.2 113 (4 * t + i) ≠ 313)) ∧ ((q = 1 ∧ ∃ i, 0 ≤ i ∧ i < M.2 51 t ∧ M.2 113 (4 * t + i) = 314) ∨ (q = 0 ∧ ∀ i, 0 ≤ i → i < M.2 51 t → M.2 113 (4 * t + i) ≠ 314))
section KEY
variable {K M : mR} {t : Int}
theorem TX_f {F A G C : List Nat} {K' M' : mR} (h : TX t K M) (hL : LR K' M') (hK : fr F A K K') (hM : fr G C M M') (c1 : chk [214, 215, 216, 217, 219, 220, 221, 222, 223] F = true) (c2 : chk [10, 11, 12, 13, 14, 15, 16, 18, 19, 39, 40, 41, 42, 72, 73, 74, 75, 76, 77, 79, 80, 81, 82, 83] A = true) (c3 : chk [6, 13, 19, 20, 21, 22, 23, 24, 25, 26, 28, 64] G = true) (c4 : chk [4, 16, 17, 29, 30, 31, 32, 33, 34, 35, 36, 46, 47, 48, 49, 51, 52, 53, 54, 55, 56, 57, 58, 65, 67, 93, 110, 111, 112, 113, 114] C = true) : TX t K' M' := by
  obtain ⟨h1, h2, h3, h4, h5⟩ := h
  refine ⟨XP_f h1 hL hK hM (chk_s c1 rfl) (chk_s c2 rfl) (chk_s c3 rfl) (chk_s c4 rfl), (fr1 hM 64 (chk_1 c3 (by decide))).trans h2, ?_, fun b b0 b1 => ?_, TK_c h5 (AT_f hK hM (chk_s c2 rfl) (chk_s c4 rfl))⟩
  · rw [fr1 hM 26 (chk_1 c3 (by decide))]; exact h3
  · rw [fr1 hM 25 (chk_1 c3 (by decide))]
    exact TB1_c (h4 b b0 b1) (AT_f hK hM (chk_s c2 rfl) (chk_s c4 rfl))
theorem AT_ne {b : Int} {K' M' : mR} {x72 x79 x80 x81 x82 y51 y52 y110 y111 y112 y113 i : Int} (hb : b ≠ t) (i0 : 0 ≤ i) (i1 : i < 4) (k72 : K'.2 72 = upI (K.2 72) t x72) (k79 : K'.2 79 = upI (K.2 79) (65536 * t + i) x79) (k80 : K'.2 80 = upI (K.2 80) (65536 * t + i) x80) (k81 : K'.2 81 = upI (K.2 81) (65536 * t + i) x81) (k82 : K'.2 82 = upI (K.2 82) (65536 * t + i) x82) (k73 : K'.2 73 = K.2 73) (k74 : K'.2 74 = K.2 74) (k75 : K'.2 75 = K.2 75) (k76 : K'.2 76 = K.2 76) (k77 : K'.2 77 = K.2 77) (k83 : K'.2 83 = K.2 83) (m51 : M'.2 51 = upI (M.2 51) t y51) (m52 : M'.2 52 = upI (M.2 52) t y52) (m110 : M'.2 110 = upI (M.2 110) (4 * t + i) y110) (m111 : M'.2 111 = upI (M.2 111) (4 * t + i) y111) (m112 : M'.2 112 = upI (M.2 112) (4 * t + i) y112) (m113 : M'.2 113 = upI (M.2 113) (4 * t + i) y113) (m53 : M'.2 53 = M.2 53) (m54 : M'.2 54 = M.2 54) (m55 : M'.2 55 = M.2 55) (m56 : M'.2 56 = M.2 56) (m57 : M'.2 57 = M.2 57) (m58 : M'.2 58 = M.2 58) (m114 : M'.2 114 = M.2 114) : AT b K M K' M' := by
  refine ⟨?_, fun j j0 j1 => ?_, ?_, fun j j0 j1 => ?_, fun j j0 j1 => by rw [m114]⟩
  · rw [k72, k73, k74, k75, k76, k77, upI_n hb]
    exact ⟨rfl, rfl, rfl, rfl, rfl, rfl⟩
  · have ne : 65536 * b + j ≠ 65536 * t + i := by omega
    rw [k79, k80, k81, k82, k83, upI_n ne, upI_n ne, upI_n ne, upI_n ne]
    exact ⟨rfl, rfl, rfl, rfl, rfl⟩
  · rw [m51, m52, m53, m54, m55, m56, m57, m58, upI_n hb, upI_n hb]
    exact ⟨rfl, rfl, rfl, rfl, rfl, rfl, rfl, rfl⟩
  · have ne : 4 * b + j ≠ 4 * t + i := by omega
    rw [m110, m111, m112, m113, upI_n ne, upI_n ne, upI_n ne, upI_n ne]
    exact ⟨rfl, rfl, rfl, rfl⟩
def FV3 (v : Sum (Int × Int × mR) (Sum mR (Int × Int × mR))) : Prop := sel (fun s => 0 < s.2.2.1 10) (sel (fun m => 0 < m.1 10) (fun s => 0 < s.2.2.1 10)) v
def KG (t i x : Int) (y : Int × Int × mR) (v : Sum (Int × Int × mR) (Sum mR (Int × Int × mR))) : Prop := (y.1 = 0 ∧ ∃ p' q' M', v = Sum.inl (p', q', M') ∧ TX t y.2.2 M' ∧ M'.2 51 t = i + 1 ∧ PM t p' q' M' ∧ x ≤ M'.1 8) ∨ (y.1 ≠ 0 ∧ FV3 v)
/-- the end of a key's line -/
theorem key217_s {K0 M0 : mR} {i x a w kd p q p' q' r79 : Int} (i0 : 0 ≤ i) (i4 : i < 4) (h0 : TX t K0 M0) (hi : i = M0.2 51 t) (h : XP K M) (h64 : M.1 64 = -1) (m26 : M.1 26 = M0.1 26) (m25 : M.1 25 = M0.1 25) (hx : x ≤ M.1 8) (hw : 1 ≤ w ∧ w ≤ 64) (a0 : 0 ≤ a) (hkd : kd = 312 ∨ kd = 313 ∨ kd = 314) (hpq : PM t p q M0) (hp' : p' = if kd = 313 then 1 else p) (hq' : q' = if kd = 314 then 1 else q) (y110 : r79 = r79) (k72 : K.2 72 = K0.2 72) (k79 : K.2 79 = upI (K0.2 79) (65536 * t + i) r79) (k80 : K.2 80 = upI (K0.2 80) (65536 * t + i) a) (k81 : K.2 81 = K0.2 81) (k82 : K.2 82 = upI (K0.2 82) (65536 * t + i) w) (k73 : K.2 73 = K0.2 73) (k74 : K.2 74 = K0.2 74) (k75 : K.2 75 = K0.2 75) (k76 : K.2 76 = K0.2 76) (k77 : K.2 77 = K0.2 77) (k83 : K.2 83 = K0.2 83) (m51 : M.2 51 = M0.2 51) (m52 : M.2 52 = M0.2 52) (m110 : M.2 110 = upI (M0.2 110) (4 * t + i) r79) (m111 : M.2 111 = upI (M0.2 111) (4 * t + i) (a + 1)) (m112 : M.2 112 = upI (M0.2 112) (4 * t + i) w) (m113 : M.2 113 = upI (M0.2 113) (4 * t + i) kd) (m53 : M.2 53 = M0.2 53) (m54 : M.2 54 = M0.2 54) (m55 : M.2 55 = M0.2 55) (m56 : M.2 56 = M0.2 56) (m57 : M.2 57 = M0.2 57) (m58 : M.2 58 = M0.2 58) (m114 : M.2 114 = M0.2 114) : RR (kfl_rd_keyLine_217 t i kd K) (rfl_takeTable_353 t p' w q' M) (KG t i x) := by
  obtain ⟨b1, b2, b3, b4, b5⟩ := h0
  have t8 := h.2.1.1.2.2.2.2.2.2.2.2.1
  obtain ⟨k1, k2, k3, k4, k5⟩ := b5
  have s64 : sumW (M0.2 112) (4 * t) i.toNat ≤ 64 * i ∧ 0 ≤ sumW (M0.2 112) (4 * t) i.toNat := by
    have : ∀ n : Nat, (n : Int) ≤ i → sumW (M0.2 112) (4 * t) n ≤ 64 * n ∧ 0 ≤ sumW (M0.2 112) (4 * t) n := by
      intro n
      induction n with
      | zero => intro _; exact ⟨(show (0 : Int) ≤ 64 * ((0 : Nat) : Int) by decide), (show (0 : Int) ≤ 0 by decide)⟩
      | succ n ih =>
        intro hn
        have q := ih (by omega)
        have q2 := k4 n (by omega) (by omega)
        unfold sumW
        omega
    have q := this i.toNat (by omega)
    omega
  unfold kfl_rd_keyLine_217 rfl_takeTable_353
  rw [cut_i (z := i + 1) (by omega) (by omega)]
  have hL : LR (mO K [] [(72, upI (K.2 72) t (i + 1)), (81, upI (K.2 81) (65536 * t + i) kd)]) M := h.1
  refine RR_gq (FB := FV3) (G := fun _ K1 _ M1 => LR K1 M1 ∧ fr kF_tx_expect kA_tx_expect (mO K [] [(72, upI (K.2 72) t (i + 1)), (81, upI (K.2 81) (65536 * t + i) kd)]) K1 ∧ fr rF_need rA_need M M1 ∧ M.1 8 + 1 ≤ M1.1 8) (exp_s hL (c := 59) (by omega)) (fun y v hy hv => Or.inr ⟨hy, hv⟩) (fun z hz => ?_) (fun _ K1 _ M1 hG => ?_)
  · unfold rfl_takeTable_360
    exact RP_some hz
  · obtain ⟨g1, g2, g3, g4⟩ := hG
    unfold rfl_takeTable_360
    dsimp only
    have n51 : M1.2 51 = M0.2 51 := (fr2 g3 51 rfl).trans m51
    have n52 : M1.2 52 = M0.2 52 := (fr2 g3 52 rfl).trans m52
    rw [n51, n52, ← hi, cut_i (z := i + 1) (by omega) (by omega), k5, ← hi, cut_i (by omega) (by omega)]
    have eM : ∃ N, N = (mO M1 [] [(51, upI (M0.2 51) t (i + 1)), (52, upI (M0.2 52) t (sumW (M0.2 112) (4 * t) i.toNat + w))]) := ⟨_, rfl⟩
    obtain ⟨N, eM⟩ := eM
    rw [← eM]
    have fN : fr [] [51, 52] M1 N := by rw [eM]; exact fr_m fr_0 rfl rfl
    have N51 : N.2 51 = upI (M0.2 51) t (i + 1) := by rw [eM]; rfl
    have N52 : N.2 52 = upI (M0.2 52) t (sumW (M0.2 112) (4 * t) i.toNat + w) := by rw [eM]; rfl
    clear eM
    have fK : fr kF_tx_expect [72, 81] K K1 := fr_s g2 (fr_m fr_0 rfl rfl) rfl rfl
    have fM : fr rF_need [51, 52] M N := fr_s fN (fr_s g3 fr_0 rfl rfl) rfl rfl
    have l72 : K1.2 72 = upI (K0.2 72) t (i + 1) := by
      have q : K1.2 72 = upI (K.2 72) t (i + 1) := fr2 g2 72 rfl
      rw [q, k72]
    have l81 : K1.2 81 = upI (K0.2 81) (65536 * t + i) kd := by
      have q : K1.2 81 = upI (K.2 81) (65536 * t + i) kd := fr2 g2 81 rfl
      rw [q, k81]
    have l79 := (fr2 fK 79 rfl).trans k79
    have l80 := (fr2 fK 80 rfl).trans k80
    have l82 := (fr2 fK 82 rfl).trans k82
    have o110 := (fr2 fM 110 rfl).trans m110
    have o111 := (fr2 fM 111 rfl).trans m111
    have o112 := (fr2 fM 112 rfl).trans m112
    have o113 := (fr2 fM 113 rfl).trans m113
    have hLN : LR K1 N := LR_g g1 (F := []) (A := []) fr_0 fN rfl rfl rfl rfl g1.2.2.2.1 ((fr1 fN 10 rfl).trans g1.2.2.2.2)
    refine RR_some (Or.inl ⟨rfl, p', q', N, rfl, ⟨XP_f h hLN fK fM rfl rfl rfl rfl, (fr1 fM 64 rfl).trans h64, ?_, fun b b0 b1' => ?_, ?_⟩, ?_, ?_, ?_⟩)
    · rw [fr1 fM 26 rfl, m26]; exact b3
    · rw [fr1 fM 25 rfl, m25]
      exact TB1_c (b4 b b0 b1') (AT_ne (t := t) (by omega) i0 i4 l72 l79 l80 l81 l82 ((fr2 fK 73 rfl).trans k73) ((fr2 fK 74 rfl).trans k74) ((fr2 fK 75 rfl).trans k75) ((fr2 fK 76 rfl).trans k76) ((fr2 fK 77 rfl).trans k77) ((fr2 fK 83 rfl).trans k83) N51 N52 o110 o111 o112 o113 ((fr2 fM 53 rfl).trans m53) ((fr2 fM 54 rfl).trans m54) ((fr2 fM 55 rfl).trans m55) ((fr2 fM 56 rfl).trans m56) ((fr2 fM 57 rfl).trans m57) ((fr2 fM 58 rfl).trans m58) ((fr2 fM 114 rfl).trans m114))
    · unfold TK
      rw [l72, N51, N52, l79, l80, l81, l82, o110, o111, o112, o113, upI_s, upI_s, upI_s]
      refine ⟨rfl, by omega, by omega, fun j j0 j1 => ?_, ?_⟩
      · by_cases e : j = i
        · subst e
          rw [upI_s, upI_s, upI_s, upI_s, upI_s, upI_s, upI_s, upI_s]
          exact ⟨rfl, a0, rfl, rfl, hw.1, hw.2, rfl, hkd⟩
        · have ne : 65536 * t + j ≠ 65536 * t + i := by omega
          have ne2 : 4 * t + j ≠ 4 * t + i := by omega
          rw [upI_n ne, upI_n ne, upI_n ne, upI_n ne, upI_n ne2, upI_n ne2, upI_n ne2, upI_n ne2]
          exact k4 j j0 (by omega)
      · rw [show (i + 1).toNat = i.toNat + 1 by omega]
        show _ = sumW (upI (M0.2 112) (4 * t + i) w) (4 * t) i.toNat + upI (M0.2 112) (4 * t + i) w (4 * t + ((i.toNat : Nat) : Int))
        rw [show ((i.toNat : Nat) : Int) = i by omega, upI_s]
        congr 1
        exact sumW_c (fun j hj => (upI_n (by omega)).symm)
    · rw [N51, upI_s]
    · unfold PM
      rw [N51, o113, upI_s]
      have old : ∀ j, j ≠ i → upI (M0.2 113) (4 * t + i) kd (4 * t + j) = M0.2 113 (4 * t + j) := fun j hj => upI_n (by omega)
      have new : upI (M0.2 113) (4 * t + i) kd (4 * t + i) = kd := upI_s
      have gen : ∀ (c s s' : Int), s' = (if kd = c then 1 else s) → ((s = 1 ∧ ∃ j, 0 ≤ j ∧ j < M0.2 51 t ∧ M0.2 113 (4 * t + j) = c) ∨ (s = 0 ∧ ∀ j, 0 ≤ j → j < M0.2 51 t → M0.2 113 (4 * t + j) ≠ c)) → ((s' = 1 ∧ ∃ j, 0 ≤ j ∧ j < i + 1 ∧ upI (M0.2 113) (4 * t + i) kd (4 * t + j) = c) ∨ (s' = 0 ∧ ∀ j, 0 ≤ j → j < i + 1 → upI (M0.2 113) (4 * t + i) kd (4 * t + j) ≠ c)) := by
        intro c s s' hs' hs
        by_cases e : kd = c
        · rw [if_pos e] at hs'
          exact Or.inl ⟨hs', i, i0, by omega, by rw [new]; exact e⟩
        · rw [if_neg e] at hs'
          rcases hs with ⟨h1, j, j0, j1, j2⟩ | ⟨h1, h2⟩
          · exact Or.inl ⟨by omega, j, j0, by omega, by rw [old j (by omega)]; exact j2⟩
          · refine Or.inr ⟨by omega, fun j j0 j1 => ?_⟩
            by_cases ej : j = i
            · rw [ej, new]; exact e
            · rw [old j ej]
              exact h2 j j0 (by omega)
      exact ⟨gen 313 p p' hp' hpq.1, gen 314 q q' hq' hpq.2⟩
    · show x ≤ N.1 8
      rw [fr1 fN 8 rfl]
      omega
end KEY
