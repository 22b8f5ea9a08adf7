def chk (l F : List Nat) : Bool := l.all (nin F)
theorem chk_1 {l F : List Nat} (h : chk l F = true) {k : Nat} (hk : k ∈ l) : nin F k = true := List.all_eq_true.mp h k hk
def sumW (f : Int → Int) (b : Int) (n : Nat) : Int := match n with
  | 0 => 0
  | n + 1 => sumW f b n + f (b + n)
def GV (G : Int → mR → Int → mR → Prop) (y : Int × Int × mR) (z : Int × mR) : Prop := (y.1 = 0 ∧ G y.2.1 y.2.2 z.1 z.2) ∨ (y.1 ≠ 0 ∧ 0 < z.2.1 10)
theorem LV_G {V : Int → Int → Prop} {X : Option (Int × Int × mR)} {Y : Option (Int × mR)} (h : RR X Y (LVq V)) : RR X Y (GV (fun a K b M => V a b ∧ LR K M)) := h
theorem RR_sq {X : Option (Int × Int × mR)} {Y : Option (Int × mR)} {G G' : Int → mR → Int → mR → Prop} {A B : mR → Prop} {k1 : Int × Int × mR → Option (Int × Int × mR)} {l : Int × mR → Option (Int × mR)} (h : RR X Y (GV G)) (u1 : RP X (fun y => A y.2.2)) (u2 : RP Y (fun z => B z.2)) (hs : ∀ z : Int × mR, 0 < z.2.1 10 → RP (l z) (fun w => 0 < w.2.1 10)) (g : ∀ a K1 b M1, G a K1 b M1 → A K1 → B M1 → RR (k1 (0, a, K1)) (l (b, M1)) (GV G')) : RR (bnd X fun y => if y.1 = 0 then k1 y else some (y.1, 0, y.2.2)) (bnd Y l) (GV G') := by
  intro x w hx hw
  cases hX : X with
  | none => rw [hX] at hx; cases hx
  | some y =>
    cases hY : Y with
    | none => rw [hY] at hw; cases hw
    | some z =>
      rw [hX, bnd_some] at hx
      rw [hY, bnd_some] at hw
      obtain ⟨t, a, K1⟩ := y
      obtain ⟨b, M1⟩ := z
      rcases h _ _ hX hY with ⟨h1, h2⟩ | ⟨h1, h2⟩
      · have h1 : t = 0 := h1
        subst h1
        have hx : (if (0 : Int) = 0 then k1 (0, a, K1) else some (0, 0, K1)) = some x := hx
        rw [if_pos rfl] at hx
        exact g a K1 b M1 h2 (u1 _ hX) (u2 _ hY) x w hx hw
      · have hx : (if t = 0 then k1 (t, a, K1) else some (t, 0, K1)) = some x := hx
        rw [if_neg h1] at hx
        cases hx
        exact Or.inr ⟨h1, hs _ h2 w hw⟩
/-- the class goes on alone -/
theorem RR_kf {X : Option (Int × mR)} {Y : Option (Int × mR)} {G' : Int → mR → Int → mR → Prop} {A : Int × mR → Prop} {k1 : Int × mR → Option (Int × Int × mR)} (u1 : RP X A) (g : ∀ y, A y → RR (k1 y) Y (GV G')) : RR (bnd X k1) Y (GV G') := RR_l u1 g
def CNx (k214 : Int) (k215 : Int) (k216 : Int) (k217 : Int) (k219 : Int) (k221 : Int) (k222 : Int) (k223 : Int) (m13 : Int) (m19 : Int) (m20 : Int) (m21 : Int) (m22 : Int) (m23 : Int) (m24 : Int) (m25 : Int) (m26 : Int) : Prop := (k214 = m19 ∧ k215 = m20 ∧ k216 = m21 ∧ k217 = m22 ∧ k219 = m26 ∧ k221 = m23 ∧ k222 = m24 ∧ k223 = m25) ∧ (0 ≤ m19 ∧ m19 ≤ 12) ∧ (0 ≤ m20 ∧ m20 ≤ 12) ∧ (3 ≤ m21 ∧ m21 ≤ 16) ∧ (0 ≤ m22 ∧ m22 ≤ 8) ∧ (0 ≤ m23 ∧ m23 ≤ 16) ∧ (0 ≤ m24 ∧ m24 ≤ m23) ∧ (0 ≤ m25 ∧ m25 ≤ 16) ∧ (0 ≤ m26 ∧ m26 ≤ 8) ∧ m13 = m19 + m20 + (m21 - 3) + m22 + m23 + m25 + m26
def CNq (K M : mR) : Prop := CNx (K.1 214) (K.1 215) (K.1 216) (K.1 217) (K.1 219) (K.1 221) (K.1 222) (K.1 223) (M.1 13) (M.1 19) (M.1 20) (M.1 21) (M.1 22) (M.1 23) (M.1 24) (M.1 25) (M.1 26)
theorem CN_f {F A G B : List Nat} {K M K' M' : mR} (hK : fr F A K K') (hM : fr G B M M') (c1 : chk [214, 215, 216, 217, 219, 221, 222, 223] F = true) (c2 : chk [] A = true) (c3 : chk [13, 19, 20, 21, 22, 23, 24, 25, 26] G = true) (c4 : chk [] B = true) (h : CNq K M) : CNq K' M' := by
  unfold CNq
  rw [fr1 hK 214 (chk_1 c1 (by decide)), fr1 hK 215 (chk_1 c1 (by decide)), fr1 hK 216 (chk_1 c1 (by decide)), fr1 hK 217 (chk_1 c1 (by decide)), fr1 hK 219 (chk_1 c1 (by decide)), fr1 hK 221 (chk_1 c1 (by decide)), fr1 hK 222 (chk_1 c1 (by decide)), fr1 hK 223 (chk_1 c1 (by decide)), fr1 hM 13 (chk_1 c3 (by decide)), fr1 hM 19 (chk_1 c3 (by decide)), fr1 hM 20 (chk_1 c3 (by decide)), fr1 hM 21 (chk_1 c3 (by decide)), fr1 hM 22 (chk_1 c3 (by decide)), fr1 hM 23 (chk_1 c3 (by decide)), fr1 hM 24 (chk_1 c3 (by decide)), fr1 hM 25 (chk_1 c3 (by decide)), fr1 hM 26 (chk_1 c3 (by decide))]
  exact h
def NCx (m13 : Int) (m19 : Int) (m20 : Int) (m21 : Int) (m22 : Int) (m23 : Int) (m25 : Int) (m26 : Int) (M16 : Int → Int) (M17 : Int → Int) : Prop := ∀ k, 0 ≤ k → k < m13 → (M16 k = 1 → M17 k < m19) ∧ (M16 k = 2 → M17 k < m20) ∧ (M16 k = 3 → 3 ≤ M17 k ∧ M17 k < m21) ∧ (M16 k = 4 → M17 k < m22) ∧ (M16 k = 5 → M17 k < m23) ∧ (M16 k = 6 → M17 k < m25) ∧ (M16 k = 7 → M17 k < m26)
def NC (K M : mR) : Prop := NCx (M.1 13) (M.1 19) (M.1 20) (M.1 21) (M.1 22) (M.1 23) (M.1 25) (M.1 26) (M.2 16) (M.2 17)
theorem NC_f {F A G B : List Nat} {K M K' M' : mR} (hK : fr F A K K') (hM : fr G B M M') (c1 : chk [] F = true) (c2 : chk [] A = true) (c3 : chk [13, 19, 20, 21, 22, 23, 25, 26] G = true) (c4 : chk [16, 17] B = true) (h : NC K M) : NC K' M' := by
  unfold NC
  rw [fr1 hM 13 (chk_1 c3 (by decide)), fr1 hM 19 (chk_1 c3 (by decide)), fr1 hM 20 (chk_1 c3 (by decide)), fr1 hM 21 (chk_1 c3 (by decide)), fr1 hM 22 (chk_1 c3 (by decide)), fr1 hM 23 (chk_1 c3 (by decide)), fr1 hM 25 (chk_1 c3 (by decide)), fr1 hM 26 (chk_1 c3 (by decide)), fr2 hM 16 (chk_1 c4 (by decide)), fr2 hM 17 (chk_1 c4 (by decide))]
  exact h
def HDx (K10 : Int → Int) (K11 : Int → Int) (K12 : Int → Int) (m6 : Int) (m19 : Int) (M4 : Int → Int) (M29 : Int → Int) (M30 : Int → Int) (M31 : Int → Int) (M32 : Int → Int) (M33 : Int → Int) : Prop := (∀ h, 0 ≤ h → h < m19 → 0 ≤ M29 h ∧ M29 h ≤ 16 ∧ (M30 h = sumW K10 (16 * h) 16 ∧ 0 ≤ M30 h ∧ M30 h ≤ 64 * M29 h) ∧ (∀ i, 0 ≤ i → i < M29 h → K10 (16 * h + i) = M33 (16 * h + i) ∧ 1 ≤ M33 (16 * h + i) ∧ M33 (16 * h + i) ≤ 64 ∧ 0 ≤ M31 (16 * h + i) ∧ 1 ≤ M32 (16 * h + i) ∧ M32 (16 * h + i) ≤ 16 ∧ M31 (16 * h + i) + M32 (16 * h + i) ≤ m6 ∧ (∀ j, 0 ≤ j → j < M32 (16 * h + i) → namP (M4 (M31 (16 * h + i) + j))) ∧ PK (K11 (16 * h + i)) (K12 (16 * h + i)) (fun j => M4 (M31 (16 * h + i) + j)) (M32 (16 * h + i)) ∧ R64 (K11 (16 * h + i)) ∧ R64 (K12 (16 * h + i))) ∧ ∀ i, M29 h ≤ i → i < 16 → K10 (16 * h + i) = 0) ∧ ∀ r, 16 * m19 ≤ r → r < 192 → K10 r = 0
def HD (K M : mR) : Prop := HDx (K.2 10) (K.2 11) (K.2 12) (M.1 6) (M.1 19) (M.2 4) (M.2 29) (M.2 30) (M.2 31) (M.2 32) (M.2 33)
theorem HD_f {F A G B : List Nat} {K M K' M' : mR} (hK : fr F A K K') (hM : fr G B M M') (c1 : chk [] F = true) (c2 : chk [10, 11, 12] A = true) (c3 : chk [6, 19] G = true) (c4 : chk [4, 29, 30, 31, 32, 33] B = true) (h : HD K M) : HD K' M' := by
  unfold HD
  rw [fr2 hK 10 (chk_1 c2 (by decide)), fr2 hK 11 (chk_1 c2 (by decide)), fr2 hK 12 (chk_1 c2 (by decide)), fr1 hM 6 (chk_1 c3 (by decide)), fr1 hM 19 (chk_1 c3 (by decide)), fr2 hM 4 (chk_1 c4 (by decide)), fr2 hM 29 (chk_1 c4 (by decide)), fr2 hM 30 (chk_1 c4 (by decide)), fr2 hM 31 (chk_1 c4 (by decide)), fr2 hM 32 (chk_1 c4 (by decide)), fr2 hM 33 (chk_1 c4 (by decide))]
  exact h
def INx (K13 : Int → Int) (m19 : Int) (m20 : Int) (M34 : Int → Int) : Prop := ∀ i, 0 ≤ i → i < m20 → K13 i = M34 i ∧ 0 ≤ M34 i ∧ M34 i < m19
def IN (K M : mR) : Prop := INx (K.2 13) (M.1 19) (M.1 20) (M.2 34)
theorem IN_f {F A G B : List Nat} {K M K' M' : mR} (hK : fr F A K K') (hM : fr G B M M') (c1 : chk [] F = true) (c2 : chk [13] A = true) (c3 : chk [19, 20] G = true) (c4 : chk [34] B = true) (h : IN K M) : IN K' M' := by
  unfold IN
  rw [fr2 hK 13 (chk_1 c2 (by decide)), fr1 hM 19 (chk_1 c3 (by decide)), fr1 hM 20 (chk_1 c3 (by decide)), fr2 hM 34 (chk_1 c4 (by decide))]
  exact h
def MEx (K14 : Int → Int) (m21 : Int) (M35 : Int → Int) : Prop := (∀ i, 0 ≤ i → i < m21 → K14 i = M35 i ∧ 1 ≤ M35 i ∧ M35 i ≤ 64) ∧ ∀ i, 0 ≤ i → i < 3 → M35 i = 16
def ME (K M : mR) : Prop := MEx (K.2 14) (M.1 21) (M.2 35)
theorem ME_f {F A G B : List Nat} {K M K' M' : mR} (hK : fr F A K K') (hM : fr G B M M') (c1 : chk [] F = true) (c2 : chk [14] A = true) (c3 : chk [21] G = true) (c4 : chk [35] B = true) (h : ME K M) : ME K' M' := by
  unfold ME
  rw [fr2 hK 14 (chk_1 c2 (by decide)), fr1 hM 21 (chk_1 c3 (by decide)), fr2 hM 35 (chk_1 c4 (by decide))]
  exact h
def ARx (K15 : Int → Int) (K16 : Int → Int) (m22 : Int) (M36 : Int → Int) (M93 : Int → Int) : Prop := ∀ i, 0 ≤ i → i < m22 → K15 i = M36 i ∧ 1 ≤ M36 i ∧ M36 i ≤ 64 ∧ K16 i = M93 i ∧ 1 ≤ M93 i ∧ M93 i ≤ 64
def AR (K M : mR) : Prop := ARx (K.2 15) (K.2 16) (M.1 22) (M.2 36) (M.2 93)
theorem AR_f {F A G B : List Nat} {K M K' M' : mR} (hK : fr F A K K') (hM : fr G B M M') (c1 : chk [] F = true) (c2 : chk [15, 16] A = true) (c3 : chk [22] G = true) (c4 : chk [36, 93] B = true) (h : AR K M) : AR K' M' := by
  unfold AR
  rw [fr2 hK 15 (chk_1 c2 (by decide)), fr2 hK 16 (chk_1 c2 (by decide)), fr1 hM 22 (chk_1 c3 (by decide)), fr2 hM 36 (chk_1 c4 (by decide)), fr2 hM 93 (chk_1 c4 (by decide))]
  exact h
