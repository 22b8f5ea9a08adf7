

def sbt (c : Int) : Int := if c < 128 then c else c - 256

def btv (c k : Int) : Int := and32 (shr32 c k) 1
theorem btv_f : ∀ c : Fin 256, ∀ k : Fin 8, and32 (ushr32 (sbt ((c.val : Nat) : Int)) ((k.val : Nat) : Int)) 1 = btv ((c.val : Nat) : Int) ((k.val : Nat) : Int) ∧ (btv ((c.val : Nat) : Int) ((k.val : Nat) : Int) = 0 ∨ btv ((c.val : Nat) : Int) ((k.val : Nat) : Int) = 1) := by decide +kernel
theorem btv_k {c k : Int} (c0 : 0 ≤ c) (c1 : c ≤ 255) (k0 : 0 ≤ k) (k1 : k ≤ 7) : and32 (ushr32 (sbt c) k) 1 = btv c k ∧ (btv c k = 0 ∨ btv c k = 1) := by
  have h := btv_f ⟨c.toNat, by omega⟩ ⟨k.toNat, by omega⟩
  dsimp only at h
  rw [show ((c.toNat : Nat) : Int) = c by omega, show ((k.toNat : Nat) : Int) = k by omega] at h
  exact h

def fvv (u : Int → Int) (b : Int) : Nat → Int
  | 0 => 0
  | n + 1 => or64 (shl64 (fvv u b n) 1) (btv (u ((b + n) / 8)) (7 - (b + n) % 8))
theorem fvv_w {u : Int → Int} {b : Int} (b0 : 0 ≤ b) : ∀ n : Nat, n ≤ 64 → (∀ i, 0 ≤ i → 8 * i < b + (n : Int) → 0 ≤ u i ∧ u i ≤ 255) → VW (fvv u b n) n := by
  intro n
  induction n with
  | zero => intro _ _; exact ⟨l64 0 rfl, fun i _ => bt_01.1 i⟩
  | succ n ih =>
    intro hn hu
    have h := ih (by omega) (fun i i0 i1 => hu i i0 (by omega))
    have q := hu ((b + n) / 8) (by omega) (by omega)
    have v := VW_join (b := 1) h (VW_01 (btv_k q.1 q.2 (k := 7 - (b + n) % 8) (by omega) (by omega)).2) (by decide) (by decide) (by omega)
    show VW (or64 (shl64 (fvv u b n) 1) (btv (u ((b + n) / 8)) (7 - (b + n) % 8))) ((n + 1 : Nat) : Int)
    rw [show ((n + 1 : Nat) : Int) = (n : Int) + 1 by omega]
    exact v
theorem sumW_p {f : Int → Int} {b : Int} {N : Nat} (h : ∀ i : Nat, i < N → 0 ≤ f (b + i)) : ∀ n, n ≤ N → 0 ≤ sumW f b n := by
  intro n
  induction n with
  | zero => intro _; exact Int.le_refl _
  | succ n ih =>
    intro hn
    have a := ih (by omega)
    have c := h n (by omega)
    show 0 ≤ sumW f b n + f (b + n)
    omega
theorem sumW_o {f : Int → Int} {b : Int} {N : Nat} (h : ∀ i : Nat, i < N → 0 ≤ f (b + i)) {n : Nat} : ∀ d, n + d ≤ N → sumW f b n ≤ sumW f b (n + d) := by
  intro d
  induction d with
  | zero => intro _; exact Int.le_refl _
  | succ d ih =>
    intro hn
    have a := ih (by omega)
    have c := h (n + d) (by omega)
    show sumW f b n ≤ sumW f b (n + d) + f (b + ((n + d : Nat) : Int))
    omega
section EN1
variable {K M : mR} {r : Int} {u : Int → Int}

def BYr (r len : Int) (u : Int → Int) (K : mR) : Prop := ∀ i, 0 ≤ i → i < len → K.2 100 (65536 * r + i) = sbt (u i) ∧ 0 ≤ u i ∧ u i ≤ 255
theorem bits_k {v2 v3 v4 v6 w b len : Int} (hb : BYr r len u K) (l : len ≤ 128) (b0 : 0 ≤ b) (w0 : 0 ≤ w) (w1 : w ≤ 64) (bw : b + w ≤ 8 * len) : RP (whl (kfb_op_extract_88 r v2 v3 v4 v6 w K) (b, 0, 0)) (fun e => e.1 = b + w ∧ e.2 = fvv u b w.toNat) := by
  refine RP_whl (I := fun s : Int × Int × Int => (0 ≤ s.2.2 ∧ s.2.2 ≤ w) ∧ s.1 = b + s.2.2 ∧ s.2.1 = fvv u b s.2.2.toNat) (fun s hs => ?_) ⟨⟨Int.le_refl _, w0⟩, by show b = b + 0; omega, rfl⟩
  obtain ⟨p, v, i⟩ := s
  obtain ⟨⟨i0, i1⟩, hp, hv⟩ := hs
  have i0 : 0 ≤ i := i0
  have i1 : i ≤ w := i1
  have hp : p = b + i := hp
  have hv : v = fvv u b i.toNat := hv
  unfold kfb_op_extract_88
  show RP (if w ≤ i then some (Sum.inr (p, v)) else _) _
  refine RP_ite (fun g => RP_some ⟨?_, ?_⟩) (fun g => ?_)
  · show p = b + w
    omega
  · show v = fvv u b w.toNat
    rw [hv, show i = w by omega]
  · show RP (some (Sum.inl (cut (p + 1), or64 (shl64 v 1) (and32 (ushr32 (K.2 100 (65536 * r + p.tdiv 8)) (cut (7 - p.tmod 8))) 1), cut (i + 1)))) _
    have d : p.tdiv 8 = p / 8 := Int.tdiv_eq_ediv_of_nonneg (by omega)
    have m : p.tmod 8 = p % 8 := Int.tmod_eq_emod_of_nonneg (by omega)
    obtain ⟨q1, q2, q3⟩ := hb (p / 8) (by omega) (by omega)
    rw [d, m, q1, cut_i (z := 7 - p % 8) (by omega) (by omega), (btv_k q2 q3 (by omega) (by omega)).1, cut_i (z := p + 1) (by omega) (by omega), cut_i (z := i + 1) (by omega) (by omega)]
    refine RP_some ⟨⟨show 0 ≤ i + 1 by omega, show i + 1 ≤ w by omega⟩, show p + 1 = b + (i + 1) by omega, ?_⟩
    show or64 (shl64 v 1) (btv (u (p / 8)) (7 - p % 8)) = fvv u b (i + 1).toNat
    rw [show (i + 1).toNat = i.toNat + 1 by omega, hv, hp]
    show _ = or64 (shl64 (fvv u b i.toNat) 1) (btv (u ((b + (i.toNat : Int)) / 8)) (7 - (b + (i.toNat : Int)) % 8))
    rw [show b + (i.toNat : Int) = b + i by omega]
theorem bits_r {v1 v2 v4 w b len : Int} (hw : M.2 33 (cut (cut (16 * v2) + v4)) = w) (hb : ∀ i, 0 ≤ i → i < len → 0 ≤ M.2 159 i ∧ M.2 159 i ≤ 255) (l : len ≤ 128) (b0 : 0 ≤ b) (w0 : 0 ≤ w) (w1 : w ≤ 64) (bw : b + w ≤ 8 * len) : RP (whl (rfb_extract_72 v1 v2 v4 M) (b, 0, 0)) (fun e => e.1 = b + w ∧ e.2 = fvv (M.2 159) b w.toNat) := by
  refine RP_whl (I := fun s : Int × Int × Int => (0 ≤ s.2.2 ∧ s.2.2 ≤ w) ∧ s.1 = b + s.2.2 ∧ s.2.1 = fvv (M.2 159) b s.2.2.toNat) (fun s hs => ?_) ⟨⟨Int.le_refl _, w0⟩, by show b = b + 0; omega, rfl⟩
  obtain ⟨p, v, i⟩ := s
  obtain ⟨⟨i0, i1⟩, hp, hv⟩ := hs
  have i0 : 0 ≤ i := i0
  have i1 : i ≤ w := i1
  have hp : p = b + i := hp
  have hv : v = fvv (M.2 159) b i.toNat := hv
  unfold rfb_extract_72
  rw [hw]
  show RP (if w ≤ i then some (Sum.inr (p, v)) else _) _
  refine RP_ite (fun g => RP_some ⟨?_, ?_⟩) (fun g => ?_)
  · show p = b + w
    omega
  · show v = fvv (M.2 159) b w.toNat
    rw [hv, show i = w by omega]
  · show RP (some (Sum.inl (cut (p + 1), or64 (shl64 v 1) (and32 (shr32 (M.2 159 (p.tdiv 8)) (cut (7 - p.tmod 8))) 1), cut (i + 1)))) _
    have d : p.tdiv 8 = p / 8 := Int.tdiv_eq_ediv_of_nonneg (by omega)
    have m : p.tmod 8 = p % 8 := Int.tmod_eq_emod_of_nonneg (by omega)
    rw [d, m, cut_i (z := 7 - p % 8) (by omega) (by omega), cut_i (z := p + 1) (by omega) (by omega), cut_i (z := i + 1) (by omega) (by omega)]
    refine RP_some ⟨⟨show 0 ≤ i + 1 by omega, show i + 1 ≤ w by omega⟩, show p + 1 = b + (i + 1) by omega, ?_⟩
    show or64 (shl64 v 1) (btv (M.2 159 (p / 8)) (7 - p % 8)) = fvv (M.2 159) b (i + 1).toNat
    rw [show (i + 1).toNat = i.toNat + 1 by omega, hv, hp]
    show _ = or64 (shl64 (fvv (M.2 159) b i.toNat) 1) (btv (M.2 159 ((b + (i.toNat : Int)) / 8)) (7 - (b + (i.toNat : Int)) % 8))
    rw [show b + (i.toNat : Int) = b + i by omega]
theorem wid_v {i f : Int} (h : f < 16) : kf_pr_widthOfField i f K = some (K.2 10 (cut (cut (K.2 13 i * 16) + f))) := by
  unfold kf_pr_widthOfField kfl_pr_widthOfField_26
  rw [if_neg (by omega)]

theorem fields_k {i h b len v4 : Int} (i0 : 0 ≤ i) (i1 : i < 12) (eh : K.2 13 i = h) (h0 : 0 ≤ h) (h1 : h < 12) (hw : ∀ f, 0 ≤ f → f < 16 → 0 ≤ K.2 10 (16 * h + f) ∧ K.2 10 (16 * h + f) ≤ 64) (hb : BYr r len u K) (l : len ≤ 128) (b0 : 0 ≤ b) (bs : b + sumW (K.2 10) (16 * h) 16 ≤ 8 * len) : RP (whl (kfb_op_extract_66 r i (17 * i) v4) (b, 0, K)) (fun e => fr [] [101] K e ∧ ∀ j, e.2 101 j = if 65536 * r + 17 * i + 1 ≤ j ∧ j < 65536 * r + 17 * i + 17 then fvv u (b + sumW (K.2 10) (16 * h) (j - (65536 * r + 17 * i + 1)).toNat) (K.2 10 (16 * h + (j - (65536 * r + 17 * i + 1)))).toNat else K.2 101 j) := by
  have hp : ∀ n : Nat, n < 16 → 0 ≤ K.2 10 (16 * h + n) := fun n hn => (hw n (by omega) (by omega)).1
  refine RP_whl (I := fun s : Int × Int × mR => (0 ≤ s.2.1 ∧ s.2.1 ≤ 16) ∧ s.1 = b + sumW (K.2 10) (16 * h) s.2.1.toNat ∧ fr [] [101] K s.2.2 ∧ ∀ j, s.2.2.2 101 j = if 65536 * r + 17 * i + 1 ≤ j ∧ j < 65536 * r + 17 * i + 1 + s.2.1 then fvv u (b + sumW (K.2 10) (16 * h) (j - (65536 * r + 17 * i + 1)).toNat) (K.2 10 (16 * h + (j - (65536 * r + 17 * i + 1)))).toNat else K.2 101 j) (fun s hs => ?_) ⟨⟨Int.le_refl _, (by decide : (0 : Int) ≤ 16)⟩, by show b = b + 0; omega, fr_0, fun j => by rw [if_neg (by have z : ((b, 0, K) : Int × Int × mR).2.1 = 0 := rfl; omega)]⟩
  obtain ⟨p, f, Kc⟩ := s
  obtain ⟨⟨f0, f1⟩, ep, fK, hs⟩ := hs
  have f0 : 0 ≤ f := f0
  have f1 : f ≤ 16 := f1
  have ep : p = b + sumW (K.2 10) (16 * h) f.toNat := ep
  have fK : fr [] [101] K Kc := fK
  have hs : ∀ j, Kc.2 101 j = if 65536 * r + 17 * i + 1 ≤ j ∧ j < 65536 * r + 17 * i + 1 + f then fvv u (b + sumW (K.2 10) (16 * h) (j - (65536 * r + 17 * i + 1)).toNat) (K.2 10 (16 * h + (j - (65536 * r + 17 * i + 1)))).toNat else K.2 101 j := hs
  unfold kfb_op_extract_66
  show RP (if (16 : Int) ≤ f then some (Sum.inr Kc) else _) _
  refine RP_ite (fun g => RP_some ⟨fK, fun j => ?_⟩) (fun g => ?_)
  · rw [hs j, show 65536 * r + 17 * i + 1 + f = 65536 * r + 17 * i + 17 by omega]
  · show RP (bnd (kf_pr_widthOfField i f Kc) fun y9 => bnd (whl (kfb_op_extract_88 r i (17 * i) v4 f y9 Kc) (p, 0, 0)) (fun e12 : Int × Int => kfl_op_extract_133 r i (17 * i) v4 e12.1 f e12.2 Kc)) _
    rw [wid_v (by omega), bnd_some, show Kc.2 13 = K.2 13 from fr2 fK 13 rfl, show Kc.2 10 = K.2 10 from fr2 fK 10 rfl, eh, cut_i (z := h * 16) (by omega) (by omega), cut_i (z := h * 16 + f) (by omega) (by omega), show h * 16 + f = 16 * h + f by omega]
    obtain ⟨w0, w1⟩ := hw f f0 (by omega)
    have s0 := sumW_p hp f.toNat (by omega)
    have s1 := sumW_o hp (n := f.toNat + 1) (16 - (f.toNat + 1)) (by omega)
    rw [show f.toNat + 1 + (16 - (f.toNat + 1)) = 16 by omega] at s1
    have s2 : sumW (K.2 10) (16 * h) (f.toNat + 1) = sumW (K.2 10) (16 * h) f.toNat + K.2 10 (16 * h + f) := by
      show sumW (K.2 10) (16 * h) f.toNat + K.2 10 (16 * h + (f.toNat : Int)) = _
      rw [show (f.toNat : Int) = f by omega]
    refine RP_bnd (bits_k (K := Kc) (r := r) (u := u) (len := len) (fun q q0 q1 => by rw [show Kc.2 100 = K.2 100 from fr2 fK 100 rfl]; exact hb q q0 q1) l (show 0 ≤ p by omega) w0 w1 (by omega)) (fun e he => ?_)
    obtain ⟨e1, e2⟩ := he
    unfold kfl_op_extract_133
    rw [cut_i (z := f + 1) (by omega) (by omega), cut_i (z := 17 * i + 1) (by omega) (by omega), cut_i (z := 17 * i + 1 + f) (by omega) (by omega)]
    refine RP_some ⟨⟨show 0 ≤ f + 1 by omega, show f + 1 ≤ 16 by omega⟩, ?_, fr_m fK rfl rfl, fun j => ?_⟩
    · show e.1 = b + sumW (K.2 10) (16 * h) (f + 1).toNat
      rw [show (f + 1).toNat = f.toNat + 1 by omega, s2]
      omega
    · show upI (Kc.2 101) (65536 * r + (17 * i + 1 + f)) e.2 j = if 65536 * r + 17 * i + 1 ≤ j ∧ j < 65536 * r + 17 * i + 1 + (f + 1) then _ else _
      by_cases ej : j = 65536 * r + (17 * i + 1 + f)
      · rw [ej, upI_s, if_pos (by omega), e2, show 65536 * r + (17 * i + 1 + f) - (65536 * r + 17 * i + 1) = f by omega, ← ep]
      · rw [upI_n ej, hs j]
        by_cases q : 65536 * r + 17 * i + 1 ≤ j ∧ j < 65536 * r + 17 * i + 1 + f
        · rw [if_pos q, if_pos (by omega)]
        · rw [if_neg q, if_neg (by omega)]

theorem fields_r {i h b len : Int} {W : Int → Int} (i0 : 0 ≤ i) (i1 : i < 12) (h0 : 0 ≤ h) (h1 : h < 12) (n0 : 0 ≤ M.2 29 h) (n1 : M.2 29 h ≤ 16) (hW : ∀ f, 0 ≤ f → f < M.2 29 h → W (16 * h + f) = M.2 33 (16 * h + f)) (hw : ∀ f, 0 ≤ f → f < 16 → 0 ≤ W (16 * h + f) ∧ W (16 * h + f) ≤ 64) (hb : ∀ i, 0 ≤ i → i < len → 0 ≤ M.2 159 i ∧ M.2 159 i ≤ 255) (l : len ≤ 128) (b0 : 0 ≤ b) (bs : b + sumW W (16 * h) 16 ≤ 8 * len) : RP (whl (rfb_extract_55 i h) (b, 0, M)) (fun e => fr [] [171] M e ∧ ∀ j, e.2 171 j = if 16 * i ≤ j ∧ j < 16 * i + M.2 29 h then fvv (M.2 159) (b + sumW W (16 * h) (j - 16 * i).toNat) (W (16 * h + (j - 16 * i))).toNat else M.2 171 j) := by
  have hp : ∀ n : Nat, n < 16 → 0 ≤ W (16 * h + n) := fun n hn => (hw n (by omega) (by omega)).1
  refine RP_whl (I := fun s : Int × Int × mR => (0 ≤ s.2.1 ∧ s.2.1 ≤ M.2 29 h) ∧ s.1 = b + sumW W (16 * h) s.2.1.toNat ∧ fr [] [171] M s.2.2 ∧ ∀ j, s.2.2.2 171 j = if 16 * i ≤ j ∧ j < 16 * i + s.2.1 then fvv (M.2 159) (b + sumW W (16 * h) (j - 16 * i).toNat) (W (16 * h + (j - 16 * i))).toNat else M.2 171 j) (fun s hs => ?_) ⟨⟨Int.le_refl _, n0⟩, by show b = b + 0; omega, fr_0, fun j => by rw [if_neg (by have z : ((b, 0, M) : Int × Int × mR).2.1 = 0 := rfl; omega)]⟩
  obtain ⟨p, f, Mc⟩ := s
  obtain ⟨⟨f0, f1⟩, ep, fM, hs⟩ := hs
  have f0 : 0 ≤ f := f0
  have f1 : f ≤ M.2 29 h := f1
  have ep : p = b + sumW W (16 * h) f.toNat := ep
  have fM : fr [] [171] M Mc := fM
  have hs : ∀ j, Mc.2 171 j = if 16 * i ≤ j ∧ j < 16 * i + f then fvv (M.2 159) (b + sumW W (16 * h) (j - 16 * i).toNat) (W (16 * h + (j - 16 * i))).toNat else M.2 171 j := hs
  unfold rfb_extract_55
  show RP (if Mc.2 29 h ≤ f then some (Sum.inr Mc) else bnd (whl (rfb_extract_72 i h f Mc) (p, 0, 0)) (fun e9 : Int × Int => rfl_extract_125 i h e9.1 f e9.2 Mc)) _
  rw [show Mc.2 29 = M.2 29 from fr2 fM 29 rfl]
  refine RP_ite (fun g => RP_some ⟨fM, fun j => ?_⟩) (fun g => ?_)
  · rw [hs j, show f = M.2 29 h by omega]
  · obtain ⟨w0, w1⟩ := hw f f0 (by omega)
    have s0 := sumW_p hp f.toNat (by omega)
    have s1 := sumW_o hp (n := f.toNat + 1) (16 - (f.toNat + 1)) (by omega)
    rw [show f.toNat + 1 + (16 - (f.toNat + 1)) = 16 by omega] at s1
    have s2 : sumW W (16 * h) (f.toNat + 1) = sumW W (16 * h) f.toNat + W (16 * h + f) := by
      show sumW W (16 * h) f.toNat + W (16 * h + (f.toNat : Int)) = _
      rw [show (f.toNat : Int) = f by omega]
    have e33 : Mc.2 33 (cut (cut (16 * h) + f)) = W (16 * h + f) := by
      rw [cut_i (z := 16 * h) (by omega) (by omega), cut_i (z := 16 * h + f) (by omega) (by omega), show Mc.2 33 = M.2 33 from fr2 fM 33 rfl, hW f f0 (by omega)]
    have e159 : Mc.2 159 = M.2 159 := fr2 fM 159 rfl
    refine RP_bnd (bits_r (M := Mc) (len := len) e33 (by rw [e159]; exact hb) l (show 0 ≤ p by omega) w0 w1 (by omega)) (fun e he => ?_)
    obtain ⟨e1, e2⟩ := he
    rw [e159] at e2
    unfold rfl_extract_125
    rw [cut_i (z := f + 1) (by omega) (by omega), cut_i (z := 16 * i) (by omega) (by omega), cut_i (z := 16 * i + f) (by omega) (by omega)]
    refine RP_some ⟨⟨show 0 ≤ f + 1 by omega, show f + 1 ≤ M.2 29 h by omega⟩, ?_, fr_m fM rfl rfl, fun j => ?_⟩
    · show e.1 = b + sumW W (16 * h) (f + 1).toNat
      rw [show (f + 1).toNat = f.toNat + 1 by omega, s2]
      omega
    · show upI (Mc.2 171) (16 * i + f) e.2 j = if 16 * i ≤ j ∧ j < 16 * i + (f + 1) then _ else _
      by_cases ej : j = 16 * i + f
      · rw [ej, upI_s, if_pos (by omega), e2, show 16 * i + f - 16 * i = f by omega, ← ep]
      · rw [upI_n ej, hs j]
        by_cases q : 16 * i ≤ j ∧ j < 16 * i + f
        · rw [if_pos q, if_pos (by omega)]
        · rw [if_neg q, if_neg (by omega)]
end EN1

section EN2
variable {K M : mR} {r i : Int} {u : Int → Int}

def XKo (r i S : Int) (u : Int → Int) (K y : mR) : Prop := fr [] [94, 101] K y ∧ y.2 94 = upI (K.2 94) r (K.2 94 r + S / 8) ∧ ∀ j, y.2 101 j = if j = 65536 * r + 17 * i then 1 else if 65536 * r + 17 * i + 1 ≤ j ∧ j < 65536 * r + 17 * i + 17 then fvv u (8 * K.2 94 r + sumW (K.2 10) (16 * K.2 13 i) (j - (65536 * r + 17 * i + 1)).toNat) (K.2 10 (16 * K.2 13 i + (j - (65536 * r + 17 * i + 1)))).toNat else K.2 101 j
theorem extract_k {S : Int} (i0 : 0 ≤ i) (i1 : i < 12) (h0 : 0 ≤ K.2 13 i) (h1 : K.2 13 i < 12) (hw : ∀ f, 0 ≤ f → f < 16 → 0 ≤ K.2 10 (16 * K.2 13 i + f) ∧ K.2 10 (16 * K.2 13 i + f) ≤ 64) (hS : sumW (K.2 10) (16 * K.2 13 i) 16 = S) (h8 : S % 8 = 0) (hb : BYr r (K.2 92 r) u K) (l : K.2 92 r ≤ 128) (x0 : 0 ≤ K.2 94 r) (x1 : K.2 94 r ≤ 128) : RP (kf_op_extract r i K) (fun y => (y = (0, K) ∧ ¬ (K.2 101 (65536 * r + 17 * i) = 0 ∧ K.2 94 r + S / 8 ≤ K.2 92 r)) ∨ (y.1 = 1 ∧ (K.2 101 (65536 * r + 17 * i) = 0 ∧ K.2 94 r + S / 8 ≤ K.2 92 r) ∧ XKo r i S u K y.2)) := by
  have hp : ∀ n : Nat, n < 16 → 0 ≤ K.2 10 (16 * K.2 13 i + n) := fun n hn => (hw n (by omega) (by omega)).1
  have s0 := sumW_p hp 16 (by omega)
  have s1 : sumW (K.2 10) (16 * K.2 13 i) 16 ≤ 1024 := by
    have q : ∀ n : Nat, n ≤ 16 → sumW (K.2 10) (16 * K.2 13 i) n ≤ 64 * n := by
      intro n
      induction n with
      | zero => intro _; exact Int.le_refl _
      | succ n ih =>
        intro hn
        have a := ih (by omega)
        have c := (hw n (by omega) (by omega)).2
        show sumW (K.2 10) (16 * K.2 13 i) n + K.2 10 (16 * K.2 13 i + n) ≤ 64 * ((n + 1 : Nat) : Int)
        omega
    have := q 16 (by omega)
    omega
  rw [hS] at s0 s1
  unfold kf_op_extract
  refine RP_bnd (hbits_k h0 h1 hw) (fun y hy => ?_)
  rw [hS] at hy
  subst hy
  have d : y.tdiv 8 = y / 8 := Int.tdiv_eq_ediv_of_nonneg s0
  have c17 : cut (i * 17) = 17 * i := by rw [cut_i (by omega) (by omega)]; omega
  rw [d, c17, cut_i (z := K.2 94 r + y / 8) (by omega) (by omega)]
  refine RP_ite (fun g => RP_ite (fun g2 => ?_) (fun g2 => RP_some (Or.inl ⟨rfl, fun q => g2 q.2⟩))) (fun g => RP_some (Or.inl ⟨rfl, fun q => g (cmp64_0.mpr q.1)⟩))
  rw [cmp64_0] at g
  obtain ⟨K1, eK⟩ : ∃ K1, K1 = mO K [] [(101, upI (K.2 101) (65536 * r + 17 * i) 1)] := ⟨_, rfl⟩
  rw [← eK]
  have f1 : fr [] [101] K K1 := by rw [eK]; exact fr_m fr_0 rfl rfl
  have e101 : K1.2 101 = upI (K.2 101) (65536 * r + 17 * i) 1 := by rw [eK]; rfl
  have e10 : K1.2 10 = K.2 10 := fr2 f1 10 rfl
  have e13 : K1.2 13 = K.2 13 := fr2 f1 13 rfl
  rw [cut_i (z := K.2 94 r * 8) (by omega) (by omega)]
  have F := fields_k (K := K1) (r := r) (u := u) (i := i) (h := K.2 13 i) (b := 8 * K.2 94 r) (len := K.2 92 r) (v4 := y / 8) i0 i1 (by rw [e13]) h0 h1 (by rw [e10]; exact hw) (fun q q0 q1 => by rw [show K1.2 100 = K.2 100 from fr2 f1 100 rfl]; exact hb q q0 q1) l (by omega) (by rw [e10, hS]; omega)
  rw [e10] at F
  rw [show K.2 94 r * 8 = 8 * K.2 94 r by omega]
  refine RP_bnd F (fun e he => ?_)
  obtain ⟨fe, he⟩ := he
  unfold kfl_op_extract_152
  have e94 : e.2 94 = K.2 94 := (fr2 fe 94 rfl).trans (fr2 f1 94 rfl)
  rw [e94, cut_i (z := K.2 94 r + y / 8) (by omega) (by omega)]
  refine RP_some (Or.inr ⟨rfl, ⟨g, g2⟩, ?_, rfl, fun j => ?_⟩)
  · exact fr_m (fr_s fe (fr_s f1 fr_0 rfl rfl) rfl rfl) rfl rfl
  · show e.2 101 j = _
    rw [he j, e101]
    by_cases q1 : 65536 * r + 17 * i + 1 ≤ j ∧ j < 65536 * r + 17 * i + 17
    · rw [if_pos q1, if_neg (by omega), if_pos q1]
    · rw [if_neg q1]
      by_cases q2 : j = 65536 * r + 17 * i
      · rw [if_pos q2, q2, upI_s]
      · rw [if_neg q2, if_neg q1, upI_n q2]

def XMo (i S : Int) (W : Int → Int) (M z : mR) : Prop := fr [176] [171, 175] M z ∧ z.1 176 = M.1 176 + S / 8 ∧ z.2 175 = upI (M.2 175) i 1 ∧ ∀ j, z.2 171 j = if 16 * i ≤ j ∧ j < 16 * i + M.2 29 (M.2 34 i) then fvv (M.2 159) (8 * M.1 176 + sumW W (16 * M.2 34 i) (j - 16 * i).toNat) (W (16 * M.2 34 i + (j - 16 * i))).toNat else M.2 171 j
theorem extract_r {S : Int} {W : Int → Int} (i0 : 0 ≤ i) (i1 : i < 12) (h0 : 0 ≤ M.2 34 i) (h1 : M.2 34 i < 12) (n0 : 0 ≤ M.2 29 (M.2 34 i)) (n1 : M.2 29 (M.2 34 i) ≤ 16) (hW : ∀ f, 0 ≤ f → f < M.2 29 (M.2 34 i) → W (16 * M.2 34 i + f) = M.2 33 (16 * M.2 34 i + f)) (hw : ∀ f, 0 ≤ f → f < 16 → 0 ≤ W (16 * M.2 34 i + f) ∧ W (16 * M.2 34 i + f) ≤ 64) (hS : sumW W (16 * M.2 34 i) 16 = S) (e30 : M.2 30 (M.2 34 i) = S) (S0 : 0 ≤ S) (S1 : S ≤ 1024) (h8 : S % 8 = 0) (hb : ∀ i, 0 ≤ i → i < M.2 154 0 → 0 ≤ M.2 159 i ∧ M.2 159 i ≤ 255) (l0 : 0 ≤ M.2 154 0) (l : M.2 154 0 ≤ 128) (x0 : 0 ≤ M.1 176) (x1 : M.1 176 ≤ 128) : RP (rf_extract i M) (fun z => (z = (0, M) ∧ ¬ (M.2 175 i = 0 ∧ M.1 176 + S / 8 ≤ M.2 154 0)) ∨ (z.1 = 1 ∧ (M.2 175 i = 0 ∧ M.1 176 + S / 8 ≤ M.2 154 0) ∧ XMo i S W M z.2)) := by
  unfold rf_extract
  rw [e30, cut_i (z := 8 * M.1 176) (by omega) (by omega), cut_i (z := 8 * M.1 176 + S) (by omega) (by omega), cut_i (z := 8 * M.2 154 0) (by omega) (by omega)]
  refine RP_ite (fun g => RP_ite (fun g2 => ?_) (fun g2 => RP_some (Or.inl ⟨rfl, fun q => g2 (by have := q.2; omega)⟩))) (fun g => RP_some (Or.inl ⟨rfl, fun q => g q.1⟩))
  have F := fields_r (M := M) (i := i) (h := M.2 34 i) (b := 8 * M.1 176) (len := M.2 154 0) (W := W) i0 i1 h0 h1 n0 n1 hW hw hb l (by omega) (by rw [hS]; omega)
  refine RP_bnd F (fun e he => ?_)
  obtain ⟨fe, he⟩ := he
  unfold rfl_extract_145
  have e1 : e.1 176 = M.1 176 := fr1 fe 176 rfl
  have e2 : e.2 30 = M.2 30 := fr2 fe 30 rfl
  have e3 : e.2 175 = M.2 175 := fr2 fe 175 rfl
  have d : S.tdiv 8 = S / 8 := Int.tdiv_eq_ediv_of_nonneg S0
  rw [e1, e2, e3, e30, d, cut_i (z := M.1 176 + S / 8) (by omega) (by omega), nar1_b_nx (Or.inr rfl)]
  exact RP_some (Or.inr ⟨rfl, ⟨g, by omega⟩, fr_m (fr_s fe fr_0 rfl rfl) rfl rfl, rfl, rfl, he⟩)

def RDR (r : Int) (K M : mR) : Prop := (∀ s, 0 ≤ s → s ≤ 220 → K.2 101 (65536 * r + s) = smM M s) ∧ (K.2 94 r = M.1 176 ∧ 0 ≤ M.1 176 ∧ M.1 176 ≤ M.2 154 0) ∧ (K.2 92 r = M.2 154 0 ∧ 0 ≤ M.2 154 0 ∧ M.2 154 0 ≤ 128) ∧ BYr r (M.2 154 0) (M.2 159) K ∧ VWm M ∧ IZm M

def HIm (K M : mR) : Prop := (0 ≤ M.1 20 ∧ M.1 20 ≤ 12) ∧ M.1 19 ≤ 12 ∧ HD K M ∧ IN K M ∧ ∀ h, 0 ≤ h → h < M.1 19 → M.2 30 h % 8 = 0 ∧ M.2 30 h ≤ 512
theorem HIm_f {F A G C : List Nat} {K' M' : mR} (h : HIm K M) (fK : fr F A K K') (fM : fr G C M M') (c2 : chk [10, 11, 12, 13] A = true) (c3 : chk [6, 19, 20] G = true) (c4 : chk [4, 29, 30, 31, 32, 33, 34] C = true) : HIm K' M' := by
  obtain ⟨h1, h2, h3, h4, h5⟩ := h
  unfold HIm HD IN at *
  rw [fr2 fK 10 (chk_1 c2 (by decide)), fr2 fK 11 (chk_1 c2 (by decide)), fr2 fK 12 (chk_1 c2 (by decide)), fr2 fK 13 (chk_1 c2 (by decide)), fr1 fM 6 (chk_1 c3 (by decide)), fr1 fM 19 (chk_1 c3 (by decide)), fr1 fM 20 (chk_1 c3 (by decide)), fr2 fM 4 (chk_1 c4 (by decide)), fr2 fM 29 (chk_1 c4 (by decide)), fr2 fM 30 (chk_1 c4 (by decide)), fr2 fM 31 (chk_1 c4 (by decide)), fr2 fM 32 (chk_1 c4 (by decide)), fr2 fM 33 (chk_1 c4 (by decide)), fr2 fM 34 (chk_1 c4 (by decide))]
  exact ⟨h1, h2, h3, h4, h5⟩

theorem HIm_i (h : HIm K M) (i0 : 0 ≤ i) (i1 : i < M.1 20) : (K.2 13 i = M.2 34 i ∧ 0 ≤ M.2 34 i ∧ M.2 34 i < 12) ∧ (0 ≤ M.2 29 (M.2 34 i) ∧ M.2 29 (M.2 34 i) ≤ 16) ∧ (∀ f, 0 ≤ f → f < M.2 29 (M.2 34 i) → K.2 10 (16 * M.2 34 i + f) = M.2 33 (16 * M.2 34 i + f)) ∧ (∀ f, 0 ≤ f → f < 16 → 0 ≤ K.2 10 (16 * M.2 34 i + f) ∧ K.2 10 (16 * M.2 34 i + f) ≤ 64) ∧ (∀ f, M.2 29 (M.2 34 i) ≤ f → f < 16 → K.2 10 (16 * M.2 34 i + f) = 0) ∧ M.2 30 (M.2 34 i) = sumW (K.2 10) (16 * M.2 34 i) 16 ∧ (0 ≤ M.2 30 (M.2 34 i) ∧ M.2 30 (M.2 34 i) ≤ 512 ∧ M.2 30 (M.2 34 i) % 8 = 0) := by
  obtain ⟨h1, h2, h3, h4, h5⟩ := h
  obtain ⟨a1, a2, a3⟩ := h4 i i0 i1
  obtain ⟨b1, b2, ⟨b3, b4, b5⟩, b6, b7⟩ := h3.1 _ a2 a3
  obtain ⟨c1, c2⟩ := h5 _ a2 a3
  refine ⟨⟨a1, a2, by omega⟩, ⟨b1, b2⟩, fun f f0 f1 => (b6 f f0 f1).1, fun f f0 f1 => ?_, fun f f0 f1 => b7 f f0 f1, b3, ⟨b4, c2, c1⟩⟩
  by_cases q : f < M.2 29 (M.2 34 i)
  · obtain ⟨d1, d2, d3, -⟩ := b6 f f0 q
    rw [d1]
    omega
  · rw [b7 f (by omega) f1]
    decide
theorem extract_q (h : RDR r K M) (hH : HIm K M) (i0 : 0 ≤ i) (i1 : i < M.1 20) : RR (kf_op_extract r i K) (rf_extract i M) (fun y z => (y = (0, K) ∧ z = (0, M)) ∨ (y.1 = 1 ∧ z.1 = 1 ∧ RDR r y.2 z.2 ∧ fr [] [94, 101] K y.2 ∧ fr [176] [171, 175] M z.2 ∧ rowC 101 r K y.2 ∧ (∀ v, v ≠ r → y.2.2 94 v = K.2 94 v) ∧ M.2 175 i = 0 ∧ z.2.2 175 = upI (M.2 175) i 1)) := by
  obtain ⟨h1, ⟨h2, x0, x1⟩, ⟨h3, l0, l1⟩, hB, hV, hZ⟩ := h
  obtain ⟨⟨e13, a0, a1⟩, ⟨n0, n1⟩, hW, hw, hz, e30, S0, S1, S8⟩ := HIm_i hH i0 i1
  have m20 := hH.1.2
  have sl : K.2 101 (65536 * r + 17 * i) = if M.2 175 i = 0 then 0 else 1 := by
    rw [h1 (17 * i) (by omega) (by omega), smM_v i0 (by omega)]
  have EK_nx := extract_k (K := K) (r := r) (i := i) (u := M.2 159) (S := M.2 30 (M.2 34 i)) i0 (by omega) (by rw [e13]; exact a0) (by rw [e13]; exact a1) (by rw [e13]; exact hw) (by rw [e13]; exact e30.symm) S8 (by rw [h3]; exact hB) (by omega) (by omega) (by omega)
  have EM := extract_r (M := M) (i := i) (W := K.2 10) (S := M.2 30 (M.2 34 i)) i0 (by omega) a0 a1 n0 n1 hW hw e30.symm rfl S0 (by omega) S8 (fun q q0 q1 => (hB q q0 q1).2) l0 l1 x0 (by omega)
  intro y z hy hz'
  rcases EK_nx y hy with ⟨y1, y2⟩ | ⟨y1, ⟨y2, y3⟩, yf, y94, y101⟩
  · rcases EM z hz' with ⟨z1, z2⟩ | ⟨z1, ⟨z2, z3⟩, -⟩
    · exact Or.inl ⟨y1, z1⟩
    · refine absurd ⟨?_, ?_⟩ y2
      · rw [sl, if_pos z2]
      · omega
  · rcases EM z hz' with ⟨z1, z2⟩ | ⟨z1, ⟨z2, z3⟩, zf, z176, z175, z171⟩
    · refine absurd ⟨?_, ?_⟩ z2
      · rw [sl] at y2
        by_cases q : M.2 175 i = 0
        · exact q
        · rw [if_neg q] at y2
          exact absurd y2 (by decide)
      · omega
    · refine Or.inr ⟨y1, z1, ⟨fun s s0 s1 => ?_, ⟨?_, ?_, ?_⟩, ⟨?_, ?_, ?_⟩, fun q q0 q1 => ?_, ?_, ?_⟩, yf, zf, fun j hj => ?_, fun v hv => ?_, z2, z175⟩
      · rw [y101, e13, h2]
        have o := h1 s s0 s1
        unfold smM at o ⊢
        rw [fr1 zf 177 rfl, fr2 zf 172 rfl, z175, z171]
        by_cases q1 : s = 220
        · rw [if_pos q1] at o ⊢
          rw [if_neg (by omega), if_neg (by omega)]
          exact o
        rw [if_neg q1] at o ⊢
        by_cases q2 : 204 ≤ s
        · rw [if_pos q2] at o ⊢
          rw [if_neg (by omega), if_neg (by omega)]
          exact o
        rw [if_neg q2] at o ⊢
        by_cases q3 : s % 17 = 0
        · rw [if_pos q3] at o ⊢
          by_cases q4 : s / 17 = i
          · rw [if_pos (by omega), q4, upI_s, if_neg (by decide)]
          · rw [if_neg (by omega), if_neg (by omega), upI_n q4]
            exact o
        rw [if_neg q3] at o ⊢
        by_cases q4 : s / 17 = i
        · rw [if_neg (by omega), if_pos (by omega), show 65536 * r + s - (65536 * r + 17 * i + 1) = s % 17 - 1 by omega]
          by_cases q5 : s % 17 - 1 < M.2 29 (M.2 34 i)
          · rw [if_pos (by omega), show 16 * (s / 17) + (s % 17 - 1) - 16 * i = s % 17 - 1 by omega]
          · rw [if_neg (by omega), hz (s % 17 - 1) (by omega) (by omega), q4, hZ i i0 (by omega) z2 (s % 17 - 1) (by omega) (by omega)]
            rfl
        · rw [if_neg (by omega), if_neg (by omega), if_neg (by omega)]
          exact o
      · rw [y94, upI_s, z176, h2]
      · omega
      · rw [fr2 zf 154 rfl]
        omega
      · rw [fr2 yf 92 rfl, fr2 zf 154 rfl]
        exact h3
      · rw [fr2 zf 154 rfl]
        exact l0
      · rw [fr2 zf 154 rfl]
        exact l1
      · rw [fr2 zf 154 rfl] at q1
        rw [fr2 yf 100 rfl, fr2 zf 159 rfl]
        exact hB q q0 q1
      · obtain ⟨v1, v2, v3⟩ := hV
        refine ⟨?_, fun k f k0 k1 f0 f1 => ?_, ?_⟩
        · rw [fr1 zf 21 rfl, fr2 zf 172 rfl, fr2 zf 35 rfl]
          exact v1
        · rw [fr1 zf 20 rfl] at k1
          rw [fr2 zf 29 rfl, fr2 zf 34 rfl] at f1
          rw [fr2 zf 33 rfl, fr2 zf 34 rfl, z171]
          by_cases q : k = i
          · rw [q] at f1 ⊢
            rw [if_pos (by omega), show 16 * i + f - 16 * i = f by omega, ← hW f f0 f1]
            obtain ⟨w0, w1⟩ := hw f f0 (by omega)
            have hp : ∀ n : Nat, n < 16 → 0 ≤ K.2 10 (16 * M.2 34 i + n) := fun n hn => (hw n (by omega) (by omega)).1
            have s0 := sumW_p hp f.toNat (by omega)
            have s1 := sumW_o hp (n := f.toNat + 1) (16 - (f.toNat + 1)) (by omega)
            rw [show f.toNat + 1 + (16 - (f.toNat + 1)) = 16 by omega, ← e30] at s1
            have s2 : sumW (K.2 10) (16 * M.2 34 i) (f.toNat + 1) = sumW (K.2 10) (16 * M.2 34 i) f.toNat + K.2 10 (16 * M.2 34 i + f) := by
              show sumW (K.2 10) (16 * M.2 34 i) f.toNat + K.2 10 (16 * M.2 34 i + (f.toNat : Int)) = _
              rw [show (f.toNat : Int) = f by omega]
            have w := fvv_w (u := M.2 159) (b := 8 * M.1 176 + sumW (K.2 10) (16 * M.2 34 i) f.toNat) (by omega) (K.2 10 (16 * M.2 34 i + f)).toNat (by omega) (fun q q0 q1 => (hB q q0 (by omega)).2)
            rw [show (((K.2 10 (16 * M.2 34 i + f)).toNat : Nat) : Int) = K.2 10 (16 * M.2 34 i + f) by omega] at w
            exact w
          · have b := (HIm_i hH k0 k1).2.1
            rw [if_neg (by omega)]
            exact v2 k f k0 k1 f0 f1
        · rw [fr1 zf 22 rfl, fr2 zf 138 rfl, fr2 zf 36 rfl]
          exact v3
      · intro k k0 k1 kz f f0 f1
        rw [z175] at kz
        by_cases q : k = i
        · rw [q, upI_s] at kz
          exact absurd kz (by decide)
        · rw [upI_n q] at kz
          rw [z171, if_neg (by omega)]
          exact hZ k k0 k1 kz f f0 f1
      · rw [y101, if_neg (by omega), if_neg (by omega)]
      · rw [y94, upI_n hv]
end EN2

section EN3
variable {K M : mR} {r s d : Int}

def FST (n : Int) (P A : Int → Prop) (B : Prop) : Prop := (∃ j, 0 ≤ j ∧ j < n ∧ P j ∧ (∀ k, 0 ≤ k → k < j → ¬ P k) ∧ A j) ∨ ((∀ k, 0 ≤ k → k < n → ¬ P k) ∧ B)

theorem FST_2 {n : Int} {P P' A A' : Int → Prop} {B B' : Prop} (h : FST n P A B) (h' : FST n P' A' B') (e : ∀ k, 0 ≤ k → k < n → (P k ↔ P' k)) : (∃ j, 0 ≤ j ∧ j < n ∧ A j ∧ A' j) ∨ (B ∧ B') := by
  rcases h with ⟨j, j0, j1, p, q, a⟩ | ⟨q, b⟩
  · rcases h' with ⟨j', j0', j1', p', q', a'⟩ | ⟨q', b'⟩
    · have : j = j' := by
        rcases Int.lt_trichotomy j j' with z | z | z
        · exact absurd ((e j j0 j1).mp p) (q' j j0 z)
        · exact z
        · exact absurd ((e j' j0' j1').mpr p') (q j' j0' z)
      subst this
      exact Or.inl ⟨j, j0, j1, a, a'⟩
    · exact absurd ((e j j0 j1).mp p) (q' j j0 j1)
  · rcases h' with ⟨j', j0', j1', p', q', a'⟩ | ⟨q', b'⟩
    · exact absurd ((e j' j0' j1').mpr p') (q j' j0' j1')
    · exact Or.inr ⟨b, b'⟩
theorem goal_k {v n : Int} (s0 : 0 ≤ s) (s1 : s < 16) (e30 : K.2 30 s = n) (n0 : 0 ≤ n) (n8 : n ≤ 8) : RP (kf_ss_goalOf s v K) (fun g => FST n (fun j => and64 (xor64 v (K.2 31 (8 * s + j))) (K.2 32 (8 * s + j)) = 0) (fun j => g = K.2 33 (8 * s + j)) (g = K.2 34 s)) := by
  unfold kf_ss_goalOf
  refine RP_bnd (P := sel (fun e : Int => ∃ j, 0 ≤ j ∧ j < n ∧ and64 (xor64 v (K.2 31 (8 * s + j))) (K.2 32 (8 * s + j)) = 0 ∧ (∀ k, 0 ≤ k → k < j → ¬ and64 (xor64 v (K.2 31 (8 * s + k))) (K.2 32 (8 * s + k)) = 0) ∧ e = 8 * s + j) (fun _ : Unit => ∀ k, 0 ≤ k → k < n → ¬ and64 (xor64 v (K.2 31 (8 * s + k))) (K.2 32 (8 * s + k)) = 0)) (RP_whl (I := fun q : Int => (0 ≤ q ∧ q ≤ n) ∧ ∀ k, 0 ≤ k → k < q → ¬ and64 (xor64 v (K.2 31 (8 * s + k))) (K.2 32 (8 * s + k)) = 0) (fun q hq => ?_) ⟨⟨Int.le_refl _, n0⟩, fun k k0 k1 => by omega⟩) (RP_sl (fun e he => ?_) (fun e he => ?_))
  · obtain ⟨⟨q0, q1⟩, hn⟩ := hq
    unfold kfb_ss_goalOf_3
    rw [e30, cut_i (z := s * 8) (by omega) (by omega)]
    refine RP_ite (fun g => RP_some (show ∀ k, 0 ≤ k → k < n → ¬ and64 (xor64 v (K.2 31 (8 * s + k))) (K.2 32 (8 * s + k)) = 0 from fun k k0 k1 => hn k k0 (by omega))) (fun g => ?_)
    rw [cut_i (z := s * 8 + q) (by omega) (by omega), cut_i (z := q + 1) (by omega) (by omega), show s * 8 + q = 8 * s + q by omega]
    refine RP_ite (fun g2 => RP_some ?_) (fun g2 => RP_some ?_)
    · rw [cmp64_0] at g2
      exact ⟨q, q0, by omega, g2, hn, rfl⟩
    · rw [cmp64_0] at g2
      refine ⟨⟨show 0 ≤ q + 1 by omega, show q + 1 ≤ n by omega⟩, fun k k0 k1 => ?_⟩
      by_cases ek : k = q
      · rw [ek]; exact g2
      · exact hn k k0 (by have k1 : k < q + 1 := k1; omega)
  · obtain ⟨j, j0, j1, j2, j3, j4⟩ := he
    unfold kfl_ss_goalOf_45
    exact RP_some (Or.inl ⟨j, j0, j1, j2, j3, by rw [j4]⟩)
  · unfold kfl_ss_goalOf_59
    exact RP_some (Or.inr ⟨he, rfl⟩)
theorem goal_r {v n : Int} (d0 : 0 ≤ d) (d1 : d < 16) (e42 : M.2 42 d = n) (n0 : 0 ≤ n) (n8 : n ≤ 8) : RP (whl (rfb_readPacket_213 d v M) (M.2 44 d, 0, 8 * d)) (fun t => FST n (fun j => and64 (xor64 v (M.2 97 (8 * d + j))) (M.2 98 (8 * d + j)) = 0) (fun j => t = M.2 45 (8 * d + j)) (t = M.2 44 d)) := by
  refine RP_whl (I := fun q : Int × Int × Int => (8 * d ≤ q.2.2 ∧ q.2.2 ≤ 8 * d + n) ∧ ((q.2.1 = 0 ∧ q.1 = M.2 44 d ∧ ∀ k, 0 ≤ k → k < q.2.2 - 8 * d → ¬ and64 (xor64 v (M.2 97 (8 * d + k))) (M.2 98 (8 * d + k)) = 0) ∨ (q.2.1 = 1 ∧ ∃ j, 0 ≤ j ∧ j < n ∧ and64 (xor64 v (M.2 97 (8 * d + j))) (M.2 98 (8 * d + j)) = 0 ∧ (∀ k, 0 ≤ k → k < j → ¬ and64 (xor64 v (M.2 97 (8 * d + k))) (M.2 98 (8 * d + k)) = 0) ∧ q.1 = M.2 45 (8 * d + j)))) (fun q hq => ?_) ⟨⟨Int.le_refl _, show 8 * d ≤ 8 * d + n by omega⟩, Or.inl ⟨rfl, rfl, fun k k0 k1 => by have k1 : k < 8 * d - 8 * d := k1; omega⟩⟩
  obtain ⟨t, fd, c⟩ := q
  obtain ⟨⟨c0, c1⟩, hc⟩ := hq
  have c0 : 8 * d ≤ c := c0
  have c1 : c ≤ 8 * d + n := c1
  unfold rfb_readPacket_213
  show RP (if cut (cut (8 * d) + M.2 42 d) ≤ c then some (Sum.inr t) else if fd = 0 then (if cmp64 (and64 (xor64 v (M.2 97 c)) (M.2 98 c)) 0 = 0 then rfl_readPacket_261 d t v c 1 M else rfl_readPacket_261 d t v c 0 M) else some (Sum.inr t)) _
  rw [e42, cut_i (z := 8 * d) (by omega) (by omega), cut_i (z := 8 * d + n) (by omega) (by omega)]
  rcases hc with ⟨h1, h2, h3⟩ | ⟨h1, h2⟩
  · have h1 : fd = 0 := h1
    have h2 : t = M.2 44 d := h2
    have h3 : ∀ k, 0 ≤ k → k < c - 8 * d → ¬ and64 (xor64 v (M.2 97 (8 * d + k))) (M.2 98 (8 * d + k)) = 0 := h3
    rw [if_pos h1]
    refine RP_ite (fun g => RP_some (Or.inr ⟨fun k k0 k1 => h3 k k0 (by omega), h2⟩)) (fun g => ?_)
    unfold rfl_readPacket_261 rfl_readPacket_277
    rw [if_neg (show ¬ (1 : Int) = 0 by decide), if_pos rfl, cut_i (z := c + 1) (by omega) (by omega)]
    refine RP_ite (fun g2 => RP_some ?_) (fun g2 => RP_some ?_)
    · rw [cmp64_0] at g2
      refine ⟨⟨show 8 * d ≤ c + 1 by omega, show c + 1 ≤ 8 * d + n by omega⟩, Or.inr ⟨rfl, c - 8 * d, by omega, by omega, ?_, h3, ?_⟩⟩
      · rw [show 8 * d + (c - 8 * d) = c by omega]; exact g2
      · show M.2 45 c = M.2 45 (8 * d + (c - 8 * d))
        rw [show 8 * d + (c - 8 * d) = c by omega]
    · rw [cmp64_0] at g2
      refine ⟨⟨show 8 * d ≤ c + 1 by omega, show c + 1 ≤ 8 * d + n by omega⟩, Or.inl ⟨rfl, h2, fun k k0 k1 => ?_⟩⟩
      have k1 : k < c + 1 - 8 * d := k1
      by_cases ek : k = c - 8 * d
      · rw [ek, show 8 * d + (c - 8 * d) = c by omega]; exact g2
      · exact h3 k k0 (by omega)
  · have h1 : fd = 1 := h1
    have h2 : ∃ j, 0 ≤ j ∧ j < n ∧ and64 (xor64 v (M.2 97 (8 * d + j))) (M.2 98 (8 * d + j)) = 0 ∧ (∀ k, 0 ≤ k → k < j → ¬ and64 (xor64 v (M.2 97 (8 * d + k))) (M.2 98 (8 * d + k)) = 0) ∧ t = M.2 45 (8 * d + j) := h2
    rw [if_neg (show ¬ fd = 0 by omega)]
    exact RP_ite (fun _ => RP_some (Or.inl h2)) (fun _ => RP_some (Or.inl h2))

def cvd (M : mR) : Int := ct (fun i => if M.2 175 i = 0 then 0 else 1) 12
theorem cvd_r (M : mR) : 0 ≤ cvd M ∧ cvd M ≤ 12 := ct_le (fun j => by by_cases h : M.2 175 j = 0 <;> simp only [h, if_true, if_false] <;> decide) (by decide)
theorem cvd_s {i : Int} {M' : mR} (i0 : 0 ≤ i) (i1 : i < 12) (h : M.2 175 i = 0) (e : M'.2 175 = upI (M.2 175) i 1) : cvd M' = cvd M + 1 := by
  have q : (fun j => if M'.2 175 j = 0 then (0 : Int) else 1) = upI (fun j => if M.2 175 j = 0 then (0 : Int) else 1) i 1 := by
    funext j
    rw [e]
    by_cases ej : j = i
    · rw [ej, upI_s, upI_s]; rfl
    · rw [upI_n ej, upI_n ej]
  unfold cvd
  rw [q]
  refine (ct_set (fun j => ?_) i0 i1 ?_).1
  · by_cases z : M.2 175 j = 0
    · rw [if_pos z]; decide
    · rw [if_neg z]; decide
  · exact if_pos h
theorem cvd_c {M' : mR} (e : M'.2 175 = M.2 175) : cvd M' = cvd M := by
  unfold cvd
  rw [e]

def PSo (r : Int) (K M k m : mR) : Prop := fr [] [25, 94, 101] K k ∧ fr [176] [171, 173, 175] M m ∧ rowC 101 r K k ∧ ∀ v, v ≠ r → k.2 94 v = K.2 94 v
theorem PSo_0 : PSo r K M K M := ⟨fr_0, fr_0, fun _ _ => rfl, fun _ _ => rfl⟩
theorem PSo_t {K1 M1 k m : mR} (h : PSo r K M K1 M1) (g : PSo r K1 M1 k m) : PSo r K M k m := ⟨fr_s g.1 h.1 rfl rfl, fr_s g.2.1 h.2.1 rfl rfl, fun j hj => (g.2.2.1 j hj).trans (h.2.2.1 j hj), fun v hv => (g.2.2.2 v hv).trans (h.2.2.2 v hv)⟩
theorem xloop_q {n : Int} (h : RDR r K M) (hH : HIm K M) (s0 : 0 ≤ s) (s1 : s < 16) (d0 : 0 ≤ d) (d1 : d < 16) (e26 : K.2 26 s = n) (e41 : M.2 41 d = n) (n0 : 0 ≤ n) (n6 : n ≤ 6) (hx : ∀ j, 0 ≤ j → j < n → K.2 27 (6 * s + j) = M.2 94 (6 * d + j) ∧ 0 ≤ M.2 94 (6 * d + j) ∧ M.2 94 (6 * d + j) < M.1 20) : RR (whl (kfb_op_pass_8 r s) (0, K)) (whl (rfb_readPacket_123 d) (0, M)) (fun x y => (∃ k m, x = Sum.inl k ∧ y = Sum.inl m ∧ PSo r K M k m) ∨ (∃ k m, x = Sum.inr k ∧ y = Sum.inr m ∧ RDR r k m ∧ PSo r K M k m ∧ cvd M + n ≤ cvd m)) := by
  refine RR_whl (I := fun a b : Int × mR => a.1 = b.1 ∧ (0 ≤ a.1 ∧ a.1 ≤ n) ∧ RDR r a.2 b.2 ∧ PSo r K M a.2 b.2 ∧ cvd M + a.1 ≤ cvd b.2) (fun a b hI => ?_) ⟨rfl, ⟨Int.le_refl _, n0⟩, h, PSo_0, by show cvd M + 0 ≤ cvd M; omega⟩
  obtain ⟨i, Kc⟩ := a
  obtain ⟨i', Mc⟩ := b
  obtain ⟨ei, ⟨i0, i1⟩, hR, hP, hc⟩ := hI
  have ei : i = i' := ei
  subst ei
  have i0 : 0 ≤ i := i0
  have i1 : i ≤ n := i1
  have hR : RDR r Kc Mc := hR
  have hP : PSo r K M Kc Mc := hP
  have hc : cvd M + i ≤ cvd Mc := hc
  have fK := hP.1
  have fM := hP.2.1
  unfold kfb_op_pass_8 rfb_readPacket_123
  show RR (if Kc.2 26 s ≤ i then some (Sum.inr (Sum.inr Kc)) else bnd (kf_op_extract r (Kc.2 27 (cut (cut (s * 6) + i))) Kc) fun y13 => if y13.1 = 0 then some (Sum.inr (Sum.inl y13.2)) else some (Sum.inl (cut (i + 1), y13.2))) (if Mc.2 41 d ≤ i then some (Sum.inr (Sum.inr Mc)) else bnd (rf_extract (Mc.2 94 (cut (cut (6 * d) + i))) Mc) fun y29 => rfl_readPacket_148 d i y29.1 y29.2) _
  rw [show Kc.2 26 = K.2 26 from fr2 fK 26 rfl, show Mc.2 41 = M.2 41 from fr2 fM 41 rfl, show Kc.2 27 = K.2 27 from fr2 fK 27 rfl, show Mc.2 94 = M.2 94 from fr2 fM 94 rfl, e26, e41, cut_i (z := s * 6) (by omega) (by omega), cut_i (z := 6 * d) (by omega) (by omega), cut_i (z := s * 6 + i) (by omega) (by omega), cut_i (z := 6 * d + i) (by omega) (by omega), cut_i (z := i + 1) (by omega) (by omega), show s * 6 + i = 6 * s + i by omega]
  refine RR_ii Iff.rfl (fun g _ => RR_some (Or.inr ⟨Kc, Mc, rfl, rfl, hR, hP, by omega⟩)) (fun g _ => ?_)
  obtain ⟨x1, x2, x3⟩ := hx i i0 (by omega)
  rw [x1]
  have e20 : Mc.1 20 = M.1 20 := fr1 fM 20 rfl
  refine RR_bnd (extract_q hR (HIm_f hH fK fM rfl rfl rfl) x2 (by rw [e20]; exact x3)) (fun y z hyz => ?_)
  unfold rfl_readPacket_148
  rcases hyz with ⟨y1, z1⟩ | ⟨y1, z1, y2, y3, z3, y4, y5, z4, z5⟩
  · rw [y1, z1]
    show RR (if (0 : Int) = 0 then some (Sum.inr (Sum.inl Kc)) else _) (if (0 : Int) = 0 then some (Sum.inr (Sum.inl Mc)) else _) _
    rw [if_pos rfl, if_pos rfl]
    exact RR_some (Or.inl ⟨Kc, Mc, rfl, rfl, hP⟩)
  · rw [y1, z1, if_neg (show ¬ (1 : Int) = 0 by decide), if_neg (show ¬ (1 : Int) = 0 by decide), cut_i (z := i + 1) (by omega) (by omega)]
    have m20 := hH.1.2
    have c := cvd_s x2 (by omega) z4 z5
    exact RR_some ⟨rfl, ⟨show 0 ≤ i + 1 by omega, show i + 1 ≤ n by omega⟩, y2, PSo_t hP ⟨fr_s y3 fr_0 rfl rfl, fr_s z3 fr_0 rfl rfl, y4, y5⟩, show cvd M + (i + 1) ≤ cvd z.2 by omega⟩
end EN3
