

def bitx (x k : Int) : Int := and64 (ushr64 x k) 1
theorem bitx_r (x k : Int) : bitx x k = 0 ∨ bitx x k = 1 := by
  have := and_01 (ushr64 x k)
  unfold bitx
  omega

def orb (B : Int → Int) (b v : Int) : Int → Int := upI B (b / 8) (or32 (B (b / 8)) (shl32 v (7 - b % 8)))

def wfv (x w : Int) (B : Int → Int) (b : Int) : Nat → (Int → Int)
  | 0 => B
  | n + 1 => orb (wfv x w B b n) (b + n) (bitx x (w - 1 - n))

def wfi (W X : Int → Int) (h : Int) (B : Int → Int) (b : Int) : Nat → (Int → Int)
  | 0 => B
  | f + 1 => wfv (X f) (W (16 * h + f)) (wfi W X h B b f) (b + sumW W (16 * h) f) (W (16 * h + f)).toNat

def wis (K : mR) (sl : Int → Int) : Nat → (Int → Int) × Int
  | 0 => (fun _ => 0, 0)
  | j + 1 => if sl (17 * K.2 17 j) = 0 then wis K sl j else (wfi (K.2 10) (fun f => sl (17 * K.2 17 j + 1 + f)) (K.2 13 (K.2 17 j)) (wis K sl j).1 (wis K sl j).2 16, (wis K sl j).2 + sumW (K.2 10) (16 * K.2 13 (K.2 17 j)) 16)

theorem orb_f : ∀ c : Fin 256, ∀ v : Fin 2, ∀ k : Fin 8, (i2b32 (or32 (sbt ((c.val : Nat) : Int)) (i2b32 (cut (shl64 ((v.val : Nat) : Int) ((k.val : Nat) : Int)))))).bmod 256 = sbt (or32 ((c.val : Nat) : Int) (shl32 ((v.val : Nat) : Int) ((k.val : Nat) : Int))) ∧ 0 ≤ or32 ((c.val : Nat) : Int) (shl32 ((v.val : Nat) : Int) ((k.val : Nat) : Int)) ∧ or32 ((c.val : Nat) : Int) (shl32 ((v.val : Nat) : Int) ((k.val : Nat) : Int)) ≤ 255 := by decide +kernel
theorem orb_k {c v k : Int} (c0 : 0 ≤ c) (c1 : c ≤ 255) (hv : v = 0 ∨ v = 1) (k0 : 0 ≤ k) (k1 : k ≤ 7) : nar2 (i2b32 (or32 (sbt c) (i2b32 (cut (shl64 v k))))) = sbt (or32 c (shl32 v k)) ∧ 0 ≤ or32 c (shl32 v k) ∧ or32 c (shl32 v k) ≤ 255 := by
  have h := orb_f ⟨c.toNat, by omega⟩ ⟨v.toNat, by omega⟩ ⟨k.toNat, by omega⟩
  dsimp only at h
  rw [show ((c.toNat : Nat) : Int) = c by omega, show ((k.toNat : Nat) : Int) = k by omega, show ((v.toNat : Nat) : Int) = v by omega] at h
  rw [nar2_b (by unfold i2b32; exact t32_r)]
  exact h
def BR (B : Int → Int) : Prop := ∀ i, 0 ≤ i → 0 ≤ B i ∧ B i ≤ 255
theorem orb_B {B : Int → Int} {b v : Int} (h : BR B) (b0 : 0 ≤ b) (hv : v = 0 ∨ v = 1) : BR (orb B b v) := fun i i0 => by
  unfold orb
  by_cases e : i = b / 8
  · rw [e, upI_s]
    have q := h (b / 8) (by omega)
    exact (orb_k q.1 q.2 hv (k := 7 - b % 8) (by omega) (by omega)).2
  · rw [upI_n e]
    exact h i i0
theorem wfv_B {x w b : Int} {B : Int → Int} (h : BR B) (b0 : 0 ≤ b) : ∀ n, BR (wfv x w B b n) := by
  intro n
  induction n with
  | zero => exact h
  | succ n ih => exact orb_B ih (by omega) (bitx_r _ _)
theorem wfv_o {x w b i : Int} {B : Int → Int} (b0 : 0 ≤ b) : ∀ n : Nat, b + (n : Int) ≤ 8 * i → wfv x w B b n i = B i := by
  intro n
  induction n with
  | zero => intro _; rfl
  | succ n ih =>
    intro hn
    show orb (wfv x w B b n) (b + n) _ i = B i
    unfold orb
    rw [upI_n (by omega)]
    exact ih (by omega)
section LV1
variable {W X : Int → Int} {h b : Int} {B : Int → Int}
theorem wfi_B (hB : BR B) (b0 : 0 ≤ b) (hw : ∀ f, 0 ≤ f → f < 16 → 0 ≤ W (16 * h + f)) : ∀ n : Nat, n ≤ 16 → BR (wfi W X h B b n) := by
  intro n
  induction n with
  | zero => intro _; exact hB
  | succ n ih =>
    intro hn
    have s := sumW_p (f := W) (b := 16 * h) (N := 16) (fun i hi => hw i (by omega) (by omega)) n (by omega)
    exact wfv_B (ih (by omega)) (by omega) _
theorem wfi_o {i : Int} (b0 : 0 ≤ b) (hw : ∀ f, 0 ≤ f → f < 16 → 0 ≤ W (16 * h + f)) : ∀ n : Nat, n ≤ 16 → b + sumW W (16 * h) n ≤ 8 * i → wfi W X h B b n i = B i := by
  intro n
  induction n with
  | zero => intro _ _; rfl
  | succ n ih =>
    intro hn hi
    have s := sumW_p (f := W) (b := 16 * h) (N := 16) (fun i hi => hw i (by omega) (by omega)) n (by omega)
    have w := hw n (by omega) (by omega)
    have hi : b + (sumW W (16 * h) n + W (16 * h + n)) ≤ 8 * i := hi
    show wfv (X n) (W (16 * h + n)) (wfi W X h B b n) (b + sumW W (16 * h) n) (W (16 * h + n)).toNat i = B i
    rw [wfv_o (by omega) _ (by omega)]
    exact ih (by omega) (by omega)

theorem wfi_z {n : Nat} (hz : ∀ f : Nat, n ≤ f → f < 16 → W (16 * h + f) = 0) : ∀ d : Nat, n + d ≤ 16 → wfi W X h B b (n + d) = wfi W X h B b n ∧ sumW W (16 * h) (n + d) = sumW W (16 * h) n := by
  intro d
  induction d with
  | zero => intro _; exact ⟨rfl, rfl⟩
  | succ d ih =>
    intro hd
    obtain ⟨i1, i2⟩ := ih (by omega)
    have z := hz (n + d) (by omega) (by omega)
    refine ⟨?_, ?_⟩
    · show wfv (X ((n + d : Nat) : Int)) (W (16 * h + ((n + d : Nat) : Int))) (wfi W X h B b (n + d)) _ (W (16 * h + ((n + d : Nat) : Int))).toNat = _
      rw [z]
      exact i1
    · show sumW W (16 * h) (n + d) + W (16 * h + ((n + d : Nat) : Int)) = _
      rw [z, i2]
      omega
end LV1
section LV2
variable {K M : mR} {r : Int}

def ROWb (r n : Int) (B : Int → Int) (K : mR) : Prop := ∀ i, 0 ≤ i → i < n → K.2 100 (65536 * r + i) = sbt (B i)
theorem bitw_k {v2 v4 f w b n : Int} {B : Int → Int} (hB : BR B) (hR : ROWb r n B K) (b0 : 0 ≤ b) (w0 : 0 ≤ w) (w1 : w ≤ 64) (bn : b + w ≤ 8 * n) (n1 : n ≤ 896) (v0 : 0 ≤ v4) (v1 : v4 ≤ 187) (f0 : 0 ≤ f) (f1 : f < 16) : RP (whl (kfb_op_write_46 r v2 v4 f) (b, w - 1, K)) (fun e => e.1 = b + w ∧ fr [] [100] K e.2 ∧ ROWb r n (wfv (K.2 101 (65536 * r + (v4 + 1 + f))) w B b w.toNat) e.2 ∧ ∀ j, j < 65536 * r ∨ 65536 * r + n ≤ j → e.2.2 100 j = K.2 100 j) := by
  refine RP_whl (I := fun s : Int × Int × mR => (-1 ≤ s.2.1 ∧ s.2.1 ≤ w - 1) ∧ s.1 = b + (w - 1 - s.2.1) ∧ fr [] [100] K s.2.2 ∧ ROWb r n (wfv (K.2 101 (65536 * r + (v4 + 1 + f))) w B b (w - 1 - s.2.1).toNat) s.2.2 ∧ ∀ j, j < 65536 * r ∨ 65536 * r + n ≤ j → s.2.2.2 100 j = K.2 100 j) (fun s hs => ?_) ⟨⟨show -1 ≤ w - 1 by omega, Int.le_refl _⟩, by show b = b + (w - 1 - (w - 1)); omega, fr_0, ?_, fun _ _ => rfl⟩
  · obtain ⟨p, i, Kc⟩ := s
    obtain ⟨⟨i0, i1⟩, ep, fK, hc, ho⟩ := hs
    have i0 : -1 ≤ i := i0
    have i1 : i ≤ w - 1 := i1
    have ep : p = b + (w - 1 - i) := ep
    have fK : fr [] [100] K Kc := fK
    have hc : ROWb r n (wfv (K.2 101 (65536 * r + (v4 + 1 + f))) w B b (w - 1 - i).toNat) Kc := hc
    have ho : ∀ j, j < 65536 * r ∨ 65536 * r + n ≤ j → Kc.2 100 j = K.2 100 j := ho
    unfold kfb_op_write_46
    show RP (if i < 0 then some (Sum.inr (p, Kc)) else _) _
    refine RP_ite (fun g => RP_some ⟨show p = b + w by omega, fK, ?_, ho⟩) (fun g => ?_)
    · rw [show w.toNat = (w - 1 - i).toNat by omega]
      exact hc
    · have d : p.tdiv 8 = p / 8 := Int.tdiv_eq_ediv_of_nonneg (by omega)
      have m : p.tmod 8 = p % 8 := Int.tmod_eq_emod_of_nonneg (by omega)
      show RP (some (Sum.inl (cut (p + 1), cut (i + (-1)), mO Kc [] [(100, upI (Kc.2 100) (65536 * r + p.tdiv 8) (nar2 (i2b32 (or32 (Kc.2 100 (65536 * r + p.tdiv 8)) (i2b32 (cut (shl64 (and64 (ushr64 (Kc.2 101 (65536 * r + cut (cut (v4 + 1) + f))) i) 1) (cut (7 - p.tmod 8)))))))))]))) _
      rw [d, m, show Kc.2 101 = K.2 101 from fr2 fK 101 rfl, cut_i (z := v4 + 1) (by omega) (by omega), cut_i (z := v4 + 1 + f) (by omega) (by omega), cut_i (z := 7 - p % 8) (by omega) (by omega), cut_i (z := p + 1) (by omega) (by omega), cut_i (z := i + (-1)) (by omega) (by omega), hc (p / 8) (by omega) (by omega)]
      have hB1 := wfv_B (x := K.2 101 (65536 * r + (v4 + 1 + f))) (w := w) hB b0 (w - 1 - i).toNat
      have q := hB1 (p / 8) (by omega)
      have o := orb_k q.1 q.2 (bitx_r (K.2 101 (65536 * r + (v4 + 1 + f))) i) (k := 7 - p % 8) (by omega) (by omega)
      unfold bitx at o
      rw [o.1]
      refine RP_some ⟨⟨show -1 ≤ i + (-1) by omega, show i + (-1) ≤ w - 1 by omega⟩, show p + 1 = b + (w - 1 - (i + (-1))) by omega, fr_m fK rfl rfl, fun j j0 j1 => ?_, fun j hj => ?_⟩
      · show upI (Kc.2 100) (65536 * r + p / 8) _ (65536 * r + j) = sbt (wfv (K.2 101 (65536 * r + (v4 + 1 + f))) w B b (w - 1 - (i + (-1))).toNat j)
        rw [show (w - 1 - (i + (-1))).toNat = (w - 1 - i).toNat + 1 by omega]
        show _ = sbt (orb (wfv (K.2 101 (65536 * r + (v4 + 1 + f))) w B b (w - 1 - i).toNat) (b + (((w - 1 - i).toNat : Nat) : Int)) (bitx (K.2 101 (65536 * r + (v4 + 1 + f))) (w - 1 - (((w - 1 - i).toNat : Nat) : Int))) j)
        rw [show b + (((w - 1 - i).toNat : Nat) : Int) = p by omega, show w - 1 - (((w - 1 - i).toNat : Nat) : Int) = i by omega]
        unfold orb bitx
        by_cases e : j = p / 8
        · rw [e, upI_s, upI_s]
        · rw [upI_n (by omega), upI_n e]
          exact hc j j0 j1
      · show upI (Kc.2 100) (65536 * r + p / 8) _ j = K.2 100 j
        rw [upI_n (by omega)]
        exact ho j hj
  · show ROWb r n (wfv (K.2 101 (65536 * r + (v4 + 1 + f))) w B b (w - 1 - (w - 1)).toNat) K
    rw [show (w - 1 - (w - 1)).toNat = 0 by omega]
    exact hR

theorem write_k {i h b n : Int} {B : Int → Int} (i0 : 0 ≤ i) (i1 : i < 12) (eh : K.2 13 i = h) (h0 : 0 ≤ h) (h1 : h < 12) (hw : ∀ f, 0 ≤ f → f < 16 → 0 ≤ K.2 10 (16 * h + f) ∧ K.2 10 (16 * h + f) ≤ 64) (hB : BR B) (hR : ROWb r n B K) (b0 : 0 ≤ b) (bn : K.2 101 (65536 * r + 17 * i) ≠ 0 → b + sumW (K.2 10) (16 * h) 16 ≤ 8 * n) (n1 : n ≤ 896) : RP (kf_op_write r i b K) (fun y => fr [] [100] K y.2 ∧ (∀ j, j < 65536 * r ∨ 65536 * r + n ≤ j → y.2.2 100 j = K.2 100 j) ∧ ((K.2 101 (65536 * r + 17 * i) = 0 ∧ y.1 = b ∧ ROWb r n B y.2) ∨ (K.2 101 (65536 * r + 17 * i) ≠ 0 ∧ y.1 = b + sumW (K.2 10) (16 * h) 16 ∧ ROWb r n (wfi (K.2 10) (fun f => K.2 101 (65536 * r + (17 * i + 1 + f))) h B b 16) y.2))) := by
  have hp : ∀ n : Nat, n < 16 → 0 ≤ K.2 10 (16 * h + n) := fun n hn => (hw n (by omega) (by omega)).1
  unfold kf_op_write
  rw [show cut (i * 17) = 17 * i by rw [cut_i (by omega) (by omega)]; omega]
  by_cases hv : K.2 101 (65536 * r + 17 * i) = 0
  · refine RP_bnd (P := fun e : Int × mR => e = (b, K)) (RP_whl (I := fun s : Int × Int × mR => s = (b, 0, K)) (fun s hs => ?_) rfl) (fun e he => RP_some ?_)
    · rw [hs]
      unfold kfb_op_write_12
      show RP (if cmp64 (K.2 101 (65536 * r + 17 * i)) 0 = 0 then some (Sum.inr (b, K)) else _) _
      rw [if_pos (cmp64_0.mpr hv)]
      exact RP_some rfl
    · rw [he]
      exact ⟨fr_0, fun _ _ => rfl, Or.inl ⟨hv, rfl, hR⟩⟩
  · have bn := bn hv
    refine RP_bnd (P := fun e : Int × mR => e.1 = b + sumW (K.2 10) (16 * h) 16 ∧ fr [] [100] K e.2 ∧ (∀ j, j < 65536 * r ∨ 65536 * r + n ≤ j → e.2.2 100 j = K.2 100 j) ∧ ROWb r n (wfi (K.2 10) (fun f => K.2 101 (65536 * r + (17 * i + 1 + f))) h B b 16) e.2) (RP_whl (I := fun s : Int × Int × mR => (0 ≤ s.2.1 ∧ s.2.1 ≤ 16) ∧ s.1 = b + sumW (K.2 10) (16 * h) s.2.1.toNat ∧ fr [] [100] K s.2.2 ∧ (∀ j, j < 65536 * r ∨ 65536 * r + n ≤ j → s.2.2.2 100 j = K.2 100 j) ∧ ROWb r n (wfi (K.2 10) (fun f => K.2 101 (65536 * r + (17 * i + 1 + f))) h B b s.2.1.toNat) s.2.2) (fun s hs => ?_) ⟨⟨Int.le_refl _, (by decide : (0 : Int) ≤ 16)⟩, by show b = b + 0; omega, fr_0, fun _ _ => rfl, hR⟩) (fun e he => RP_some ⟨he.2.1, he.2.2.1, Or.inr ⟨hv, he.1, he.2.2.2⟩⟩)
    obtain ⟨p, f, Kc⟩ := s
    obtain ⟨⟨f0, f1⟩, ep, fK, ho, hc⟩ := hs
    have f0 : 0 ≤ f := f0
    have f1 : f ≤ 16 := f1
    have ep : p = b + sumW (K.2 10) (16 * h) f.toNat := ep
    have fK : fr [] [100] K Kc := fK
    have ho : ∀ j, j < 65536 * r ∨ 65536 * r + n ≤ j → Kc.2 100 j = K.2 100 j := ho
    have hc : ROWb r n (wfi (K.2 10) (fun f => K.2 101 (65536 * r + (17 * i + 1 + f))) h B b f.toNat) Kc := hc
    unfold kfb_op_write_12
    show RP (if cmp64 (Kc.2 101 (65536 * r + 17 * i)) 0 = 0 then _ else if (16 : Int) ≤ f then some (Sum.inr (p, Kc)) else bnd (kf_pr_widthOfField i f Kc) fun y12 => bnd (whl (kfb_op_write_46 r i (17 * i) f) (p, cut (y12 - 1), Kc)) (fun e15 : Int × mR => kfl_op_write_102 r i (17 * i) e15.1 f e15.2)) _
    rw [show Kc.2 101 = K.2 101 from fr2 fK 101 rfl, if_neg (fun q => hv (cmp64_0.mp q))]
    refine RP_ite (fun g => RP_some ?_) (fun g => ?_)
    · have ef : f = 16 := by omega
      rw [ef] at ep hc
      exact ⟨ep, fK, ho, hc⟩
    · rw [wid_v (by omega), bnd_some, show Kc.2 13 = K.2 13 from fr2 fK 13 rfl, show Kc.2 10 = K.2 10 from fr2 fK 10 rfl, eh, cut_i (z := h * 16) (by omega) (by omega), cut_i (z := h * 16 + f) (by omega) (by omega), show h * 16 + f = 16 * h + f by omega]
      obtain ⟨w0, w1⟩ := hw f f0 (by omega)
      have s0 := sumW_p hp f.toNat (by omega)
      have s1 := sumW_o hp (n := f.toNat + 1) (16 - (f.toNat + 1)) (by omega)
      rw [show f.toNat + 1 + (16 - (f.toNat + 1)) = 16 by omega] at s1
      have s2 : sumW (K.2 10) (16 * h) (f.toNat + 1) = sumW (K.2 10) (16 * h) f.toNat + K.2 10 (16 * h + f) := by
        show sumW (K.2 10) (16 * h) f.toNat + K.2 10 (16 * h + (f.toNat : Int)) = _
        rw [show (f.toNat : Int) = f by omega]
      rw [cut_i (z := K.2 10 (16 * h + f) - 1) (by omega) (by omega)]
      have hB1 := wfi_B (X := fun f => K.2 101 (65536 * r + (17 * i + 1 + f))) (h := h) hB b0 (fun f f0 f1 => (hw f f0 f1).1) f.toNat (by omega)
      refine RP_bnd (bitw_k (K := Kc) (r := r) (v2 := i) (v4 := 17 * i) (f := f) (w := K.2 10 (16 * h + f)) (b := p) (n := n) hB1 hc (by omega) w0 w1 (by omega) n1 (by omega) (by omega) f0 (by omega)) (fun e he => ?_)
      obtain ⟨e1, e2, e3, e4⟩ := he
      unfold kfl_op_write_102
      rw [cut_i (z := f + 1) (by omega) (by omega)]
      refine RP_some ⟨⟨show 0 ≤ f + 1 by omega, show f + 1 ≤ 16 by omega⟩, ?_, fr_s e2 fK rfl rfl, fun j hj => (e4 j hj).trans (ho j hj), ?_⟩
      · show e.1 = b + sumW (K.2 10) (16 * h) (f + 1).toNat
        rw [show (f + 1).toNat = f.toNat + 1 by omega, s2]
        omega
      · show ROWb r n (wfi (K.2 10) (fun f => K.2 101 (65536 * r + (17 * i + 1 + f))) h B b (f + 1).toNat) e.2
        rw [show (f + 1).toNat = f.toNat + 1 by omega]
        show ROWb r n (wfv (K.2 101 (65536 * r + (17 * i + 1 + (f.toNat : Int)))) (K.2 10 (16 * h + (f.toNat : Int))) (wfi (K.2 10) (fun f => K.2 101 (65536 * r + (17 * i + 1 + f))) h B b f.toNat) (b + sumW (K.2 10) (16 * h) f.toNat) (K.2 10 (16 * h + (f.toNat : Int))).toNat) e.2
        rw [show (f.toNat : Int) = f by omega, ← ep]
        rw [show Kc.2 101 = K.2 101 from fr2 fK 101 rfl] at e3
        exact e3
end LV2

section LV3
variable {K M : mR}
theorem bitw_r {v1 v3 v4 v5 v6 f w b : Int} {B : Int → Int} (hR : ∀ i, 0 ≤ i → i < 896 → M.2 168 (v3 + i) = B i) (b0 : 0 ≤ b) (w0 : 0 ≤ w) (w1 : w ≤ 64) (bn : b + w ≤ 7168) (v30 : 0 ≤ v3) (v31 : v3 ≤ 113792) (i0 : 0 ≤ v5) (i1 : v5 < 12) (f0 : 0 ≤ f) (f1 : f < 16) : RP (whl (rfb_writePacket_107 v1 v3 v4 v5 v6 f) (b, w - 1, M)) (fun e => e.1 = b + w ∧ fr [] [168] M e.2 ∧ (∀ i, 0 ≤ i → i < 896 → e.2.2 168 (v3 + i) = wfv (M.2 171 (16 * v5 + f)) w B b w.toNat i) ∧ ∀ j, j < v3 ∨ v3 + 896 ≤ j → e.2.2 168 j = M.2 168 j) := by
  refine RP_whl (I := fun s : Int × Int × mR => (-1 ≤ s.2.1 ∧ s.2.1 ≤ w - 1) ∧ s.1 = b + (w - 1 - s.2.1) ∧ fr [] [168] M s.2.2 ∧ (∀ i, 0 ≤ i → i < 896 → s.2.2.2 168 (v3 + i) = wfv (M.2 171 (16 * v5 + f)) w B b (w - 1 - s.2.1).toNat i) ∧ ∀ j, j < v3 ∨ v3 + 896 ≤ j → s.2.2.2 168 j = M.2 168 j) (fun s hs => ?_) ⟨⟨show -1 ≤ w - 1 by omega, Int.le_refl _⟩, by show b = b + (w - 1 - (w - 1)); omega, fr_0, ?_, fun _ _ => rfl⟩
  · obtain ⟨p, i, Mc⟩ := s
    obtain ⟨⟨j0, j1⟩, ep, fM, hc, ho⟩ := hs
    have j0 : -1 ≤ i := j0
    have j1 : i ≤ w - 1 := j1
    have ep : p = b + (w - 1 - i) := ep
    have fM : fr [] [168] M Mc := fM
    have hc : ∀ j, 0 ≤ j → j < 896 → Mc.2 168 (v3 + j) = wfv (M.2 171 (16 * v5 + f)) w B b (w - 1 - i).toNat j := hc
    have ho : ∀ j, j < v3 ∨ v3 + 896 ≤ j → Mc.2 168 j = M.2 168 j := ho
    unfold rfb_writePacket_107
    show RP (if i < 0 then some (Sum.inr (p, Mc)) else _) _
    refine RP_ite (fun g => RP_some ⟨show p = b + w by omega, fM, ?_, ho⟩) (fun g => ?_)
    · rw [show w.toNat = (w - 1 - i).toNat by omega]
      exact hc
    · have d : p.tdiv 8 = p / 8 := Int.tdiv_eq_ediv_of_nonneg (by omega)
      have m : p.tmod 8 = p % 8 := Int.tmod_eq_emod_of_nonneg (by omega)
      show RP (some (Sum.inl (cut (p + 1), cut (i + (-1)), mO Mc [] [(168, upI (Mc.2 168) (cut (v3 + p.tdiv 8)) (or32 (Mc.2 168 (cut (v3 + p.tdiv 8))) (shl32 (cut (and64 (ushr64 (Mc.2 171 (cut (cut (16 * v5) + f))) i) 1)) (cut (7 - p.tmod 8)))))]))) _
      have bx := bitx_r (M.2 171 (16 * v5 + f)) i
      rw [d, m, show Mc.2 171 = M.2 171 from fr2 fM 171 rfl, cut_i (z := 16 * v5) (by omega) (by omega), cut_i (z := 16 * v5 + f) (by omega) (by omega), cut_i (z := 7 - p % 8) (by omega) (by omega), cut_i (z := p + 1) (by omega) (by omega), cut_i (z := i + (-1)) (by omega) (by omega), cut_i (z := v3 + p / 8) (by omega) (by omega), hc (p / 8) (by omega) (by omega)]
      have cx : cut (and64 (ushr64 (M.2 171 (16 * v5 + f)) i) 1) = bitx (M.2 171 (16 * v5 + f)) i := by
        show cut (bitx (M.2 171 (16 * v5 + f)) i) = _
        exact cut_i (by omega) (by omega)
      rw [cx]
      refine RP_some ⟨⟨show -1 ≤ i + (-1) by omega, show i + (-1) ≤ w - 1 by omega⟩, show p + 1 = b + (w - 1 - (i + (-1))) by omega, fr_m fM rfl rfl, fun j q0 q1 => ?_, fun j hj => ?_⟩
      · show upI (Mc.2 168) (v3 + p / 8) _ (v3 + j) = wfv (M.2 171 (16 * v5 + f)) w B b (w - 1 - (i + (-1))).toNat j
        rw [show (w - 1 - (i + (-1))).toNat = (w - 1 - i).toNat + 1 by omega]
        show _ = orb (wfv (M.2 171 (16 * v5 + f)) w B b (w - 1 - i).toNat) (b + (((w - 1 - i).toNat : Nat) : Int)) (bitx (M.2 171 (16 * v5 + f)) (w - 1 - (((w - 1 - i).toNat : Nat) : Int))) j
        rw [show b + (((w - 1 - i).toNat : Nat) : Int) = p by omega, show w - 1 - (((w - 1 - i).toNat : Nat) : Int) = i by omega]
        unfold orb
        by_cases e : j = p / 8
        · rw [e, upI_s, upI_s]
        · rw [upI_n (by omega), upI_n e]
          exact hc j q0 q1
      · show upI (Mc.2 168) (v3 + p / 8) _ j = M.2 168 j
        rw [upI_n (by omega)]
        exact ho j hj
  · show ∀ i, 0 ≤ i → i < 896 → M.2 168 (v3 + i) = wfv (M.2 171 (16 * v5 + f)) w B b (w - 1 - (w - 1)).toNat i
    rw [show (w - 1 - (w - 1)).toNat = 0 by omega]
    exact hR

theorem write_r {v1 v3 v4 i h b : Int} {W B : Int → Int} (i0 : 0 ≤ i) (i1 : i < 12) (h0 : 0 ≤ h) (h1 : h < 12) (n0 : 0 ≤ M.2 29 h) (n1 : M.2 29 h ≤ 16) (hW : ∀ f, 0 ≤ f → f < M.2 29 h → W (16 * h + f) = M.2 33 (16 * h + f)) (hw : ∀ f, 0 ≤ f → f < 16 → 0 ≤ W (16 * h + f) ∧ W (16 * h + f) ≤ 64) (hz : ∀ f, M.2 29 h ≤ f → f < 16 → W (16 * h + f) = 0) (hR : ∀ j, 0 ≤ j → j < 896 → M.2 168 (v3 + j) = B j) (b0 : 0 ≤ b) (bn : M.2 175 i ≠ 0 → b + sumW W (16 * h) 16 ≤ 7168) (v30 : 0 ≤ v3) (v31 : v3 ≤ 113792) : RP (whl (rfb_writePacket_68 v1 v3 v4 i h) (b, 0, M)) (fun e => fr [] [168] M e.2 ∧ (∀ j, j < v3 ∨ v3 + 896 ≤ j → e.2.2 168 j = M.2 168 j) ∧ ((M.2 175 i = 0 ∧ e.1 = b ∧ ∀ j, 0 ≤ j → j < 896 → e.2.2 168 (v3 + j) = B j) ∨ (M.2 175 i ≠ 0 ∧ e.1 = b + sumW W (16 * h) 16 ∧ ∀ j, 0 ≤ j → j < 896 → e.2.2 168 (v3 + j) = wfi W (fun f => M.2 171 (16 * i + f)) h B b 16 j))) := by
  have hp : ∀ n : Nat, n < 16 → 0 ≤ W (16 * h + n) := fun n hn => (hw n (by omega) (by omega)).1
  by_cases hv : M.2 175 i = 0
  · refine RP_whl (I := fun s : Int × Int × mR => s = (b, 0, M)) (fun s hs => ?_) rfl
    rw [hs]
    unfold rfb_writePacket_68
    show RP (if M.2 29 h ≤ 0 then some (Sum.inr (b, M)) else if M.2 175 i = 0 then some (Sum.inr (b, M)) else _) _
    rw [if_pos hv]
    have x : fr [] [168] M M ∧ (∀ j, j < v3 ∨ v3 + 896 ≤ j → M.2 168 j = M.2 168 j) ∧ ((M.2 175 i = 0 ∧ b = b ∧ ∀ j, 0 ≤ j → j < 896 → M.2 168 (v3 + j) = B j) ∨ (M.2 175 i ≠ 0 ∧ b = b + sumW W (16 * h) 16 ∧ ∀ j, 0 ≤ j → j < 896 → M.2 168 (v3 + j) = wfi W (fun f => M.2 171 (16 * i + f)) h B b 16 j)) := ⟨fr_0, fun _ _ => rfl, Or.inl ⟨hv, rfl, hR⟩⟩
    exact RP_ite (fun _ => RP_some x) (fun _ => RP_some x)
  · have bn := bn hv
    refine RP_whl (I := fun s : Int × Int × mR => (0 ≤ s.2.1 ∧ s.2.1 ≤ M.2 29 h) ∧ s.1 = b + sumW W (16 * h) s.2.1.toNat ∧ fr [] [168] M s.2.2 ∧ (∀ j, j < v3 ∨ v3 + 896 ≤ j → s.2.2.2 168 j = M.2 168 j) ∧ ∀ j, 0 ≤ j → j < 896 → s.2.2.2 168 (v3 + j) = wfi W (fun f => M.2 171 (16 * i + f)) h B b s.2.1.toNat j) (fun s hs => ?_) ⟨⟨Int.le_refl _, n0⟩, by show b = b + 0; omega, fr_0, fun _ _ => rfl, hR⟩
    obtain ⟨p, f, Mc⟩ := s
    obtain ⟨⟨f0, f1⟩, ep, fM, ho, hc⟩ := hs
    have f0 : 0 ≤ f := f0
    have f1 : f ≤ M.2 29 h := f1
    have ep : p = b + sumW W (16 * h) f.toNat := ep
    have fM : fr [] [168] M Mc := fM
    have ho : ∀ j, j < v3 ∨ v3 + 896 ≤ j → Mc.2 168 j = M.2 168 j := ho
    have hc : ∀ j, 0 ≤ j → j < 896 → Mc.2 168 (v3 + j) = wfi W (fun f => M.2 171 (16 * i + f)) h B b f.toNat j := hc
    unfold rfb_writePacket_68
    show RP (if Mc.2 29 h ≤ f then some (Sum.inr (p, Mc)) else if Mc.2 175 i = 0 then _ else bnd (whl (rfb_writePacket_107 v1 v3 v4 i h f) (p, cut (Mc.2 33 (cut (cut (16 * h) + f)) - 1), Mc)) (fun e24 : Int × mR => rfl_writePacket_171 v1 e24.1 v3 v4 i h f e24.2)) _
    rw [show Mc.2 29 = M.2 29 from fr2 fM 29 rfl, show Mc.2 175 = M.2 175 from fr2 fM 175 rfl, show Mc.2 33 = M.2 33 from fr2 fM 33 rfl, if_neg hv]
    refine RP_ite (fun g => RP_some ⟨fM, ho, Or.inr ⟨hv, ?_⟩⟩) (fun g => ?_)
    · have ef : f = M.2 29 h := by omega
      obtain ⟨z1, z2⟩ := wfi_z (W := W) (X := fun f => M.2 171 (16 * i + f)) (h := h) (B := B) (b := b) (n := f.toNat) (fun q q0 q1 => hz q (by omega) (by omega)) (16 - f.toNat) (by omega)
      rw [show f.toNat + (16 - f.toNat) = 16 by omega] at z1 z2
      rw [z1, z2]
      exact ⟨ep, hc⟩
    · rw [cut_i (z := 16 * h) (by omega) (by omega), cut_i (z := 16 * h + f) (by omega) (by omega), ← hW f f0 (by omega)]
      obtain ⟨w0, w1⟩ := hw f f0 (by omega)
      have s0 := sumW_p hp f.toNat (by omega)
      have s1 := sumW_o hp (n := f.toNat + 1) (16 - (f.toNat + 1)) (by omega)
      rw [show f.toNat + 1 + (16 - (f.toNat + 1)) = 16 by omega] at s1
      have s2 : sumW W (16 * h) (f.toNat + 1) = sumW W (16 * h) f.toNat + W (16 * h + f) := by
        show sumW W (16 * h) f.toNat + W (16 * h + (f.toNat : Int)) = _
        rw [show (f.toNat : Int) = f by omega]
      rw [cut_i (z := W (16 * h + f) - 1) (by omega) (by omega)]
      refine RP_bnd (bitw_r (M := Mc) (v1 := v1) (v3 := v3) (v4 := v4) (v5 := i) (v6 := h) (f := f) (w := W (16 * h + f)) (b := p) hc (by omega) w0 w1 (by omega) v30 v31 i0 i1 f0 (by omega)) (fun e he => ?_)
      obtain ⟨e1, e2, e3, e4⟩ := he
      rw [show Mc.2 171 = M.2 171 from fr2 fM 171 rfl] at e3
      unfold rfl_writePacket_171
      rw [cut_i (z := f + 1) (by omega) (by omega)]
      refine RP_some ⟨⟨show 0 ≤ f + 1 by omega, show f + 1 ≤ M.2 29 h by omega⟩, ?_, fr_s e2 fM rfl rfl, fun j hj => (e4 j hj).trans (ho j hj), ?_⟩
      · show e.1 = b + sumW W (16 * h) (f + 1).toNat
        rw [show (f + 1).toNat = f.toNat + 1 by omega, s2]
        omega
      · show ∀ j, 0 ≤ j → j < 896 → e.2.2 168 (v3 + j) = wfi W (fun f => M.2 171 (16 * i + f)) h B b (f + 1).toNat j
        rw [show (f + 1).toNat = f.toNat + 1 by omega]
        show ∀ j, 0 ≤ j → j < 896 → e.2.2 168 (v3 + j) = wfv (M.2 171 (16 * i + (f.toNat : Int))) (W (16 * h + (f.toNat : Int))) (wfi W (fun f => M.2 171 (16 * i + f)) h B b f.toNat) (b + sumW W (16 * h) f.toNat) (W (16 * h + (f.toNat : Int))).toNat j
        rw [show (f.toNat : Int) = f by omega, ← ep]
        exact e3

def EMm (K M : mR) : Prop := HIm K M ∧ EMx_nx K M
theorem wis_r (h : EMm K M) (sl : Int → Int) : ∀ j : Nat, (j : Int) ≤ M.1 125 → BR (wis K sl j).1 ∧ 0 ≤ (wis K sl j).2 ∧ (wis K sl j).2 ≤ 512 * j ∧ (wis K sl j).2 % 8 = 0 ∧ ∀ i, (wis K sl j).2 ≤ 8 * i → (wis K sl j).1 i = 0 := by
  intro j
  induction j with
  | zero => intro _; exact ⟨fun _ _ => ⟨show (0 : Int) ≤ 0 from Int.le_refl _, show (0 : Int) ≤ 255 by decide⟩, Int.le_refl _, Int.le_refl _, rfl, fun _ _ => rfl⟩
  | succ j ih =>
    intro hj
    obtain ⟨a1, a2, a3, a4, a5⟩ := ih (by omega)
    obtain ⟨e1, e2, e3⟩ := h.2.2 j (by omega) (by omega)
    obtain ⟨⟨q13, q0, q1⟩, ⟨n0, n1⟩, hW, hw, hz, e30, S0, S1, S8⟩ := HIm_i h.1 e2 e3
    unfold wis
    by_cases v : sl (17 * K.2 17 j) = 0
    · rw [if_pos v]
      exact ⟨a1, a2, by omega, a4, a5⟩
    · rw [if_neg v, e1, q13, ← e30]
      have w : ∀ f, 0 ≤ f → f < 16 → 0 ≤ K.2 10 (16 * M.2 34 (M.2 124 j) + f) := fun f f0 f1 => (hw f f0 f1).1
      refine ⟨show BR (wfi (K.2 10) (fun f => sl (17 * M.2 124 (j : Int) + 1 + f)) (M.2 34 (M.2 124 (j : Int))) (wis K sl j).1 (wis K sl j).2 16) from wfi_B a1 a2 w 16 (by omega), ?_, ?_, ?_, fun i hi => ?_⟩
      · show 0 ≤ (wis K sl j).2 + M.2 30 (M.2 34 (M.2 124 j))
        omega
      · show (wis K sl j).2 + M.2 30 (M.2 34 (M.2 124 j)) ≤ 512 * ((j + 1 : Nat) : Int)
        omega
      · show ((wis K sl j).2 + M.2 30 (M.2 34 (M.2 124 j))) % 8 = 0
        omega
      · have hi : (wis K sl j).2 + M.2 30 (M.2 34 (M.2 124 j)) ≤ 8 * i := hi
        show wfi (K.2 10) (fun f => sl (17 * M.2 124 (j : Int) + 1 + f)) (M.2 34 (M.2 124 (j : Int))) (wis K sl j).1 (wis K sl j).2 16 i = 0
        rw [wfi_o a2 w 16 (by omega) (by rw [← e30]; exact hi)]
        exact a5 i (by omega)
theorem wis_m (h : EMm K M) (sl : Int → Int) : ∀ d j : Nat, ((j + d : Nat) : Int) ≤ M.1 125 → (wis K sl j).2 ≤ (wis K sl (j + d)).2 := by
  intro d
  induction d with
  | zero => intro j _; exact Int.le_refl _
  | succ d ih =>
    intro j hj
    have a := ih j (by omega)
    obtain ⟨e1, e2, e3⟩ := h.2.2 ((j + d : Nat) : Int) (by omega) (by omega)
    obtain ⟨⟨q13, q0, q1⟩, -, -, -, -, e30, S0, -⟩ := HIm_i h.1 e2 e3
    refine Int.le_trans a ?_
    show (wis K sl (j + d)).2 ≤ (wis K sl (j + d + 1)).2
    conv => rhs; unfold wis
    by_cases v : sl (17 * K.2 17 ((j + d : Nat) : Int)) = 0
    · rw [if_pos v]
      exact Int.le_refl _
    · rw [if_neg v]
      show (wis K sl (j + d)).2 ≤ (wis K sl (j + d)).2 + sumW (K.2 10) (16 * K.2 13 (K.2 17 ((j + d : Nat) : Int))) 16
      rw [e1, q13, ← e30]
      omega

theorem wfi_c {W X X' : Int → Int} {h b : Int} {B : Int → Int} : ∀ n : Nat, (∀ f : Nat, f < n → X' f = X f) → wfi W X' h B b n = wfi W X h B b n := by
  intro n
  induction n with
  | zero => intro _; rfl
  | succ n ih =>
    intro hX
    unfold wfi
    rw [ih (fun f hf => hX f (by omega)), hX n (by omega)]
theorem wis_c (h : EMm K M) {sl sl' : Int → Int} (hs : ∀ s, 0 ≤ s → s < 204 → sl' s = sl s) : ∀ j : Nat, (j : Int) ≤ M.1 125 → wis K sl' j = wis K sl j := by
  intro j
  induction j with
  | zero => intro _; rfl
  | succ j ih =>
    intro hj
    obtain ⟨e1, e2, e3⟩ := h.2.2 j (by omega) (by omega)
    have m20 := h.1.1.2
    unfold wis
    rw [ih (by omega), hs _ (by omega) (by omega)]
    have e : ∀ f : Nat, f < 16 → sl' (17 * K.2 17 j + 1 + f) = sl (17 * K.2 17 j + 1 + f) := fun f hf => hs _ (by omega) (by omega)
    rw [wfi_c (X := fun f => sl (17 * K.2 17 j + 1 + f)) (X' := fun f => sl' (17 * K.2 17 j + 1 + f)) 16 e]

theorem wis_f {K' : mR} {F A : List Nat} (f : fr F A K K') (c : chk [10, 13, 17] A = true) (sl : Int → Int) : ∀ j, wis K' sl j = wis K sl j := by
  intro j
  induction j with
  | zero => rfl
  | succ j ih =>
    unfold wis
    rw [ih, fr2 f 10 (chk_1 c (by decide)), fr2 f 13 (chk_1 c (by decide)), fr2 f 17 (chk_1 c (by decide))]
end LV3


def obt (K : mR) (sl u : Int → Int) (E : Nat) (ext : Int) : Int → Int := fun i => if 8 * i < (wis K sl E).2 then (wis K sl E).1 i else u (ext + (i - (wis K sl E).2 / 8))
def olq (K : mR) (sl : Int → Int) (E : Nat) (len ext : Int) : Int := (wis K sl E).2 / 8 + len - ext
section LV4
variable {K M : mR} {r : Int}
theorem z168_r {v1 v3 : Int} (v30 : 0 ≤ v3) (v31 : v3 ≤ 113792) : RP (whl (rfb_writePacket_11 v1 0 v3) (0, M)) (fun e => fr [] [168] M e ∧ (∀ j, 0 ≤ j → j < 896 → e.2 168 (v3 + j) = 0) ∧ ∀ j, j < v3 ∨ v3 + 896 ≤ j → e.2 168 j = M.2 168 j) := by
  refine RP_whl (I := fun s : Int × mR => (0 ≤ s.1 ∧ s.1 ≤ 896) ∧ fr [] [168] M s.2 ∧ (∀ j, 0 ≤ j → j < s.1 → s.2.2 168 (v3 + j) = 0) ∧ ∀ j, j < v3 ∨ v3 + 896 ≤ j → s.2.2 168 j = M.2 168 j) (fun s hs => ?_) ⟨⟨Int.le_refl _, (by decide : (0 : Int) ≤ 896)⟩, fr_0, fun j j0 j1 => by have j1 : j < 0 := j1; omega, fun _ _ => rfl⟩
  obtain ⟨i, Mc⟩ := s
  obtain ⟨⟨i0, i1⟩, f, h, ho⟩ := hs
  have i0 : 0 ≤ i := i0
  have i1 : i ≤ 896 := i1
  have h : ∀ j, 0 ≤ j → j < i → Mc.2 168 (v3 + j) = 0 := h
  have ho : ∀ j, j < v3 ∨ v3 + 896 ≤ j → Mc.2 168 j = M.2 168 j := ho
  unfold rfb_writePacket_11
  refine RP_ite (fun g => RP_some ⟨f, fun j j0 j1 => h j j0 (by have g : 896 ≤ i := g; omega), ho⟩) (fun g => ?_)
  have g : ¬ 896 ≤ i := g
  show RP (some (Sum.inl (cut (i + 1), mO Mc [] [(168, upI (Mc.2 168) (cut (v3 + i)) 0)]))) _
  rw [cut_i (z := i + 1) (by omega) (by omega), cut_i (z := v3 + i) (by omega) (by omega)]
  refine RP_some ⟨⟨show 0 ≤ i + 1 by omega, show i + 1 ≤ 896 by omega⟩, fr_m f rfl rfl, fun j j0 j1 => ?_, fun j hj => ?_⟩
  · have j1 : j < i + 1 := j1
    show upI (Mc.2 168) (v3 + i) 0 (v3 + j) = 0
    by_cases e : j = i
    · rw [e, upI_s]
    · rw [upI_n (by omega)]
      exact h j j0 (by omega)
  · show upI (Mc.2 168) (v3 + i) 0 j = _
    rw [upI_n (by omega)]
    exact ho j hj

def WPo (at' : Int) (K M z : mR) : Prop := fr [] [165, 166, 168] M z ∧ z.2 165 = upI (M.2 165) at' (cut (M.2 172 2)) ∧ z.2 166 = upI (M.2 166) at' (olq K (smM M) (M.1 125).toNat (M.2 154 0) (M.1 176)) ∧ (∀ i, 0 ≤ i → i < olq K (smM M) (M.1 125).toNat (M.2 154 0) (M.1 176) → z.2 168 (896 * at' + i) = obt K (smM M) (M.2 159) (M.1 125).toNat (M.1 176) i) ∧ ∀ j, j < 896 * at' ∨ 896 * at' + 896 ≤ j → z.2 168 j = M.2 168 j
theorem writeP_r {at' : Int} (h : EMm K M) (a0 : 0 ≤ at') (a1 : at' ≤ 127) (x0 : 0 ≤ M.1 176) (x1 : M.1 176 ≤ M.2 154 0) (l1 : M.2 154 0 ≤ 128) : RP (rf_writePacket at' M) (fun z => WPo at' K M z.2) := by
  obtain ⟨E0, E1⟩ : 0 ≤ M.1 125 ∧ M.1 125 ≤ 12 := ⟨h.2.1.2.1, h.2.1.2.2⟩
  have m20 := h.1.1.2
  unfold rf_writePacket
  rw [cut_i (z := 896 * at') (by omega) (by omega)]
  refine RP_bnd (z168_r (M := M) (v1 := at') (v3 := 896 * at') (by omega) (by omega)) (fun e he => ?_)
  obtain ⟨fe, he, ho⟩ := he
  unfold rfl_writePacket_35
  refine RP_bnd (P := fun s : Int × mR => s.1 = (wis K (smM M) (M.1 125).toNat).2 ∧ fr [] [168] M s.2 ∧ (∀ j, 0 ≤ j → j < 896 → s.2.2 168 (896 * at' + j) = (wis K (smM M) (M.1 125).toNat).1 j) ∧ ∀ j, j < 896 * at' ∨ 896 * at' + 896 ≤ j → s.2.2 168 j = M.2 168 j) (RP_whl (I := fun s : Int × Int × mR => (0 ≤ s.2.1 ∧ s.2.1 ≤ M.1 125) ∧ s.1 = (wis K (smM M) s.2.1.toNat).2 ∧ fr [] [168] M s.2.2 ∧ (∀ j, 0 ≤ j → j < 896 → s.2.2.2 168 (896 * at' + j) = (wis K (smM M) s.2.1.toNat).1 j) ∧ ∀ j, j < 896 * at' ∨ 896 * at' + 896 ≤ j → s.2.2.2 168 j = M.2 168 j) (fun s hs => ?_) ⟨⟨Int.le_refl _, E0⟩, rfl, fe, he, ho⟩) (fun s hs => ?_)
  · obtain ⟨b, q, Mc⟩ := s
    obtain ⟨⟨q0, q1⟩, eb, fM, hc, ho⟩ := hs
    have q0 : 0 ≤ q := q0
    have q1 : q ≤ M.1 125 := q1
    have eb : b = (wis K (smM M) q.toNat).2 := eb
    have fM : fr [] [168] M Mc := fM
    have hc : ∀ j, 0 ≤ j → j < 896 → Mc.2 168 (896 * at' + j) = (wis K (smM M) q.toNat).1 j := hc
    have ho : ∀ j, j < 896 * at' ∨ 896 * at' + 896 ≤ j → Mc.2 168 j = M.2 168 j := ho
    unfold rfb_writePacket_38
    show RP (if Mc.1 125 ≤ q then some (Sum.inr (b, Mc)) else bnd (whl (rfb_writePacket_68 at' (896 * at') q (Mc.2 124 q) (Mc.2 34 (Mc.2 124 q))) (b, 0, Mc)) (fun e31 : Int × mR => rfl_writePacket_177 at' e31.1 (896 * at') q e31.2)) _
    rw [show Mc.1 125 = M.1 125 from fr1 fM 125 rfl, show Mc.2 124 = M.2 124 from fr2 fM 124 rfl, show Mc.2 34 = M.2 34 from fr2 fM 34 rfl]
    refine RP_ite (fun g => RP_some ?_) (fun g => ?_)
    · rw [show q = M.1 125 by omega] at eb hc
      exact ⟨eb, fM, hc, ho⟩
    · obtain ⟨e1, e2, e3⟩ := h.2.2 q q0 (by omega)
      obtain ⟨⟨p13, p0, p1⟩, ⟨n0, n1⟩, hW, hw, hz, e30, S0, S1, S8⟩ := HIm_i h.1 e2 e3
      obtain ⟨b1, b2, b3, b4, b5⟩ := wis_r h (smM M) q.toNat (by omega)
      have X := write_r (M := Mc) (v1 := at') (v3 := 896 * at') (v4 := q) (i := M.2 124 q) (h := M.2 34 (M.2 124 q)) (b := b) (W := K.2 10) (B := (wis K (smM M) q.toNat).1) e2 (by omega) p0 p1 (by rw [fr2 fM 29 rfl]; exact n0) (by rw [fr2 fM 29 rfl]; exact n1) (by rw [fr2 fM 29 rfl, fr2 fM 33 rfl]; exact hW) hw (by rw [fr2 fM 29 rfl]; exact hz) hc (by omega) (fun _ => by rw [← e30]; omega) (by omega) (by omega)
      refine RP_bnd X (fun w hx => ?_)
      obtain ⟨w1, w2, w3⟩ := hx
      rw [show Mc.2 175 = M.2 175 from fr2 fM 175 rfl, show Mc.2 171 = M.2 171 from fr2 fM 171 rfl] at w3
      unfold rfl_writePacket_177
      rw [cut_i (z := q + 1) (by omega) (by omega)]
      have eq' : ((q.toNat : Nat) : Int) = q := by omega
      have nx : wis K (smM M) (q + 1).toNat = if M.2 175 (M.2 124 q) = 0 then wis K (smM M) q.toNat else (wfi (K.2 10) (fun f => M.2 171 (16 * M.2 124 q + f)) (M.2 34 (M.2 124 q)) (wis K (smM M) q.toNat).1 b 16, b + sumW (K.2 10) (16 * M.2 34 (M.2 124 q)) 16) := by
        rw [show (q + 1).toNat = q.toNat + 1 by omega]
        conv => lhs; unfold wis
        rw [eq', e1, p13, ← eb, smM_v e2 (by omega)]
        by_cases v : M.2 175 (M.2 124 q) = 0
        · rw [if_pos v, if_pos rfl, if_pos v]
        · rw [if_neg v, if_neg (by decide), if_neg v]
          rw [wfi_c (X := fun f => M.2 171 (16 * M.2 124 q + f)) (X' := fun f => smM M (17 * M.2 124 q + 1 + f)) 16 (fun f hf => smM_f e2 (by omega) (by omega) (by omega))]
      refine RP_some ⟨⟨show 0 ≤ q + 1 by omega, show q + 1 ≤ M.1 125 by omega⟩, ?_, fr_s w1 fM rfl rfl, ?_, fun j hj => (w2 j hj).trans (ho j hj)⟩
      · show w.1 = (wis K (smM M) (q + 1).toNat).2
        rw [nx]
        rcases w3 with ⟨v, w4, -⟩ | ⟨v, w4, -⟩
        · rw [if_pos v, w4, eb]
        · rw [if_neg v, w4]
      · show ∀ j, 0 ≤ j → j < 896 → w.2.2 168 (896 * at' + j) = (wis K (smM M) (q + 1).toNat).1 j
        rw [nx]
        rcases w3 with ⟨v, -, w5⟩ | ⟨v, -, w5⟩
        · rw [if_pos v]
          exact w5
        · rw [if_neg v]
          exact w5
  · obtain ⟨s1, fM, hc, ho⟩ := hs
    obtain ⟨b1, b2, b3, b4, b5⟩ := wis_r h (smM M) (M.1 125).toNat (by omega)
    unfold rfl_writePacket_183
    obtain ⟨T, eT⟩ : ∃ T, T = (wis K (smM M) (M.1 125).toNat).2 := ⟨_, rfl⟩
    rw [← eT] at s1 b2 b3 b4 b5
    rw [s1, show T.tdiv 8 = T / 8 from Int.tdiv_eq_ediv_of_nonneg b2, show s.2.1 176 = M.1 176 from fr1 fM 176 rfl]
    have e154 : s.2.2 154 = M.2 154 := fr2 fM 154 rfl
    have e159 : s.2.2 159 = M.2 159 := fr2 fM 159 rfl
    refine RP_bnd (P := fun w : Int × mR => w.1 = T / 8 + M.2 154 0 - M.1 176 ∧ fr [] [168] M w.2 ∧ (∀ j, 0 ≤ j → j < T / 8 + M.2 154 0 - M.1 176 → w.2.2 168 (896 * at' + j) = obt K (smM M) (M.2 159) (M.1 125).toNat (M.1 176) j) ∧ ∀ j, j < 896 * at' ∨ 896 * at' + 896 ≤ j → w.2.2 168 j = M.2 168 j) (RP_whl (I := fun w : Int × Int × mR => (M.1 176 ≤ w.2.1 ∧ w.2.1 ≤ M.2 154 0) ∧ w.1 = T / 8 + (w.2.1 - M.1 176) ∧ fr [] [168] M w.2.2 ∧ (∀ j, 0 ≤ j → j < w.1 → w.2.2.2 168 (896 * at' + j) = obt K (smM M) (M.2 159) (M.1 125).toNat (M.1 176) j) ∧ ∀ j, j < 896 * at' ∨ 896 * at' + 896 ≤ j → w.2.2.2 168 j = M.2 168 j) (fun w hw => ?_) ⟨⟨Int.le_refl _, x1⟩, by show T / 8 = T / 8 + (M.1 176 - M.1 176); omega, fM, fun j j0 j1 => ?_, ho⟩) (fun w hw => ?_)
    · obtain ⟨n, k, Mc⟩ := w
      obtain ⟨⟨k0, k1⟩, en, fc, hb, hq⟩ := hw
      have k0 : M.1 176 ≤ k := k0
      have k1 : k ≤ M.2 154 0 := k1
      have en : n = T / 8 + (k - M.1 176) := en
      have fc : fr [] [168] M Mc := fc
      have hb : ∀ j, 0 ≤ j → j < n → Mc.2 168 (896 * at' + j) = obt K (smM M) (M.2 159) (M.1 125).toNat (M.1 176) j := hb
      have hq : ∀ j, j < 896 * at' ∨ 896 * at' + 896 ≤ j → Mc.2 168 j = M.2 168 j := hq
      unfold rfb_writePacket_195
      show RP (if Mc.2 154 0 ≤ k then some (Sum.inr (n, Mc)) else some (Sum.inl (cut (n + 1), cut (k + 1), mO Mc [] [(168, upI (Mc.2 168) (cut (896 * at' + n)) (Mc.2 159 k))]))) _
      rw [show Mc.2 154 = M.2 154 from fr2 fc 154 rfl, show Mc.2 159 = M.2 159 from fr2 fc 159 rfl]
      refine RP_ite (fun g => RP_some ⟨show n = _ by omega, fc, fun j j0 j1 => hb j j0 (by omega), hq⟩) (fun g => ?_)
      rw [cut_i (z := n + 1) (by omega) (by omega), cut_i (z := k + 1) (by omega) (by omega), cut_i (z := 896 * at' + n) (by omega) (by omega)]
      refine RP_some ⟨⟨show M.1 176 ≤ k + 1 by omega, show k + 1 ≤ M.2 154 0 by omega⟩, show n + 1 = T / 8 + (k + 1 - M.1 176) by omega, fr_m fc rfl rfl, fun j j0 j1 => ?_, fun j hj => ?_⟩
      · have j1 : j < n + 1 := j1
        show upI (Mc.2 168) (896 * at' + n) (M.2 159 k) (896 * at' + j) = _
        by_cases e : j = n
        · rw [e, upI_s]
          unfold obt
          rw [← eT, if_neg (by omega), show M.1 176 + (n - T / 8) = k by omega]
        · rw [upI_n (by omega)]
          exact hb j j0 (by omega)
      · show upI (Mc.2 168) (896 * at' + n) _ j = _
        rw [upI_n (by omega)]
        exact hq j hj
    · have j1 : j < T / 8 := j1
      show s.2.2 168 (896 * at' + j) = _
      rw [hc j j0 (by omega)]
      unfold obt
      rw [← eT, if_pos (by omega)]
    · obtain ⟨w1, w2, w3, w4⟩ := hw
      unfold rfl_writePacket_231
      rw [w1, show w.2.2 172 = M.2 172 from fr2 w2 172 rfl, show w.2.2 165 = M.2 165 from fr2 w2 165 rfl, show w.2.2 166 = M.2 166 from fr2 w2 166 rfl]
      have eo : olq K (smM M) (M.1 125).toNat (M.2 154 0) (M.1 176) = T / 8 + M.2 154 0 - M.1 176 := by unfold olq; rw [← eT]
      refine RP_some ⟨fr_m (fr_s w2 fr_0 rfl rfl) rfl rfl, rfl, ?_, ?_, w4⟩
      · rw [eo]
        rfl
      · rw [eo]
        exact w3

def LVo (r now : Int) (u : Int → Int) (K y : mR) : Prop := (fr [] [92, 98, 99, 100] K y ∧ y.2 99 = upI (K.2 99) r now ∧ (∀ v, v ≠ r → y.2 92 v = K.2 92 v ∧ y.2 98 v = K.2 98 v) ∧ rowC 100 r K y) ∧ ((¬ (K.2 91 r = 0 ∧ K.2 98 r = 0) ∧ y.2 98 r = K.2 98 r) ∨ ((K.2 91 r = 0 ∧ K.2 98 r = 0) ∧ K.2 101 (65536 * r + 220) ≠ 0 ∧ y.2 98 r = 1) ∨ ((K.2 91 r = 0 ∧ K.2 98 r = 0) ∧ K.2 101 (65536 * r + 220) = 0 ∧ y.2 98 r = 0 ∧ y.2 92 r = olq K (fun s => K.2 101 (65536 * r + s)) (K.1 218).toNat (K.2 92 r) (K.2 94 r) ∧ ∀ i, 0 ≤ i → i < olq K (fun s => K.2 101 (65536 * r + s)) (K.1 218).toNat (K.2 92 r) (K.2 94 r) → y.2 100 (65536 * r + i) = sbt (obt K (fun s => K.2 101 (65536 * r + s)) u (K.1 218).toNat (K.2 94 r) i)))
theorem many_k {sl : Int → Int} (h : EMm K M) (hs : sl = fun s => K.2 101 (65536 * r + s)) : RP (whl (kfb_op_leave_50 r K) (0, 0)) (fun e => e = (wis K sl (K.1 218).toNat).2 / 8) := by
  obtain ⟨k218, E0, E1⟩ := h.2.1
  have m20 := h.1.1.2
  refine RP_whl (I := fun s : Int × Int => (0 ≤ s.2 ∧ s.2 ≤ K.1 218) ∧ s.1 = (wis K sl s.2.toNat).2 / 8) (fun s hs' => ?_) ⟨⟨Int.le_refl _, show 0 ≤ K.1 218 by omega⟩, rfl⟩
  obtain ⟨m, j⟩ := s
  obtain ⟨⟨j0, j1⟩, em⟩ := hs'
  have j0 : 0 ≤ j := j0
  have j1 : j ≤ K.1 218 := j1
  have em : m = (wis K sl j.toNat).2 / 8 := em
  unfold kfb_op_leave_50
  show RP (if K.1 218 ≤ j then some (Sum.inr m) else if cmp64 (K.2 101 (65536 * r + cut (K.2 17 j * 17))) 0 = 0 then kfl_op_leave_88 r m j (K.2 17 j) 0 K else kfl_op_leave_88 r m j (K.2 17 j) 1 K) _
  refine RP_ite (fun g => RP_some ?_) (fun g => ?_)
  · show m = _
    rw [em, show j = K.1 218 by omega]
  · obtain ⟨e1, e2, e3⟩ := h.2.2 j j0 (by omega)
    obtain ⟨⟨p13, p0, p1⟩, ⟨n0, n1⟩, hW, hw, hz, e30, S0, S1, S8⟩ := HIm_i h.1 e2 e3
    obtain ⟨b1, b2, b3, b4, b5⟩ := wis_r h sl j.toNat (by omega)
    have ej : ((j.toNat : Nat) : Int) = j := by omega
    rw [show cut (K.2 17 j * 17) = 17 * K.2 17 j by rw [e1, cut_i (by omega) (by omega)]; omega]
    have sv : sl (17 * K.2 17 j) = K.2 101 (65536 * r + 17 * K.2 17 j) := by rw [hs]
    have nx : (wis K sl (j + 1).toNat).2 = if sl (17 * K.2 17 j) = 0 then (wis K sl j.toNat).2 else (wis K sl j.toNat).2 + M.2 30 (M.2 34 (M.2 124 j)) := by
      rw [show (j + 1).toNat = j.toNat + 1 by omega]
      conv => lhs; unfold wis
      rw [ej]
      by_cases v : sl (17 * K.2 17 j) = 0
      · rw [if_pos v, if_pos v]
      · rw [if_neg v, if_neg v]
        show (wis K sl j.toNat).2 + sumW (K.2 10) (16 * K.2 13 (K.2 17 j)) 16 = _
        rw [e1, p13, ← e30]
    unfold kfl_op_leave_88 kfl_op_leave_114
    refine RP_ite (fun v => ?_) (fun v => ?_)
    · rw [cmp64_0, ← sv] at v
      rw [if_pos rfl, cut_i (z := m + 0) (by omega) (by omega), cut_i (z := j + 1) (by omega) (by omega)]
      refine RP_some ⟨⟨show 0 ≤ j + 1 by omega, show j + 1 ≤ K.1 218 by omega⟩, ?_⟩
      show m + 0 = (wis K sl (j + 1).toNat).2 / 8
      rw [nx, if_pos v]
      omega
    · rw [cmp64_0, ← sv] at v
      rw [if_neg (show ¬ (1 : Int) = 0 by decide)]
      refine RP_bnd (hbits_k (K := K) (by rw [e1, p13]; exact p0) (by rw [e1, p13]; exact p1) (by rw [e1, p13]; exact hw)) (fun y hy => ?_)
      rw [e1, p13, ← e30] at hy
      rw [hy, show (M.2 30 (M.2 34 (M.2 124 j))).tdiv 8 = M.2 30 (M.2 34 (M.2 124 j)) / 8 from Int.tdiv_eq_ediv_of_nonneg S0, cut_i (z := m + M.2 30 (M.2 34 (M.2 124 j)) / 8) (by omega) (by omega), cut_i (z := j + 1) (by omega) (by omega)]
      refine RP_some ⟨⟨show 0 ≤ j + 1 by omega, show j + 1 ≤ K.1 218 by omega⟩, ?_⟩
      show m + M.2 30 (M.2 34 (M.2 124 j)) / 8 = (wis K sl (j + 1).toNat).2 / 8
      rw [nx, if_neg v]
      omega
theorem z100_k {n : Int} (n0 : 0 ≤ n) (n1 : n ≤ 896) : RP (whl (kfb_op_leave_165 r n) (0, K)) (fun e => fr [] [100] K e ∧ (∀ j, 0 ≤ j → j < n → e.2 100 (65536 * r + j) = 0) ∧ ∀ j, j < 65536 * r ∨ 65536 * r + n ≤ j → e.2 100 j = K.2 100 j) := by
  refine RP_whl (I := fun s : Int × mR => (0 ≤ s.1 ∧ s.1 ≤ n) ∧ fr [] [100] K s.2 ∧ (∀ j, 0 ≤ j → j < s.1 → s.2.2 100 (65536 * r + j) = 0) ∧ ∀ j, j < 65536 * r ∨ 65536 * r + n ≤ j → s.2.2 100 j = K.2 100 j) (fun s hs => ?_) ⟨⟨Int.le_refl _, n0⟩, fr_0, fun j j0 j1 => by have j1 : j < 0 := j1; omega, fun _ _ => rfl⟩
  obtain ⟨i, Kc⟩ := s
  obtain ⟨⟨i0, i1⟩, f, h, ho⟩ := hs
  have i0 : 0 ≤ i := i0
  have i1 : i ≤ n := i1
  have h : ∀ j, 0 ≤ j → j < i → Kc.2 100 (65536 * r + j) = 0 := h
  have ho : ∀ j, j < 65536 * r ∨ 65536 * r + n ≤ j → Kc.2 100 j = K.2 100 j := ho
  unfold kfb_op_leave_165
  refine RP_ite (fun g => RP_some ⟨f, fun j j0 j1 => h j j0 (by have g : n ≤ i := g; omega), ho⟩) (fun g => ?_)
  have g : ¬ n ≤ i := g
  show RP (some (Sum.inl (cut (i + 1), mO Kc [] [(100, upI (Kc.2 100) (65536 * r + i) (nar2 0))]))) _
  rw [cut_i (z := i + 1) (by omega) (by omega), nar2_b ⟨by decide, by decide⟩, show (0 : Int).bmod 256 = 0 by decide]
  refine RP_some ⟨⟨show 0 ≤ i + 1 by omega, show i + 1 ≤ n by omega⟩, fr_m f rfl rfl, fun j j0 j1 => ?_, fun j hj => ?_⟩
  · have j1 : j < i + 1 := j1
    show upI (Kc.2 100) (65536 * r + i) 0 (65536 * r + j) = 0
    by_cases e : j = i
    · rw [e, upI_s]
    · rw [upI_n (by omega)]
      exact h j j0 (by omega)
  · show upI (Kc.2 100) (65536 * r + i) 0 j = _
    rw [upI_n (by omega)]
    exact ho j hj

theorem emit_k {sl : Int → Int} {n : Int} (h : EMm K M) (hs : sl = fun s => K.2 101 (65536 * r + s)) (en : (wis K sl (K.1 218).toNat).2 = 8 * n) (n1 : n ≤ 896) (hz : ∀ j, 0 ≤ j → j < n → K.2 100 (65536 * r + j) = 0) : RP (kfl_op_leave_185 r K) (fun y => fr [] [100] K y.2 ∧ ROWb r n (wis K sl (K.1 218).toNat).1 y.2 ∧ ∀ j, j < 65536 * r ∨ 65536 * r + n ≤ j → y.2.2 100 j = K.2 100 j) := by
  obtain ⟨k218, E0, E1⟩ := h.2.1
  have m20 := h.1.1.2
  unfold kfl_op_leave_185
  refine RP_bnd (P := fun e => fr [] [100] K e ∧ ROWb r n (wis K sl (K.1 218).toNat).1 e ∧ ∀ j, j < 65536 * r ∨ 65536 * r + n ≤ j → e.2 100 j = K.2 100 j) (RP_whl (I := fun s : Int × Int × mR => (0 ≤ s.2.1 ∧ s.2.1 ≤ K.1 218) ∧ s.1 = (wis K sl s.2.1.toNat).2 ∧ fr [] [100] K s.2.2 ∧ ROWb r n (wis K sl s.2.1.toNat).1 s.2.2 ∧ ∀ j, j < 65536 * r ∨ 65536 * r + n ≤ j → s.2.2.2 100 j = K.2 100 j) (fun s hs' => ?_) ⟨⟨Int.le_refl _, show 0 ≤ K.1 218 by omega⟩, rfl, fr_0, fun j j0 j1 => hz j j0 j1, fun _ _ => rfl⟩) (fun e he => RP_some he)
  obtain ⟨b, q, Kc⟩ := s
  obtain ⟨⟨q0, q1⟩, eb, fK, hc, ho⟩ := hs'
  have q0 : 0 ≤ q := q0
  have q1 : q ≤ K.1 218 := q1
  have eb : b = (wis K sl q.toNat).2 := eb
  have fK : fr [] [100] K Kc := fK
  have hc : ROWb r n (wis K sl q.toNat).1 Kc := hc
  have ho : ∀ j, j < 65536 * r ∨ 65536 * r + n ≤ j → Kc.2 100 j = K.2 100 j := ho
  unfold kfb_op_leave_191
  show RP (if Kc.1 218 ≤ q then some (Sum.inr Kc) else bnd (kf_op_write r (Kc.2 17 q) b Kc) fun y6 => some (Sum.inl (y6.1, cut (q + 1), y6.2))) _
  rw [show Kc.1 218 = K.1 218 from fr1 fK 218 rfl, show Kc.2 17 = K.2 17 from fr2 fK 17 rfl]
  refine RP_ite (fun g => RP_some ?_) (fun g => ?_)
  · rw [show q = K.1 218 by omega] at hc
    exact ⟨fK, hc, ho⟩
  · obtain ⟨e1, e2, e3⟩ := h.2.2 q q0 (by omega)
    obtain ⟨⟨p13, p0, p1⟩, ⟨n0, n1'⟩, hW, hw, hz', e30, S0, S1, S8⟩ := HIm_i h.1 e2 e3
    obtain ⟨b1, b2, b3, b4, b5⟩ := wis_r h sl q.toNat (by omega)
    have eq' : ((q.toNat : Nat) : Int) = q := by omega
    have nx : wis K sl (q.toNat + 1) = if sl (17 * K.2 17 q) = 0 then wis K sl q.toNat else (wfi (K.2 10) (fun f => sl (17 * K.2 17 q + 1 + f)) (K.2 13 (K.2 17 q)) (wis K sl q.toNat).1 b 16, b + sumW (K.2 10) (16 * K.2 13 (K.2 17 q)) 16) := by
      conv => lhs; unfold wis
      rw [eq', ← eb]
    have mo := wis_m h sl ((K.1 218).toNat - (q.toNat + 1)) (q.toNat + 1) (by omega)
    rw [show q.toNat + 1 + ((K.1 218).toNat - (q.toNat + 1)) = (K.1 218).toNat by omega, en] at mo
    have sv : sl (17 * K.2 17 q) = K.2 101 (65536 * r + 17 * K.2 17 q) := by rw [hs]
    have X := write_k (K := Kc) (r := r) (i := K.2 17 q) (h := K.2 13 (K.2 17 q)) (b := b) (n := n) (B := (wis K sl q.toNat).1) (by omega) (by omega) (by rw [fr2 fK 13 rfl]) (by rw [e1, p13]; exact p0) (by rw [e1, p13]; exact p1) (by rw [fr2 fK 10 rfl, e1, p13]; exact hw) b1 hc (by omega) (fun v => by
      rw [fr2 fK 101 rfl, ← sv] at v
      rw [nx, if_neg v] at mo
      rw [fr2 fK 10 rfl]
      exact mo) n1
    refine RP_bnd X (fun w hx => ?_)
    obtain ⟨w1, w2, w3⟩ := hx
    rw [show Kc.2 101 = K.2 101 from fr2 fK 101 rfl, show Kc.2 10 = K.2 10 from fr2 fK 10 rfl] at w3
    rw [cut_i (z := q + 1) (by omega) (by omega)]
    have eX : (fun f => sl (17 * K.2 17 q + 1 + f)) = fun f => K.2 101 (65536 * r + (17 * K.2 17 q + 1 + f)) := by rw [hs]
    refine RP_some ⟨⟨show 0 ≤ q + 1 by omega, show q + 1 ≤ K.1 218 by omega⟩, ?_, fr_s w1 fK rfl rfl, ?_, fun j hj => (w2 j hj).trans (ho j hj)⟩
    · show w.1 = (wis K sl (q + 1).toNat).2
      rw [show (q + 1).toNat = q.toNat + 1 by omega, nx]
      rcases w3 with ⟨v, w4, -⟩ | ⟨v, w4, -⟩
      · rw [if_pos (by rw [sv]; exact v), w4, eb]
      · rw [if_neg (by rw [sv]; exact v), w4]
    · show ROWb r n (wis K sl (q + 1).toNat).1 w.2
      rw [show (q + 1).toNat = q.toNat + 1 by omega, nx]
      rcases w3 with ⟨v, -, w5⟩ | ⟨v, -, w5⟩
      · rw [if_pos (by rw [sv]; exact v)]
        exact w5
      · rw [if_neg (by rw [sv]; exact v), eX]
        exact w5
theorem leave_k {now : Int} {u : Int → Int} (h : EMm K M) (hb : BYr r (K.2 92 r) u K) (x0 : 0 ≤ K.2 94 r) (x1 : K.2 94 r ≤ K.2 92 r) (l1 : K.2 92 r ≤ 128) : RP (kf_op_leave r now K) (fun y => LVo r now u K y.2) := by
  obtain ⟨k218, E0, E1⟩ := h.2.1
 
  have no : ∀ (y : mR), fr [] [98, 99] K y → ¬ (y.2 91 r = 0 ∧ y.2 98 r = 0) → RP (kfl_op_leave_37 r y) (fun w => w.2 = y) := fun y fy hn => by
    unfold kfl_op_leave_37 kf_op_isSent kfl_op_isSent_19
    by_cases q : y.2 91 r = 0
    · rw [if_pos q, if_neg (fun z => hn ⟨q, z⟩), bnd_some, if_pos rfl]
      exact RP_some rfl
    · rw [if_neg q, bnd_some, if_pos rfl]
      exact RP_some rfl
  unfold kf_op_leave
  obtain ⟨K1, eK1⟩ : ∃ K1, K1 = mO K [] [(99, upI (K.2 99) r now)] := ⟨_, rfl⟩
  rw [← eK1]
  have f1 : fr [] [99] K K1 := by rw [eK1]; exact fr_m fr_0 rfl rfl
  have a99 : K1.2 99 = upI (K.2 99) r now := by rw [eK1]; rfl
  have stay : ¬ (K.2 91 r = 0 ∧ K.2 98 r = 0) → RP (kfl_op_leave_37 r K1) (fun y => LVo r now u K y.2) := fun q => by
    refine RP_w (no K1 (fr_s f1 fr_0 rfl rfl) (by rw [fr2 f1 91 rfl, fr2 f1 98 rfl]; exact q)) (fun w hw => ?_)
    rw [hw]
    refine ⟨⟨fr_s f1 fr_0 rfl rfl, a99, fun v _ => by rw [fr2 f1 92 rfl, fr2 f1 98 rfl]; exact ⟨rfl, rfl⟩, fun j _ => by rw [fr2 f1 100 rfl]⟩, Or.inl ⟨q, by rw [fr2 f1 98 rfl]⟩⟩
  refine RP_ite (fun q1 => RP_ite (fun q2 => RP_ite (fun q3 => ?_) (fun q3 => ?_)) (fun q2 => stay (fun z => q2 z.2))) (fun q1 => stay (fun z => q1 z.1))
  ·
    rw [cmp64_0] at q3
    obtain ⟨sl, esl⟩ : ∃ sl : Int → Int, sl = fun s => K.2 101 (65536 * r + s) := ⟨_, rfl⟩
    have h1 : EMm K1 M := ⟨HIm_f h.1 f1 (fr_0 (u := []) (v := []) (x := M)) rfl rfl rfl, by
      have q := h.2
      unfold EMx_nx at q ⊢
      rw [fr1 f1 218 rfl, fr2 f1 17 rfl]
      exact q⟩
    have wf : ∀ j, wis K1 sl j = wis K sl j := wis_f f1 rfl sl
    have esl1 : sl = fun s => K1.2 101 (65536 * r + s) := by rw [fr2 f1 101 rfl]; exact esl
    unfold kfl_op_leave_37 kf_op_isSent kfl_op_isSent_19
    rw [show K1.2 91 = K.2 91 from fr2 f1 91 rfl, show K1.2 98 = K.2 98 from fr2 f1 98 rfl, if_pos q1, if_pos q2, bnd_some, if_neg (show ¬ (1 : Int) = 0 by decide)]
    refine RP_bnd (many_k (K := K1) (M := M) (r := r) h1 esl1) (fun n hn => ?_)
    rw [wf, fr1 f1 218 rfl] at hn
    obtain ⟨b1, b2, b3, b4, b5⟩ := wis_r h sl (K.1 218).toNat (by omega)
    have n0 : 0 ≤ n := by omega
    have n8 : (wis K sl (K.1 218).toNat).2 = 8 * n := by omega
    have n7 : n ≤ 768 := by omega
    unfold kfl_op_leave_122
    rw [show K1.2 92 = K.2 92 from fr2 f1 92 rfl, show K1.2 94 = K.2 94 from fr2 f1 94 rfl, show K1.2 100 = K.2 100 from fr2 f1 100 rfl, cut_i (z := n + K.2 92 r) (by omega) (by omega), cut_i (z := n + K.2 92 r - K.2 94 r) (by omega) (by omega), cut_i (z := K.2 92 r - K.2 94 r) (by omega) (by omega)]
    obtain ⟨K2, eK2⟩ : ∃ K2, K2 = mO K1 [] [(92, upI (K.2 92) r (n + K.2 92 r - K.2 94 r)), (100, cpI (K.2 100) (K.2 100) (65536 * r + K.2 94 r) (65536 * r + n) (K.2 92 r - K.2 94 r))] := ⟨_, rfl⟩
    rw [← eK2]
    have f2 : fr [] [92, 99, 100] K K2 := by rw [eK2]; exact fr_m (fr_s f1 fr_0 rfl rfl) rfl rfl
    have c92 : K2.2 92 = upI (K.2 92) r (n + K.2 92 r - K.2 94 r) := by rw [eK2]; rfl
    have c100 : K2.2 100 = cpI (K.2 100) (K.2 100) (65536 * r + K.2 94 r) (65536 * r + n) (K.2 92 r - K.2 94 r) := by rw [eK2]; rfl
    have c99 : K2.2 99 = upI (K.2 99) r now := by rw [eK2]; exact a99
    refine RP_bnd (z100_k (K := K2) (r := r) n0 (by omega)) (fun e he => ?_)
    obtain ⟨fe, hz, ho⟩ := he
    have f3 : fr [] [92, 99, 100] K e := fr_s fe f2 rfl rfl
    have h3 : EMm e M := ⟨HIm_f h.1 f3 (fr_0 (u := []) (v := []) (x := M)) rfl rfl rfl, by
      have q := h.2
      unfold EMx_nx at q ⊢
      rw [fr1 f3 218 rfl, fr2 f3 17 rfl]
      exact q⟩
    have wf3 : ∀ j, wis e sl j = wis K sl j := wis_f f3 rfl sl
    refine RP_w (emit_k (K := e) (M := M) (r := r) (sl := sl) (n := n) h3 (by rw [fr2 f3 101 rfl]; exact esl) (by rw [wf3, fr1 f3 218 rfl]; exact n8) (by omega) hz) (fun y hy => ?_)
    obtain ⟨y1, y2, y3⟩ := hy
    rw [wf3, fr1 f3 218 rfl] at y2
    have eo : olq K sl (K.1 218).toNat (K.2 92 r) (K.2 94 r) = n + K.2 92 r - K.2 94 r := by unfold olq; rw [n8]; omega
    have out : ∀ j, j < 65536 * r ∨ 65536 * r + n ≤ j → y.2.2 100 j = cpI (K.2 100) (K.2 100) (65536 * r + K.2 94 r) (65536 * r + n) (K.2 92 r - K.2 94 r) j := fun j hj => by
      rw [y3 j hj, ho j hj, c100]
    unfold LVo
    rw [← esl]
    refine ⟨⟨fr_s y1 (fr_s f3 fr_0 rfl rfl) rfl rfl, ?_, fun v hv => ⟨?_, ?_⟩, fun j hj => ?_⟩, Or.inr (Or.inr ⟨⟨q1, q2⟩, q3, ?_, ?_, fun i i0 i1 => ?_⟩)⟩
    · rw [fr2 y1 99 rfl, fr2 fe 99 rfl]
      exact c99
    · rw [fr2 y1 92 rfl, fr2 fe 92 rfl, c92, upI_n hv]
    · rw [fr2 y1 98 rfl, fr2 f3 98 rfl]
    · rw [out j (by omega)]
      unfold cpI
      rw [if_neg (by omega)]
    · rw [fr2 y1 98 rfl, fr2 f3 98 rfl]
      exact q2
    · rw [fr2 y1 92 rfl, fr2 fe 92 rfl, c92, upI_s, eo]
    · rw [eo] at i1
      unfold obt
      rw [n8]
      by_cases q : i < n
      · rw [if_pos (by omega)]
        exact y2 i i0 q
      · rw [if_neg (by omega), out _ (by omega)]
        unfold cpI
        rw [if_pos (by omega), show 65536 * r + K.2 94 r + (65536 * r + i - (65536 * r + n)) = 65536 * r + (K.2 94 r + (i - 8 * n / 8)) by omega]
        exact (hb _ (by omega) (by omega)).1
  ·
    have q3 : K.2 101 (65536 * r + 220) ≠ 0 := fun z => q3 (cmp64_0.mpr z)
    obtain ⟨K2, eK2⟩ : ∃ K2, K2 = mO K [] [(98, upI (K.2 98) r 1), (99, upI (K.2 99) r now)] := ⟨_, rfl⟩
    rw [← eK2]
    have f2 : fr [] [98, 99] K K2 := by rw [eK2]; exact fr_m fr_0 rfl rfl
    have c98 : K2.2 98 = upI (K.2 98) r 1 := by rw [eK2]; rfl
    have c99 : K2.2 99 = upI (K.2 99) r now := by rw [eK2]; rfl
    refine RP_w (no K2 f2 (by rw [c98, upI_s]; exact fun z => absurd z.2 (by decide))) (fun w hw => ?_)
    rw [hw]
    exact ⟨⟨fr_s f2 fr_0 rfl rfl, c99, fun v hv => ⟨by rw [fr2 f2 92 rfl], by rw [c98, upI_n hv]⟩, fun j _ => by rw [fr2 f2 100 rfl]⟩, Or.inr (Or.inl ⟨⟨q1, q2⟩, q3, by rw [c98, upI_s]⟩)⟩
end LV4
