
section SM5
variable {K K1 : mR} {r t : Int}

theorem ev_0 {a b : Int} {sl pa pa' : Int → Int} (h : XRa K (-1) a b) : ev K sl pa' a b = ev K sl pa a b := by
  obtain ⟨⟨B, h⟩, -⟩ := h
  exact ev_c h (fun _ _ _ _ => rfl) (fun j j0 j1 q => absurd rfl (((h.2.2.2 j j0 j1).2.2.1 q).1))
theorem ev_4 {a b : Int} {sl pa pa' : Int → Int} (h : XR1 K a b) (hp : ∀ i, 0 ≤ i → i < 4 → pa' i = pa i) : ev K sl pa' a b = ev K sl pa a b := by
  obtain ⟨ac, ⟨B, h⟩, g⟩ := h
  exact ev_c h (fun _ _ _ _ => rfl) (fun j j0 j1 q => hp _ (g j j0 j1 q).1 (g j j0 j1 q).2)

def DP0 (K : mR) (d : Int) : Prop := (K.2 49 d ≠ -1 → XRa K (-1) (K.2 48 d) (K.2 49 d)) ∧ (K.2 51 d ≠ -1 → XRa K (-1) (K.2 50 d) (K.2 51 d))
theorem adeed_p {d : Int} {pa pa' : Int → Int} {x : XSt} (h : DWF K d) (hp : (∀ i, 0 ≤ i → i < 4 → pa' i = pa i) ∨ DP0 K d) : adeed K pa' d x = adeed K pa d x := by
  have e1 : K.2 47 d ≠ -1 → aidx K pa' d x = aidx K pa d x := fun q => by
    have hx : K.2 49 d ≠ -1 ∧ XR1 K (K.2 48 d) (K.2 49 d) := by
      rcases h with ⟨-, -, a1, -⟩ | ⟨-, -, -, i0, i1, -⟩ | ⟨-, -, i0, i1, -⟩ | ⟨-, -, -, -, a1, -⟩
      · exact absurd a1 q
      · exact ⟨i0, i1⟩
      · exact ⟨i0, i1⟩
      · exact absurd a1 q
    unfold aidx
    rw [if_neg q, if_neg q]
    rcases hp with hp | hp
    · rw [ev_4 hx.2 hp]
    · rw [ev_0 (hp.1 hx.1) (pa := pa)]
  have e2 : aval K pa' d x = aval K pa d x := by
    unfold aval
    by_cases q : K.2 51 d = -1
    · rw [if_pos q, if_pos q]
    · rw [if_neg q, if_neg q]
      have hx : XR1 K (K.2 50 d) (K.2 51 d) := by
        rcases h with ⟨-, -, -, -, -, v1⟩ | ⟨-, -, -, -, -, v0⟩ | ⟨-, -, -, -, -, v1⟩ | ⟨-, -, -, -, -, v0⟩
        · exact v1
        · exact absurd v0 q
        · exact v1
        · exact absurd v0 q
      rcases hp with hp | hp
      · exact ev_4 hx hp
      · exact ev_0 (hp.2 q)
  unfold adeed
  rw [e2]
  by_cases q : K.2 47 d = -1
  · have e3 : ∀ pa, aidx K pa d x = -1 := fun pa => by unfold aidx; rw [if_pos q]
    rw [e3 pa', e3 pa]
  · rw [e1 q]
theorem adeeds_p {pa pa' : Int → Int} {f : Int} {x : XSt} (hp : ∀ i, 0 ≤ i → i < 4 → pa' i = pa i) : ∀ {n : Nat}, (∀ i : Nat, i < n → DWF K (f + i)) → adeeds K pa' f n x = adeeds K pa f n x := by
  intro n
  induction n with
  | zero => intro _; rfl
  | succ n ih =>
    intro h
    show adeed K pa' (f + n) (adeeds K pa' f n x) = adeed K pa (f + n) (adeeds K pa f n x)
    rw [ih (fun i hi => h i (by omega)), adeed_p (h n (by omega)) (Or.inl hp)]

theorem DWF_f {F A : List Nat} {d : Int} (h : DWF K d) (f : fr F A K K1) (c : chk [16, 18, 19, 20, 21, 22, 24, 45, 46, 47, 48, 49, 50, 51] A = true) : DWF K1 d := by
  have xr : ∀ {a b : Int}, XR1 K a b → XR1 K1 a b := fun q => by
    obtain ⟨ac, ⟨B, h⟩, g⟩ := q
    refine ⟨ac, ⟨B, XRk_f h f (chk_s c rfl)⟩, ?_⟩
    rw [fr2 f 18 (chk_1 c (by decide)), fr2 f 19 (chk_1 c (by decide))]
    exact g
  unfold DWF SLw ARw at *
  rw [fr2 f 16 (chk_1 c (by decide)), fr2 f 45 (chk_1 c (by decide)), fr2 f 46 (chk_1 c (by decide)), fr2 f 47 (chk_1 c (by decide)), fr2 f 48 (chk_1 c (by decide)), fr2 f 49 (chk_1 c (by decide)), fr2 f 50 (chk_1 c (by decide)), fr2 f 51 (chk_1 c (by decide))]
  rcases h with ⟨a, b, c, d, e, g⟩ | ⟨a, b, c, d, e, g⟩ | ⟨a, b, c, d, e, g⟩ | h
  · exact Or.inl ⟨a, b, c, d, e, xr g⟩
  · exact Or.inr (Or.inl ⟨a, b, c, d, xr e, g⟩)
  · exact Or.inr (Or.inr (Or.inl ⟨a, b, c, xr d, e, xr g⟩))
  · exact Or.inr (Or.inr (Or.inr h))
theorem adeed_f {F A : List Nat} {pa : Int → Int} {d : Int} {x : XSt} (f : fr F A K K1) (c : chk [16, 18, 19, 20, 21, 22, 24, 45, 46, 47, 48, 49, 50, 51] A = true) : adeed K1 pa d x = adeed K pa d x := by
  unfold adeed aidx aval
  rw [ev_f f (chk_s c rfl), ev_f f (chk_s c rfl), fr2 f 16 (chk_1 c (by decide)), fr2 f 45 (chk_1 c (by decide)), fr2 f 46 (chk_1 c (by decide)), fr2 f 47 (chk_1 c (by decide)), fr2 f 48 (chk_1 c (by decide)), fr2 f 49 (chk_1 c (by decide)), fr2 f 50 (chk_1 c (by decide)), fr2 f 51 (chk_1 c (by decide))]

theorem deeds_k {a : Int} (c0 : 0 ≤ K.2 44 a ∧ K.2 44 a ≤ 12) (f0 : 0 ≤ K.2 43 a ∧ K.2 43 a ≤ 4000) (h : ∀ i, 0 ≤ i → i < K.2 44 a → DWF K (K.2 43 a + i)) : RP (kfl_op_apply_b71_140 r a K) (fun y => y.1 = a ∧ XSk r y.2 = adeeds K (pak r K) (K.2 43 a) (K.2 44 a).toNat (XSk r K) ∧ fr [] [25, 71, 101] K y.2 ∧ rowC 101 r K y.2) := by
  unfold kfl_op_apply_b71_140
  refine RP_bnd (P := fun e => XSk r e = adeeds K (pak r K) (K.2 43 a) (K.2 44 a).toNat (XSk r K) ∧ fr [] [25, 71, 101] K e ∧ rowC 101 r K e) (RP_whl (I := fun s : Int × mR => (0 ≤ s.1 ∧ s.1 ≤ K.2 44 a) ∧ XSk r s.2 = adeeds K (pak r K) (K.2 43 a) s.1.toNat (XSk r K) ∧ fr [] [25, 71, 101] K s.2 ∧ rowC 101 r K s.2) (fun s hs => ?_) ⟨⟨Int.le_refl _, c0.1⟩, rfl, fr_0, fun _ _ => rfl⟩) (fun e he => RP_some ⟨rfl, he⟩)
  obtain ⟨i, Kc⟩ := s
  obtain ⟨⟨i0, i1⟩, hx, f, rc⟩ := hs
  have i0 : 0 ≤ i := i0
  have i1 : i ≤ K.2 44 a := i1
  have hx : XSk r Kc = adeeds K (pak r K) (K.2 43 a) i.toNat (XSk r K) := hx
  have f : fr [] [25, 71, 101] K Kc := f
  unfold kfb_op_apply_b71_149
  show RP (if Kc.2 44 a ≤ i then some (Sum.inr Kc) else _) _
  rw [show Kc.2 44 = K.2 44 from fr2 f 44 rfl]
  refine RP_ite (fun g => RP_some ⟨?_, f, rc⟩) (fun g => ?_)
  · rw [hx, show i = K.2 44 a by omega]
  · show RP (bnd (kf_op_doDeed_b71 r (cut (Kc.2 43 a + i)) Kc) fun y5 => some (Sum.inl (cut (i + 1), y5.2))) _
    rw [show Kc.2 43 = K.2 43 from fr2 f 43 rfl, cut_i (z := K.2 43 a + i) (by omega) (by omega), cut_i (z := i + 1) (by omega) (by omega)]
    refine RP_bnd (deed_k (r := r) (DWF_f (h i i0 (by omega)) f rfl)) (fun y hy => RP_some ⟨⟨show 0 ≤ i + 1 by omega, show i + 1 ≤ K.2 44 a by omega⟩, ?_, fr_s hy.2.1 f rfl rfl, fun j hj => (hy.2.2 j hj).trans (rc j hj)⟩)
    show XSk r y.2 = adeeds K (pak r K) (K.2 43 a) (i + 1).toNat (XSk r K)
    rw [hy.1, show (i + 1).toNat = i.toNat + 1 by omega]
    show _ = adeed K (pak r K) (K.2 43 a + (i.toNat : Int)) (adeeds K (pak r K) (K.2 43 a) i.toNat (XSk r K))
    rw [show K.2 43 a + (i.toNat : Int) = K.2 43 a + i by omega, hx, adeed_f f rfl]
    have e : pak r Kc = pak r K := by unfold pak; rw [fr2 f 105 rfl]
    rw [e]

def pfk (K : mR) (t e : Int) : Nat → Int
  | 0 => 0
  | n + 1 => pfk K t e n + (if K.2 81 (65536 * t + n) = 313 then ((cbt (un (K.2 86 (65536 * t + (4 * e + n)))) 64 : Nat) : Int) else 0)
def htk (K : mR) (t e : Int) (ks : Int → Int) : Nat → Int
  | 0 => 1
  | n + 1 => if and64 (xor64 (ks n) (K.2 85 (65536 * t + (4 * e + n)))) (K.2 86 (65536 * t + (4 * e + n))) = 0 then htk K t e ks n else 0
def mtk (K : mR) (t : Int) (ks : Int → Int) : Nat → Int × Int
  | 0 => (-1, 0)
  | e + 1 => if htk K t e ks (K.2 72 t).toNat = 0 then mtk K t ks e else if (mtk K t ks e).1 = -1 ∨ (mtk K t ks e).2 < pfk K t e (K.2 72 t).toNat ∨ (pfk K t e (K.2 72 t).toNat = (mtk K t ks e).2 ∧ K.2 88 (65536 * t + (mtk K t ks e).1) < K.2 88 (65536 * t + e)) then (e, pfk K t e (K.2 72 t).toNat) else mtk K t ks e
def lkK (K : mR) (t : Int) (ks : Int → Int) : Int × (Int → Int) := if (mtk K t ks (K.2 78 t).toNat).1 = -1 then (K.2 74 t, fun i => K.2 84 (65536 * t + i)) else (K.2 89 (65536 * t + (mtk K t ks (K.2 78 t).toNat).1), fun i => K.2 87 (65536 * t + (4 * (mtk K t ks (K.2 78 t).toNat).1 + i)))
theorem cbt_le (v : Nat) : ∀ k, cbt v k ≤ k := by
  intro k
  induction k with
  | zero => exact Nat.le_refl _
  | succ k ih =>
    show cbt v k + (v >>> k) % 2 ≤ k + 1
    omega
theorem pfk_r (K : mR) (t e : Int) : ∀ n, 0 ≤ pfk K t e n ∧ pfk K t e n ≤ 64 * n := by
  intro n
  induction n with
  | zero => exact ⟨Int.le_refl _, by show (0 : Int) ≤ 64 * ((0 : Nat) : Int); decide⟩
  | succ n ih =>
    have b := cbt_le (un (K.2 86 (65536 * t + (4 * e + n)))) 64
    show 0 ≤ pfk K t e n + _ ∧ pfk K t e n + _ ≤ _
    split <;> omega
theorem htk_01 (K : mR) (t e : Int) (ks : Int → Int) : ∀ n, htk K t e ks n = 0 ∨ htk K t e ks n = 1 := by
  intro n
  induction n with
  | zero => exact Or.inr rfl
  | succ n ih =>
    unfold htk
    split
    · exact ih
    · exact Or.inl rfl
theorem mtk_r (K : mR) (t : Int) (ks : Int → Int) : ∀ n : Nat, ((mtk K t ks n).1 = -1 ∨ (0 ≤ (mtk K t ks n).1 ∧ (mtk K t ks n).1 < n)) ∧ 0 ≤ (mtk K t ks n).2 ∧ ((mtk K t ks n).1 = -1 → (mtk K t ks n).2 = 0) := by
  intro n
  induction n with
  | zero => exact ⟨Or.inl rfl, Int.le_refl _, fun _ => rfl⟩
  | succ n ih =>
    unfold mtk
    split
    · exact ⟨by omega, ih.2⟩
    · split
      · exact ⟨Or.inr ⟨show 0 ≤ (n : Int) by omega, show (n : Int) < ((n + 1 : Nat) : Int) by omega⟩, (pfk_r K t n _).1, fun q => by have q : (n : Int) = -1 := q; omega⟩
      · exact ⟨by omega, ih.2⟩
theorem match_k (t0 : 0 ≤ t) (k0 : 0 ≤ K.2 72 t ∧ K.2 72 t ≤ 4) (h0 : 0 ≤ K.2 78 t ∧ K.2 78 t ≤ 72) : RP (kf_tb_match_b103 t r K) (fun y => y = (mtk K t (fun i => K.2 103 (65536 * r + i)) (K.2 78 t).toNat).1) := by
  obtain ⟨ks, eks⟩ : ∃ ks : Int → Int, ks = fun i => K.2 103 (65536 * r + i) := ⟨_, rfl⟩
  rw [← eks]
  unfold kf_tb_match_b103
  refine RP_bnd (P := fun e => e = (mtk K t ks (K.2 78 t).toNat).1) (RP_whl (I := fun s : Int × Int × Int => (0 ≤ s.2.2 ∧ s.2.2 ≤ K.2 78 t) ∧ s.1 = (mtk K t ks s.2.2.toNat).1 ∧ s.2.1 = (mtk K t ks s.2.2.toNat).2) (fun s hs => ?_) ⟨⟨Int.le_refl _, h0.1⟩, rfl, rfl⟩) (fun e he => RP_some he)
  obtain ⟨b, o, e⟩ := s
  obtain ⟨⟨e0, e1⟩, hb, ho⟩ := hs
  have e0 : 0 ≤ e := e0
  have e1 : e ≤ K.2 78 t := e1
  have hb : b = (mtk K t ks e.toNat).1 := hb
  have ho : o = (mtk K t ks e.toNat).2 := ho
  unfold kfb_tb_match_b103_7
  show RP (if K.2 78 t ≤ e then some (Sum.inr b) else _) _
  refine RP_ite (fun g => RP_some ?_) (fun g => ?_)
  · show b = _
    rw [hb, show e = K.2 78 t by omega]
  show RP (bnd (whl (kfb_tb_match_b103_25 t r b o e K) (1, 0, 0)) fun e21 : Int × Int => kfl_tb_match_b103_116 t r b o e e21.1 e21.2 K) _
  have c4 : cut (e * 4) = 4 * e := by rw [cut_i (by omega) (by omega)]; omega
  refine RP_bnd (P := fun q : Int × Int => q.1 = htk K t e ks (K.2 72 t).toNat ∧ q.2 = pfk K t e (K.2 72 t).toNat) (RP_whl (I := fun q : Int × Int × Int => (0 ≤ q.2.2 ∧ q.2.2 ≤ K.2 72 t) ∧ q.1 = htk K t e ks q.2.2.toNat ∧ q.2.1 = pfk K t e q.2.2.toNat) (fun q hq => ?_) ⟨⟨Int.le_refl _, k0.1⟩, rfl, rfl⟩) (fun q hq => ?_)
  · obtain ⟨u, v, i⟩ := q
    obtain ⟨⟨i0, i1⟩, hu, hv⟩ := hq
    have i0 : 0 ≤ i := i0
    have i1 : i ≤ K.2 72 t := i1
    have hu : u = htk K t e ks i.toNat := hu
    have hv : v = pfk K t e i.toNat := hv
    unfold kfb_tb_match_b103_25
    show RP (if K.2 72 t ≤ i then some (Sum.inr (u, v)) else _) _
    refine RP_ite (fun g => RP_some ⟨?_, ?_⟩) (fun g => ?_)
    · show u = _
      rw [hu, show i = K.2 72 t by omega]
    · show v = _
      rw [hv, show i = K.2 72 t by omega]
    show RP (if cmp64 (and64 (xor64 (K.2 103 (65536 * r + i)) (K.2 85 (65536 * t + cut (cut (e * 4) + i)))) (K.2 86 (65536 * t + cut (cut (e * 4) + i)))) 0 = 0 then kfl_tb_match_b103_75 t r b o e v i (cut (cut (e * 4) + i)) u 1 K else kfl_tb_match_b103_75 t r b o e v i (cut (cut (e * 4) + i)) u 0 K) _
    rw [c4, cut_i (z := 4 * e + i) (by omega) (by omega)]
    have pr := pfk_r K t e i.toNat
    have ei : ((i.toNat : Nat) : Int) = i := by omega
    have fin : ∀ (z u' : Int), u' = (if z = 1 then u else 0) → (z = 0 ∨ z = 1) → (z = 1 ↔ and64 (xor64 (ks i) (K.2 85 (65536 * t + (4 * e + i)))) (K.2 86 (65536 * t + (4 * e + i))) = 0) → RP (kfl_tb_match_b103_75 t r b o e v i (4 * e + i) u z K) (sel (fun q : Int × Int × Int => (0 ≤ q.2.2 ∧ q.2.2 ≤ K.2 72 t) ∧ q.1 = htk K t e ks q.2.2.toNat ∧ q.2.1 = pfk K t e q.2.2.toNat) (fun q : Int × Int => q.1 = htk K t e ks (K.2 72 t).toNat ∧ q.2 = pfk K t e (K.2 72 t).toNat)) := fun z u' hu' hz hz2 => by
      have a32 : and32 u z = u' := by
        rw [hu']
        rcases htk_01 K t e ks i.toNat with w | w <;> rw [hu, w] <;> rcases hz with w2 | w2 <;> rw [w2] <;> decide
      have h1 : u' = htk K t e ks (i.toNat + 1) := by
        unfold htk
        rw [ei, hu', hu]
        by_cases w : z = 1
        · rw [if_pos w, if_pos (hz2.mp w)]
        · rw [if_neg w, if_neg (fun q => w (hz2.mpr q))]
      unfold kfl_tb_match_b103_75 kfl_tb_match_b103_107
      rw [a32]
      have st : ∀ y : Int, 0 ≤ y → y ≤ 64 → y = (if K.2 81 (65536 * t + i) = 313 then ((cbt (un (K.2 86 (65536 * t + (4 * e + i)))) 64 : Nat) : Int) else 0) → RP (some (Sum.inl (u', cut (v + y), cut (i + 1)))) (sel (fun q : Int × Int × Int => (0 ≤ q.2.2 ∧ q.2.2 ≤ K.2 72 t) ∧ q.1 = htk K t e ks q.2.2.toNat ∧ q.2.1 = pfk K t e q.2.2.toNat) (fun q : Int × Int => q.1 = htk K t e ks (K.2 72 t).toNat ∧ q.2 = pfk K t e (K.2 72 t).toNat)) := fun y y0 y1 ey => by
        rw [cut_i (z := i + 1) (by omega) (by omega), cut_i (z := v + y) (by omega) (by omega)]
        refine RP_some ⟨⟨show 0 ≤ i + 1 by omega, show i + 1 ≤ K.2 72 t by omega⟩, ?_, ?_⟩
        · show u' = htk K t e ks (i + 1).toNat
          rw [show (i + 1).toNat = i.toNat + 1 by omega]
          exact h1
        · show v + y = pfk K t e (i + 1).toNat
          rw [show (i + 1).toNat = i.toNat + 1 by omega]
          show v + y = pfk K t e i.toNat + (if K.2 81 (65536 * t + ((i.toNat : Nat) : Int)) = 313 then ((cbt (un (K.2 86 (65536 * t + (4 * e + ((i.toNat : Nat) : Int))))) 64 : Nat) : Int) else 0)
          rw [ei, ← hv, ey]
      refine RP_ite (fun w => ?_) (fun w => st 0 (by decide) (by decide) (by rw [if_neg w]))
      rw [bitc_k, bnd_some]
      have b := cbt_le (un (K.2 86 (65536 * t + (4 * e + i)))) 64
      exact st _ (by omega) (by omega) (by rw [if_pos w])
    refine RP_ite (fun w => fin 1 _ rfl (Or.inr rfl) ?_) (fun w => fin 0 _ rfl (Or.inl rfl) ?_)
    · rw [cmp64_0] at w
      rw [eks]
      exact ⟨fun _ => w, fun _ => rfl⟩
    · rw [cmp64_0] at w
      rw [eks]
      exact ⟨fun q => absurd q (by decide), fun q => absurd q w⟩
  · obtain ⟨h, p⟩ := q
    obtain ⟨h1, h2⟩ := hq
    have h1 : h = htk K t e ks (K.2 72 t).toNat := h1
    have h2 : p = pfk K t e (K.2 72 t).toNat := h2
    show RP (kfl_tb_match_b103_116 t r b o e h p K) _
    have ee : ((e.toNat : Nat) : Int) = e := by omega
    have nx : mtk K t ks (e.toNat + 1) = if h = 0 then (b, o) else if b = -1 ∨ o < p ∨ (p = o ∧ K.2 88 (65536 * t + b) < K.2 88 (65536 * t + e)) then (e, p) else (b, o) := by
      have q : mtk K t ks e.toNat = (b, o) := by rw [hb, ho]
      unfold mtk
      rw [q, ee, ← h1, ← h2]
    have out : ∀ b' o' : Int, mtk K t ks (e.toNat + 1) = (b', o') → RP (kfl_tb_match_b103_184 t r b' o' e K) (sel (fun s : Int × Int × Int => (0 ≤ s.2.2 ∧ s.2.2 ≤ K.2 78 t) ∧ s.1 = (mtk K t ks s.2.2.toNat).1 ∧ s.2.1 = (mtk K t ks s.2.2.toNat).2) (fun e => e = (mtk K t ks (K.2 78 t).toNat).1)) := fun b' o' q => by
      unfold kfl_tb_match_b103_184
      rw [cut_i (z := e + 1) (by omega) (by omega)]
      refine RP_some ⟨⟨show 0 ≤ e + 1 by omega, show e + 1 ≤ K.2 78 t by omega⟩, ?_, ?_⟩
      · show b' = (mtk K t ks (e + 1).toNat).1
        rw [show (e + 1).toNat = e.toNat + 1 by omega, q]
      · show o' = (mtk K t ks (e + 1).toNat).2
        rw [show (e + 1).toNat = e.toNat + 1 by omega, q]
    have no : ∀ u : Int, (u = 0 → ¬ (b = -1 ∨ o < p ∨ (p = o ∧ K.2 88 (65536 * t + b) < K.2 88 (65536 * t + e)))) → (u ≠ 0 → b = -1 ∨ o < p ∨ (p = o ∧ K.2 88 (65536 * t + b) < K.2 88 (65536 * t + e))) → RP (kfl_tb_match_b103_166 t r b o e h p u K) (sel (fun s : Int × Int × Int => (0 ≤ s.2.2 ∧ s.2.2 ≤ K.2 78 t) ∧ s.1 = (mtk K t ks s.2.2.toNat).1 ∧ s.2.1 = (mtk K t ks s.2.2.toNat).2) (fun e => e = (mtk K t ks (K.2 78 t).toNat).1)) := fun u hu0 hu1 => by
      unfold kfl_tb_match_b103_166
      refine RP_ite (fun w => out b o (by rw [nx, if_pos w])) (fun w => RP_ite (fun w2 => out b o (by rw [nx, if_neg w, if_neg (hu0 w2)])) (fun w2 => out e p (by rw [nx, if_neg w, if_pos (hu1 w2)])))
    unfold kfl_tb_match_b103_116 kfl_tb_match_b103_127 kfl_tb_match_b103_132 kfl_tb_match_b103_161 kfl_tb_match_b103_165
    have one : (b = -1 ∨ o < p ∨ (p = o ∧ K.2 88 (65536 * t + b) < K.2 88 (65536 * t + e))) → RP (kfl_tb_match_b103_166 t r b o e h p 1 K) (sel (fun s : Int × Int × Int => (0 ≤ s.2.2 ∧ s.2.2 ≤ K.2 78 t) ∧ s.1 = (mtk K t ks s.2.2.toNat).1 ∧ s.2.1 = (mtk K t ks s.2.2.toNat).2) (fun e => e = (mtk K t ks (K.2 78 t).toNat).1)) := fun q => no 1 (fun z => absurd z (by decide)) (fun _ => q)
    refine RP_ite (fun w => ?_) (fun w => RP_ite (fun w2 => ?_) (fun w2 => ?_))
    · rw [if_neg (show ¬ (1 : Int) = 0 by decide)]
      exact one (Or.inl w)
    · rw [if_pos rfl]
      refine RP_ite (fun w3 => RP_ite (fun w4 => ?_) (fun w4 => ?_)) (fun w3 => ?_)
      · exact no 0 (fun _ q => by omega) (fun z => absurd rfl z)
      · exact one (Or.inr (Or.inr ⟨w3, by omega⟩))
      · exact no 0 (fun _ q => by omega) (fun z => absurd rfl z)
    · rw [if_neg (show ¬ (1 : Int) = 0 by decide)]
      exact one (Or.inr (Or.inl (by omega)))
end SM5

section SM6
variable {K K1 : mR} {r t : Int}
theorem htk_c {ks ks' : Int → Int} {e : Int} : ∀ {n : Nat}, (∀ i : Nat, i < n → ks' i = ks i) → htk K t e ks' n = htk K t e ks n := by
  intro n
  induction n with
  | zero => intro _; rfl
  | succ n ih =>
    intro h
    unfold htk
    rw [h n (by omega), ih (fun i hi => h i (by omega))]
theorem mtk_c {ks ks' : Int → Int} (h : ∀ i : Nat, (i : Int) < K.2 72 t → ks' i = ks i) : ∀ n, mtk K t ks' n = mtk K t ks n := by
  intro n
  induction n with
  | zero => rfl
  | succ n ih =>
    unfold mtk
    rw [ih, htk_c (ks := ks) (fun i hi => h i (by omega))]
def tbA : List Nat := [72, 78, 81, 85, 86, 88]
theorem mtk_f {F A : List Nat} {ks : Int → Int} (f : fr F A K K1) (c : chk tbA A = true) : ∀ n, mtk K1 t ks n = mtk K t ks n := by
  have e1 : ∀ e n, pfk K1 t e n = pfk K t e n := fun e n => by
    induction n with
    | zero => rfl
    | succ n ih =>
      unfold pfk
      rw [ih, fr2 f 81 (chk_1 c (by decide)), fr2 f 86 (chk_1 c (by decide))]
  have e2 : ∀ e n, htk K1 t e ks n = htk K t e ks n := fun e n => by
    induction n with
    | zero => rfl
    | succ n ih =>
      unfold htk
      rw [ih, fr2 f 85 (chk_1 c (by decide)), fr2 f 86 (chk_1 c (by decide))]
  intro n
  induction n with
  | zero => rfl
  | succ n ih =>
    unfold mtk
    rw [ih, e1, e2, fr2 f 72 (chk_1 c (by decide)), fr2 f 88 (chk_1 c (by decide))]
def exA : List Nat := [16, 18, 19, 20, 21, 22, 24, 45, 46, 47, 48, 49, 50, 51]
theorem adeeds_f {F A : List Nat} {pa : Int → Int} {g : Int} {x : XSt} (f : fr F A K K1) (c : chk exA A = true) : ∀ n, adeeds K1 pa g n x = adeeds K pa g n x := by
  intro n
  induction n with
  | zero => rfl
  | succ n ih =>
    show adeed K1 pa (g + n) (adeeds K1 pa g n x) = adeed K pa (g + n) (adeeds K pa g n x)
    rw [ih, adeed_f f c]

def TWF (K : mR) (t : Int) : Prop := (0 ≤ t ∧ t ≤ 7) ∧ (0 ≤ K.2 72 t ∧ K.2 72 t ≤ 4) ∧ (0 ≤ K.2 78 t ∧ K.2 78 t ≤ 72) ∧ (∀ i, 0 ≤ i → i < K.2 72 t → K.2 80 (65536 * t + i) ≠ -1 ∧ XRa K (-1) (K.2 79 (65536 * t + i)) (K.2 80 (65536 * t + i))) ∧ ∀ ks, (0 ≤ K.2 44 (lkK K t ks).1 ∧ K.2 44 (lkK K t ks).1 ≤ 12) ∧ (0 ≤ K.2 43 (lkK K t ks).1 ∧ K.2 43 (lkK K t ks).1 ≤ 4000) ∧ ∀ i, 0 ≤ i → i < K.2 44 (lkK K t ks).1 → DWF K (K.2 43 (lkK K t ks).1 + i)
theorem XRa_f {F A : List Nat} {ac a b : Int} (h : XRa K ac a b) (f : fr F A K K1) (c : chk [18, 19, 20, 21, 22, 24] A = true) : XRa K1 ac a b := by
  obtain ⟨⟨B, h⟩, g⟩ := h
  refine ⟨⟨B, XRk_f h f c⟩, ?_⟩
  rw [fr2 f 18 (chk_1 c (by decide)), fr2 f 19 (chk_1 c (by decide))]
  exact g
theorem apply_k (h : TWF K t) : RP (kf_op_apply_b71 r t K) (fun y => y.1 = (lkK K t (akeys K t (XSk r K))).1 ∧ XSk r y.2 = adeeds K (lkK K t (akeys K t (XSk r K))).2 (K.2 43 (lkK K t (akeys K t (XSk r K))).1) (K.2 44 (lkK K t (akeys K t (XSk r K))).1).toNat (XSk r K) ∧ fr [] [25, 71, 101, 103, 105] K y.2 ∧ rowC 101 r K y.2 ∧ rowC 103 r K y.2 ∧ rowC 105 r K y.2) := by
  obtain ⟨⟨t0, t1⟩, ⟨k0, k1⟩, ⟨n0, n1⟩, hx, ha⟩ := h
  obtain ⟨ks, eks⟩ : ∃ ks, ks = akeys K t (XSk r K) := ⟨_, rfl⟩
  rw [← eks]
  unfold kf_op_apply_b71
  refine RP_bnd (P := fun e => fr [] [25, 103] K e ∧ rowC 103 r K e ∧ ∀ q, 0 ≤ q → q < K.2 72 t → e.2 103 (65536 * r + q) = ks q) (RP_whl (I := fun s : Int × mR => (0 ≤ s.1 ∧ s.1 ≤ K.2 72 t) ∧ fr [] [25, 103] K s.2 ∧ rowC 103 r K s.2 ∧ ∀ q, 0 ≤ q → q < s.1 → s.2.2 103 (65536 * r + q) = ks q) (fun s hs => ?_) ⟨⟨Int.le_refl _, k0⟩, fr_0, fun _ _ => rfl, fun q q0 q1 => by have q1 : q < 0 := q1; omega⟩) (fun e he => ?_)
  · obtain ⟨i, Kc⟩ := s
    obtain ⟨⟨i0, i1⟩, f, rc, hk⟩ := hs
    have i0 : 0 ≤ i := i0
    have i1 : i ≤ K.2 72 t := i1
    have f : fr [] [25, 103] K Kc := f
    have hk : ∀ q, 0 ≤ q → q < i → Kc.2 103 (65536 * r + q) = ks q := hk
    unfold kfb_op_apply_b71_3
    show RP (if Kc.2 72 t ≤ i then some (Sum.inr Kc) else _) _
    rw [show Kc.2 72 = K.2 72 from fr2 f 72 rfl]
    refine RP_ite (fun g => RP_some ⟨f, rc, fun q q0 q1 => hk q q0 (by omega)⟩) (fun g => ?_)
    show RP (bnd (kf_nd_valueOf_b101_b105 (Kc.2 79 (65536 * t + i)) (Kc.2 80 (65536 * t + i)) r r Kc) fun y20 => some (Sum.inl (cut (i + 1), mO y20.2 [] [(103, upI (y20.2.2 103) (65536 * r + i) y20.1)]))) _
    rw [show Kc.2 79 = K.2 79 from fr2 f 79 rfl, show Kc.2 80 = K.2 80 from fr2 f 80 rfl, cut_i (z := i + 1) (by omega) (by omega)]
    obtain ⟨h1, h2⟩ := hx i i0 (by omega)
    obtain ⟨⟨B, h3⟩, -⟩ := XRa_f h2 f rfl
    refine RP_bnd (val_k (r := r) (v4 := r) h3) (fun y hy => RP_some ⟨⟨show 0 ≤ i + 1 by omega, show i + 1 ≤ K.2 72 t by omega⟩, fr_m (fr_s hy.2 f rfl rfl) rfl rfl, fun j hj => ?_, fun q q0 q1 => ?_⟩)
    · show upI (y.2.2 103) (65536 * r + i) y.1 j = K.2 103 j
      rw [upI_n (by omega), show y.2.2 103 = Kc.2 103 from fr2 hy.2 103 rfl]
      exact rc j hj
    · have q1 : q < i + 1 := q1
      show upI (y.2.2 103) (65536 * r + i) y.1 (65536 * r + q) = ks q
      by_cases e : q = i
      · rw [e, upI_s, hy.1, ev_f f rfl, fr2 f 101 rfl, eks]
        unfold akeys
        rw [if_pos ⟨i0, by omega⟩]
        exact ev_0 h2
      · rw [upI_n (by omega), show y.2.2 103 = Kc.2 103 from fr2 hy.2 103 rfl]
        exact hk q q0 (by omega)
  · obtain ⟨f, rc, hk⟩ := he
    unfold kfl_op_apply_b71_54
    refine RP_bnd (match_k (K := e) (r := r) t0 (by rw [fr2 f 72 rfl]; exact ⟨k0, k1⟩) (by rw [fr2 f 78 rfl]; exact ⟨n0, n1⟩)) (fun y hy => ?_)
    rw [show e.2 78 = K.2 78 from fr2 f 78 rfl, mtk_f f rfl, mtk_c (ks := ks) (fun i hi => hk i (by omega) hi)] at hy
    have mr := (mtk_r K t ks (K.2 78 t).toNat).1
    rw [← hy] at mr
    have ha := ha ks
    have fin : ∀ (a : Int) (D : Int → Int) (K2 : mR), a = (lkK K t ks).1 → K2 = mO e [] [(105, D)] → (∀ j, j < 65536 * r ∨ 65536 * r + 65536 ≤ j → D j = e.2 105 j) → (∀ i, 0 ≤ i → i < 4 → D (65536 * r + i) = (lkK K t ks).2 i) → RP (kfl_op_apply_b71_140 r a K2) (fun y => y.1 = (lkK K t ks).1 ∧ XSk r y.2 = adeeds K (lkK K t ks).2 (K.2 43 (lkK K t ks).1) (K.2 44 (lkK K t ks).1).toNat (XSk r K) ∧ fr [] [25, 71, 101, 103, 105] K y.2 ∧ rowC 101 r K y.2 ∧ rowC 103 r K y.2 ∧ rowC 105 r K y.2) := fun a D K2 ea eK dr dv => by
      have f2 : fr [] [25, 103, 105] K K2 := by rw [eK]; exact fr_m (fr_s f fr_0 rfl rfl) rfl rfl
      rw [ea]
      refine RP_w (deeds_k (K := K2) (r := r) (by rw [fr2 f2 44 rfl]; exact ha.1) (by rw [fr2 f2 43 rfl]; exact ha.2.1) (fun i i0 i1 => by rw [fr2 f2 43 rfl]; exact DWF_f (ha.2.2 i i0 (by rw [fr2 f2 44 rfl] at i1; exact i1)) f2 rfl)) (fun y hy => ?_)
      obtain ⟨y1, y2, y3, y4⟩ := hy
      have ex : XSk r K2 = XSk r K := XSk_c (fr2 f2 101 rfl) (fr2 f2 71 rfl) (fr2 f2 102 rfl)
      refine ⟨y1, ?_, fr_s y3 (fr_s f2 fr_0 rfl rfl) rfl rfl, fun j hj => (y4 j hj).trans (by rw [fr2 f2 101 rfl]), fun j hj => ?_, fun j hj => ?_⟩
      · rw [y2, ex, fr2 f2 43 rfl, fr2 f2 44 rfl, adeeds_f f2 rfl]
        refine adeeds_p (fun i i0 i1 => ?_) (fun i hi => ha.2.2 i (by omega) (by omega))
        unfold pak
        rw [eK]
        exact dv i i0 i1
      · rw [fr2 y3 103 rfl, eK]
        exact rc j hj
      · rw [fr2 y3 105 rfl, eK]
        show D j = _
        rw [dr j hj, fr2 f 105 rfl]
    have cpr : ∀ (S : Int → Int) (p : Int), (∀ j, j < 65536 * r ∨ 65536 * r + 65536 ≤ j → cpI S (e.2 105) p (65536 * r + 0) 4 j = e.2 105 j) ∧ ∀ i, 0 ≤ i → i < 4 → cpI S (e.2 105) p (65536 * r + 0) 4 (65536 * r + i) = S (p + i) := fun S p => by
      refine ⟨fun j hj => ?_, fun i i0 i1 => ?_⟩
      · unfold cpI
        rw [if_neg (by omega)]
      · unfold cpI
        rw [if_pos (by omega)]
        exact congrArg S (by omega)
    unfold kfl_op_apply_b71_75 kfl_op_apply_b71_96 kfl_op_apply_b71_111
    refine RP_ite (fun g => ?_) (fun g => ?_)
    · rw [if_pos rfl, if_pos rfl, if_pos rfl]
      have el : lkK K t ks = (K.2 74 t, fun i => K.2 84 (65536 * t + i)) := by
        unfold lkK
        rw [if_pos (by rw [← hy]; exact g)]
      refine fin _ _ _ (by rw [el, fr2 f 74 rfl]) rfl (cpr _ _).1 (fun i i0 i1 => ?_)
      rw [(cpr _ _).2 i i0 i1, el, fr2 f 84 rfl]
      exact congrArg (K.2 84) (by omega)
    · rw [if_neg (show ¬ (1 : Int) = 0 by decide), if_neg (show ¬ (1 : Int) = 0 by decide), if_neg (show ¬ (1 : Int) = 0 by decide)]
      have el : lkK K t ks = (K.2 89 (65536 * t + y), fun i => K.2 87 (65536 * t + (4 * y + i))) := by
        unfold lkK
        rw [← hy, if_neg g]
      refine fin _ _ _ (by rw [el, fr2 f 89 rfl]) rfl (cpr _ _).1 (fun i i0 i1 => ?_)
      rw [(cpr _ _).2 i i0 i1, el, fr2 f 87 rfl, cut_i (z := y * 4) (by omega) (by omega)]
      exact congrArg (K.2 87) (by omega)

def SWk (K : mR) (s : Int) : Prop := (K.2 52 s = 0 ∧ DWF K (K.2 56 s) ∧ DP0 K (K.2 56 s)) ∨ (K.2 52 s = 1 ∧ XRa K (-1) (K.2 57 s) (K.2 58 s)) ∨ (K.2 52 s = 2 ∧ TWF K (K.2 55 s))
def opA : List Nat := [25, 71, 101, 103, 105]

theorem doStep_k {s : Int} (h : SWk K s) : RP (kf_op_doStep_b71 r s K) (fun y => setp 2 s y.1 (XSk r y.2) = adoes K (lkK K) s (XSk r K) ∧ fr [] opA K y.2 ∧ rowC 101 r K y.2 ∧ rowC 103 r K y.2 ∧ rowC 105 r K y.2) := by
  unfold kf_op_doStep_b71 adoes
  have r0 : ∀ {k : Nat} {K2 : mR} {F A : List Nat}, fr F A K K2 → nin A k = true → rowC k r K K2 := fun f q j _ => by rw [fr2 f _ q]
  rcases h with ⟨k1, d1, d2⟩ | ⟨k1, x1⟩ | ⟨k1, x1⟩
  · have n1 : ¬ K.2 52 s = 1 := by omega
    have n2 : ¬ K.2 52 s = 2 := by omega
    rw [if_neg n1, if_neg n2, if_neg n1, if_neg n2]
    refine RP_bnd (deed_k (r := r) d1) (fun y hy => RP_some ⟨?_, fr_s hy.2.1 fr_0 rfl rfl, hy.2.2, r0 hy.2.1 rfl, r0 hy.2.1 rfl⟩)
    show setp 2 s 0 (XSk r y.2) = _
    rw [hy.1, adeed_p d1 (pa := fun _ => 0) (Or.inr d2)]
  · rw [if_pos k1, if_pos k1]
    have x1' := x1
    obtain ⟨⟨B, x2⟩, -⟩ := x1'
    refine RP_bnd (val_k (r := r) (v4 := r) x2) (fun y hy => RP_some ⟨?_, fr_s hy.2 fr_0 rfl rfl, r0 hy.2 rfl, r0 hy.2 rfl, r0 hy.2 rfl⟩)
    show setp 2 s (cut y.1) (XSk r y.2) = _
    rw [XSk_c (r := r) (fr2 hy.2 101 rfl) (fr2 hy.2 71 rfl) (fr2 hy.2 102 rfl), hy.1, ev_0 x1 (pa := fun _ => 0)]
    rfl
  · have n1 : ¬ K.2 52 s = 1 := by omega
    rw [if_neg n1, if_pos k1, if_neg n1, if_pos k1]
    refine RP_bnd (apply_k (r := r) x1) (fun y hy => RP_some ⟨?_, fr_s hy.2.2.1 fr_0 rfl rfl, hy.2.2.2⟩)
    show setp 2 s y.1 (XSk r y.2) = _
    rw [hy.1, hy.2.1]
end SM6

section SM7
variable {K K1 : mR} {r : Int}
theorem XSk_d {s v : Int} (e1 : K1.2 101 = K.2 101) (e2 : K1.2 71 = K.2 71) (e3 : K1.2 102 = upI (K.2 102) (65536 * r + s) v) : XSk r K1 = setp 2 s v (XSk r K) := by
  funext k
  unfold XSk setp
  rw [e1, e2, e3]
  by_cases h : k = 2
  · subst h
    show (fun j => upI (K.2 102) (65536 * r + s) v (65536 * r + j)) = upI (fun j => K.2 102 (65536 * r + j)) s v
    funext j
    by_cases q : j = s
    · rw [q, upI_s, upI_s]
    · rw [upI_n (by omega), upI_n q]
  · dsimp only
    by_cases h0 : k = 0
    · rw [if_pos h0, if_neg h, if_pos h0]
    · by_cases h1 : k = 1
      · rw [if_neg h0, if_pos h1, if_neg h, if_neg h0, if_pos h1]
      · rw [if_neg h0, if_neg h1, if_neg h, if_neg h, if_neg h0, if_neg h1, if_neg h]

def stA : List Nat := [16, 18, 19, 20, 21, 22, 24, 43, 44, 45, 46, 47, 48, 49, 50, 51, 52, 53, 54, 55, 56, 57, 58, 59, 72, 74, 78, 79, 80, 81, 84, 85, 86, 87, 88, 89]
theorem lkK_f {F A : List Nat} (f : fr F A K K1) (c : chk stA A = true) : lkK K1 = lkK K := by
  funext t ks
  unfold lkK
  rw [mtk_f f (chk_s c rfl), fr2 f 74 (chk_1 c (by decide)), fr2 f 78 (chk_1 c (by decide)), fr2 f 84 (chk_1 c (by decide)), fr2 f 87 (chk_1 c (by decide)), fr2 f 89 (chk_1 c (by decide))]
theorem akeys_f {F A : List Nat} {t : Int} {x : XSt} (f : fr F A K K1) (c : chk stA A = true) : akeys K1 t x = akeys K t x := by
  funext i
  unfold akeys
  rw [ev_f f (chk_s c rfl), fr2 f 72 (chk_1 c (by decide)), fr2 f 79 (chk_1 c (by decide)), fr2 f 80 (chk_1 c (by decide))]
theorem adoes_f {F A : List Nat} {lk : Int → (Int → Int) → Int × (Int → Int)} {s : Int} {x : XSt} (f : fr F A K K1) (c : chk stA A = true) : adoes K1 lk s x = adoes K lk s x := by
  unfold adoes
  rw [akeys_f f c, ev_f f (chk_s c rfl), adeed_f f (chk_s c rfl), adeeds_f f (chk_s c rfl), fr2 f 43 (chk_1 c (by decide)), fr2 f 44 (chk_1 c (by decide)), fr2 f 52 (chk_1 c (by decide)), fr2 f 55 (chk_1 c (by decide)), fr2 f 56 (chk_1 c (by decide)), fr2 f 57 (chk_1 c (by decide)), fr2 f 58 (chk_1 c (by decide))]
theorem TWF_f {F A : List Nat} {t : Int} (h : TWF K t) (f : fr F A K K1) (c : chk stA A = true) : TWF K1 t := by
  obtain ⟨h1, h2, h3, h4, h5⟩ := h
  unfold TWF
  rw [lkK_f f c, fr2 f 43 (chk_1 c (by decide)), fr2 f 44 (chk_1 c (by decide)), fr2 f 72 (chk_1 c (by decide)), fr2 f 78 (chk_1 c (by decide)), fr2 f 79 (chk_1 c (by decide)), fr2 f 80 (chk_1 c (by decide))]
  exact ⟨h1, h2, h3, fun i i0 i1 => ⟨(h4 i i0 i1).1, XRa_f (h4 i i0 i1).2 f (chk_s c rfl)⟩, fun ks => ⟨(h5 ks).1, (h5 ks).2.1, fun i i0 i1 => DWF_f ((h5 ks).2.2 i i0 i1) f (chk_s c rfl)⟩⟩
theorem SWk_f {F A : List Nat} {s : Int} (h : SWk K s) (f : fr F A K K1) (c : chk stA A = true) : SWk K1 s := by
  unfold SWk DP0 at *
  rw [fr2 f 48 (chk_1 c (by decide)), fr2 f 49 (chk_1 c (by decide)), fr2 f 50 (chk_1 c (by decide)), fr2 f 51 (chk_1 c (by decide)), fr2 f 52 (chk_1 c (by decide)), fr2 f 55 (chk_1 c (by decide)), fr2 f 56 (chk_1 c (by decide)), fr2 f 57 (chk_1 c (by decide)), fr2 f 58 (chk_1 c (by decide))]
  rcases h with ⟨a, b, d, e⟩ | ⟨a, b⟩ | ⟨a, b⟩
  · exact Or.inl ⟨a, DWF_f b f (chk_s c rfl), fun q => XRa_f (d q) f (chk_s c rfl), fun q => XRa_f (e q) f (chk_s c rfl)⟩
  · exact Or.inr (Or.inl ⟨a, XRa_f b f (chk_s c rfl)⟩)
  · exact Or.inr (Or.inr ⟨a, TWF_f b f c⟩)
def wkA : List Nat := [25, 71, 101, 102, 103, 105]

theorem work_k {g : Nat} (hk : K.2 91 r = 0) (ho : K.2 98 r ≠ 2) (n0 : 0 ≤ K.1 225 ∧ K.1 225 ≤ 48) (hs : ∀ s, 0 ≤ s → s < K.1 225 → SWk K s ∧ 0 ≤ K.2 59 s) : RP (kf_op_work_b71 r (g : Int) K) (fun y => XSk r y.2 = sgo (fun s => astep K (lkK K) (s : Int)) (fun s => (K.2 59 (s : Int)).toNat) g (K.1 225).toNat (XSk r K) ∧ fr [] wkA K y.2 ∧ rowC 101 r K y.2 ∧ rowC 102 r K y.2 ∧ rowC 103 r K y.2 ∧ rowC 105 r K y.2) := by
  unfold kf_op_work_b71
  rw [if_pos hk]
  obtain ⟨st, est⟩ : ∃ st : Nat → XSt → XSt, st = fun s : Nat => astep K (lkK K) (s : Int) := ⟨_, rfl⟩
  obtain ⟨hh, ehh⟩ : ∃ hh : Nat → Nat, hh = fun s : Nat => (K.2 59 (s : Int)).toNat := ⟨_, rfl⟩
  rw [← est, ← ehh]
  refine RP_bnd (P := fun e => XSk r e = sgo st hh g (K.1 225).toNat (XSk r K) ∧ fr [] wkA K e ∧ rowC 101 r K e ∧ rowC 102 r K e ∧ rowC 103 r K e ∧ rowC 105 r K e) (RP_whl (I := fun q : Int × mR => (0 ≤ q.1 ∧ q.1 ≤ K.1 225) ∧ XSk r q.2 = sgo st hh g q.1.toNat (XSk r K) ∧ fr [] wkA K q.2 ∧ rowC 101 r K q.2 ∧ rowC 102 r K q.2 ∧ rowC 103 r K q.2 ∧ rowC 105 r K q.2) (fun q hq => ?_) ⟨⟨Int.le_refl _, n0.1⟩, rfl, fr_0, fun _ _ => rfl, fun _ _ => rfl, fun _ _ => rfl, fun _ _ => rfl⟩) (fun e he => RP_some he)
  obtain ⟨i, Kc⟩ := q
  obtain ⟨⟨i0, i1⟩, hx, f, r1, r2, r3, r4⟩ := hq
  have i0 : 0 ≤ i := i0
  have i1 : i ≤ K.1 225 := i1
  have hx : XSk r Kc = sgo st hh g i.toNat (XSk r K) := hx
  have f : fr [] wkA K Kc := f
  have ei : ((i.toNat : Nat) : Int) = i := by omega
  unfold kfb_op_work_b71_71
  show RP (if Kc.1 225 ≤ i then some (Sum.inr Kc) else _) _
  rw [show Kc.1 225 = K.1 225 from fr1 f 225 rfl]
  refine RP_ite (fun q => RP_some ⟨?_, f, r1, r2, r3, r4⟩) (fun q => ?_)
  · rw [hx, show i = K.1 225 by omega]
  show RP (if Kc.2 98 r = 2 then some (Sum.inr Kc) else _) _
  rw [show Kc.2 98 = K.2 98 from fr2 f 98 rfl, if_neg ho]
  have sg : sgo st hh g (i.toNat + 1) (XSk r K) = if hh i.toNat = g then st i.toNat (sgo st hh g i.toNat (XSk r K)) else sgo st hh g i.toNat (XSk r K) := rfl
  have c1 : cut (i + 1) = i + 1 := cut_i (by omega) (by omega)
  have stay : sgo st hh g (i.toNat + 1) (XSk r K) = XSk r Kc → RP (kfl_op_work_b71_150 r (g : Int) i Kc) (sel (fun q : Int × mR => (0 ≤ q.1 ∧ q.1 ≤ K.1 225) ∧ XSk r q.2 = sgo st hh g q.1.toNat (XSk r K) ∧ fr [] wkA K q.2 ∧ rowC 101 r K q.2 ∧ rowC 102 r K q.2 ∧ rowC 103 r K q.2 ∧ rowC 105 r K q.2) (fun e => XSk r e = sgo st hh g (K.1 225).toNat (XSk r K) ∧ fr [] wkA K e ∧ rowC 101 r K e ∧ rowC 102 r K e ∧ rowC 103 r K e ∧ rowC 105 r K e)) := fun e => by
    unfold kfl_op_work_b71_150
    rw [c1]
    refine RP_some ⟨⟨show 0 ≤ i + 1 by omega, show i + 1 ≤ K.1 225 by omega⟩, ?_, f, r1, r2, r3, r4⟩
    show XSk r Kc = sgo st hh g (i + 1).toNat (XSk r K)
    rw [show (i + 1).toNat = i.toNat + 1 by omega, e]
  obtain ⟨w1, w2⟩ := hs i i0 (by omega)
  have go : (K.2 53 i = -1 ∨ XSk r Kc 2 (K.2 53 i) = K.2 54 i) → hh i.toNat = g → RP (kfl_op_work_b71_135 r (g : Int) i Kc) (sel (fun q : Int × mR => (0 ≤ q.1 ∧ q.1 ≤ K.1 225) ∧ XSk r q.2 = sgo st hh g q.1.toNat (XSk r K) ∧ fr [] wkA K q.2 ∧ rowC 101 r K q.2 ∧ rowC 102 r K q.2 ∧ rowC 103 r K q.2 ∧ rowC 105 r K q.2) (fun e => XSk r e = sgo st hh g (K.1 225).toNat (XSk r K) ∧ fr [] wkA K e ∧ rowC 101 r K e ∧ rowC 102 r K e ∧ rowC 103 r K e ∧ rowC 105 r K e)) := fun hp hg => by
    unfold kfl_op_work_b71_135 kfl_op_work_b71_150
    refine RP_bnd (doStep_k (r := r) (SWk_f w1 f rfl)) (fun y hy => ?_)
    obtain ⟨y1, y2, y3, y4, y5⟩ := hy
    rw [c1]
    refine RP_some ⟨⟨show 0 ≤ i + 1 by omega, show i + 1 ≤ K.1 225 by omega⟩, ?_, fr_m (fr_s y2 f rfl rfl) rfl rfl, fun j hj => (y3 j hj).trans (r1 j hj), fun j hj => ?_, fun j hj => (y4 j hj).trans (r3 j hj), fun j hj => (y5 j hj).trans (r4 j hj)⟩
    · show XSk r (mO y.2 [] [(102, upI (y.2.2 102) (65536 * r + i) y.1)]) = sgo st hh g (i + 1).toNat (XSk r K)
      rw [show (i + 1).toNat = i.toNat + 1 by omega, sg, if_pos hg, ← hx, XSk_d (K := y.2) (K1 := mO y.2 [] [(102, upI (y.2.2 102) (65536 * r + i) y.1)]) (r := r) (s := i) (v := y.1) rfl rfl rfl, y1, adoes_f f rfl, lkK_f f rfl, est]
      show adoes K (lkK K) i (XSk r Kc) = astep K (lkK K) ((i.toNat : Nat) : Int) (XSk r Kc)
      rw [ei]
      unfold astep
      rw [if_pos hp]
    · show upI (y.2.2 102) (65536 * r + i) y.1 j = K.2 102 j
      rw [upI_n (by omega), fr2 y2 102 rfl]
      exact r2 j hj
  have x2 : XSk r Kc 2 = fun s => Kc.2 102 (65536 * r + s) := rfl
  show RP (if Kc.2 59 i = (g : Int) then (if Kc.2 53 i = (-1) then kfl_op_work_b71_135 r (g : Int) i Kc else if Kc.2 102 (65536 * r + Kc.2 53 i) = Kc.2 54 i then kfl_op_work_b71_135 r (g : Int) i Kc else kfl_op_work_b71_150 r (g : Int) i Kc) else kfl_op_work_b71_150 r (g : Int) i Kc) _
  rw [show Kc.2 59 = K.2 59 from fr2 f 59 rfl, show Kc.2 53 = K.2 53 from fr2 f 53 rfl, show Kc.2 54 = K.2 54 from fr2 f 54 rfl]
  have hhi : hh i.toNat = (K.2 59 i).toNat := by rw [ehh]; show (K.2 59 ((i.toNat : Nat) : Int)).toNat = _; rw [ei]
  refine RP_ite (fun q1 => ?_) (fun q1 => stay ?_)
  · have hg : hh i.toNat = g := by rw [hhi]; omega
    refine RP_ite (fun q2 => go (Or.inl q2) hg) (fun q2 => RP_ite (fun q3 => go (Or.inr (by rw [x2]; exact q3)) hg) (fun q3 => stay ?_))
    rw [sg, if_pos hg, ← hx, est]
    show astep K (lkK K) ((i.toNat : Nat) : Int) (XSk r Kc) = _
    rw [ei]
    unfold astep
    rw [if_neg (fun z => by rcases z with z | z; exact q2 z; rw [x2] at z; exact q3 z)]
  · rw [sg, if_neg (by rw [hhi]; omega), hx]
end SM7


def smM (M : mR) (s : Int) : Int := if s = 220 then (if M.1 177 = 0 then 0 else 1) else if 204 ≤ s then M.2 172 (s - 204) else if s % 17 = 0 then (if M.2 175 (s / 17) = 0 then 0 else 1) else M.2 171 (16 * (s / 17) + (s % 17 - 1))
def XSm (at' : Int) (M : mR) : XSt := fun k => if k = 0 then smM M else if k = 1 then M.2 138 else if k = 2 then fun s => M.2 169 (48 * at' + s) else fun _ => 0

def XPE (x x' : XSt) : Prop := (∀ s, 0 ≤ s → s ≤ 220 → x 0 s = x' 0 s) ∧ (∀ p, 0 ≤ p → p < 512 → x 1 p = x' 1 p) ∧ ∀ s, 0 ≤ s → s < 48 → x 2 s = x' 2 s
theorem XPE_r {x : XSt} : XPE x x := ⟨fun _ _ _ => rfl, fun _ _ _ => rfl, fun _ _ _ => rfl⟩
theorem XPE_t {x y z : XSt} (h : XPE x y) (g : XPE y z) : XPE x z := ⟨fun s a b => (h.1 s a b).trans (g.1 s a b), fun s a b => (h.2.1 s a b).trans (g.2.1 s a b), fun s a b => (h.2.2 s a b).trans (g.2.2 s a b)⟩
theorem XPE_s {x y : XSt} (h : XPE x y) : XPE y x := ⟨fun s a b => (h.1 s a b).symm, fun s a b => (h.2.1 s a b).symm, fun s a b => (h.2.2 s a b).symm⟩
theorem XPE_set {k0 : Nat} {p v : Int} {x y : XSt} (h : XPE x y) : XPE (setp k0 p v x) (setp k0 p v y) := by
  have g : ∀ (k : Nat) (j : Int), x k j = y k j → setp k0 p v x k j = setp k0 p v y k j := fun k j e => by
    unfold setp
    by_cases q : k = k0
    · rw [if_pos q, if_pos q]
      by_cases z : j = p
      · rw [z, upI_s, upI_s]
      · rw [upI_n z, upI_n z]
        exact e
    · rw [if_neg q, if_neg q]
      exact e
  exact ⟨fun s a b => g 0 s (h.1 s a b), fun s a b => g 1 s (h.2.1 s a b), fun s a b => g 2 s (h.2.2 s a b)⟩
theorem XPE_put {s v : Int} {x y : XSt} (s0 : 0 ≤ s) (s1 : s ≤ 220) (h : XPE x y) : XPE (aput s v x) (aput s v y) := by
  unfold aput
  by_cases q : 204 ≤ s
  · rw [if_pos (Or.inl q), if_pos (Or.inl q)]
    exact XPE_set h
  · rw [h.1 (s - s % 17) (by omega) (by omega)]
    by_cases z : 204 ≤ s ∨ y 0 (s - s % 17) ≠ 0
    · rw [if_pos z, if_pos z]
      exact XPE_set h
    · rw [if_neg z, if_neg z]
      exact h
theorem XPE_take {s : Int} {x y : XSt} (h : XPE x y) : XPE (atake s x) (atake s y) := by
  refine ⟨fun j a b => ?_, fun j a b => h.2.1 j a b, fun j a b => h.2.2 j a b⟩
  show (if s ≤ j ∧ j < s + 17 then 0 else x 0 j) = (if s ≤ j ∧ j < s + 17 then 0 else y 0 j)
  by_cases q : s ≤ j ∧ j < s + 17
  · rw [if_pos q, if_pos q]
  · rw [if_neg q, if_neg q]
    exact h.1 j a b
section SM8
variable {M M' : mR} {at' : Int}

theorem aput_r {p v s : Int} (hp : (0 ≤ p ∧ p < 16 ∧ s = 204 + p) ∨ (16 ≤ p ∧ p < 208 ∧ s = 17 * ((p - 16) / 16) + 1 + (p - 16) % 16)) : RP (rf_put p v M) (fun z => XPE (XSm at' z.2) (aput s v (XSm at' M)) ∧ fr [] [171, 172] M z.2) := by
  have sM : ∀ (M' : mR), (∀ j, 0 ≤ j → j ≤ 220 → smM M' j = upI (smM M) s v j) → M'.2 138 = M.2 138 → M'.2 169 = M.2 169 → XPE (XSm at' M') (setp 0 s v (XSm at' M)) := fun M' e1 e2 e3 => ⟨fun j a b => e1 j a b, fun j a b => by show M'.2 138 j = M.2 138 j; rw [e2], fun j a b => by show M'.2 169 (48 * at' + j) = M.2 169 (48 * at' + j); rw [e3]⟩
  unfold rf_put aput
  rcases hp with ⟨p0, p1, es⟩ | ⟨p0, p1, es⟩
  · rw [if_neg (by omega), if_pos (Or.inl (by omega))]
    refine RP_some ⟨sM _ (fun j a b => ?_) rfl rfl, fr_m fr_0 rfl rfl⟩
    unfold smM
    show (if j = 220 then _ else if 204 ≤ j then upI (M.2 172) p v (j - 204) else _) = _
    by_cases e : j = s
    · rw [e, upI_s, if_neg (by omega), if_pos (by omega), show s - 204 = p by omega, upI_s]
    · rw [upI_n e]
      by_cases q : j = 220
      · rw [if_pos q, if_pos q]
        rfl
      · rw [if_neg q, if_neg q]
        by_cases q2 : 204 ≤ j
        · rw [if_pos q2, if_pos q2, upI_n (by omega)]
        · rw [if_neg q2, if_neg q2]
          rfl
  · have c1 : cut (p - 16) = p - 16 := cut_i (by omega) (by omega)
    have d1 : (p - 16).tdiv 16 = (p - 16) / 16 := Int.tdiv_eq_ediv_of_nonneg (by omega)
    have sv : XSm at' M 0 (s - s % 17) = if M.2 175 ((p - 16) / 16) = 0 then 0 else 1 := by
      show smM M (s - s % 17) = _
      unfold smM
      rw [if_neg (by omega), if_neg (by omega), if_pos (by omega), show (s - s % 17) / 17 = (p - 16) / 16 by omega]
    rw [if_pos p0, c1, d1, sv]
    by_cases hv : M.2 175 ((p - 16) / 16) = 0
    · rw [if_pos hv, if_pos hv, if_neg (fun z => by rcases z with z | z; omega; exact z rfl)]
      exact RP_some ⟨XPE_r, fr_0⟩
    · rw [if_neg hv, if_neg hv, if_pos (Or.inr (by decide))]
      refine RP_some ⟨sM _ (fun j a b => ?_) rfl rfl, fr_m fr_0 rfl rfl⟩
      unfold smM
      show (if j = 220 then _ else if 204 ≤ j then M.2 172 (j - 204) else if j % 17 = 0 then _ else upI (M.2 171) (p - 16) v (16 * (j / 17) + (j % 17 - 1))) = _
      by_cases e : j = s
      · rw [e, upI_s, if_neg (by omega), if_neg (by omega), if_neg (by omega), show 16 * (s / 17) + (s % 17 - 1) = p - 16 by omega, upI_s]
      · rw [upI_n e]
        by_cases q : j = 220
        · rw [if_pos q, if_pos q]
          rfl
        · rw [if_neg q, if_neg q]
          by_cases q2 : 204 ≤ j
          · rw [if_pos q2, if_pos q2]
          · rw [if_neg q2, if_neg q2]
            by_cases q3 : j % 17 = 0
            · rw [if_pos q3, if_pos q3]
              rfl
            · rw [if_neg q3, if_neg q3, upI_n (by omega)]
end SM8
