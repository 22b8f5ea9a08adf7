
section NV2
variable {K M : mR} {a rr r v4 : Int}
theorem shs_s {A : Int → Int} {a i : Int} (h : a ≤ i) : shs A a (i + 1 - a).toNat = ((shs A a (i - a).toNat).1 + 1 - arit (A i), upI (shs A a (i - a).toNat).2 ((shs A a (i - a).toNat).1 - arit (A i)) i) := by
  rw [show (i + 1 - a).toNat = (i - a).toNat + 1 by omega]
  show ((shs A a (i - a).toNat).1 + 1 - arit (A (a + (((i - a).toNat : Nat) : Int))), upI (shs A a (i - a).toNat).2 ((shs A a (i - a).toNat).1 - arit (A (a + (((i - a).toNat : Nat) : Int)))) (a + (((i - a).toNat : Nat) : Int))) = _
  rw [show a + (((i - a).toNat : Nat) : Int) = i by omega]
theorem NVI_s {ac : Int} {B : mR} (hx : XRk B ac K a rr) {i n v : Int} {Kc Mc : mR} (hI : NVI a rr K M (i, Kc) (n, i, Mc)) (hi : i ≤ rr) (hv : VALn K v i) (h0 : 0 ≤ n - arit (K.2 18 i)) : NVI a rr K M (i + 1, mO Kc [] [(25, upI (Kc.2 25) i v)]) (n + 1 - arit (K.2 18 i), i + 1, mO Mc [] [(173, upI (Mc.2 173) (n - arit (K.2 18 i)) v)]) := by
  obtain ⟨⟨-, i0, -⟩, fK, fM, ⟨en, es⟩, hV⟩ := hI
  have i0 : a ≤ i := i0
  have en : n = (shs (K.2 18) a (i - a).toNat).1 := en
  have es : ∀ t, 0 ≤ t → t < n → Mc.2 173 t = Kc.2 25 ((shs (K.2 18) a (i - a).toNat).2 t) := es
  have hV : ∀ j, a ≤ j → j < i → VALn K (Kc.2 25 j) j := hV
  obtain ⟨-, hu, -, -⟩ := hx
  obtain ⟨b1, b2⟩ := shs_b (fun k hk => hu k (by omega) : noU (K.2 18) a (i - a).toNat)
  rw [← en, show a + (((i - a).toNat : Nat) : Int) = i by omega] at b2
  have sS := shs_s (A := K.2 18) i0
  rw [← en] at sS
  refine ⟨⟨rfl, show a ≤ i + 1 by omega, show i + 1 ≤ rr + 1 by omega⟩, fr_m fK rfl rfl, fr_m fM rfl rfl, ⟨?_, fun t t0 t1 => ?_⟩, fun j j0 j1 => ?_⟩
  · show n + 1 - arit (K.2 18 i) = (shs (K.2 18) a (i + 1 - a).toNat).1
    rw [sS]
  · have t1 : t < n + 1 - arit (K.2 18 i) := t1
    have ar := arit_r (K.2 18 i)
    show upI (Mc.2 173) (n - arit (K.2 18 i)) v t = upI (Kc.2 25) i v ((shs (K.2 18) a (i + 1 - a).toNat).2 t)
    rw [sS]
    show _ = upI (Kc.2 25) i v (upI (shs (K.2 18) a (i - a).toNat).2 (n - arit (K.2 18 i)) i t)
    by_cases e : t = n - arit (K.2 18 i)
    · rw [e, upI_s, upI_s, upI_s]
    · have w := b2 t t0 (by omega)
      rw [upI_n e, upI_n e, upI_n (by omega)]
      exact es t t0 (by omega)
  · have j1 : j < i + 1 := j1
    show VALn K (upI (Kc.2 25) i v j) j
    by_cases e : j = i
    · rw [e, upI_s]
      exact hv
    · rw [upI_n e]
      exact hV j j0 (by omega)

theorem worth_q {ac : Int} {B : mR} (hx : XRk B ac K a rr) (hn : ∀ j, a ≤ j → j ≤ rr → NVH K M r v4 j) : RR (kf_nd_valueOf_b101_b105 a rr r v4 K) (rf_worth a (rr + 1) M) (fun y z => y.1 = z.1 ∧ VALn K y.1 rr ∧ fr [] [25] K y.2 ∧ fr [] [173] M z.2) := by
  have hx' := hx
  obtain ⟨⟨a0, a1, r8⟩, hu, hh, -⟩ := hx'
  unfold kf_nd_valueOf_b101_b105 rf_worth
  refine RR_bnd (P := fun (Kc Mc : mR) => fr [] [25] K Kc ∧ fr [] [173] M Mc ∧ Mc.2 173 0 = Kc.2 25 rr ∧ VALn K (Kc.2 25 rr) rr) (RR_whl (I := NVI a rr K M) (fun s u hI => ?_) ?_) (fun e f hef => ?_)
  · obtain ⟨i, Kc⟩ := s
    obtain ⟨n, k, Mc⟩ := u
    have ek : i = k := hI.1.1
    subst ek
    have i0 : a ≤ i := hI.1.2.1
    have i1 : i ≤ rr + 1 := hI.1.2.2
    by_cases hi : i ≤ rr
    · obtain ⟨v, e1, e2, hv, h0⟩ := node_q hx hn hI hi
      rw [e1, e2]
      exact RR_some (NVI_s hx hI hi hv h0)
    · have ei : i = rr + 1 := by omega
      subst ei
      unfold kfb_nd_valueOf_b101_b105_3 rfb_worth_5
      show RR (if rr < rr + 1 then some (Sum.inr Kc) else _) (if rr + 1 ≤ rr + 1 then some (Sum.inr Mc) else _) _
      rw [if_pos (by omega), if_pos (by omega)]
      obtain ⟨-, fK, fM, ⟨en, es⟩, hV⟩ := hI
      have en : n = (shs (K.2 18) a (rr + 1 - a).toNat).1 := en
      have es : ∀ t, 0 ≤ t → t < n → Mc.2 173 t = Kc.2 25 ((shs (K.2 18) a (rr + 1 - a).toNat).2 t) := es
      rw [hh] at en
      have tp := shs_top (A := K.2 18) (a := a) (rr - a).toNat
      rw [show (rr - a).toNat + 1 = (rr + 1 - a).toNat by omega, hh, show (1 : Int) - 1 = 0 by decide, show a + (((rr - a).toNat : Nat) : Int) = rr by omega] at tp
      refine RR_some ⟨fK, fM, ?_, hV rr a1 (show rr < rr + 1 by omega)⟩
      rw [es 0 (Int.le_refl _) (by omega), tp]
  · have z : (a - a).toNat = 0 := by omega
    refine ⟨⟨rfl, Int.le_refl _, show a ≤ rr + 1 by omega⟩, fr_0, fr_0, ⟨?_, fun t t0 t1 => ?_⟩, fun j j0 j1 => ?_⟩
    · show (0 : Int) = (shs (K.2 18) a (a - a).toNat).1
      rw [z]
      rfl
    · have t1 : t < 0 := t1
      omega
    · have j1 : j < a := j1
      omega
  · obtain ⟨f1, f2, f3, f4⟩ := hef
    unfold kfl_nd_valueOf_b101_b105_304 rfl_worth_448
    exact RR_some ⟨f3.symm, f4, f1, f2⟩

theorem SM_i {c : Prop} [Decidable c] {a b : Option Int} (ha : ∃ v, a = some v) (hb : ∃ v, b = some v) : ∃ v, (if c then a else b) = some v := by
  by_cases h : c
  · rw [if_pos h]; exact ha
  · rw [if_neg h]; exact hb
theorem rk_some (kd x y w : Int) (K : mR) : ∃ v, kf_nd_reckon kd x y w K = some v := by
  unfold kf_nd_reckon kfl_nd_reckon_20 kfl_nd_reckon_21 kfl_nd_reckon_213 kfl_nd_reckon_218 kfl_nd_reckon_242 kfl_nd_reckon_257 kfl_nd_reckon_270 kfl_nd_reckon_283 kfl_nd_reckon_304 kfl_nd_reckon_325 kfl_nd_reckon_346 kfl_nd_reckon_367
  repeat' (first | refine SM_i ?_ ?_ | exact ⟨_, rfl⟩)
def rkv (kd x y w : Int) : Int := (kf_nd_reckon kd x y w (fun _ => 0, fun _ _ => 0)).getD 0
theorem rkv_v (kd x y w : Int) (K : mR) : kf_nd_reckon kd x y w K = some (rkv kd x y w) := by
  have e : kf_nd_reckon kd x y w K = kf_nd_reckon kd x y w (fun _ => 0, fun _ _ => 0) := rfl
  obtain ⟨v, hv⟩ := rk_some kd x y w (fun _ => 0, fun _ _ => 0)
  unfold rkv
  rw [e, hv]
  rfl
def rawv (K : mR) (sl pa V : Int → Int) (j : Int) : Int := if K.2 18 j = 257 then K.2 24 j else if K.2 18 j = 400 then sl (K.2 19 j) else if K.2 18 j = 401 then pa (K.2 19 j) else if K.2 18 j = 402 then ushr64 (V (K.2 19 j)) (K.2 20 j) else if K.2 18 j = 404 then (if cmp64 (V (K.2 19 j)) 0 = 0 then V (K.2 21 j) else V (K.2 20 j)) else if K.2 18 j = 11051 then or64 (shl64 (V (K.2 19 j)) (K.2 22 (K.2 20 j))) (V (K.2 20 j)) else rkv (K.2 18 j) (V (K.2 19 j)) (if arit (K.2 18 j) = 1 then 0 else V (K.2 20 j)) (K.2 22 j)
def nval (K : mR) (sl pa V : Int → Int) (j : Int) : Int := and64 (rawv K sl pa V j) (onk (K.2 22 j))
def evs (K : mR) (sl pa : Int → Int) (a : Int) : Nat → (Int → Int)
  | 0 => fun _ => 0
  | k + 1 => upI (evs K sl pa a k) (a + k) (nval K sl pa (evs K sl pa a k) (a + k))
def ev (K : mR) (sl pa : Int → Int) (a r : Int) : Int := evs K sl pa a (r + 1 - a).toNat r
theorem rkv_1 {kd x y w : Int} (h : kd = 33 ∨ kd = 126 ∨ kd = 403 ∨ kd = 405) : rkv kd x y w = rkv kd x 0 w := by
  unfold rkv
  rcases h with rfl | rfl | rfl | rfl
  · rw [rk_33, rk_33]
  · rw [rk_126, rk_126]
  · rw [rk_403, rk_403]
  · rw [rk_405, rk_405]

theorem rawv_c {sl sl' pa pa' V V' : Int → Int} {j : Int} (hs : K.2 18 j = 400 → sl' (K.2 19 j) = sl (K.2 19 j)) (hp : K.2 18 j = 401 → pa' (K.2 19 j) = pa (K.2 19 j)) (h1 : 1 ≤ arit (K.2 18 j) → V' (K.2 19 j) = V (K.2 19 j)) (h2 : 2 ≤ arit (K.2 18 j) → V' (K.2 20 j) = V (K.2 20 j)) (h3 : 3 ≤ arit (K.2 18 j) → V' (K.2 21 j) = V (K.2 21 j)) : rawv K sl' pa' V' j = rawv K sl pa V j := by
  unfold rawv
  by_cases e1 : K.2 18 j = 257
  · rw [if_pos e1, if_pos e1]
  rw [if_neg e1, if_neg e1]
  by_cases e2 : K.2 18 j = 400
  · rw [if_pos e2, if_pos e2, hs e2]
  rw [if_neg e2, if_neg e2]
  by_cases e3 : K.2 18 j = 401
  · rw [if_pos e3, if_pos e3, hp e3]
  rw [if_neg e3, if_neg e3]
  by_cases e4 : K.2 18 j = 402
  · rw [if_pos e4, if_pos e4, h1 (by rw [e4]; decide)]
  rw [if_neg e4, if_neg e4]
  by_cases e5 : K.2 18 j = 404
  · rw [if_pos e5, if_pos e5, h1 (by rw [e5]; decide), h2 (by rw [e5]; decide), h3 (by rw [e5]; decide)]
  rw [if_neg e5, if_neg e5]
  by_cases e6 : K.2 18 j = 11051
  · rw [if_pos e6, if_pos e6, h1 (by rw [e6]; decide), h2 (by rw [e6]; decide)]
  rw [if_neg e6, if_neg e6]
  have ar : 1 ≤ arit (K.2 18 j) := by
    unfold arit
    rw [if_neg (by omega)]
    by_cases q : K.2 18 j = 402 ∨ K.2 18 j = 403 ∨ K.2 18 j = 126 ∨ K.2 18 j = 33 ∨ K.2 18 j = 405
    · rw [if_pos q]; decide
    · rw [if_neg q, if_neg e5]; decide
  rw [h1 ar]
  by_cases q : arit (K.2 18 j) = 1
  · rw [if_pos q, if_pos q]
  · rw [if_neg q, if_neg q, h2 (by omega)]

theorem evs_k {sl pa : Int → Int} {a : Int} : ∀ {k k' : Nat}, k ≤ k' → ∀ j, j < a + k → evs K sl pa a k' j = evs K sl pa a k j := by
  intro k k'
  induction k' with
  | zero =>
    intro h j hj
    rw [show k = 0 by omega]
  | succ k' ih =>
    intro h j hj
    by_cases e : k = k' + 1
    · rw [e]
    · show upI (evs K sl pa a k') (a + k') _ j = _
      rw [upI_n (by omega)]
      exact ih (by omega) j hj

theorem ev_c {ac : Int} {B : mR} {sl sl' pa pa' : Int → Int} (hx : XRk B ac K a rr) (hs : ∀ j, a ≤ j → j ≤ rr → K.2 18 j = 400 → sl' (K.2 19 j) = sl (K.2 19 j)) (hp : ∀ j, a ≤ j → j ≤ rr → K.2 18 j = 401 → pa' (K.2 19 j) = pa (K.2 19 j)) : ev K sl' pa' a rr = ev K sl pa a rr := by
  obtain ⟨⟨a0, a1, r8⟩, hu, hh, hT⟩ := hx
  have all : ∀ k : Nat, a + k ≤ rr + 1 → ∀ j, a ≤ j → j < a + k → evs K sl' pa' a k j = evs K sl pa a k j := by
    intro k
    induction k with
    | zero => intro _ j j0 j1; omega
    | succ k ih =>
      intro hk j j0 j1
      have i := ih (by omega)
      show upI (evs K sl' pa' a k) (a + k) (nval K sl' pa' (evs K sl' pa' a k) (a + k)) j = upI (evs K sl pa a k) (a + k) (nval K sl pa (evs K sl pa a k) (a + k)) j
      by_cases e : j = a + k
      · rw [e, upI_s, upI_s]
        obtain ⟨hO, -⟩ := hT (a + k) (by omega) (by omega)
        obtain ⟨o1, o2, o3⟩ := OPL_b hO (by omega) (fun q hq => hu q (by omega))
        unfold nval
        rw [rawv_c (hs _ (by omega) (by omega)) (hp _ (by omega) (by omega)) (fun q => i _ (o1 q).1 (o1 q).2) (fun q => i _ (o2 q).1 (o2 q).2) (fun q => i _ (o3 q).1 (o3 q).2)]
      · rw [upI_n e, upI_n e]
        exact i j j0 (by omega)
  exact all (rr + 1 - a).toNat (by omega) rr a1 (by omega)

theorem val_k {ac : Int} {B : mR} (hx : XRk B ac K a rr) : RP (kf_nd_valueOf_b101_b105 a rr r v4 K) (fun y => y.1 = ev K (fun s => K.2 101 (65536 * r + s)) (fun s => K.2 105 (65536 * v4 + s)) a rr ∧ fr [] [25] K y.2) := by
  obtain ⟨⟨a0, a1, r8⟩, hu, hh, hT⟩ := hx
  obtain ⟨sl, esl⟩ : ∃ sl : Int → Int, sl = fun s => K.2 101 (65536 * r + s) := ⟨_, rfl⟩
  obtain ⟨pa, epa⟩ : ∃ pa : Int → Int, pa = fun s => K.2 105 (65536 * v4 + s) := ⟨_, rfl⟩
  rw [← esl, ← epa]
  unfold kf_nd_valueOf_b101_b105
  refine RP_bnd (P := fun Kc => fr [] [25] K Kc ∧ ∀ j, a ≤ j → j < rr + 1 → Kc.2 25 j = evs K sl pa a (rr + 1 - a).toNat j) (RP_whl (I := fun s : Int × mR => (a ≤ s.1 ∧ s.1 ≤ rr + 1) ∧ fr [] [25] K s.2 ∧ ∀ j, a ≤ j → j < s.1 → s.2.2 25 j = evs K sl pa a (s.1 - a).toNat j) (fun s hs => ?_) ⟨⟨Int.le_refl _, show a ≤ rr + 1 by omega⟩, fr_0, fun j j0 j1 => by have j1 : j < a := j1; omega⟩) (fun e he => ?_)
  · obtain ⟨i, Kc⟩ := s
    obtain ⟨⟨i0, i1⟩, fK, hV⟩ := hs
    have i0 : a ≤ i := i0
    have i1 : i ≤ rr + 1 := i1
    have hV : ∀ j, a ≤ j → j < i → Kc.2 25 j = evs K sl pa a (i - a).toNat j := hV
    have k18 : Kc.2 18 = K.2 18 := fr2 fK 18 rfl
    have k19 : Kc.2 19 = K.2 19 := fr2 fK 19 rfl
    have k20 : Kc.2 20 = K.2 20 := fr2 fK 20 rfl
    have k21 : Kc.2 21 = K.2 21 := fr2 fK 21 rfl
    have k22 : Kc.2 22 = K.2 22 := fr2 fK 22 rfl
    have k24 : Kc.2 24 = K.2 24 := fr2 fK 24 rfl
    have k101 : Kc.2 101 = K.2 101 := fr2 fK 101 rfl
    have k105 : Kc.2 105 = K.2 105 := fr2 fK 105 rfl
    unfold kfb_nd_valueOf_b101_b105_3
    show RP (if rr < i then some (Sum.inr Kc) else _) _
    by_cases hi : rr < i
    · rw [if_pos hi]
      have ei : i = rr + 1 := by omega
      refine RP_some ⟨fK, fun j j0 j1 => ?_⟩
      rw [← ei]
      exact hV j j0 (by omega)
    · rw [if_neg hi]
      obtain ⟨hO, -⟩ := hT i i0 (by omega)
      obtain ⟨o1, o2, o3⟩ := OPL_b hO i0 (fun q hq => hu q (by omega))
      have c1 : cut (i + 1) = i + 1 := cut_i (by omega) (by omega)
      have ei : a + (((i - a).toNat : Nat) : Int) = i := by omega
      have fin : ∀ raw : Int, raw = rawv K sl pa (Kc.2 25) i → RP (kfl_nd_valueOf_b101_b105_278 rr r v4 i raw Kc) (sel (fun s : Int × mR => (a ≤ s.1 ∧ s.1 ≤ rr + 1) ∧ fr [] [25] K s.2 ∧ ∀ j, a ≤ j → j < s.1 → s.2.2 25 j = evs K sl pa a (s.1 - a).toNat j) (fun Kc => fr [] [25] K Kc ∧ ∀ j, a ≤ j → j < rr + 1 → Kc.2 25 j = evs K sl pa a (rr + 1 - a).toNat j)) := fun raw er => by
        unfold kfl_nd_valueOf_b101_b105_278
        rw [onk_v, bnd_some, c1, k22]
        refine RP_some ⟨⟨show a ≤ i + 1 by omega, show i + 1 ≤ rr + 1 by omega⟩, fr_m fK rfl rfl, fun j j0 j1 => ?_⟩
        have j1 : j < i + 1 := j1
        show upI (Kc.2 25) i (and64 raw (onk (K.2 22 i))) j = evs K sl pa a (i + 1 - a).toNat j
        rw [show (i + 1 - a).toNat = (i - a).toNat + 1 by omega]
        show _ = upI (evs K sl pa a (i - a).toNat) (a + (((i - a).toNat : Nat) : Int)) (nval K sl pa (evs K sl pa a (i - a).toNat) (a + (((i - a).toNat : Nat) : Int))) j
        rw [ei]
        by_cases e : j = i
        · rw [e, upI_s, upI_s, er]
          unfold nval
          rw [rawv_c (fun _ => rfl) (fun _ => rfl) (fun q => hV _ (o1 q).1 (o1 q).2) (fun q => hV _ (o2 q).1 (o2 q).2) (fun q => hV _ (o3 q).1 (o3 q).2)]
        · rw [upI_n e, upI_n e]
          exact hV j j0 (by omega)
      rw [k18, k19, k20, k21, k22, k24, k101, k105]
      unfold rawv at fin
      by_cases e1 : K.2 18 i = 257
      · rw [if_pos e1]
        exact fin _ (by rw [if_pos e1])
      rw [if_neg e1]
      by_cases e2 : K.2 18 i = 400
      · rw [if_pos e2]
        exact fin _ (by rw [if_neg e1, if_pos e2, esl])
      rw [if_neg e2]
      by_cases e3 : K.2 18 i = 401
      · rw [if_pos e3]
        exact fin _ (by rw [if_neg e1, if_neg e2, if_pos e3, epa])
      rw [if_neg e3]
      by_cases e4 : K.2 18 i = 402
      · rw [if_pos e4]
        exact fin _ (by rw [if_neg e1, if_neg e2, if_neg e3, if_pos e4])
      rw [if_neg e4]
      by_cases e5 : K.2 18 i = 404
      · rw [if_pos e5]
        unfold kfl_nd_valueOf_b101_b105_186
        refine RP_ite (fun g => fin _ (by rw [if_neg e1, if_neg e2, if_neg e3, if_neg e4, if_pos e5, if_pos g])) (fun g => fin _ (by rw [if_neg e1, if_neg e2, if_neg e3, if_neg e4, if_pos e5, if_neg g]))
      rw [if_neg e5]
      by_cases e6 : K.2 18 i = 11051
      · rw [if_pos e6]
        exact fin _ (by rw [if_neg e1, if_neg e2, if_neg e3, if_neg e4, if_neg e5, if_pos e6])
      rw [if_neg e6, rkv_v, bnd_some]
      refine fin _ ?_
      rw [if_neg e1, if_neg e2, if_neg e3, if_neg e4, if_neg e5, if_neg e6]
      by_cases q : arit (K.2 18 i) = 1
      · rw [if_pos q]
        refine rkv_1 ?_
        show K.2 18 i = 33 ∨ K.2 18 i = 126 ∨ K.2 18 i = 403 ∨ K.2 18 i = 405
        unfold arit at q
        rw [if_neg (by omega)] at q
        by_cases z : K.2 18 i = 402 ∨ K.2 18 i = 403 ∨ K.2 18 i = 126 ∨ K.2 18 i = 33 ∨ K.2 18 i = 405
        · omega
        · rw [if_neg z, if_neg e5] at q
          exact absurd q (by decide)
      · rw [if_neg q]
  · obtain ⟨f1, f2⟩ := he
    unfold kfl_nd_valueOf_b101_b105_304
    exact RP_some ⟨f2 rr a1 (by omega), f1⟩
end NV2

section NV3
variable {K M : mR} {a rr r v4 : Int}
theorem worth_r {ac : Int} {B : mR} (hx : XRk B ac K a rr) (hn : ∀ j, a ≤ j → j ≤ rr → NVH K M r v4 j) : RP (rf_worth a (rr + 1) M) (fun z => z.1 = ev K (fun s => K.2 101 (65536 * r + s)) (fun s => K.2 105 (65536 * v4 + s)) a rr ∧ VALn K z.1 rr ∧ fr [] [173] M z.2) := by
  have hx' := hx
  obtain ⟨⟨a0, a1, r8⟩, hu, hh, -⟩ := hx'
  have z0 : (a - a).toNat = 0 := by omega
  have base : NVI a rr K M (a, K) (0, a, M) := by
    refine ⟨⟨rfl, Int.le_refl _, show a ≤ rr + 1 by omega⟩, fr_0, fr_0, ⟨?_, fun t t0 t1 => ?_⟩, fun j j0 j1 => ?_⟩
    · show (0 : Int) = (shs (K.2 18) a (a - a).toNat).1
      rw [z0]
      rfl
    · have t1 : t < 0 := t1
      omega
    · have j1 : j < a := j1
      omega
  unfold rf_worth
  refine RP_bnd (P := fun Mc => Mc.2 173 0 = ev K (fun s => K.2 101 (65536 * r + s)) (fun s => K.2 105 (65536 * v4 + s)) a rr ∧ VALn K (Mc.2 173 0) rr ∧ fr [] [173] M Mc) (RP_whl (I := fun u : Int × Int × mR => ∃ Kc, NVI a rr K M (u.2.1, Kc) u ∧ whl (kfb_nd_valueOf_b101_b105_3 rr r v4) (a, K) = whl (kfb_nd_valueOf_b101_b105_3 rr r v4) (u.2.1, Kc)) (fun u hu' => ?_) ⟨K, base, rfl⟩) (fun e he => RP_some ⟨he.1, he.2.1, he.2.2⟩)
  obtain ⟨n, i, Mc⟩ := u
  obtain ⟨Kc, hI, hw⟩ := hu'
  have hI : NVI a rr K M (i, Kc) (n, i, Mc) := hI
  have hw : whl (kfb_nd_valueOf_b101_b105_3 rr r v4) (a, K) = whl (kfb_nd_valueOf_b101_b105_3 rr r v4) (i, Kc) := hw
  have i1 : i ≤ rr + 1 := hI.1.2.2
  by_cases hi : i ≤ rr
  · obtain ⟨v, e1, e2, hv, h0⟩ := node_q hx hn hI hi
    rw [e2]
    refine RP_some ⟨_, NVI_s hx hI hi hv h0, ?_⟩
    rw [hw, whl_eq, e1, bnd_some]
    rfl
  · have ei : i = rr + 1 := by omega
    subst ei
    have hI' := hI
    obtain ⟨-, fK, fM, ⟨en, es⟩, hV⟩ := hI'
    have en : n = (shs (K.2 18) a (rr + 1 - a).toNat).1 := en
    have es : ∀ t, 0 ≤ t → t < n → Mc.2 173 t = Kc.2 25 ((shs (K.2 18) a (rr + 1 - a).toNat).2 t) := es
    rw [hh] at en
    have tp := shs_top (A := K.2 18) (a := a) (rr - a).toNat
    rw [show (rr - a).toNat + 1 = (rr + 1 - a).toNat by omega, hh, show (1 : Int) - 1 = 0 by decide, show a + (((rr - a).toNat : Nat) : Int) = rr by omega] at tp
    have e0 : Mc.2 173 0 = Kc.2 25 rr := by rw [es 0 (Int.le_refl _) (by omega), tp]
    have last : kfb_nd_valueOf_b101_b105_3 rr r v4 (rr + 1, Kc) = some (Sum.inr Kc) := by
      unfold kfb_nd_valueOf_b101_b105_3
      exact if_pos (show rr < rr + 1 by omega)
    have hv : kf_nd_valueOf_b101_b105 a rr r v4 K = some (Kc.2 25 rr, Kc) := by
      unfold kf_nd_valueOf_b101_b105 kfl_nd_valueOf_b101_b105_304
      rw [hw, whl_eq, last, bnd_some]
      rfl
    have vk := (val_k hx _ hv).1
    unfold rfb_worth_5
    show RP (if rr + 1 ≤ rr + 1 then some (Sum.inr Mc) else _) _
    rw [if_pos (Int.le_refl _)]
    refine RP_some ⟨?_, ?_, fM⟩
    · rw [e0]
      exact vk
    · rw [e0]
      exact hV rr a1 (show rr < rr + 1 by omega)
end NV3
