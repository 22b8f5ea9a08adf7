

def AGR (P : PS9) (x x' : XSt) : Prop := ∀ k j, P k j → x k j = x' k j
section PK1
variable {P R W : PS9} {f : XSt → XSt} {x x' : XSt}
set_option maxHeartbeats 1000000 in
theorem AGR_0 : AGR P x x := fun _ _ _ => rfl
set_option maxHeartbeats 1000000 in
theorem AGR_t {x'' : XSt} (h : AGR P x x') (g : AGR P x' x'') : AGR P x x'' := fun k j p => (h k j p).trans (g k j p)
set_option maxHeartbeats 1000000 in
theorem AGR_y (h : AGR P x x') : AGR P x' x := fun k j p => (h k j p).symm
set_option maxHeartbeats 1000000 in
theorem FPT_A (h : FPT R W f) (hR : ∀ k j, R k j → P k j) (e : AGR P x x') : AGR P (f x) (f x') := fun k j p => by
  by_cases w : W k j
  · rcases h.2 x x' (fun k j r => e k j (hR k j r)) k j w with ⟨a, b⟩ | a
    · rw [a, b]; exact e k j p
    · exact a
  · rw [h.1 x k j w, h.1 x' k j w]; exact e k j p
variable {st : Nat → XSt → XSt} {hh : Nat → Nat} {RR' WW : Nat → PS9} {g n : Nat}
set_option maxHeartbeats 1000000 in
theorem sgo_A (hP : ∀ s, s < n → hh s = g → FPT (RR' s) (WW s) (st s) ∧ ∀ k j, RR' s k j → P k j) (e : AGR P x x') : AGR P (sgo st hh g n x) (sgo st hh g n x') := by
  induction n with
  | zero => exact e
  | succ n ih =>
    have i := ih (fun s hs => hP s (by omega))
    unfold sgo
    by_cases q : hh n = g
    · rw [if_pos q, if_pos q]
      obtain ⟨a, b⟩ := hP n (by omega) q
      exact FPT_A a b i
    · rw [if_neg q, if_neg q]
      exact i

set_option maxHeartbeats 1000000 in
theorem sgo_o {k : Nat} {j : Int} (hP : ∀ s, s < n → hh s = g → FPT (RR' s) (WW s) (st s) ∧ ¬ WW s k j) : sgo st hh g n x k j = x k j := by
  induction n with
  | zero => rfl
  | succ n ih =>
    have i := ih (fun s hs => hP s (by omega))
    unfold sgo
    by_cases q : hh n = g
    · rw [if_pos q]
      obtain ⟨a, b⟩ := hP n (by omega) q
      rw [a.1 _ k j b]
      exact i
    · rw [if_neg q]
      exact i

set_option maxHeartbeats 1000000 in
theorem ago_lo {k g0 : Nat} {j : Int} (hP : ∀ s, s < n → FPT (RR' s) (WW s) (st s) ∧ (WW s k j → hh s = g0)) : ∀ {G : Nat}, G ≤ g0 → ago st hh n G x k j = x k j := by
  intro G
  induction G with
  | zero => intro _; rfl
  | succ G ih =>
    intro hG
    show sgo st hh G n (ago st hh n G x) k j = _
    rw [sgo_o (fun s hs q => ⟨(hP s hs).1, fun w => by have := (hP s hs).2 w; omega⟩)]
    exact ih (by omega)
set_option maxHeartbeats 1000000 in
theorem ago_hi {k g0 : Nat} {j : Int} (hP : ∀ s, s < n → FPT (RR' s) (WW s) (st s) ∧ (WW s k j → hh s = g0)) : ∀ {d : Nat}, ago st hh n (g0 + 1 + d) x k j = ago st hh n (g0 + 1) x k j := by
  intro d
  induction d with
  | zero => rfl
  | succ d ih =>
    show sgo st hh (g0 + 1 + d) n (ago st hh n (g0 + 1 + d) x) k j = _
    rw [sgo_o (fun s hs q => ⟨(hP s hs).1, fun w => by have := (hP s hs).2 w; omega⟩)]
    exact ih
set_option maxHeartbeats 1000000 in
theorem sgo_e {st' : Nat → XSt → XSt} (h : ∀ s, s < n → hh s = g → ∀ x, st' s x = st s x) : sgo st' hh g n x = sgo st hh g n x := by
  induction n with
  | zero => rfl
  | succ n ih =>
    unfold sgo
    rw [ih (fun s hs => h s (by omega))]
    by_cases q : hh n = g
    · rw [if_pos q, if_pos q, h n (by omega) q]
    · rw [if_neg q, if_neg q]
set_option maxHeartbeats 1000000 in
theorem pgo_e {st' : Nat → XSt → XSt} (h : ∀ s, s < n → ∀ x, st' s x = st s x) : pgo st' n x = pgo st n x := by
  induction n with
  | zero => rfl
  | succ n ih =>
    show st' n (pgo st' n x) = st n (pgo st n x)
    rw [ih (fun s hs => h s (by omega)), h n (by omega)]
end PK1


def prA : List Nat := [16, 18, 19, 20, 21, 22, 24, 43, 44, 45, 46, 47, 48, 49, 50, 51, 52, 53, 54, 55, 56, 57, 58, 72, 79, 80]
section PK2
variable {K K1 M : mR} {F A : List Nat} {lk lk' : Int → (Int → Int) → Int × (Int → Int)} {s : Int} {x : XSt}
set_option maxHeartbeats 1000000 in
theorem akeys_g {t : Int} (f : fr F A K K1) (c : chk prA A = true) : akeys K1 t x = akeys K t x := by
  funext i
  unfold akeys
  rw [ev_f f (chk_s c rfl), fr2 f 72 (chk_1 c (by decide)), fr2 f 79 (chk_1 c (by decide)), fr2 f 80 (chk_1 c (by decide))]
set_option maxHeartbeats 1000000 in
theorem astep_g (f : fr F A K K1) (c : chk prA A = true) : astep K1 lk s x = astep K lk s x := by
  unfold astep adoes
  rw [akeys_g f c, ev_f f (chk_s c rfl), adeed_f f (chk_s c rfl), adeeds_f f (chk_s c rfl), fr2 f 43 (chk_1 c (by decide)), fr2 f 44 (chk_1 c (by decide)), fr2 f 52 (chk_1 c (by decide)), fr2 f 53 (chk_1 c (by decide)), fr2 f 54 (chk_1 c (by decide)), fr2 f 55 (chk_1 c (by decide)), fr2 f 56 (chk_1 c (by decide)), fr2 f 57 (chk_1 c (by decide)), fr2 f 58 (chk_1 c (by decide))]

set_option maxHeartbeats 1000000 in
theorem adeed_q {ac d : Int} {pa pa' : Int → Int} (hN : NDR_nx K M) (hX : XDm ac d K M) (hD : DEd d K M) (hp : ac ≠ -1 → ∀ i, 0 ≤ i → i < K.2 39 ac → pa' i = pa i) : adeed K pa' d x = adeed K pa d x := by
  have ee : ∀ {a r : Int}, XE K ac a r → ev K (x 0) pa' a r = ev K (x 0) pa a r := fun {a r} h => by
    have n8 := NDR_8 hN
    have r8 := h.1.2.2
    have a0 := h.1.1
    exact ev_c (XRk_of h (by omega)) (fun _ _ _ _ => rfl) (fun j j0 j1 e => by
      obtain ⟨p1, p2, -⟩ := (h.2.2.1 j j0 j1).2.2.1 e
      exact hp p1 _ (n401 hN (by omega) (by omega) e).1 p2)
  obtain ⟨x1, x2, x3⟩ := hX
  unfold adeed
  rcases hD with ⟨-, e2, -, -, -, he⟩ | ⟨-, e2, -, h47, he, -⟩ | ⟨-, e2, -, h47, he, he2⟩ | ⟨e1, e2, -, -⟩ | ⟨-, e2, -, -⟩
  · rw [if_pos e2, if_pos e2]
    unfold aval
    rw [if_neg (by have := he.2.1; omega), if_neg (by have := he.2.1; omega), ee (x1 e2).1]
  · rw [if_neg (by omega), if_neg (by omega), if_pos e2, if_neg (by omega), if_neg (by omega), if_pos e2]
    unfold aidx
    rw [if_neg (by omega), if_neg (by omega), ee (x2 e2).1]
  · rw [if_neg (by omega), if_neg (by omega), if_neg (by omega), if_pos e2, if_neg (by omega), if_neg (by omega), if_neg (by omega), if_pos e2]
    unfold aidx aval
    rw [if_neg (by omega), if_neg (by have := he2.2.1; omega), if_neg (by omega), if_neg (by have := he2.2.1; omega), ee (x3 e2).1, ee (x3 e2).2.1]
  · rcases e1 with e1 | e1
    · rw [if_neg (by omega), if_neg (by omega), if_neg (by omega), if_neg (by omega), if_neg (by omega), if_neg (by omega), if_neg (by omega), if_neg (by omega)]
    · rw [if_neg (by omega), if_pos (by omega), if_neg (by omega), if_pos (by omega)]
  · rw [if_neg (by omega), if_neg (by omega), if_neg (by omega), if_neg (by omega), if_neg (by omega), if_neg (by omega), if_neg (by omega), if_neg (by omega)]
set_option maxHeartbeats 1000000 in
theorem adeeds_q {ac f : Int} {pa pa' : Int → Int} (hN : NDR_nx K M) (hp : ac ≠ -1 → ∀ i, 0 ≤ i → i < K.2 39 ac → pa' i = pa i) : ∀ {n : Nat}, (∀ i : Nat, i < n → DEd (f + i) K M ∧ XDm ac (f + i) K M) → ∀ {x : XSt}, adeeds K pa' f n x = adeeds K pa f n x := by
  intro n
  induction n with
  | zero => intro _ x; rfl
  | succ n ih =>
    intro h x
    obtain ⟨a, b⟩ := h n (by omega)
    show adeed K pa' (f + n) (adeeds K pa' f n x) = adeed K pa (f + n) (adeeds K pa f n x)
    rw [ih (fun i hi => h i (by omega)), adeed_q hN b a hp]

def LKE (K : mR) (lk lk' : Int → (Int → Int) → Int × (Int → Int)) (t : Int) : Prop := ∀ ks, (lk' t ks).1 = (lk t ks).1 ∧ ∀ i, 0 ≤ i → i < K.2 39 (lk t ks).1 → (lk' t ks).2 i = (lk t ks).2 i

def STp (s : Int) (K M : mR) : Prop := (K.2 52 s = 0 ∧ DEd (K.2 56 s) K M ∧ XDm (-1) (K.2 56 s) K M) ∨ (K.2 52 s = 1 ∧ XE K (-1) (K.2 57 s) (K.2 58 s)) ∨ K.2 52 s = 2
set_option maxHeartbeats 1000000 in
theorem astep_lk (hN : NDR_nx K M) (hA : ACm K M) (hr : K.2 52 s = 2 → ∀ ks, 0 ≤ (lk (K.2 55 s) ks).1 ∧ (lk (K.2 55 s) ks).1 < M.1 25) (hl : K.2 52 s = 2 → LKE K lk lk' (K.2 55 s)) : astep K lk' s x = astep K lk s x := by
  unfold astep
  have e : adoes K lk' s x = adoes K lk s x := by
    unfold adoes
    by_cases k1 : K.2 52 s = 1
    · rw [if_pos k1, if_pos k1]
    rw [if_neg k1, if_neg k1]
    by_cases k2 : K.2 52 s = 2
    · rw [if_pos k2, if_pos k2]
      obtain ⟨l1, l2⟩ := hl k2 (akeys K (K.2 55 s) x)
      obtain ⟨a0, a1⟩ := hr k2 (akeys K (K.2 55 s) x)
      obtain ⟨⟨p1, -, -⟩, ⟨p3, p4, -⟩, -, -, p8⟩ := hA _ a0 a1
      rw [l1, adeeds_q (M := M) (ac := (lk (K.2 55 s) (akeys K (K.2 55 s) x)).1) (pa := (lk (K.2 55 s) (akeys K (K.2 55 s) x)).2) hN (fun _ => l2) (fun i hi => by
        rw [p1]
        exact p8 _ (by omega) (by omega))]
    · rw [if_neg k2, if_neg k2]
  rw [e]

set_option maxHeartbeats 1000000 in
theorem lk_eq {K' T : mR} {t : Int} (h : TQ1 t K T) (h' : TQ1 t K' T) (hT : 0 ≤ T.2 51 t) (e72 : K'.2 72 t = K.2 72 t) (k72 : K.2 72 t = T.2 51 t) (e74 : K'.2 74 t = K.2 74 t) (e81 : ∀ i, K'.2 81 (65536 * t + i) = K.2 81 (65536 * t + i)) (e84 : ∀ i, K'.2 84 (65536 * t + i) = K.2 84 (65536 * t + i)) (e39 : ∀ a, 0 ≤ a → a < T.1 25 → K.2 39 a = T.2 46 a) (ks : Int → Int) : (lkK K' t ks).1 = (lkK K t ks).1 ∧ ((lkK K t ks).1 = K.2 74 t ∧ (lkK K' t ks).2 = (lkK K t ks).2 ∨ ∀ i, 0 ≤ i → i < K.2 39 (lkK K t ks).1 → (lkK K' t ks).2 i = (lkK K t ks).2 i) := by
  obtain ⟨n1, ⟨n2, n3⟩, -, hr, -⟩ := h
  obtain ⟨n1', -, -, hr', -⟩ := h'
  have ep : ∀ e : Int, 0 ≤ e → e < T.2 139 t → ∀ n : Nat, (n : Int) ≤ T.2 51 t → pfk K' t e n = pfk K t e n := fun e e0 e1 n => by
    induction n with
    | zero => intro _; rfl
    | succ n ih =>
      intro hn
      unfold pfk
      have a := ((hr e e0 e1).1 n (by omega) (by omega)).2.1
      have b := ((hr' e e0 e1).1 n (by omega) (by omega)).2.1
      rw [show 4 * e + (n : Int) = e * 4 + n by omega, ih (by omega), e81, a, b]
  have eh : ∀ e : Int, 0 ≤ e → e < T.2 139 t → ∀ n : Nat, (n : Int) ≤ T.2 51 t → htk K' t e ks n = htk K t e ks n := fun e e0 e1 n => by
    induction n with
    | zero => intro _; rfl
    | succ n ih =>
      intro hn
      unfold htk
      obtain ⟨a1, a2, -⟩ := (hr e e0 e1).1 n (by omega) (by omega)
      obtain ⟨b1, b2, -⟩ := (hr' e e0 e1).1 n (by omega) (by omega)
      rw [show 4 * e + (n : Int) = e * 4 + n by omega, ih (by omega), a1, a2, b1, b2]
  have em : ∀ n : Nat, (n : Int) ≤ T.2 139 t → mtk K' t ks n = mtk K t ks n := fun n => by
    induction n with
    | zero => intro _; rfl
    | succ n ih =>
      intro hn
      have i := ih (by omega)
      have mr := (mtk_r K t ks n).1
      unfold mtk
      rw [i, e72, eh n (by omega) (by omega) _ (by omega), ep n (by omega) (by omega) _ (by omega)]
      have r1 := (hr n (by omega) (by omega)).2.1
      have r2 := (hr' n (by omega) (by omega)).2.1
      rw [r1, r2]
      by_cases q : (mtk K t ks n).1 = -1
      · rw [q]
        simp only [true_or, if_true]
      · have r3 := (hr (mtk K t ks n).1 (by omega) (by omega)).2.1
        have r4 := (hr' (mtk K t ks n).1 (by omega) (by omega)).2.1
        rw [r3, r4]
  have E := em (T.2 139 t).toNat (by omega)
  have mr := (mtk_r K t ks (T.2 139 t).toNat).1
  unfold lkK
  rw [n1, n1', E]
  by_cases q : (mtk K t ks (T.2 139 t).toNat).1 = -1
  · rw [if_pos q, if_pos q]
    refine ⟨e74, Or.inl ⟨rfl, ?_⟩⟩
    funext i
    exact e84 i
  · rw [if_neg q, if_neg q]
    obtain ⟨-, -, r89, r25, rd⟩ := hr (mtk K t ks (T.2 139 t).toNat).1 (by omega) (by omega)
    obtain ⟨-, -, r89', -, rd'⟩ := hr' (mtk K t ks (T.2 139 t).toNat).1 (by omega) (by omega)
    refine ⟨r89'.trans r89.symm, Or.inr (fun i i0 i1 => ?_)⟩
    have i1 : i < K.2 39 (K.2 89 (65536 * t + (mtk K t ks (T.2 139 t).toNat).1)) := i1
    rw [r89, e39 _ r25.1 r25.2] at i1
    show K'.2 87 (65536 * t + (4 * (mtk K t ks (T.2 139 t).toNat).1 + i)) = K.2 87 (65536 * t + (4 * (mtk K t ks (T.2 139 t).toNat).1 + i))
    rw [show 4 * (mtk K t ks (T.2 139 t).toNat).1 + i = (mtk K t ks (T.2 139 t).toNat).1 * 4 + i by omega, (rd i i0 i1).1, (rd' i i0 i1).1]
end PK2


def TRe (t e : Int) (M : mR) : Prop := (∀ i, 0 ≤ i → i < M.2 51 t → and64 (M.2 142 (4 * (96 * t + e) + i)) (M.2 143 (4 * (96 * t + e) + i)) = M.2 142 (4 * (96 * t + e) + i)) ∧ (∃ q, 0 ≤ q ∧ q < M.2 53 t ∧ M.2 114 (8 * t + q) = M.2 141 (96 * t + e)) ∧ ∀ i, 0 ≤ i → i < M.2 46 (M.2 141 (96 * t + e)) → VW (M.2 144 (4 * (96 * t + e) + i)) (M.2 49 (4 * M.2 141 (96 * t + e) + i))
def TRm (t : Int) (M : mR) : Prop := ∀ e, 0 ≤ e → e < M.2 139 t → TRe t e M

def LPm (t : Int) (M : mR) : Prop := ∀ q, 0 ≤ q → q < M.2 53 t → 0 ≤ M.2 114 (8 * t + q) ∧ M.2 46 (M.2 114 (8 * t + q)) ≤ 4 ∧ ∀ i, 0 ≤ i → i < M.2 46 (M.2 114 (8 * t + q)) → 0 ≤ M.2 49 (4 * M.2 114 (8 * t + q) + i) ∧ M.2 49 (4 * M.2 114 (8 * t + q) + i) ≤ 64
section PK3
variable {M M' : mR} {t e f : Int}

set_option maxHeartbeats 1000000 in
theorem TRe_s (h : TRe t f M) (g : fr [] svG M M') (hl : LPm t M) (h51 : M.2 51 t ≤ 4) (r1 : M'.2 141 (96 * t + e) = M.2 141 (96 * t + f)) (r2 : ∀ i, 0 ≤ i → i < 4 → M'.2 142 (4 * (96 * t + e) + i) = M.2 142 (4 * (96 * t + f) + i) ∧ M'.2 143 (4 * (96 * t + e) + i) = M.2 143 (4 * (96 * t + f) + i) ∧ M'.2 144 (4 * (96 * t + e) + i) = M.2 144 (4 * (96 * t + f) + i)) : TRe t e M' := by
  obtain ⟨h1, ⟨q, q0, q1, q2⟩, h3⟩ := h
  unfold TRe
  rw [fr2 g 51 rfl, fr2 g 53 rfl, fr2 g 114 rfl, fr2 g 46 rfl, fr2 g 49 rfl, r1]
  refine ⟨fun i i0 i1 => ?_, ⟨q, q0, q1, q2⟩, fun i i0 i1 => ?_⟩
  · obtain ⟨a, b, -⟩ := r2 i i0 (by omega)
    rw [a, b]
    exact h1 i i0 i1
  · have l := (hl q q0 q1).2.1
    rw [q2] at l
    obtain ⟨-, -, c⟩ := r2 i i0 (by omega)
    rw [c]
    exact h3 i i0 i1
set_option maxHeartbeats 1000000 in
theorem TRm_o {t' : Int} (t0 : 0 ≤ t) (t0' : 0 ≤ t') (h : TRm t' M) (g : fr [] svG M M') (hl : LPm t' M) (h51 : M.2 51 t' ≤ 4) (n : M.2 139 t' ≤ 96) (ne : t' ≠ t) (o : ofR t M M') : TRm t' M' := fun e e0 e1 => by
  rw [o.1 t' ne] at e1
  exact TRe_s (h e e0 e1) g hl h51 (o.2.1 _ (by omega)).2 (fun i i0 i1 => o.2.2 _ (by omega))
def SRt (t : Int) (M : mR) (z : Int × mR) : Prop := TRm t z.2
set_option maxHeartbeats 1000000 in
theorem SRt_0 {x : Int} (h : TRm t M) : SRt t M (x, M) := h
set_option maxHeartbeats 1000000 in
theorem com_t (hV : GVM t M) (hT : TOK t M) (hR : OPR M) (hl : LPm t M) (h : TRm t M) : RP (rf_entryComes t M) (SRt t M) := by
  obtain ⟨⟨t0, t1⟩, ⟨h0, h1⟩, ⟨l0, l1, l2⟩, ⟨r0, r1⟩, ⟨w0, w1⟩, ⟨s0, s1⟩, h16⟩ := hV
  obtain ⟨⟨n0, n1⟩, n2⟩ := hT
  unfold rf_entryComes
  refine RP_bnd (isOf_r (M := M) (a := M.2 158 0) t0 t1 l0 l1) (fun u hu => ?_)
  refine RP_ite (fun _ => RP_some (SRt_0 h)) (fun g => RP_bndT (fun f => RP_ite (fun _ => RP_some (SRt_0 h)) (fun _ => ?_)))
  obtain ⟨q, q0, q1, q2⟩ : ∃ i, 0 ≤ i ∧ i < M.2 53 t ∧ M.2 114 (8 * t + i) = M.2 158 0 := by
    rcases hu with ⟨-, w⟩ | ⟨u0, -⟩
    · exact w
    · exact absurd u0 g
  have ha := l2 q q0 q1
  rw [q2] at ha
  have main : RP (rfl_entryComes_48 t M) (SRt t M) := by
    have C := com_r (M := M) (t := t) (X := some ()) (Q := fun _ z => SRt t M z) (n := M.2 139 t) (a := M.2 158 0) t0 t1 h0 h1 rfl n0 n1 rfl ha.1 ha.2 (fun i i0 i1 => ⟨(hR i i0 i1).2.1, (hR i i0 i1).2.2⟩) (fun M3 hM => ?_)
    · exact fun z hz => C () z rfl hz
    · obtain ⟨m1, m2, m3, m4, -, m6, m7, m8⟩ := hM
      have f3 : fr [] svG M M3 := fr_s m1 fr_0 rfl rfl
      have row : ∀ e, 0 ≤ e → e < M.2 139 t → TRe t e M3 := fun e e0 e1 => TRe_s (h e e0 e1) f3 hl h1 (m4 _ (by omega)).2 (fun i i0 i1 => m3 _ (by omega))
      have new : TRe t (M.2 139 t) M3 := by
        unfold TRe
        rw [fr2 f3 51 rfl, fr2 f3 53 rfl, fr2 f3 114 rfl, fr2 f3 46 rfl, fr2 f3 49 rfl, m6]
        refine ⟨fun i i0 i1 => ?_, ⟨q, q0, q1, q2⟩, fun i i0 i1 => ?_⟩
        · obtain ⟨a, b⟩ := m7 i i0 i1
          rw [a, b, and_aa]
        · obtain ⟨-, l, lw⟩ := hl q q0 q1
          rw [q2] at l lw
          rw [m8 i i0 (by omega), if_neg (by omega)]
          obtain ⟨w0, w1⟩ := lw i i0 i1
          exact VW_m w0 w1
      have all : ∀ M4 : mR, fr [] [170] M3 M4 → TRm t M4 ∧ ∀ e, 0 ≤ e → e < M.2 139 t → TRe t e M4 := fun M4 f4 => by
        have c : ∀ e, TRe t e M3 → TRe t e M4 := fun e w => by
          unfold TRe at w ⊢
          rw [fr2 f4 51 rfl, fr2 f4 53 rfl, fr2 f4 114 rfl, fr2 f4 46 rfl, fr2 f4 49 rfl, fr2 f4 141 rfl, fr2 f4 142 rfl, fr2 f4 143 rfl, fr2 f4 144 rfl]
          exact w
        refine ⟨fun e e0 e1 => ?_, fun e e0 e1 => c e (row e e0 e1)⟩
        rw [fr2 f4 139 rfl, m2, upI_s] at e1
        by_cases w : e = M.2 139 t
        · rw [w]; exact c _ new
        · exact c e (row e e0 (by omega))
      refine RR_ir (fun _ => RR_some (all M3 fr_0).1) (fun ex => ?_)
      have e58 : M3.2 58 = M.2 58 := fr2 f3 58 rfl
      have e54 : M3.2 54 = M.2 54 := fr2 f3 54 rfl
      have e55 : M3.2 55 = M.2 55 := fr2 f3 55 rfl
      rw [e58] at ex
      have h16 := h16 ex
      have e139 : M3.2 139 t = M.2 139 t + 1 := by rw [m2, upI_s]
      refine RR_r (above_b (M := M3) (t := t) (by rw [e54]; exact r0) (by rw [e58]; exact ex) (by rw [e54]; exact h16) (by rw [e55]; exact w0) (by omega) (by omega)) (fun x hx => ?_)
      obtain ⟨a1, a2⟩ := all x.2 hx.1
      unfold rfl_entryComes_179
      refine RR_ir (fun _ => RR_some ?_) (fun _ => RR_some a1)
      intro e e0 e1
      have e1 : e < upI (x.2.2 139) t (cut (x.2.2 139 t - 1)) t := e1
      rw [upI_s, fr2 hx.1 139 rfl, e139, cut_i (by omega) (by omega)] at e1
      exact a2 e e0 (by omega)
  exact RP_ite (fun _ => RP_ite (fun _ => RP_some (SRt_0 h)) (fun _ => main)) (fun _ => main)
set_option maxHeartbeats 1000000 in
theorem chg_t (hV : GVM t M) (hT : TOK t M) (hR : OPR M) (hl : LPm t M) (h : TRm t M) : RP (rf_entryChanges t M) (SRt t M) := by
  obtain ⟨⟨t0, t1⟩, ⟨h0, h1⟩, ⟨l0, l1, l2⟩, -⟩ := hV
  obtain ⟨⟨n0, n1⟩, n2⟩ := hT
  unfold rf_entryChanges
  refine RP_bnd (fins_r (M := M) t0 t1 h0 h1 n0 (by omega) (fun i i0 i1 => (hR i i0 i1).2.1)) (fun f hf => RP_ite (fun _ => RP_some (SRt_0 h)) (fun f0 => RP_bnd (isOf_r (M := M) (a := M.2 158 0) t0 t1 l0 l1) (fun u hu => RP_ite (fun _ => RP_some (SRt_0 h)) (fun g => ?_))))
  obtain ⟨q, q0, q1, q2⟩ : ∃ i, 0 ≤ i ∧ i < M.2 53 t ∧ M.2 114 (8 * t + i) = M.2 158 0 := by
    rcases hu with ⟨-, w⟩ | ⟨u0, -⟩
    · exact w
    · exact absurd u0 g
  have ha := l2 q q0 q1
  rw [q2] at ha
  have hf1 : f < M.2 139 t := by
    rcases hf with ⟨w, -⟩ | ⟨-, w, -⟩
    · omega
    · exact w
  refine RP_bnd (put_r (M := M) (t := t) (e := f) (a := M.2 158 0) rfl ha.1 ha.2 t0 t1 (by omega) (by omega) (fun i i0 i1 => (hR i i0 i1).2.2)) (fun y hy => RP_some ?_)
  obtain ⟨-, y2, y3, y4, y5⟩ := hy
  have y2 : fr [] [141, 144] M y.2 := y2
  have y3 : y.2.2 141 = upI (M.2 141) (96 * t + f) (M.2 158 0) := y3
  have fS : fr [] svG M y.2 := fr_s y2 fr_0 rfl rfl
  intro e e0 e1
  have e1 : e < y.2.2 139 t := e1
  rw [fr2 y2 139 rfl] at e1
  show TRe t e y.2
  by_cases w : e = f
  · rw [w]
    have hf := h f (by omega) hf1
    unfold TRe at hf ⊢
    rw [fr2 y2 51 rfl, fr2 y2 53 rfl, fr2 y2 114 rfl, fr2 y2 46 rfl, fr2 y2 49 rfl, fr2 y2 142 rfl, fr2 y2 143 rfl, y3, upI_s]
    refine ⟨hf.1, ⟨q, q0, q1, q2⟩, fun i i0 i1 => ?_⟩
    obtain ⟨-, l, lw⟩ := hl q q0 q1
    rw [q2] at l lw
    have d := y4 i i0 (show i < 4 by omega)
    have d : y.2.2 144 (4 * (96 * t + f) + i) = if M.2 46 (M.2 158 0) ≤ i then 0 else and64 (M.2 162 i) (mk64 (M.2 49 (4 * M.2 158 0 + i))) := d
    rw [d, if_neg (by omega)]
    obtain ⟨w0, w1⟩ := lw i i0 i1
    exact VW_m w0 w1
  · refine TRe_s (h e e0 e1) fS hl h1 (by rw [y3, upI_n (by omega)]) (fun i i0 i1 => ?_)
    rw [fr2 y2 142 rfl, fr2 y2 143 rfl]
    exact ⟨rfl, rfl, y5 _ (by omega)⟩
set_option maxHeartbeats 1000000 in
theorem goe_t (hV : GVM t M) (hT : TOK t M) (hR : OPR M) (hl : LPm t M) (h : TRm t M) : RP (rf_entryGoes t M) (SRt t M) := by
  obtain ⟨⟨t0, t1⟩, ⟨h0, h1⟩, -⟩ := hV
  obtain ⟨⟨n0, n1⟩, n2⟩ := hT
  unfold rf_entryGoes
  refine RP_bnd (fins_r (M := M) t0 t1 h0 h1 n0 (by omega) (fun i i0 i1 => (hR i i0 i1).2.1)) (fun f hf => RP_ite (fun f0 => ?_) (fun _ => RP_some (SRt_0 h)))
  have hf1 : f < M.2 139 t := by
    rcases hf with ⟨q, -⟩ | ⟨-, q, -⟩
    · omega
    · exact q
  rw [cut_i (z := M.2 139 t - 1) (by omega) (by omega)]
  obtain ⟨M1, eM⟩ : ∃ M1, M1 = mO M [] [(139, upI (M.2 139) t (M.2 139 t - 1))] := ⟨_, rfl⟩
  rw [← eM]
  have g1 : fr [] [139] M M1 := by rw [eM]; exact fr_m fr_0 rfl rfl
  have g139 : M1.2 139 = upI (M.2 139) t (M.2 139 t - 1) := by rw [eM]; rfl
  refine RP_bnd (rem_r (M := M1) (t := t) (e := f) (n := M.2 139 t - 1) t0 t1 (by rw [g139, upI_s]) (by omega) f0 (by omega)) (fun m hm => RP_some ?_)
  obtain ⟨⟨-, -⟩, m2, m3, m4, m5, m6, m7⟩ := hm
  have m139 : m.2 139 = upI (M.2 139) t (M.2 139 t - 1) := (fr2 m2 139 rfl).trans g139
  rw [show M1.2 141 = M.2 141 from fr2 g1 141 rfl] at m7
  rw [show M1.2 142 = M.2 142 from fr2 g1 142 rfl] at m3
  rw [show M1.2 143 = M.2 143 from fr2 g1 143 rfl] at m4
  rw [show M1.2 144 = M.2 144 from fr2 g1 144 rfl] at m5
  have fM : fr [] svG M m := fr_s m2 (fr_s g1 fr_0 rfl rfl) rfl rfl
  intro e e0 e1
  have e1 : e < m.2 139 t := e1
  rw [m139, upI_s] at e1
  show TRe t e m
  by_cases w : e < f
  · exact TRe_s (h e e0 (by omega)) fM hl h1 (m7.2 _ (by omega)) (fun i i0 i1 => ⟨m3.2 _ (by omega), m4.2 _ (by omega), m5.2 _ (by omega)⟩)
  · refine TRe_s (f := e + 1) (h (e + 1) (by omega) (by omega)) fM hl h1 ?_ (fun i i0 i1 => ?_)
    · rw [m7.1 _ (by omega) (by omega), show 96 * t + e + 1 = 96 * t + (e + 1) by omega]
    · rw [m3.1 _ (by omega) (by omega), m4.1 _ (by omega) (by omega), m5.1 _ (by omega) (by omega), show 4 * (96 * t + e) + i + 4 = 4 * (96 * t + (e + 1)) + i by omega]
      exact ⟨rfl, rfl, rfl⟩
set_option maxHeartbeats 1000000 in
theorem srv_t {k : Int} (hV : GVM t M) (hT : TOK t M) (hR : OPR M) (hl : LPm t M) (h : TRm t M) : RP (srvM t k M) (SRt t M) := by
  unfold srvM
  exact RP_bndT (fun y => RP_ite (fun _ => RP_some (SRt_0 h)) (fun _ => RP_ite (fun _ => com_t hV hT hR hl h) (fun _ => RP_ite (fun _ => chg_t hV hT hR hl h) (fun _ => goe_t hV hT hR hl h))))
end PK3

def vtA : List Nat := [78, 85, 86, 87, 88, 89]
def vtb (K M : mR) : mR := mO K [] [(78, M.2 139), (85, fun j => M.2 142 (4 * (96 * (j / 65536) + j % 65536 / 4) + j % 65536 % 4)), (86, fun j => M.2 143 (4 * (96 * (j / 65536) + j % 65536 / 4) + j % 65536 % 4)), (87, fun j => M.2 144 (4 * (96 * (j / 65536) + j % 65536 / 4) + j % 65536 % 4)), (88, fun j => M.2 140 (96 * (j / 65536) + j % 65536)), (89, fun j => M.2 141 (96 * (j / 65536) + j % 65536))]
section PK4
variable {K M : mR} {t : Int}
set_option maxHeartbeats 1000000 in
theorem vtb_f : fr [] vtA K (vtb K M) := fr_m fr_0 rfl rfl
set_option maxHeartbeats 1000000 in
theorem vtb_Q (t0 : 0 ≤ t) (h : TOK t M) (hm : TRm t M) (h51 : M.2 51 t ≤ 4) (hl : LPm t M) (h25 : ∀ q, 0 ≤ q → q < M.2 53 t → M.2 114 (8 * t + q) < M.1 25) : TQ1 t (vtb K M) M := by
  refine ⟨rfl, h.1, h.2, fun e e0 e1 => ?_, trivial⟩
  obtain ⟨h1, ⟨q, q0, q1, q2⟩, h3⟩ := hm e e0 e1
  have n := h.1.2
  refine ⟨fun i i0 i1 => ⟨?_, ?_, h1 i i0 i1⟩, ?_, ?_, ⟨?_, ?_⟩, fun i i0 i1 => ⟨?_, h3 i i0 i1⟩⟩
  · show M.2 142 (4 * (96 * ((65536 * t + (e * 4 + i)) / 65536) + (65536 * t + (e * 4 + i)) % 65536 / 4) + (65536 * t + (e * 4 + i)) % 65536 % 4) = _
    exact congrArg (M.2 142) (by omega)
  · show M.2 143 (4 * (96 * ((65536 * t + (e * 4 + i)) / 65536) + (65536 * t + (e * 4 + i)) % 65536 / 4) + (65536 * t + (e * 4 + i)) % 65536 % 4) = _
    exact congrArg (M.2 143) (by omega)
  · show M.2 140 (96 * ((65536 * t + e) / 65536) + (65536 * t + e) % 65536) = _
    exact congrArg (M.2 140) (by omega)
  · show M.2 141 (96 * ((65536 * t + e) / 65536) + (65536 * t + e) % 65536) = _
    exact congrArg (M.2 141) (by omega)
  · rw [← q2]; exact (hl q q0 q1).1
  · rw [← q2]; exact h25 q q0 q1
  · have l := (hl q q0 q1).2.1
    rw [q2] at l
    show M.2 144 (4 * (96 * ((65536 * t + (e * 4 + i)) / 65536) + (65536 * t + (e * 4 + i)) % 65536 / 4) + (65536 * t + (e * 4 + i)) % 65536 % 4) = _
    exact congrArg (M.2 144) (by omega)
end PK4


def TBp (t : Int) (K M : mR) : Prop := (0 ≤ t ∧ t ≤ 7 ∧ t < M.1 26) ∧ TK_nx t K M ∧ XK t (M.2 51 t) K ∧ PK1 t (M.2 51 t) K ∧ DT2 t K M ∧ (K.2 74 t = M.2 57 t ∧ 0 ≤ M.2 57 t ∧ M.2 57 t < M.1 25) ∧ LPm t M ∧ ∀ q, 0 ≤ q → q < M.2 53 t → M.2 114 (8 * t + q) < M.1 25
def STq (s : Int) (K M : mR) : Prop := (K.2 52 s = M.2 60 s ∧ K.2 53 s = M.2 61 s ∧ K.2 54 s = M.2 62 s ∧ K.2 55 s = M.2 63 s) ∧ (M.2 61 s = -1 ∨ (0 ≤ M.2 61 s ∧ M.2 61 s < s)) ∧ ((M.2 60 s = 0 ∧ K.2 56 s = M.2 120 s ∧ DEd (M.2 120 s) K M ∧ XDm (-1) (M.2 120 s) K M) ∨ (M.2 60 s = 1 ∧ EXR_nx (K.2 57 s) (K.2 58 s) (M.2 121 s) (M.2 122 s) ∧ XE K (-1) (K.2 57 s) (K.2 58 s)) ∨ (M.2 60 s = 2 ∧ TBp (M.2 63 s) K M))
def GTp (K M : mR) : Prop := PGm K M ∧ ACm K M ∧ M.1 25 ≤ 16 ∧ (∀ j, R64 (M.2 115 j)) ∧ (0 ≤ M.1 27 ∧ M.1 27 ≤ 48) ∧ ∀ s, 0 ≤ s → s < M.1 27 → STq s K M
section PK5
variable {K K' M M' : mR} {F A G C : List Nat} {t s d ac : Int}

def pgK : List Nat := [10, 11, 12, 13, 14, 15, 16, 17, 18, 19, 20, 21, 22, 24, 26, 27, 28, 29, 30, 31, 32, 33, 34, 35, 36, 37, 39, 40, 43, 44, 45, 46, 47, 48, 49, 50, 51, 52, 53, 54, 55, 56, 57, 58, 72, 73, 74, 75, 76, 77, 79, 80, 81, 82, 83, 84]
def pgM : List Nat := [4, 29, 30, 31, 32, 33, 34, 35, 36, 37, 38, 39, 41, 42, 44, 45, 46, 49, 50, 51, 52, 53, 54, 55, 56, 57, 58, 60, 61, 62, 63, 65, 66, 67, 68, 93, 94, 95, 96, 97, 98, 101, 102, 103, 104, 105, 106, 107, 108, 109, 110, 111, 112, 113, 114, 115, 120, 121, 122, 124]
def pgN : List Nat := [6, 19, 20, 21, 22, 23, 24, 25, 26, 27, 28, 125]
set_option maxHeartbeats 1000000 in
theorem DEd_k (h : DEd d K M) (fK : fr F A K K') (fM : fr G C M M') (c2 : chk pgK A = true) (c3 : chk pgN G = true) (c4 : chk pgM C = true) : DEd d K' M' := by
  unfold DEd
  rw [fr2 fK 45 (chk_1 c2 (by decide)), fr2 fK 46 (chk_1 c2 (by decide)), fr2 fK 47 (chk_1 c2 (by decide)), fr2 fK 48 (chk_1 c2 (by decide)), fr2 fK 49 (chk_1 c2 (by decide)), fr2 fK 50 (chk_1 c2 (by decide)), fr2 fK 51 (chk_1 c2 (by decide)), fr1 fM 20 (chk_1 c3 (by decide)), fr1 fM 21 (chk_1 c3 (by decide)), fr1 fM 22 (chk_1 c3 (by decide)), fr2 fM 29 (chk_1 c4 (by decide)), fr2 fM 34 (chk_1 c4 (by decide)), fr2 fM 101 (chk_1 c4 (by decide)), fr2 fM 102 (chk_1 c4 (by decide)), fr2 fM 103 (chk_1 c4 (by decide)), fr2 fM 104 (chk_1 c4 (by decide)), fr2 fM 105 (chk_1 c4 (by decide)), fr2 fM 106 (chk_1 c4 (by decide)), fr2 fM 107 (chk_1 c4 (by decide)), fr2 fM 108 (chk_1 c4 (by decide))]
  exact h
set_option maxHeartbeats 1000000 in
theorem OW_k {o w : Int} (h : OW K o w) (fK : fr F A K K') (c2 : chk pgK A = true) : OW K' o w := by
  unfold OW
  rw [fr2 fK 18 (chk_1 c2 (by decide)), fr2 fK 22 (chk_1 c2 (by decide)), fr2 fK 24 (chk_1 c2 (by decide))]
  exact h
set_option maxHeartbeats 1000000 in
theorem XDm_f2 (h : XDm ac d K M) (fK : fr F A K K') (fM : fr G C M M') (c1 : chk [218, 219, 220, 221, 225] F = true) (c2 : chk pgK A = true) (c4 : chk pgM C = true) : XDm ac d K' M' := by
  obtain ⟨h1, h2, h3⟩ := h
  have xe : ∀ {a r : Int}, XE K ac a r → XE K' ac a r := fun q => XE_f q fK (chk_s c1 rfl) (chk_s c2 rfl)
  have pw : ∀ b, PW_nx M' b = PW_nx M b := fun b => by
    unfold PW_nx
    rw [fr2 fM 33 (chk_1 c4 (by decide)), fr2 fM 34 (chk_1 c4 (by decide)), fr2 fM 35 (chk_1 c4 (by decide))]
  unfold XDm
  rw [fr2 fK 45 (chk_1 c2 (by decide)), fr2 fK 48 (chk_1 c2 (by decide)), fr2 fK 49 (chk_1 c2 (by decide)), fr2 fK 50 (chk_1 c2 (by decide)), fr2 fK 51 (chk_1 c2 (by decide)), fr2 fM 36 (chk_1 c4 (by decide)), fr2 fM 102 (chk_1 c4 (by decide)), fr2 fM 103 (chk_1 c4 (by decide)), pw]
  exact ⟨fun q => ⟨xe (h1 q).1, OW_k (h1 q).2 fK c2⟩, fun q => ⟨xe (h2 q).1, (h2 q).2⟩, fun q => ⟨xe (h3 q).1, xe (h3 q).2.1, OW_k (h3 q).2.2 fK c2⟩⟩
set_option maxHeartbeats 1000000 in
theorem PGm_k (h : PGm K M) (fK : fr F A K K') (fM : fr G C M M') (c1 : chk [218, 219, 220, 221, 225] F = true) (c2 : chk pgK A = true) (c3 : chk pgN G = true) (c4 : chk pgM C = true) : PGm K' M' := by
  obtain ⟨h1, h2, h3, h4, h5, h6⟩ := h
  refine ⟨NDR_f_nx fK fM (chk_s c1 rfl) (chk_s c2 rfl) (chk_s c3 rfl) (chk_s c4 rfl) h1, AR_f fK fM rfl (chk_s c2 rfl) (chk_s c3 rfl) (chk_s c4 rfl) h2, ?_, ?_, ?_, ?_⟩
  · rw [fr1 fM 20 (chk_1 c3 (by decide))]; exact h3
  · rw [fr1 fM 21 (chk_1 c3 (by decide))]; exact h4
  · rw [fr1 fM 22 (chk_1 c3 (by decide))]; exact h5
  · rw [fr1 fM 20 (chk_1 c3 (by decide)), fr2 fM 29 (chk_1 c4 (by decide)), fr2 fM 34 (chk_1 c4 (by decide))]; exact h6
set_option maxHeartbeats 1000000 in
theorem ACm_k (h : ACm K M) (fK : fr F A K K') (fM : fr G C M M') (c1 : chk [218, 219, 220, 221, 225] F = true) (c2 : chk pgK A = true) (c3 : chk pgN G = true) (c4 : chk pgM C = true) : ACm K' M' := fun a a0 a1 => by
  rw [fr1 fM 25 (chk_1 c3 (by decide))] at a1
  obtain ⟨h1, h2, h3, h4, h5⟩ := h a a0 a1
  rw [fr2 fK 39 (chk_1 c2 (by decide)), fr2 fK 40 (chk_1 c2 (by decide)), fr2 fK 43 (chk_1 c2 (by decide)), fr2 fK 44 (chk_1 c2 (by decide)), fr2 fM 46 (chk_1 c4 (by decide)), fr2 fM 49 (chk_1 c4 (by decide)), fr2 fM 50 (chk_1 c4 (by decide)), fr2 fM 109 (chk_1 c4 (by decide))]
  exact ⟨h1, h2, h3, h4, fun d d0 d1 => ⟨DEd_k (h5 d d0 d1).1 fK fM c2 c3 c4, XDm_f2 (h5 d d0 d1).2 fK fM c1 c2 c4⟩⟩
set_option maxHeartbeats 1000000 in
theorem XK_k3 {n : Int} (h : XK t n K) (fK : fr F A K K') (c1 : chk [218, 219, 220, 221, 225] F = true) (c2 : chk pgK A = true) : XK t n K' := fun i i0 i1 => by
  rw [fr2 fK 79 (chk_1 c2 (by decide)), fr2 fK 80 (chk_1 c2 (by decide)), fr2 fK 82 (chk_1 c2 (by decide))]
  exact ⟨XE_f (h i i0 i1).1 fK (chk_s c1 rfl) (chk_s c2 rfl), OW_k (h i i0 i1).2 fK c2⟩
set_option maxHeartbeats 1000000 in
theorem LPm_k (h : LPm t M) (fM : fr G C M M') (c4 : chk pgM C = true) : LPm t M' := by
  unfold LPm
  rw [fr2 fM 46 (chk_1 c4 (by decide)), fr2 fM 49 (chk_1 c4 (by decide)), fr2 fM 53 (chk_1 c4 (by decide)), fr2 fM 114 (chk_1 c4 (by decide))]
  exact h
set_option maxHeartbeats 1000000 in
theorem TBp_k (h : TBp t K M) (fK : fr F A K K') (fM : fr G C M M') (c1 : chk [218, 219, 220, 221, 225] F = true) (c2 : chk pgK A = true) (c3 : chk pgN G = true) (c4 : chk pgM C = true) : TBp t K' M' := by
  obtain ⟨h1, h2, h3, h4, h5, h6, h7, h8⟩ := h
  refine ⟨by rw [fr1 fM 26 (chk_1 c3 (by decide))]; exact h1, TK_f_nx h2 fK fM (chk_s c2 rfl) (chk_s c4 rfl), by rw [fr2 fM 51 (chk_1 c4 (by decide))]; exact XK_k3 h3 fK c1 c2, ?_, DT2_f h5 fK fM (chk_s c2 rfl) (chk_s c4 rfl), ?_, LPm_k h7 fM c4, ?_⟩
  · unfold PK1
    rw [fr2 fM 51 (chk_1 c4 (by decide)), fr2 fK 81 (chk_1 c2 (by decide))]
    exact h4
  · rw [fr2 fK 74 (chk_1 c2 (by decide)), fr2 fM 57 (chk_1 c4 (by decide)), fr1 fM 25 (chk_1 c3 (by decide))]
    exact h6
  · rw [fr2 fM 53 (chk_1 c4 (by decide)), fr2 fM 114 (chk_1 c4 (by decide)), fr1 fM 25 (chk_1 c3 (by decide))]
    exact h8
set_option maxHeartbeats 1000000 in
theorem STq_k (h : STq s K M) (fK : fr F A K K') (fM : fr G C M M') (c1 : chk [218, 219, 220, 221, 225] F = true) (c2 : chk pgK A = true) (c3 : chk pgN G = true) (c4 : chk pgM C = true) : STq s K' M' := by
  obtain ⟨h1, h2, h3⟩ := h
  unfold STq
  rw [fr2 fK 52 (chk_1 c2 (by decide)), fr2 fK 53 (chk_1 c2 (by decide)), fr2 fK 54 (chk_1 c2 (by decide)), fr2 fK 55 (chk_1 c2 (by decide)), fr2 fK 56 (chk_1 c2 (by decide)), fr2 fK 57 (chk_1 c2 (by decide)), fr2 fK 58 (chk_1 c2 (by decide)), fr2 fM 60 (chk_1 c4 (by decide)), fr2 fM 61 (chk_1 c4 (by decide)), fr2 fM 62 (chk_1 c4 (by decide)), fr2 fM 63 (chk_1 c4 (by decide)), fr2 fM 120 (chk_1 c4 (by decide)), fr2 fM 121 (chk_1 c4 (by decide)), fr2 fM 122 (chk_1 c4 (by decide))]
  refine ⟨h1, h2, ?_⟩
  rcases h3 with ⟨a, b, c, d⟩ | ⟨a, b, c⟩ | ⟨a, b⟩
  · exact Or.inl ⟨a, b, DEd_k c fK fM c2 c3 c4, XDm_f2 d fK fM c1 c2 c4⟩
  · exact Or.inr (Or.inl ⟨a, b, XE_f c fK (chk_s c1 rfl) (chk_s c2 rfl)⟩)
  · exact Or.inr (Or.inr ⟨a, TBp_k b fK fM c1 c2 c3 c4⟩)
set_option maxHeartbeats 1000000 in
theorem GTp_k (h : GTp K M) (fK : fr F A K K') (fM : fr G C M M') (c1 : chk [218, 219, 220, 221, 225] F = true) (c2 : chk pgK A = true) (c3 : chk pgN G = true) (c4 : chk pgM C = true) : GTp K' M' := by
  obtain ⟨h1, h2, h3, h4, h5, h6⟩ := h
  refine ⟨PGm_k h1 fK fM c1 c2 c3 c4, ACm_k h2 fK fM c1 c2 c3 c4, ?_, ?_, ?_, fun s s0 s1 => ?_⟩
  · rw [fr1 fM 25 (chk_1 c3 (by decide))]; exact h3
  · rw [fr2 fM 115 (chk_1 c4 (by decide))]; exact h4
  · rw [fr1 fM 27 (chk_1 c3 (by decide))]; exact h5
  · rw [fr1 fM 27 (chk_1 c3 (by decide))] at s1
    exact STq_k (h6 s s0 s1) fK fM c1 c2 c3 c4

set_option maxHeartbeats 1000000 in
theorem GTm_v (h : GTp K M) (hT : ∀ t, 0 ≤ t → t < M.1 26 → TOK t M ∧ TRm t M) : GTm (vtb K M) M := by
  have h' := GTp_k h (vtb_f (K := K) (M := M)) (fr_0 (u := []) (v := []) (x := M)) rfl rfl rfl rfl
  obtain ⟨h1, h2, h3, h4, h5, h6⟩ := h'
  refine ⟨h1, h2, h3, h4, h5, fun s s0 s1 => ?_⟩
  obtain ⟨a1, a2, a3⟩ := h6 s s0 s1
  refine ⟨a1, a2, ?_⟩
  rcases a3 with a | a | ⟨k, ⟨t0, t7, t26⟩, b2, b3, b4, b5, b6, b7, b8⟩
  · exact Or.inl a
  · exact Or.inr (Or.inl a)
  · obtain ⟨q1, q2⟩ := hT _ t0 t26
    exact Or.inr (Or.inr ⟨k, ⟨t0, t7⟩, b2, b3, b4, vtb_Q t0 q1 q2 b2.2.2.1 b7 b8, b5, b6⟩)
end PK5

def dpA : List Nat := [163, 165, 166, 167, 169]
section PK6
variable {K M : mR} {at' : Int}

set_option maxHeartbeats 1000000 in
theorem d49_r {v2 : Int} (a0 : 0 ≤ at') (a1 : at' ≤ 127) : RP (whl (rfb_doFirst_49 at' v2) (0, M)) (fun e => fr [] [169] M e ∧ (∀ s, 0 ≤ s → s < 48 → e.2 169 (48 * at' + s) = -1) ∧ rowM at' M e) := by
  refine RP_whl (I := fun s : Int × mR => (0 ≤ s.1 ∧ s.1 ≤ 48) ∧ fr [] [169] M s.2 ∧ (∀ j, 0 ≤ j → j < s.1 → s.2.2 169 (48 * at' + j) = -1) ∧ rowM at' M s.2) (fun s hs => ?_) ⟨⟨Int.le_refl _, (by decide : (0 : Int) ≤ 48)⟩, fr_0, fun j j0 j1 => by have j1 : j < 0 := j1; omega, fun _ _ => rfl⟩
  obtain ⟨i, Mc⟩ := s
  obtain ⟨⟨i0, i1⟩, f, h, ho⟩ := hs
  have i0 : 0 ≤ i := i0
  have i1 : i ≤ 48 := i1
  have h : ∀ j, 0 ≤ j → j < i → Mc.2 169 (48 * at' + j) = -1 := h
  have ho : rowM at' M Mc := ho
  unfold rfb_doFirst_49
  refine RP_ite (fun g => RP_some ⟨f, fun j j0 j1 => h j j0 (by have g : 48 ≤ i := g; omega), ho⟩) (fun g => ?_)
  have g : ¬ 48 ≤ i := g
  show RP (some (Sum.inl (cut (i + 1), mO Mc [] [(169, upI (Mc.2 169) (cut (cut (48 * at') + i)) (-1))]))) _
  rw [cut_i (z := i + 1) (by omega) (by omega), cut_i (z := 48 * at') (by omega) (by omega), cut_i (z := 48 * at' + i) (by omega) (by omega)]
  refine RP_some ⟨⟨show 0 ≤ i + 1 by omega, show i + 1 ≤ 48 by omega⟩, fr_m f rfl rfl, fun j j0 j1 => ?_, fun j hj => ?_⟩
  · have j1 : j < i + 1 := j1
    show upI (Mc.2 169) (48 * at' + i) (-1) (48 * at' + j) = -1
    by_cases e : j = i
    · rw [e, upI_s]
    · rw [upI_n (by omega)]
      exact h j j0 (by omega)
  · show upI (Mc.2 169) (48 * at' + i) (-1) j = _
    rw [upI_n (by omega)]
    exact ho j hj

def DPo (at' : Int) (M m0 m1 : mR) (u : Int) (z : mR) : Prop := (fr [] dpA M m0 ∧ (m0.2 163 = upI (M.2 163) at' (M.2 153 0) ∧ m0.2 165 = upI (M.2 165) at' (-1) ∧ m0.2 166 = upI (M.2 166) at' (-1)) ∧ (∀ s, 0 ≤ s → s < 48 → m0.2 169 (48 * at' + s) = -1) ∧ rowM at' M m0) ∧ rf_readPacket m0 = some (u, m1) ∧ ((u = 0 ∧ (z.2 164 = upI (M.2 164) at' 2 ∧ z.2 163 = m0.2 163 ∧ z.2 165 = m0.2 165 ∧ z.2 166 = m0.2 166 ∧ z.2 168 = M.2 168 ∧ z.2 169 = m0.2 169 ∧ z.2 138 = M.2 138)) ∨ (u ≠ 0 ∧ ∃ g m2, rf_goThrough at' m1 = some (g, m2) ∧ (z.2 163 = m0.2 163 ∧ z.2 169 = m2.2 169 ∧ z.2 138 = m2.2 138) ∧ ((m2.1 177 ≠ 0 ∧ z.2 164 = upI (M.2 164) at' 1 ∧ z.2 165 = m0.2 165 ∧ z.2 166 = m0.2 166 ∧ z.2 168 = M.2 168) ∨ (m2.1 177 = 0 ∧ z.2 164 = upI (M.2 164) at' 0 ∧ ∃ m3 : Int × mR, rf_writePacket at' (mO m2 [] [(164, upI (m2.2 164) at' 0)]) = some m3 ∧ z.2 165 = m3.2.2 165 ∧ z.2 166 = m3.2.2 166 ∧ z.2 168 = m3.2.2 168))))
set_option maxHeartbeats 1000000 in
theorem dfp_r (a0 : 0 ≤ M.1 150) (ea : (M.1 150) % 128 = at') (hk : M.2 153 0 ≤ 0) (L0 : 1 ≤ M.1 149) (L1 : M.1 149 ≤ 40) : RP (rf_doFirst M) (fun z => ∃ m0 m1 u, DPo at' M m0 m1 u z.2) := by
  have et : (M.1 150).tmod 128 = at' := by rw [Int.tmod_eq_emod_of_nonneg a0]; exact ea
  unfold rf_doFirst
  rw [et]
  refine RP_bnd (d49_r (at' := at') (by omega) (by omega)) (fun m0 hm => ?_)
  obtain ⟨f0, d0, r0⟩ := hm
  have fm : fr [] dpA M m0 := fr_s f0 (fr_m fr_0 rfl rfl) rfl rfl
  have e163 : m0.2 163 = upI (M.2 163) at' (M.2 153 0) := fr2 f0 163 rfl
  have e165 : m0.2 165 = upI (M.2 165) at' (-1) := fr2 f0 165 rfl
  have e166 : m0.2 166 = upI (M.2 166) at' (-1) := fr2 f0 166 rfl
  have hd : fr [] dpA M m0 ∧ (m0.2 163 = upI (M.2 163) at' (M.2 153 0) ∧ m0.2 165 = upI (M.2 165) at' (-1) ∧ m0.2 166 = upI (M.2 166) at' (-1)) ∧ (∀ s, 0 ≤ s → s < 48 → m0.2 169 (48 * at' + s) = -1) ∧ rowM at' M m0 := ⟨fm, ⟨e163, e165, e166⟩, d0, fun j hj => r0 j hj⟩
  unfold rfl_doFirst_73
  rw [if_pos hk]
  refine RP_bnd (RP_and (RP_se _) (u_rf_readPacket _)) (fun y hy => ?_)
  obtain ⟨hy, fy⟩ := hy
  have e164 : ∀ m : mR, fr (177 :: rF_readPacket) rA_goThrough m0 m → m.2 164 = M.2 164 ∧ m.2 163 = m0.2 163 ∧ m.2 165 = m0.2 165 ∧ m.2 166 = m0.2 166 ∧ m.2 168 = M.2 168 ∧ m.1 149 = M.1 149 := fun m f => ⟨(fr2 f 164 (by decide +kernel)).trans (fr2 fm 164 rfl), fr2 f 163 (by decide +kernel), fr2 f 165 (by decide +kernel), fr2 f 166 (by decide +kernel), (fr2 f 168 (by decide +kernel)).trans (fr2 fm 168 rfl), (fr1 f 149 (by decide +kernel)).trans (fr1 fm 149 rfl)⟩
  have mv : ∀ m : mR, m.1 149 = M.1 149 → RP (rfl_doFirst_214 m) (fun z => fr [149, 150] mvA m z.2) := fun m e => RP_w (mv_214 (m := m) (by omega) (by omega)) (fun z hz => hz.2.2.1)
  unfold rfl_doFirst_162
  refine RP_ite (fun u0 => ?_) (fun u0 => RP_bnd (RP_and (RP_se _) (u_rf_goThrough _ _)) (fun g hg => ?_))
  · obtain ⟨a1, a2, a3, a4, a5, a6⟩ := e164 y.2 (fr_s fy fr_0 (by decide +kernel) (by decide +kernel))
    unfold rfl_doFirst_172
    rw [if_pos u0]
    unfold rfl_doFirst_197
    rw [if_pos u0]
    refine RP_w (mv (mO y.2 [] [(164, upI (y.2.2 164) at' 2)]) a6) (fun z hz => ⟨m0, y.2, y.1, hd, hy, Or.inl ⟨u0, ?_, ?_, ?_, ?_, ?_, ?_, ?_⟩⟩)
    · rw [fr2 hz 164 rfl]
      show upI (y.2.2 164) at' 2 = _
      rw [a1]
    · rw [fr2 hz 163 rfl]; exact a2
    · rw [fr2 hz 165 rfl]; exact a3
    · rw [fr2 hz 166 rfl]; exact a4
    · rw [fr2 hz 168 rfl]; exact a5
    · rw [fr2 hz 169 rfl]
      exact fr2 fy 169 (by decide +kernel)
    · rw [fr2 hz 138 rfl]
      exact (fr2 fy 138 (by decide +kernel)).trans (fr2 fm 138 rfl)
  · obtain ⟨hg, fg⟩ := hg
    obtain ⟨a1, a2, a3, a4, a5, a6⟩ := e164 g.2 (fr_s fg (fr_s fy fr_0 (by decide +kernel) (by decide +kernel)) (by decide +kernel) (by decide +kernel))
    unfold rfl_doFirst_172
    rw [if_neg u0]
    refine RP_ite (fun w => ?_) (fun w => ?_)
    · unfold rfl_doFirst_197
      rw [if_neg u0, if_pos w]
      refine RP_bnd (RP_and (RP_se _) (u_rf_writePacket _ _)) (fun m3 hm3 => ?_)
      obtain ⟨hm3, f3⟩ := hm3
      have b6 : m3.2.1 149 = M.1 149 := (fr1 f3 149 (by decide +kernel)).trans a6
      refine RP_w (mv m3.2 b6) (fun z hz => ⟨m0, y.2, y.1, hd, hy, Or.inr ⟨u0, g.1, g.2, hg, ⟨?_, ?_, ?_⟩, Or.inr ⟨w, ?_, m3, hm3, ?_, ?_, ?_⟩⟩⟩)
      · rw [fr2 hz 163 rfl, fr2 f3 163 (by decide +kernel)]; exact a2
      · rw [fr2 hz 169 rfl, fr2 f3 169 (by decide +kernel)]; rfl
      · rw [fr2 hz 138 rfl, fr2 f3 138 (by decide +kernel)]; rfl
      · rw [fr2 hz 164 rfl, fr2 f3 164 (by decide +kernel)]
        show upI (g.2.2 164) at' 0 = _
        rw [a1]
      · rw [fr2 hz 165 rfl]
      · rw [fr2 hz 166 rfl]
      · rw [fr2 hz 168 rfl]
    · unfold rfl_doFirst_197
      rw [if_neg u0, if_neg w]
      refine RP_w (mv (mO g.2 [] [(164, upI (g.2.2 164) at' 1)]) a6) (fun z hz => ⟨m0, y.2, y.1, hd, hy, Or.inr ⟨u0, g.1, g.2, hg, ⟨?_, ?_, ?_⟩, Or.inl ⟨w, ?_, ?_, ?_, ?_⟩⟩⟩)
      · rw [fr2 hz 163 rfl]; exact a2
      · rw [fr2 hz 169 rfl]; rfl
      · rw [fr2 hz 138 rfl]; rfl
      · rw [fr2 hz 164 rfl]
        show upI (g.2.2 164) at' 1 = _
        rw [a1]
      · rw [fr2 hz 165 rfl]; exact a3
      · rw [fr2 hz 166 rfl]; exact a4
      · rw [fr2 hz 168 rfl]; exact a5
end PK6
