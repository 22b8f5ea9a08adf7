
section SMC
variable {K M : mR} {ac a r d t at' : Int}

theorem ev_x (hN : NDR_nx K M) (m20 : M.1 20 ≤ 12) (m21 : M.1 21 ≤ 16) (m29 : ∀ i, 0 ≤ i → i < M.1 20 → M.2 29 (M.2 34 i) ≤ 16) (h : XE K ac a r) {sl sl' pa pa' : Int → Int} (hs : ∀ s, 0 ≤ s → s ≤ 220 → sl' s = sl s) (hp : ac ≠ -1 → ∀ i, 0 ≤ i → i < K.2 39 ac → pa' i = pa i) : ev K sl' pa' a r = ev K sl pa a r := by
  have n8 := NDR_8 hN
  have r8 := h.1.2.2
  have a0 := h.1.1
  refine ev_c (XRk_of h (by omega)) (fun j j0 j1 e => ?_) (fun j j0 j1 e => ?_)
  · obtain ⟨-, hk⟩ := hN
    obtain ⟨-, -, -, n4⟩ := hk j (by omega) (by omega)
    obtain ⟨v, -⟩ := n4 e
    refine hs _ ?_ ?_
    · rcases v with ⟨v1, v2⟩ | ⟨v1, v2, -⟩ <;> omega
    · rcases v with ⟨v1, v2⟩ | ⟨v1, v2, -⟩ <;> omega
  · obtain ⟨p1, p2, -⟩ := (h.2.2.1 j j0 j1).2.2.1 e
    exact hp p1 _ (n401 hN (by omega) (by omega) e).1 p2

def PGm (K M : mR) : Prop := NDR_nx K M ∧ AR K M ∧ M.1 20 ≤ 12 ∧ M.1 21 ≤ 16 ∧ M.1 22 ≤ 8 ∧ ∀ i, 0 ≤ i → i < M.1 20 → M.2 29 (M.2 34 i) ≤ 16
def DEd (d : Int) (K M : mR) : Prop := DE1_nx (M.1 20) (M.1 21) (M.1 22) (M.2 29) (M.2 34) (K.2 45 d) (K.2 46 d) (K.2 47 d) (K.2 48 d) (K.2 49 d) (K.2 50 d) (K.2 51 d) (M.2 101 d) (M.2 102 d) (M.2 103 d) (M.2 104 d) (M.2 105 d) (M.2 106 d) (M.2 107 d) (M.2 108 d)
theorem aidx_x (g : PGm K M) (h47 : K.2 47 d = M.2 103 d ∧ 0 ≤ M.2 103 d ∧ M.2 103 d < M.1 22) (h : XE K ac (K.2 48 d) (K.2 49 d)) {x x' : XSt} {pa pa' : Int → Int} (hx : XPE x' x) (hp : ac ≠ -1 → ∀ i, 0 ≤ i → i < K.2 39 ac → pa' i = pa i) : aidx K pa' d x' = aidx K pa d x ∧ 0 ≤ aidx K pa d x ∧ aidx K pa d x < 512 := by
  obtain ⟨gN, gA, m20, m21, m22, m29⟩ := g
  obtain ⟨q1, q2, q3⟩ := h47
  obtain ⟨-, -, -, -, r2, r3⟩ := gA _ q2 q3
  have e := ev_x gN m20 m21 m29 h (sl := x 0) (sl' := x' 0) (pa := pa) (pa' := pa') hx.1 hp
  unfold aidx
  rw [if_neg (by omega), if_neg (by omega), e]
  have b := remk_r (v := ev K (x 0) pa (K.2 48 d) (K.2 49 d)) (n := K.2 16 (K.2 47 d)) (by rw [q1, (gA _ q2 q3).2.2.2.1]; exact r2) (by rw [q1, (gA _ q2 q3).2.2.2.1]; exact r3)
  have b3 : K.2 16 (K.2 47 d) ≤ 64 := by rw [q1, (gA _ q2 q3).2.2.2.1]; exact r3
  exact ⟨rfl, by omega, by omega⟩

theorem XPE_adeed (g : PGm K M) (hD : DEd d K M) (hX : XDm ac d K M) {x x' : XSt} {pa pa' : Int → Int} (hx : XPE x' x) (hp : ac ≠ -1 → ∀ i, 0 ≤ i → i < K.2 39 ac → pa' i = pa i) : XPE (adeed K pa' d x') (adeed K pa d x) := by
  obtain ⟨gN, gA, m20, m21, m22, m29⟩ := id g
  obtain ⟨x1, x2, x3⟩ := hX
  unfold adeed
  rcases hD with ⟨-, e2, hp2, -, -, he⟩ | ⟨-, e2, hp2, h47, he, -⟩ | ⟨-, e2, h46, h47, he, he2⟩ | ⟨e1, e2, ⟨i0, i1, h46⟩, -⟩ | ⟨-, e2, h46, -⟩
  · have s := PLS_s hp2 m20 m29
    rw [if_pos e2, if_pos e2]
    have ea : aval K pa' d x' = aval K pa d x := by
      unfold aval
      rw [if_neg (by have := he.2.1; omega), if_neg (by have := he.2.1; omega)]
      exact ev_x gN m20 m21 m29 (x1 e2).1 hx.1 hp
    rw [ea]
    exact XPE_put s.2.1 s.2.2 hx
  · have s := PLS_s hp2 m20 m29
    obtain ⟨i1, i2, i3⟩ := aidx_x g h47 (x2 e2).1 hx hp
    rw [if_neg (by omega), if_neg (by omega), if_pos e2, if_neg (by omega), if_neg (by omega), if_pos e2, i1, hx.2.1 _ i2 i3]
    exact XPE_put s.2.1 s.2.2 hx
  · obtain ⟨i1, i2, i3⟩ := aidx_x g h47 (x3 e2).1 hx hp
    have ea : aval K pa' d x' = aval K pa d x := by
      unfold aval
      rw [if_neg (by have := he2.2.1; omega), if_neg (by have := he2.2.1; omega)]
      exact ev_x gN m20 m21 m29 (x3 e2).2.1 hx.1 hp
    rw [if_neg (by omega), if_neg (by omega), if_neg (by omega), if_pos e2, if_neg (by omega), if_neg (by omega), if_neg (by omega), if_pos e2, i1, ea]
    exact XPE_set hx
  · rcases e1 with e1 | e1
    · rw [if_neg (by omega), if_neg (by omega), if_neg (by omega), if_neg (by omega), if_neg (by omega), if_neg (by omega), if_neg (by omega), if_neg (by omega)]
      exact XPE_set hx
    · rw [if_neg (by omega), if_pos (by omega), if_neg (by omega), if_pos (by omega)]
      exact XPE_take hx
  · rw [if_neg (by omega), if_neg (by omega), if_neg (by omega), if_neg (by omega), if_neg (by omega), if_neg (by omega), if_neg (by omega), if_neg (by omega)]
    exact XPE_set hx

def gtF : List Nat := [177]
def gtA : List Nat := [138, 169, 171, 172, 173, 174, 175, 178]
theorem PGm_f {M' : mR} (g : PGm K M) (f : fr gtF gtA M M') : PGm K M' := by
  obtain ⟨gN, gA, m20, m21, m22, m29⟩ := g
  refine ⟨?_, ?_, by rw [fr1 f 20 rfl]; exact m20, by rw [fr1 f 21 rfl]; exact m21, by rw [fr1 f 22 rfl]; exact m22, by rw [fr1 f 20 rfl, fr2 f 29 rfl, fr2 f 34 rfl]; exact m29⟩
  · unfold NDR_nx
    rw [fr1 f 20 rfl, fr1 f 21 rfl, fr1 f 28 rfl, fr2 f 29 rfl, fr2 f 33 rfl, fr2 f 34 rfl, fr2 f 35 rfl, fr2 f 65 rfl, fr2 f 66 rfl, fr2 f 67 rfl, fr2 f 68 rfl]
    exact gN
  · unfold AR
    rw [fr1 f 22 rfl, fr2 f 36 rfl, fr2 f 93 rfl]
    exact gA
theorem DEd_f {M' : mR} (h : DEd d K M) (f : fr gtF gtA M M') : DEd d K M' := by
  unfold DEd
  rw [fr1 f 20 rfl, fr1 f 21 rfl, fr1 f 22 rfl, fr2 f 29 rfl, fr2 f 34 rfl, fr2 f 101 rfl, fr2 f 102 rfl, fr2 f 103 rfl, fr2 f 104 rfl, fr2 f 105 rfl, fr2 f 106 rfl, fr2 f 107 rfl, fr2 f 108 rfl]
  exact h
theorem XDm_g {M' : mR} (h : XDm ac d K M) (f : fr gtF gtA M M') : XDm ac d K M' := by
  unfold XDm
  rw [PW_c_nx f rfl, fr2 f 36 rfl, fr2 f 102 rfl, fr2 f 103 rfl]
  exact h

theorem deeds_r {f c : Int} {pa : Int → Int} (g : RGs K M) (gp : PGm K M) (c0 : 0 ≤ c) (c12 : c ≤ 12) (f0 : 0 ≤ f) (f1 : f ≤ 4000) (hd : ∀ d, f ≤ d → d < f + c → DEd d K M ∧ XDm ac d K M) (hP : PVm K ac (M.2 174)) (hp : ac ≠ -1 → ∀ i, 0 ≤ i → i < K.2 39 ac → M.2 174 i = pa i) (e109 : M.2 109 t = f) (e50 : M.2 50 t = c) : RP (whl (rfb_doTable_246 t) (f, M)) (fun e => XPE (XSm at' e) (adeeds K pa f c.toNat (XSm at' M)) ∧ RGs K e ∧ fr gtF gtA M e ∧ fr [177] [138, 171, 172, 173, 175] M e) := by
  refine RP_whl (I := fun s : Int × mR => (f ≤ s.1 ∧ s.1 ≤ f + c) ∧ XPE (XSm at' s.2) (adeeds K pa f (s.1 - f).toNat (XSm at' M)) ∧ RGs K s.2 ∧ fr [177] [138, 171, 172, 173, 175] M s.2) (fun s hs => ?_) ⟨⟨Int.le_refl _, by show f ≤ f + c; omega⟩, by show XPE (XSm at' M) (adeeds K pa f (f - f).toNat (XSm at' M)); rw [show (f - f).toNat = 0 by omega]; exact XPE_r, g, fr_0⟩
  obtain ⟨i, q⟩ := s
  obtain ⟨⟨i0, i1⟩, hx, hg, fq⟩ := hs
  have i0 : f ≤ i := i0
  have i1 : i ≤ f + c := i1
  have hx : XPE (XSm at' q) (adeeds K pa f (i - f).toNat (XSm at' M)) := hx
  have hg : RGs K q := hg
  have fq : fr [177] [138, 171, 172, 173, 175] M q := fq
  have fq' : fr gtF gtA M q := fr_s fq fr_0 (by decide +kernel) (by decide +kernel)
  unfold rfb_doTable_246
  show RP (if cut (q.2 109 t + q.2 50 t) ≤ i then some (Sum.inr q) else bnd (rf_doStatement i q) fun y7 => rfl_doTable_270 t i y7.2) _
  rw [fr2 fq 109 rfl, fr2 fq 50 rfl, e109, e50, cut_i (by omega) (by omega)]
  refine RP_ite (fun gg => RP_some ⟨?_, hg, fq', fq⟩) (fun gg => ?_)
  · rw [show c.toNat = (i - f).toNat by omega]
    exact hx
  obtain ⟨d1, d2⟩ := hd i i0 (by omega)
  have q174 : q.2 174 = M.2 174 := fr2 fq 174 rfl
  have gq := PGm_f gp fq'
  refine RP_bnd (deed_r (at' := at') hg gq.2.1 (DEd_f d1 fq') (XDm_g d2 fq') (by rw [q174]; exact hP) gq.2.2.2.2.1) (fun z hz => ?_)
  obtain ⟨z1, z2, z3⟩ := hz
  unfold rfl_doTable_270
  rw [cut_i (by omega) (by omega)]
  refine RP_some ⟨⟨show f ≤ i + 1 by omega, show i + 1 ≤ f + c by omega⟩, ?_, z2, fr_s z3 fq rfl rfl⟩
  show XPE (XSm at' z.2) (adeeds K pa f (i + 1 - f).toNat (XSm at' M))
  rw [show (i + 1 - f).toNat = (i - f).toNat + 1 by omega]
  show XPE (XSm at' z.2) (adeed K pa (f + ((i - f).toNat : Nat)) (adeeds K pa f (i - f).toNat (XSm at' M)))
  rw [show f + (((i - f).toNat : Nat) : Int) = i by omega]
  exact XPE_t z1 (XPE_adeed gp d1 d2 hx (fun h j j0 j1 => by rw [q174]; exact hp h j j0 j1))
end SMC

section SMD
variable {K M : mR} {t at' : Int}
theorem PV_0 {pa : Int → Int} : PVm K (-1) pa := fun q => absurd rfl q
theorem RGs_k {M' : mR} (g : RGs K M) (f : fr [] [173, 174, 178] M M') : RGs K M' := RGs_c g (fr_s f fr_0 rfl rfl) (VWm_f g.1.2.2.1 f rfl rfl) (IZm_f g.2 f rfl)
theorem keys_r (g : RGs K M) (gp : PGm K M) (t0 : 0 ≤ t) (t7 : t ≤ 7) (hK : TK_nx t K M) (hX : XK t (M.2 51 t) K) : RP (whl (rfb_doTable_2 t) (0, M)) (fun e => fr [] [173, 178] M e ∧ ∀ i, 0 ≤ i → i < M.2 51 t → e.2 178 i = ev K (smM M) (fun _ => 0) (K.2 79 (65536 * t + i)) (K.2 80 (65536 * t + i))) := by
  obtain ⟨k72, n0, n4, hk, -⟩ := hK
  obtain ⟨gN, gA, m20, m21, m22, m29⟩ := gp
  refine RP_whl (I := fun s : Int × mR => (0 ≤ s.1 ∧ s.1 ≤ M.2 51 t) ∧ fr [] [173, 178] M s.2 ∧ ∀ i, 0 ≤ i → i < s.1 → s.2.2 178 i = ev K (smM M) (fun _ => 0) (K.2 79 (65536 * t + i)) (K.2 80 (65536 * t + i))) (fun s hs => ?_) ⟨⟨Int.le_refl _, n0⟩, fr_0, fun i i0 i1 => by have i1 : i < 0 := i1; omega⟩
  obtain ⟨i, q⟩ := s
  obtain ⟨⟨i0, i1⟩, fq, h⟩ := hs
  have i0 : 0 ≤ i := i0
  have i1 : i ≤ M.2 51 t := i1
  have fq : fr [] [173, 178] M q := fq
  have h : ∀ j, 0 ≤ j → j < i → q.2 178 j = ev K (smM M) (fun _ => 0) (K.2 79 (65536 * t + j)) (K.2 80 (65536 * t + j)) := h
  unfold rfb_doTable_2
  show RP (if q.2 51 t ≤ i then some (Sum.inr q) else bnd (rf_worth (q.2 110 (cut (cut (4 * t) + i))) (q.2 111 (cut (cut (4 * t) + i))) q) fun y51 => rfl_doTable_41 t i i y51.1 y51.2) _
  rw [fr2 fq 51 rfl, fr2 fq 110 rfl, fr2 fq 111 rfl, cut_i (z := 4 * t) (by omega) (by omega), cut_i (z := 4 * t + i) (by omega) (by omega)]
  refine RP_ite (fun g1 => RP_some ⟨fq, fun j j0 j1 => h j j0 (by omega)⟩) (fun g1 => ?_)
  obtain ⟨k79, k80, k80', -⟩ := hk i i0 (by omega)
  have hE := (hX i i0 (by omega)).1
  rw [← k79, ← k80']
  have gq := RGs_k g (fr_s fq fr_0 rfl rfl : fr [] [173, 174, 178] M q)
  refine RP_bnd (worth_m gq.1 PV_0 hE) (fun z hz => ?_)
  obtain ⟨z1, -, z3⟩ := hz
  rw [smM_c fq rfl rfl, ev_x gN m20 m21 m29 hE (sl := smM M) (pa := fun _ => 0) (fun _ _ _ => rfl) (fun q => absurd rfl q)] at z1
  unfold rfl_doTable_41
  rw [cut_i (z := i + 1) (by omega) (by omega)]
  refine RP_some ⟨⟨show 0 ≤ i + 1 by omega, show i + 1 ≤ M.2 51 t by omega⟩, fr_m (fr_s z3 fq rfl rfl) rfl rfl, fun j j0 j1 => ?_⟩
  have j1 : j < i + 1 := j1
  show upI (z.2.2 178) i z.1 j = _
  by_cases ej : j = i
  · rw [ej, upI_s, z1]
  · rw [upI_n ej, fr2 z3 178 rfl]
    exact h j j0 (by omega)
theorem datm {b u : Int} (t0 : 0 ≤ t) (t7 : t ≤ 7) (b1 : b < 72) : RP (whl (rfb_doTable_185 t b u) (0, M)) (fun z => fr [] [174] M z ∧ ∀ i, 0 ≤ i → i < 4 → z.2 174 i = if 0 ≤ b then M.2 144 (4 * (96 * t + b) + i) else M.2 115 (4 * t + i)) := by
  refine RP_whl (I := fun s : Int × mR => (0 ≤ s.1 ∧ s.1 ≤ 4) ∧ fr [] [174] M s.2 ∧ ∀ i, 0 ≤ i → i < s.1 → s.2.2 174 i = if 0 ≤ b then M.2 144 (4 * (96 * t + b) + i) else M.2 115 (4 * t + i)) (fun s hs => ?_) ⟨⟨Int.le_refl _, show (0 : Int) ≤ 4 by decide⟩, fr_0, fun i i0 i1 => by have i1 : i < 0 := i1; omega⟩
  obtain ⟨i, q⟩ := s
  obtain ⟨⟨i0, i1⟩, fq, h⟩ := hs
  have i0 : 0 ≤ i := i0
  have i1 : i ≤ 4 := i1
  have fq : fr [] [174] M q := fq
  have h : ∀ j, 0 ≤ j → j < i → q.2 174 j = if 0 ≤ b then M.2 144 (4 * (96 * t + b) + j) else M.2 115 (4 * t + j) := h
  have step : ∀ v : Int, (v = if 0 ≤ b then M.2 144 (4 * (96 * t + b) + i) else M.2 115 (4 * t + i)) → i < 4 → RP (rfl_doTable_231 t b u i i v q) (sel (fun s : Int × mR => (0 ≤ s.1 ∧ s.1 ≤ 4) ∧ fr [] [174] M s.2 ∧ ∀ i, 0 ≤ i → i < s.1 → s.2.2 174 i = if 0 ≤ b then M.2 144 (4 * (96 * t + b) + i) else M.2 115 (4 * t + i)) (fun z : mR => fr [] [174] M z ∧ ∀ i, 0 ≤ i → i < 4 → z.2 174 i = if 0 ≤ b then M.2 144 (4 * (96 * t + b) + i) else M.2 115 (4 * t + i))) := fun v hv i4 => by
    unfold rfl_doTable_231
    rw [cut_i (z := i + 1) (by omega) (by omega)]
    refine RP_some ⟨⟨show 0 ≤ i + 1 by omega, show i + 1 ≤ 4 by omega⟩, fr_m fq rfl rfl, fun j j0 j1 => ?_⟩
    have j1 : j < i + 1 := j1
    show upI (q.2 174) i v j = _
    by_cases ej : j = i
    · rw [ej, upI_s, hv]
    · rw [upI_n ej]
      exact h j j0 (by omega)
  unfold rfb_doTable_185
  refine RP_ite (fun g => RP_some ⟨fq, fun j j0 j1 => h j j0 (by have g : (4 : Int) ≤ i := g; omega)⟩) (fun g => ?_)
  have g : ¬ (4 : Int) ≤ i := g
  show RP (if (0 : Int) ≤ b then bnd (rf_slot t b q) fun y16 => rfl_doTable_231 t b u i i (q.2 144 (cut (cut (4 * y16) + i))) q else rfl_doTable_231 t b u i i (q.2 115 (cut (cut (4 * t) + i))) q) _
  refine RP_ite (fun b0 => ?_) (fun b0 => ?_)
  · unfold rf_slot
    rw [bnd_some, cut_i (z := 96 * t) (by omega) (by omega), cut_i (z := 96 * t + b) (by omega) (by omega), cut_i (z := 4 * (96 * t + b)) (by omega) (by omega), cut_i (z := 4 * (96 * t + b) + i) (by omega) (by omega), fr2 fq 144 rfl]
    exact step _ (by rw [if_pos b0]) (by omega)
  · rw [cut_i (z := 4 * t) (by omega) (by omega), cut_i (z := 4 * t + i) (by omega) (by omega), fr2 fq 115 rfl]
    exact step _ (by rw [if_neg b0]) (by omega)

def ACm (K M : mR) : Prop := ∀ a, 0 ≤ a → a < M.1 25 → (K.2 43 a = M.2 109 a ∧ 0 ≤ M.2 109 a ∧ M.2 109 a ≤ 4000) ∧ (K.2 44 a = M.2 50 a ∧ 0 ≤ M.2 50 a ∧ M.2 50 a ≤ 12) ∧ (K.2 39 a = M.2 46 a ∧ 0 ≤ M.2 46 a ∧ M.2 46 a ≤ 4) ∧ (∀ i, 0 ≤ i → i < M.2 46 a → K.2 40 (4 * a + i) = M.2 49 (4 * a + i) ∧ 1 ≤ M.2 49 (4 * a + i) ∧ M.2 49 (4 * a + i) ≤ 64) ∧ ∀ d, M.2 109 a ≤ d → d < M.2 109 a + M.2 50 a → DEd d K M ∧ XDm a d K M

def TBm (t : Int) (K M : mR) : Prop := (0 ≤ t ∧ t ≤ 7) ∧ TK_nx t K M ∧ XK t (M.2 51 t) K ∧ PK1 t (M.2 51 t) K ∧ TQ1 t K M ∧ DT2 t K M ∧ (K.2 74 t = M.2 57 t ∧ 0 ≤ M.2 57 t ∧ M.2 57 t < M.1 25)
theorem doTable_r (g : RGs K M) (gp : PGm K M) (hT : TBm t K M) (hA : ACm K M) (m25 : M.1 25 ≤ 16) (h115 : ∀ j, R64 (M.2 115 j)) : RP (rf_doTable t M) (fun z => z.1 = (lkK K t (akeys K t (XSm at' M))).1 ∧ XPE (XSm at' z.2) (adeeds K (lkK K t (akeys K t (XSm at' M))).2 (K.2 43 (lkK K t (akeys K t (XSm at' M))).1) (K.2 44 (lkK K t (akeys K t (XSm at' M))).1).toNat (XSm at' M)) ∧ RGs K z.2 ∧ fr [177] [138, 171, 172, 173, 174, 175, 178] M z.2) := by
  obtain ⟨⟨t0, t7⟩, hK, hX, hP, hQ, hD, h74, h57, h57'⟩ := hT
  unfold rf_doTable
  refine RP_bnd (keys_r g gp t0 t7 hK hX) (fun e he => ?_)
  obtain ⟨fe, h178⟩ := he
  have k72 := hK.1
 
  have ek : ∀ i : Nat, (i : Int) < K.2 72 t → e.2 178 i = akeys K t (XSm at' M) i := fun i hi => by
    unfold akeys
    rw [if_pos ⟨by omega, hi⟩, h178 i (by omega) (by omega)]
    rfl
  have fe' : fr gtF gtA M e := fr_s fe fr_0 (by decide +kernel) (by decide +kernel)
  have ge := RGs_k g (fr_s fe fr_0 rfl rfl : fr [] [173, 174, 178] M e)
  have hKe : TK_nx t K e := TK_f_nx hK (fr_0 : fr [] [] K K) fe rfl rfl
  have hQe : TQ1 t K e := by
    unfold TQ1 TR2
    rw [fr1 fe 25 rfl, fr2 fe 46 rfl, fr2 fe 49 rfl, fr2 fe 51 rfl, fr2 fe 54 rfl, fr2 fe 58 rfl, fr2 fe 139 rfl, fr2 fe 140 rfl, fr2 fe 141 rfl, fr2 fe 142 rfl, fr2 fe 143 rfl, fr2 fe 144 rfl]
    exact hQ
  unfold rfl_doTable_48
  refine RP_bnd (lkm t0 t7 hKe (by rw [fr2 fe 51 rfl]; exact hP) hQe) (fun b hb => ?_)
  rw [mtk_c (ks := akeys K t (XSm at' M)) ek] at hb
  obtain ⟨k78, ⟨q0, q72⟩, -, hr, -⟩ := hQ
  obtain ⟨br, -, -⟩ := mtk_r K t (akeys K t (XSm at' M)) (K.2 78 t).toNat
  rw [← hb] at br
 
  obtain ⟨A, D, eAD, a0, a1, hv, hw⟩ : ∃ (A : Int) (D : Int → Int), lkK K t (akeys K t (XSm at' M)) = (A, D) ∧ 0 ≤ A ∧ A < M.1 25 ∧ (A = if 0 ≤ b then M.2 141 (96 * t + b) else M.2 57 t) ∧ ∀ i, 0 ≤ i → i < M.2 46 A → D i = (if 0 ≤ b then M.2 144 (4 * (96 * t + b) + i) else M.2 115 (4 * t + i)) ∧ VW (if 0 ≤ b then M.2 144 (4 * (96 * t + b) + i) else M.2 115 (4 * t + i)) (M.2 49 (4 * A + i)) := by
    unfold lkK
    rw [← hb]
    by_cases bn : b = -1
    · rw [if_pos bn, bn]
      refine ⟨_, _, rfl, by omega, by omega, by rw [if_neg (by decide)]; exact h74, fun i i0 i1 => ?_⟩
      rw [if_neg (by decide)]
      obtain ⟨-, -, ⟨p1, p2, p3⟩, p4, -⟩ := hA (M.2 57 t) h57 h57'
      rw [h74] at i1 ⊢
      obtain ⟨w1, w2, w3⟩ := p4 i i0 i1
      have hd := hD i i0 (by rw [h74]; omega)
      rw [h74] at hd
      rw [← w1]
      exact ⟨hd.1, VW_fit (h115 _) hd.2 (by omega) (by omega)⟩
    · rw [if_neg bn]
      have b0 : 0 ≤ b := by omega
      obtain ⟨-, -, r89, r25, r87⟩ := hr b b0 (by omega)
      rw [if_pos b0]
      refine ⟨_, _, rfl, by omega, by omega, r89, fun i i0 i1 => ?_⟩
      rw [r89] at i1 ⊢
      rw [if_pos b0]
      obtain ⟨w1, w2⟩ := r87 i i0 i1
      exact ⟨by show K.2 87 (65536 * t + (4 * b + i)) = _; rw [show 4 * b + i = b * 4 + i by omega]; exact w1, w2⟩
  rw [eAD]
  show RP _ (fun z : Int × mR => z.1 = A ∧ XPE (XSm at' z.2) (adeeds K D (K.2 43 A) (K.2 44 A).toNat (XSm at' M)) ∧ RGs K z.2 ∧ fr [177] [138, 171, 172, 173, 174, 175, 178] M z.2)
  obtain ⟨⟨p1, p2, p2'⟩, ⟨p3, p4, p4'⟩, ⟨p5, p6, p6'⟩, p7, p8⟩ := hA A a0 a1
 
  have go : RP (rfl_doTable_181 t b A e) (fun z => z.1 = A ∧ XPE (XSm at' z.2) (adeeds K D (K.2 43 A) (K.2 44 A).toNat (XSm at' M)) ∧ RGs K z.2 ∧ fr [177] [138, 171, 172, 173, 174, 175, 178] M z.2) := by
    unfold rfl_doTable_181
    refine RP_bnd (datm t0 t7 (by omega)) (fun q hq => ?_)
    obtain ⟨fq, h174⟩ := hq
    have fMq : fr [] [173, 174, 178] M q := fr_s fq (fr_s fe fr_0 rfl rfl) rfl rfl
    have fMq' : fr gtF gtA M q := fr_s fMq fr_0 (by decide +kernel) (by decide +kernel)
    have d174 : ∀ i, 0 ≤ i → i < K.2 39 A → q.2 174 i = D i ∧ VW (q.2 174 i) (M.2 49 (4 * A + i)) := fun i i0 i1 => by
      obtain ⟨w1, w2⟩ := hw i i0 (by omega)
      have h4 := h174 i i0 (by omega)
      rw [fr2 fe 144 rfl, fr2 fe 115 rfl] at h4
      rw [h4]
      exact ⟨w1.symm, w2⟩
    unfold rfl_doTable_238
    have e109 : q.2 109 A = M.2 109 A := by rw [fr2 fMq 109 rfl]
    have e50 : q.2 50 A = M.2 50 A := by rw [fr2 fMq 50 rfl]
    rw [e109]
    refine RP_bnd (deeds_r (at' := at') (ac := A) (t := A) (c := M.2 50 A) (pa := D) (RGs_k g fMq) (PGm_f gp fMq') p4 p4' p2 p2' (fun d d0 d1 => ⟨DEd_f (p8 d d0 d1).1 fMq', XDm_g (p8 d d0 d1).2 fMq'⟩) (fun _ i i0 i1 => ?_) (fun _ i i0 i1 => (d174 i i0 i1).1) e109 e50) (fun z hz => RP_some ⟨rfl, ?_, hz.2.1, fr_s hz.2.2.2 (fr_s fMq fr_0 rfl rfl) rfl rfl⟩)
    · rw [cut_i (z := A * 4) (by omega) (by omega), cut_i (z := A * 4 + i) (by omega) (by omega), show A * 4 + i = 4 * A + i by omega, (p7 i i0 (by omega)).1]
      exact (d174 i i0 i1).2
    · rw [p1, p3]
      have x := hz.1
      rw [XSm_f fMq rfl rfl] at x
      exact x
  unfold rfl_doTable_157
  refine RP_ite (fun b0 => ?_) (fun b0 => ?_)
  · rw [if_pos b0] at hv
    unfold rf_slot
    rw [bnd_some, cut_i (z := 96 * t) (by omega) (by omega), cut_i (z := 96 * t + b) (by omega) (by omega), fr2 fe 141 rfl, ← hv]
    exact go
  · rw [if_neg b0] at hv
    rw [fr2 fe 57 rfl, ← hv]
    exact go
end SMD

section SME
variable {K M : mR} {t at' s : Int}
theorem TBm_g {M' : mR} (h : TBm t K M) (f : fr gtF gtA M M') : TBm t K M' := by
  obtain ⟨h1, h2, h3, h4, h5, h6, h7⟩ := h
  refine ⟨h1, TK_f_nx h2 (fr_0 : fr [] [] K K) f rfl rfl, by rw [fr2 f 51 rfl]; exact h3, by rw [fr2 f 51 rfl]; exact h4, ?_, DT2_f h6 (fr_0 : fr [] [] K K) f rfl rfl, by rw [fr2 f 57 rfl, fr1 f 25 rfl]; exact h7⟩
  unfold TQ1 TR2
  rw [fr1 f 25 rfl, fr2 f 46 rfl, fr2 f 49 rfl, fr2 f 51 rfl, fr2 f 54 rfl, fr2 f 58 rfl, fr2 f 139 rfl, fr2 f 140 rfl, fr2 f 141 rfl, fr2 f 142 rfl, fr2 f 143 rfl, fr2 f 144 rfl]
  exact h5
theorem ACm_g {M' : mR} (h : ACm K M) (f : fr gtF gtA M M') : ACm K M' := fun a a0 a1 => by
  rw [fr1 f 25 rfl] at a1
  obtain ⟨h1, h2, h3, h4, h5⟩ := h a a0 a1
  refine ⟨by rw [fr2 f 109 rfl]; exact h1, by rw [fr2 f 50 rfl]; exact h2, by rw [fr2 f 46 rfl]; exact h3, by rw [fr2 f 46 rfl, fr2 f 49 rfl]; exact h4, fun d d0 d1 => ?_⟩
  rw [fr2 f 109 rfl] at d0
  rw [fr2 f 109 rfl, fr2 f 50 rfl] at d1
  obtain ⟨x, y⟩ := h5 d d0 d1
  exact ⟨DEd_f x f, XDm_g y f⟩

def STm (s : Int) (K M : mR) : Prop := (K.2 52 s = M.2 60 s ∧ K.2 53 s = M.2 61 s ∧ K.2 54 s = M.2 62 s ∧ K.2 55 s = M.2 63 s) ∧ (M.2 61 s = -1 ∨ (0 ≤ M.2 61 s ∧ M.2 61 s < s)) ∧ ((M.2 60 s = 0 ∧ K.2 56 s = M.2 120 s ∧ DEd (M.2 120 s) K M ∧ XDm (-1) (M.2 120 s) K M) ∨ (M.2 60 s = 1 ∧ EXR_nx (K.2 57 s) (K.2 58 s) (M.2 121 s) (M.2 122 s) ∧ XE K (-1) (K.2 57 s) (K.2 58 s)) ∨ (M.2 60 s = 2 ∧ TBm (M.2 63 s) K M))
theorem STm_g {M' : mR} (h : STm s K M) (f : fr gtF gtA M M') : STm s K M' := by
  unfold STm
  rw [fr2 f 60 rfl, fr2 f 61 rfl, fr2 f 62 rfl, fr2 f 63 rfl, fr2 f 120 rfl, fr2 f 121 rfl, fr2 f 122 rfl]
  obtain ⟨h1, h2, h3⟩ := h
  refine ⟨h1, h2, ?_⟩
  rcases h3 with ⟨a, b, c, d⟩ | h3 | ⟨a, b⟩
  · exact Or.inl ⟨a, b, DEd_f c f, XDm_g d f⟩
  · exact Or.inr (Or.inl h3)
  · exact Or.inr (Or.inr ⟨a, TBm_g b f⟩)
theorem akeys_x (gp : PGm K M) (hK : TK_nx t K M) (hX : XK t (M.2 51 t) K) {x x' : XSt} (hx : XPE x' x) : akeys K t x' = akeys K t x := by
  obtain ⟨gN, gA, m20, m21, m22, m29⟩ := gp
  funext i
  unfold akeys
  by_cases q : 0 ≤ i ∧ i < K.2 72 t
  · rw [if_pos q, if_pos q]
    exact ev_x gN m20 m21 m29 (hX i q.1 (by have := hK.1; omega)).1 hx.1 (fun q => absurd rfl q)
  · rw [if_neg q, if_neg q]
theorem XPE_adeeds {ac f : Int} {pa : Int → Int} (gp : PGm K M) : ∀ {n : Nat}, (∀ i : Nat, i < n → DEd (f + i) K M ∧ XDm ac (f + i) K M) → ∀ {x x' : XSt}, XPE x' x → XPE (adeeds K pa f n x') (adeeds K pa f n x) := by
  intro n
  induction n with
  | zero => exact fun _ _ _ h => h
  | succ n ih =>
    intro h x x' hx
    obtain ⟨a, b⟩ := h n (by omega)
    exact XPE_adeed gp a b (ih (fun i hi => h i (by omega)) hx) (fun _ _ _ _ => rfl)

theorem lk_A (hT : TBm t K M) {ks : Int → Int} : 0 ≤ (lkK K t ks).1 ∧ (lkK K t ks).1 < M.1 25 := by
  obtain ⟨-, -, -, -, hQ, -, h74, h57, h57'⟩ := hT
  obtain ⟨k78, ⟨q0, q72⟩, -, hr, -⟩ := hQ
  obtain ⟨br, -, -⟩ := mtk_r K t ks (K.2 78 t).toNat
  unfold lkK
  by_cases bn : (mtk K t ks (K.2 78 t).toNat).1 = -1
  · rw [if_pos bn]
    show 0 ≤ K.2 74 t ∧ K.2 74 t < M.1 25
    omega
  · rw [if_neg bn]
    obtain ⟨-, -, r89, r25, -⟩ := hr (mtk K t ks (K.2 78 t).toNat).1 (by omega) (by omega)
    show 0 ≤ K.2 89 _ ∧ K.2 89 _ < M.1 25
    rw [r89]
    exact r25
theorem XPE_adoes (gp : PGm K M) (hA : ACm K M) (hs : STm s K M) {x x' : XSt} (hx : XPE x' x) : XPE (adoes K (lkK K) s x') (adoes K (lkK K) s x) := by
  obtain ⟨gN, gA, m20, m21, m22, m29⟩ := id gp
  obtain ⟨⟨e52, e53, e54, e55⟩, -, h⟩ := hs
  unfold adoes
  rcases h with ⟨k, e56, d1, d2⟩ | ⟨k, he, hE⟩ | ⟨k, hT⟩
  · rw [if_neg (by omega), if_neg (by omega), if_neg (by omega), if_neg (by omega), e56]
    exact XPE_set (XPE_adeed gp d1 d2 hx (fun q => absurd rfl q))
  · rw [if_pos (by omega), if_pos (by omega), ev_x gN m20 m21 m29 hE (sl := x 0) (sl' := x' 0) (pa := fun _ => 0) hx.1 (fun q => absurd rfl q)]
    exact XPE_set hx
  · rw [if_neg (by omega), if_pos (by omega), if_neg (by omega), if_pos (by omega), e55, akeys_x gp hT.2.1 hT.2.2.1 hx]
    obtain ⟨a0, a1⟩ := lk_A hT (ks := akeys K (M.2 63 s) x)
    obtain ⟨⟨p1, -, -⟩, ⟨p3, p4, -⟩, -, -, p8⟩ := hA _ a0 a1
    refine XPE_set (XPE_adeeds gp (ac := (lkK K (M.2 63 s) (akeys K (M.2 63 s) x)).1) (fun i hi => ?_) hx)
    rw [p1]
    exact p8 _ (by omega) (by omega)
theorem XPE_astep (gp : PGm K M) (hA : ACm K M) (hs : STm s K M) (s1 : s < 48) {x x' : XSt} (hx : XPE x' x) : XPE (astep K (lkK K) s x') (astep K (lkK K) s x) := by
  have h2 := hs.2.1
  have e53 := hs.1.2.1
  unfold astep
  by_cases q : K.2 53 s = -1 ∨ x 2 (K.2 53 s) = K.2 54 s
  · rw [if_pos q, if_pos (by
      rcases q with q | q
      · exact Or.inl q
      · rcases h2 with h2 | ⟨h2, h3⟩
        · exact Or.inl (by omega)
        · exact Or.inr (by rw [hx.2.2 _ (by omega) (by omega)]; exact q))]
    exact XPE_adoes gp hA hs hx
  · rw [if_neg q, if_neg (fun z => q (by
      rcases z with z | z
      · exact Or.inl z
      · rcases h2 with h2 | ⟨h2, h3⟩
        · exact Or.inl (by omega)
        · exact Or.inr (by rw [← hx.2.2 _ (by omega) (by omega)]; exact z)))]
    exact hx

def GTm (K M : mR) : Prop := PGm K M ∧ ACm K M ∧ M.1 25 ≤ 16 ∧ (∀ j, R64 (M.2 115 j)) ∧ (0 ≤ M.1 27 ∧ M.1 27 ≤ 48) ∧ ∀ s, 0 ≤ s → s < M.1 27 → STm s K M
theorem GTm_g {M' : mR} (h : GTm K M) (f : fr gtF gtA M M') : GTm K M' := by
  obtain ⟨h1, h2, h3, h4, h5, h6⟩ := h
  refine ⟨PGm_f h1 f, ACm_g h2 f, by rw [fr1 f 25 rfl]; exact h3, by rw [fr2 f 115 rfl]; exact h4, by rw [fr1 f 27 rfl]; exact h5, fun s s0 s1 => ?_⟩
  rw [fr1 f 27 rfl] at s1
  exact STm_g (h6 s s0 s1) f
def rowM (at' : Int) (M M' : mR) : Prop := ∀ j, j < 48 * at' ∨ 48 * at' + 48 ≤ j → M'.2 169 j = M.2 169 j
theorem goThrough_r (g : RGs K M) (gt : GTm K M) (a0 : 0 ≤ at') (a1 : at' ≤ 127) : RP (rf_goThrough at' M) (fun z => XPE (XSm at' z.2) (pgo (fun s => astep K (lkK K) (s : Int)) (M.1 27).toNat (XSm at' M)) ∧ RGs K z.2 ∧ fr gtF gtA M z.2 ∧ rowM at' M z.2) := by
  obtain ⟨st, est⟩ : ∃ st : Nat → XSt → XSt, st = fun s : Nat => astep K (lkK K) (s : Int) := ⟨_, rfl⟩
  rw [← est]
  obtain ⟨n0, n48⟩ := gt.2.2.2.2.1
  unfold rf_goThrough
  refine RP_bnd (P := fun e => XPE (XSm at' e) (pgo st (M.1 27).toNat (XSm at' M)) ∧ RGs K e ∧ fr gtF gtA M e ∧ rowM at' M e) (RP_whl (I := fun q : Int × mR => (0 ≤ q.1 ∧ q.1 ≤ M.1 27) ∧ XPE (XSm at' q.2) (pgo st q.1.toNat (XSm at' M)) ∧ RGs K q.2 ∧ fr gtF gtA M q.2 ∧ rowM at' M q.2) (fun q hq => ?_) ⟨⟨Int.le_refl _, n0⟩, XPE_r, g, fr_0, fun _ _ => rfl⟩) (fun e he => RP_some he)
  obtain ⟨i, q⟩ := q
  obtain ⟨⟨i0, i1⟩, hx, hg, fq, hr⟩ := hq
  have i0 : 0 ≤ i := i0
  have i1 : i ≤ M.1 27 := i1
  have hx : XPE (XSm at' q) (pgo st i.toNat (XSm at' M)) := hx
  have hg : RGs K q := hg
  have fq : fr gtF gtA M q := fq
  have hr : rowM at' M q := hr
  unfold rfb_goThrough_2
  show RP (if q.1 27 ≤ i then some (Sum.inr q) else if q.2 61 i < 0 then rfl_goThrough_44 at' i q else if q.2 169 (cut (cut (48 * at') + q.2 61 i)) = q.2 62 i then rfl_goThrough_44 at' i q else rfl_goThrough_126 at' i q) _
  rw [fr1 fq 27 rfl]
  refine RP_ite (fun gg => RP_some ⟨?_, hg, fq, hr⟩) (fun gg => ?_)
  · rw [show (M.1 27).toNat = i.toNat by omega]
    exact hx
  have hsM := gt.2.2.2.2.2 i i0 (by omega)
  have gq := GTm_g gt fq
  have hs := STm_g hsM fq
  obtain ⟨⟨e52, e53, e54, e55⟩, hpar, hk⟩ := id hs
  have e4 : (i + 1).toNat = i.toNat + 1 := by omega
  have it : ((i.toNat : Nat) : Int) = i := by omega
  have nxt : pgo st (i + 1).toNat (XSm at' M) = astep K (lkK K) i (pgo st i.toNat (XSm at' M)) := by
    rw [e4]
    show st i.toNat (pgo st i.toNat (XSm at' M)) = _
    rw [est]
    show astep K (lkK K) ((i.toNat : Nat) : Int) _ = _
    rw [it]
  have hstep := XPE_astep gt.1 gt.2.1 hsM (show i < 48 by omega) hx
 
  have fin : ∀ (z : mR) (v : Int), adoes K (lkK K) i (XSm at' q) = astep K (lkK K) i (XSm at' q) → XPE (setp 2 i v (XSm at' z)) (adoes K (lkK K) i (XSm at' q)) → RGs K z → fr gtF gtA q z → z.2 169 = q.2 169 → RP (rfl_goThrough_113 at' i v z) (sel (fun q : Int × mR => (0 ≤ q.1 ∧ q.1 ≤ M.1 27) ∧ XPE (XSm at' q.2) (pgo st q.1.toNat (XSm at' M)) ∧ RGs K q.2 ∧ fr gtF gtA M q.2 ∧ rowM at' M q.2) (fun e : mR => XPE (XSm at' e) (pgo st (M.1 27).toNat (XSm at' M)) ∧ RGs K e ∧ fr gtF gtA M e ∧ rowM at' M e)) := fun z v ed hz gz fz z169 => by
    unfold rfl_goThrough_113 rfl_goThrough_126
    rw [cut_i (z := 48 * at') (by omega) (by omega), cut_i (z := 48 * at' + i) (by omega) (by omega), cut_i (z := i + 1) (by omega) (by omega)]
    have fw : fr [] [169] z (mO z [] [(169, upI (z.2 169) (48 * at' + i) v)]) := fr_m fr_0 rfl rfl
    refine RP_some ⟨⟨show 0 ≤ i + 1 by omega, show i + 1 ≤ M.1 27 by omega⟩, ?_, RGs_c gz (fr_s fw fr_0 rfl rfl) (VWm_f gz.1.2.2.1 fw rfl rfl) (IZm_f gz.2 fw rfl), fr_s fw (fr_s fz fq (by decide +kernel) (by decide +kernel)) (by decide +kernel) (by decide +kernel), fun j hj => ?_⟩
    · show XPE (XSm at' (mO z [] [(169, upI (z.2 169) (48 * at' + i) v)])) (pgo st (i + 1).toNat (XSm at' M))
      rw [nxt]
      refine XPE_t ?_ (XPE_t hz (by rw [ed]; exact hstep))
      refine ⟨fun s s0 s1 => rfl, fun j j0 j1 => rfl, fun s s0 s1 => ?_⟩
      show upI (z.2 169) (48 * at' + i) v (48 * at' + s) = upI (fun s => z.2 169 (48 * at' + s)) i v s
      by_cases es : s = i
      · rw [es, upI_s, upI_s]
      · rw [upI_n (by omega), upI_n es]
    · show upI (z.2 169) (48 * at' + i) v j = _
      rw [upI_n (by omega), z169]
      exact hr j hj
  have g44 : adoes K (lkK K) i (XSm at' q) = astep K (lkK K) i (XSm at' q) → RP (rfl_goThrough_44 at' i q) (sel (fun q : Int × mR => (0 ≤ q.1 ∧ q.1 ≤ M.1 27) ∧ XPE (XSm at' q.2) (pgo st q.1.toNat (XSm at' M)) ∧ RGs K q.2 ∧ fr gtF gtA M q.2 ∧ rowM at' M q.2) (fun e : mR => XPE (XSm at' e) (pgo st (M.1 27).toNat (XSm at' M)) ∧ RGs K e ∧ fr gtF gtA M e ∧ rowM at' M e)) := fun ed => by
    unfold rfl_goThrough_44 rfl_goThrough_95 rfl_goThrough_111
    rcases hk with ⟨k, e56, d1, d2⟩ | ⟨k, he, hE⟩ | ⟨k, hT⟩
    · rw [if_pos k]
      refine RP_bnd (deed_r (at' := at') (ac := -1) hg gq.1.2.1 d1 d2 PV_0 gq.1.2.2.2.2.1) (fun z hz => ?_)
      obtain ⟨z1, z2, z3⟩ := hz
      refine fin z.2 0 ed ?_ z2 (fr_s z3 fr_0 (by decide +kernel) (by decide +kernel)) (fr2 z3 169 rfl)
      unfold adoes
      rw [if_neg (by omega), if_neg (by omega), e56]
      exact XPE_set (XPE_t z1 (XPE_adeed gq.1 d1 d2 XPE_r (fun q => absurd rfl q)))
    · rw [if_neg (by omega), if_pos k]
      obtain ⟨q1, q2, q3⟩ := he
      rw [← q1, ← q3]
      refine RP_bnd (worth_m hg.1 PV_0 hE) (fun z hz => ?_)
      obtain ⟨z1, -, z3⟩ := hz
      refine fin z.2 (cut z.1) ed ?_ (RGs_k hg (fr_s z3 fr_0 rfl rfl)) (fr_s z3 fr_0 (by decide +kernel) (by decide +kernel)) (fr2 z3 169 rfl)
      unfold adoes
      obtain ⟨gN, gA, m20, m21, m22, m29⟩ := gq.1
      rw [if_pos (by omega), z1, XSm_f z3 rfl rfl, ev_x gN m20 m21 m29 hE (sl := smM q) (sl' := smM q) (pa := fun _ => 0) (pa' := q.2 174) (fun _ _ _ => rfl) (fun q => absurd rfl q)]
      exact XPE_r
    · rw [if_neg (by omega), if_neg (by omega)]
      refine RP_bnd (doTable_r (at' := at') hg gq.1 hT gq.2.1 gq.2.2.1 gq.2.2.2.1) (fun z hz => ?_)
      obtain ⟨z1, z2, z3, z4⟩ := hz
      refine fin z.2 z.1 ed ?_ z3 (fr_s z4 fr_0 (by decide +kernel) (by decide +kernel)) (fr2 z4 169 rfl)
      unfold adoes
      rw [if_neg (by omega), if_pos (by omega), e55, z1]
      exact XPE_set z2
  have q169 : ∀ p : Int, XSm at' q 2 p = q.2 169 (48 * at' + p) := fun p => rfl
  by_cases hn : q.2 61 i < 0
  · rw [if_pos hn]
    refine g44 ?_
    unfold astep
    rw [if_pos (Or.inl (by omega))]
  · rw [if_neg hn]
    have c1 : cut (cut (48 * at') + q.2 61 i) = 48 * at' + q.2 61 i := by rw [cut_i (z := 48 * at') (by omega) (by omega), cut_i (by omega) (by omega)]
    rw [c1]
    refine RP_ite (fun h1 => g44 ?_) (fun h1 => ?_)
    · unfold astep
      rw [if_pos (Or.inr (by rw [e53, e54, q169]; exact h1))]
    · unfold rfl_goThrough_126
      rw [cut_i (z := i + 1) (by omega) (by omega)]
      refine RP_some ⟨⟨show 0 ≤ i + 1 by omega, show i + 1 ≤ M.1 27 by omega⟩, ?_, hg, fq, hr⟩
      show XPE (XSm at' q) (pgo st (i + 1).toNat (XSm at' M))
      rw [nxt]
      have es : astep K (lkK K) i (XSm at' q) = XSm at' q := by
        unfold astep
        rw [if_neg (fun z => by
          rcases z with z | z
          · omega
          · rw [e53, e54, q169] at z
            exact h1 z)]
      rw [es] at hstep
      exact hstep
end SME
