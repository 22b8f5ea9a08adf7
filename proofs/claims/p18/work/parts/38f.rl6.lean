/-! ===== all steps touched by the reference ===== -/
section TAL
variable {K M K' M' : mR} {s : Int} {F A G C : List Nat}
def LYP (K M : mR) : Prop := GP K M ∧ ACw K M ∧ M.1 26 ≤ 8 ∧ TBn (M.1 26) K M ∧ (0 ≤ M.1 27 ∧ M.1 27 ≤ 48) ∧ CSn (M.1 27) K M ∧ (K.1 225 = M.1 27 ∧ M.1 25 ≤ 16) ∧ PA K M
theorem RGE_f (h : RGE M) (hM : fr G C M M') (c3 : chk [25, 26, 27, 28, 99] G = true) (c4 : chk [29, 50, 51, 60, 101, 105, 106, 107, 108, 109, 110, 111, 121, 122] C = true) : RGE M' := by
  unfold RGE
  rw [fr1 hM 25 (chk_1 c3 (by decide)), fr1 hM 26 (chk_1 c3 (by decide)), fr1 hM 27 (chk_1 c3 (by decide)), fr1 hM 28 (chk_1 c3 (by decide)), fr1 hM 99 (chk_1 c3 (by decide)), fr2 hM 29 (chk_1 c4 (by decide)), fr2 hM 50 (chk_1 c4 (by decide)), fr2 hM 51 (chk_1 c4 (by decide)), fr2 hM 60 (chk_1 c4 (by decide)), fr2 hM 101 (chk_1 c4 (by decide)), fr2 hM 105 (chk_1 c4 (by decide)), fr2 hM 106 (chk_1 c4 (by decide)), fr2 hM 107 (chk_1 c4 (by decide)), fr2 hM 108 (chk_1 c4 (by decide)), fr2 hM 109 (chk_1 c4 (by decide)), fr2 hM 110 (chk_1 c4 (by decide)), fr2 hM 111 (chk_1 c4 (by decide)), fr2 hM 121 (chk_1 c4 (by decide)), fr2 hM 122 (chk_1 c4 (by decide))]
  exact h
theorem LYP_f (h : LYP K M) (hK : fr F A K K') (hM : fr G C M M') (c1 : chk [220, 224, 225] F = true) (c2 : chk [18, 19, 39, 40, 41, 42, 43, 44, 45, 46, 47, 48, 49, 50, 51, 52, 53, 54, 55, 56, 57, 58, 72, 73, 74, 75, 76, 77, 79, 80, 81, 82, 83] A = true) (c3 : chk [6, 20, 21, 22, 25, 26, 27, 28, 99] G = true) (c4 : chk [4, 29, 34, 46, 47, 48, 49, 50, 51, 52, 53, 54, 55, 56, 57, 58, 60, 61, 62, 63, 65, 67, 101, 102, 103, 104, 105, 106, 107, 108, 109, 110, 111, 112, 113, 114, 120, 121, 122] C = true) : LYP K' M' := by
  obtain ⟨⟨h1, h2, h3, h4, h5, h6⟩, h7, h8, h9, h10, h11, h12, h13⟩ := h
  have e26 := fr1 hM 26 (chk_1 c3 (by decide))
  have e27 := fr1 hM 27 (chk_1 c3 (by decide))
  have e25 := fr1 hM 25 (chk_1 c3 (by decide))
  have e20 := fr1 hM 20 (chk_1 c3 (by decide))
  have e22 := fr1 hM 22 (chk_1 c3 (by decide))
  have e99 := fr1 hM 99 (chk_1 c3 (by decide))
  have k225 := fr1 hK 225 (chk_1 c1 (by decide))
  refine ⟨⟨NDR_f hK hM (chk_s c1 rfl) (chk_s c2 rfl) (chk_s c3 rfl) (chk_s c4 rfl) h1, by omega, by omega, by omega, DE_f hK hM (chk_s c1 rfl) (chk_s c2 rfl) (chk_s c3 rfl) (chk_s c4 rfl) h5, RGE_f h6 hM (chk_s c3 rfl) (chk_s c4 rfl)⟩, ACw_f h7 hK hM (chk_s c2 rfl) (chk_s c3 rfl) (chk_s c4 rfl), by omega, TBn_f2 h9 hK hM (by omega) e26 (chk_s c2 rfl) (chk_s c4 rfl), by omega, ?_, by omega, PA_f hK hM rfl (chk_s c2 rfl) (chk_s c3 rfl) (chk_s c4 rfl) h13⟩
  rw [e27]
  exact CSn_f h11 hK hM (chk_s c2 rfl) (chk_s c3 rfl) (chk_s c4 rfl) (by omega)
def ROWE (s : Int) (A B : mR) : Prop := (∀ y, 0 ≤ y → y < 221 → A.2 135 (221 * s + y) = B.2 135 (221 * s + y) ∧ A.2 136 (221 * s + y) = B.2 136 (221 * s + y)) ∧ ∀ a, 0 ≤ a → a < 8 → A.2 137 (8 * s + a) = B.2 137 (8 * s + a)
def TDn (M m : mR) (s : Int) : Prop := ∃ Ms Ms', rfb_touchesAll_53 (s, Ms) = some (Sum.inl (s + 1, Ms')) ∧ fr [] [135, 136, 137] M Ms ∧ ROWZ s Ms ∧ ROWE s m Ms'
theorem MRo_e {k : Int} (h : MRo k M M') (hs : s ≠ k) : ROWE s M' M := by
  refine ⟨fun y y0 y1 => h.1 _ ?_, fun a a0 a1 => h.2 _ ?_⟩
  · by_cases q : s < k
    · exact Or.inl (by omega)
    · exact Or.inr (by omega)
  · by_cases q : s < k
    · exact Or.inl (by omega)
    · exact Or.inr (by omega)
theorem ROWE_t {A B D : mR} (h : ROWE s A B) (h2 : ROWE s B D) : ROWE s A D := ⟨fun y y0 y1 => ⟨(h.1 y y0 y1).1.trans (h2.1 y y0 y1).1, (h.1 y y0 y1).2.trans (h2.1 y y0 y1).2⟩, fun a a0 a1 => (h.2 a a0 a1).trans (h2.2 a a0 a1)⟩
theorem ROWE_r {A : mR} : ROWE s A A := ⟨fun _ _ _ => ⟨rfl, rfl⟩, fun _ _ _ => rfl⟩
theorem ROWZ_e (h : ROWZ s M) (h2 : ROWE s M' M) : ROWZ s M' := ⟨fun y y0 y1 => ⟨(h2.1 y y0 y1).1.trans (h.1 y y0 y1).1, (h2.1 y y0 y1).2.trans (h.1 y y0 y1).2⟩, fun a a0 a1 => (h2.2 a a0 a1).trans (h.2 a a0 a1)⟩
theorem clr1_r : RP (whl rfb_touchesAll_2 (0, M)) (fun e => fr [] [135, 136] M e ∧ ∀ r, 0 ≤ r → r < 10608 → e.2 135 r = 0 ∧ e.2 136 r = 0) := by
  refine RP_whl (I := fun p : Int × mR => 0 ≤ p.1 ∧ p.1 ≤ 10608 ∧ fr [] [135, 136] M p.2 ∧ ∀ r, 0 ≤ r → r < p.1 → p.2.2 135 r = 0 ∧ p.2.2 136 r = 0) (fun p hp => ?_) ⟨Int.le_refl 0, (show (0 : Int) ≤ 10608 by decide), fr_0, fun j j0 j1 => absurd (show j < 0 from j1) (by omega)⟩
  obtain ⟨k, m⟩ := p
  obtain ⟨b1, b2, b3, b4⟩ := hp
  have b1 : 0 ≤ k := b1
  have b2 : k ≤ 10608 := b2
  have b4 : ∀ r, 0 ≤ r → r < k → m.2 135 r = 0 ∧ m.2 136 r = 0 := b4
  unfold rfb_touchesAll_2
  dsimp only
  refine RP_ite (fun g => RP_some ⟨b3, fun j j0 j1 => b4 j j0 (by omega)⟩) (fun g => ?_)
  rw [cut_i (by omega) (by omega)]
  refine RP_some ⟨(by show 0 ≤ k + 1; omega), (by show k + 1 ≤ 10608; omega), fr_m b3 rfl rfl, fun r r0 r1 => ?_⟩
  have r1 : r < k + 1 := r1
  show upI (m.2 135) k (nar1 0) r = 0 ∧ upI (m.2 136) k (nar1 0) r = 0
  by_cases e : r = k
  · rw [e, upI_s, upI_s]
    exact ⟨rfl, rfl⟩
  · rw [upI_n e, upI_n e]
    exact b4 r r0 (by omega)
theorem clr2_r : RP (whl rfb_touchesAll_31 (0, M)) (fun e => fr [] [137] M e ∧ ∀ r, 0 ≤ r → r < 384 → e.2 137 r = 0) := by
  refine RP_whl (I := fun p : Int × mR => 0 ≤ p.1 ∧ p.1 ≤ 384 ∧ fr [] [137] M p.2 ∧ ∀ r, 0 ≤ r → r < p.1 → p.2.2 137 r = 0) (fun p hp => ?_) ⟨Int.le_refl 0, (show (0 : Int) ≤ 384 by decide), fr_0, fun j j0 j1 => absurd (show j < 0 from j1) (by omega)⟩
  obtain ⟨k, m⟩ := p
  obtain ⟨b1, b2, b3, b4⟩ := hp
  have b1 : 0 ≤ k := b1
  have b2 : k ≤ 384 := b2
  have b4 : ∀ r, 0 ≤ r → r < k → m.2 137 r = 0 := b4
  unfold rfb_touchesAll_31
  dsimp only
  refine RP_ite (fun g => RP_some ⟨b3, fun j j0 j1 => b4 j j0 (by omega)⟩) (fun g => ?_)
  rw [cut_i (by omega) (by omega)]
  refine RP_some ⟨(by show 0 ≤ k + 1; omega), (by show k + 1 ≤ 384; omega), fr_m b3 rfl rfl, fun r r0 r1 => ?_⟩
  have r1 : r < k + 1 := r1
  show upI (m.2 137) k (nar1 0) r = 0
  by_cases e : r = k
  · rw [e, upI_s]
    rfl
  · rw [upI_n e]
    exact b4 r r0 (by omega)
theorem all_r (h : LYP K M) : RP (rf_touchesAll M) (fun z => fr [] [135, 136, 137] M z.2 ∧ ∀ s, 0 ≤ s → s < M.1 27 → TDn M z.2 s) := by
  have h27 := h.2.2.2.2.1
  unfold rf_touchesAll
  refine RP_bnd clr1_r (fun e he => ?_)
  unfold rfl_touchesAll_29
  refine RP_bnd clr2_r (fun g hg => ?_)
  have fg : fr [] [135, 136, 137] M g := fr_s hg.1 (fr_s he.1 fr_0 rfl rfl) rfl rfl
  have z0 : ∀ s, 0 ≤ s → s < 48 → ROWZ s g := by
    intro s s0 s1
    refine ⟨fun y y0 y1 => ?_, fun a a0 a1 => hg.2 _ (by omega) (by omega)⟩
    rw [fr2 hg.1 135 rfl, fr2 hg.1 136 rfl]
    exact he.2 _ (by omega) (by omega)
  unfold rfl_touchesAll_51
  refine RP_bnd (P := fun e => fr [] [135, 136, 137] M e ∧ ∀ s, 0 ≤ s → s < M.1 27 → TDn M e s) (RP_whl (I := fun p : Int × mR => 0 ≤ p.1 ∧ p.1 ≤ M.1 27 ∧ fr [] [135, 136, 137] M p.2 ∧ (∀ s, 0 ≤ s → s < p.1 → TDn M p.2 s) ∧ ∀ s, p.1 ≤ s → s < 48 → ROWZ s p.2) (fun p hp => ?_) ⟨Int.le_refl 0, h27.1, fg, fun s s0 s1 => absurd (show s < 0 from s1) (by omega), fun s s0 s1 => z0 s s0 s1⟩) (fun e he => RP_some he)
  obtain ⟨k, m⟩ := p
  obtain ⟨b1, b2, b3, b4, b5⟩ := hp
  have b1 : 0 ≤ k := b1
  have b2 : k ≤ M.1 27 := b2
  have b3 : fr [] [135, 136, 137] M m := b3
  have b4 : ∀ s, 0 ≤ s → s < k → TDn M m s := b4
  have b5 : ∀ s, k ≤ s → s < 48 → ROWZ s m := b5
  have m27 : m.1 27 = M.1 27 := fr1 b3 27 rfl
  by_cases g : m.1 27 ≤ k
  · have e : rfb_touchesAll_53 (k, m) = some (.inr m) := by
      unfold rfb_touchesAll_53
      dsimp only
      rw [if_pos g]
    rw [e]
    exact RP_some ⟨b3, fun s s0 s1 => b4 s s0 (by omega)⟩
  · have hm : LYP K m := LYP_f h (fr_0 : fr [] [] K K) b3 rfl rfl rfl rfl
    intro v hv
    obtain ⟨m', rfl, f2, ho⟩ := step_o hm.1 hm.2.1 hm.2.2.1 hm.2.2.2.1 hm.2.2.2.2.1.2 hm.2.2.2.2.2.1 b1 (by omega) v hv
    refine ⟨(by show 0 ≤ k + 1; omega), (by show k + 1 ≤ _; omega), fr_s f2 b3 rfl rfl, fun s s0 s1 => ?_, fun s s0 s1 => ?_⟩
    · have s1 : s < k + 1 := s1
      by_cases e : s = k
      · subst e
        exact ⟨m, m', hv, b3, b5 s (Int.le_refl _) (by omega), ROWE_r⟩
      · obtain ⟨Ms, Ms', q1, q2, q3, q4⟩ := b4 s s0 (by omega)
        exact ⟨Ms, Ms', q1, q2, q3, ROWE_t (MRo_e ho e) q4⟩
    · have s0 : k + 1 ≤ s := s0
      exact ROWZ_e (b5 s (by omega) s1) (MRo_e ho (by omega))
/-- a step's row in both -/
def SRW (s : Int) (K M : mR) : Prop := ((∀ x, 0 ≤ x → x < 221 → (xb (K.2 60) s x ↔ M.2 135 (221 * s + th x) ≠ 0)) ∧ (∀ x, 0 ≤ x → x < 204 → x % 17 ≠ 0 → M.2 135 (221 * s + th x) ≠ 0 → x % 17 - 1 < M.2 29 (M.2 34 (x / 17))) ∧ ∀ x, 221 ≤ x → x < 256 → ¬ xb (K.2 60) s x) ∧ ((∀ x, 0 ≤ x → x < 221 → (xb (K.2 61) s x ↔ (M.2 136 (221 * s + th x) ≠ 0 ∨ (XF M x ∧ M.2 136 (221 * s + 192 + x / 17) ≠ 0)))) ∧ (∀ x, 0 ≤ x → x < 204 → x % 17 ≠ 0 → M.2 136 (221 * s + th x) ≠ 0 → x % 17 - 1 < M.2 29 (M.2 34 (x / 17))) ∧ ∀ x, 221 ≤ x → x < 256 → ¬ xb (K.2 61) s x) ∧ ∀ a, 0 ≤ a → a < 32 → (btt (K.2 62 s) a ↔ (a < 8 ∧ M.2 137 (8 * s + a) ≠ 0))
theorem xb_r {k k' : Int → Int} {x : Int} (x0 : 0 ≤ x) (x1 : x < 256) (h : ∀ r, 4 * s ≤ r → r < 4 * s + 4 → k' r = k r) : xb k' s x ↔ xb k s x := by
  unfold xb
  rw [h _ (by omega) (by omega)]
/-- rows that stay -/
theorem SRW_c (h : SRW s K M) (h60 : ∀ r, 4 * s ≤ r → r < 4 * s + 4 → K'.2 60 r = K.2 60 r ∧ K'.2 61 r = K.2 61 r) (h62 : K'.2 62 s = K.2 62 s) (hE : ROWE s M' M) (e29 : M'.2 29 = M.2 29) (e34 : M'.2 34 = M.2 34) : SRW s K' M' := by
  obtain ⟨⟨a1, a2, a3⟩, ⟨b1, b2, b3⟩, c1⟩ := h
  have t35 : ∀ x, 0 ≤ x → x < 221 → M'.2 135 (221 * s + th x) = M.2 135 (221 * s + th x) := fun x x0 x1 => (hE.1 _ (th_r x0 x1).1 (th_r x0 x1).2).1
  have t36 : ∀ x, 0 ≤ x → x < 221 → M'.2 136 (221 * s + th x) = M.2 136 (221 * s + th x) := fun x x0 x1 => (hE.1 _ (th_r x0 x1).1 (th_r x0 x1).2).2
  refine ⟨⟨fun x x0 x1 => ?_, fun x x0 x1 xn hx => ?_, fun x x0 x1 => ?_⟩, ⟨fun x x0 x1 => ?_, fun x x0 x1 xn hx => ?_, fun x x0 x1 => ?_⟩, fun a a0 a1' => ?_⟩
  · rw [xb_r x0 (by omega) (fun r r0 r1 => (h60 r r0 r1).1), t35 x x0 x1]
    exact a1 x x0 x1
  · rw [t35 x x0 (by omega)] at hx
    rw [e29, e34]
    exact a2 x x0 x1 xn hx
  · rw [xb_r (by omega) x1 (fun r r0 r1 => (h60 r r0 r1).1)]
    exact a3 x x0 x1
  · rw [xb_r x0 (by omega) (fun r r0 r1 => (h60 r r0 r1).2), t36 x x0 x1, b1 x x0 x1]
    unfold XF
    rw [e29, e34]
    by_cases g : x < 204
    · rw [show 221 * s + 192 + x / 17 = 221 * s + (192 + x / 17) by omega, (hE.1 (192 + x / 17) (by omega) (by omega)).2]
    · exact ⟨fun q => q.elim Or.inl (fun w => absurd w.1.1 g), fun q => q.elim Or.inl (fun w => absurd w.1.1 g)⟩
  · rw [t36 x x0 (by omega)] at hx
    rw [e29, e34]
    exact b2 x x0 x1 xn hx
  · rw [xb_r (by omega) x1 (fun r r0 r1 => (h60 r r0 r1).2)]
    exact b3 x x0 x1
  · rw [h62, c1 a a0 a1']
    by_cases g : a < 8
    · rw [hE.2 a a0 g]
    · exact ⟨fun q => absurd q.1 g, fun q => absurd q.1 g⟩
theorem GS_w {Ms Ms' : mR} (h : GS s K Ms K' Ms') : SRW s K' Ms' := by
  obtain ⟨f1, f2, ⟨-, a1, a2, a3⟩, ⟨-, b1, b2, b3⟩, -, c1⟩ := h
  have e29 : Ms'.2 29 = Ms.2 29 := fr2 f2 29 rfl
  have e34 : Ms'.2 34 = Ms.2 34 := fr2 f2 34 rfl
  refine ⟨⟨a1, ?_, a3⟩, ⟨?_, ?_, b3⟩, c1⟩
  · rw [e29, e34]; exact a2
  · unfold XF at b1 ⊢
    rw [e29, e34]; exact b1
  · rw [e29, e34]; exact b2
/-- the class gathers a step that the reference has touched -/
theorem gathered {M1 : mR} (h : LYP K M1) (f1 : fr [] [135, 136, 137] M M1) (hd : TDn M M1 s) (s0 : 0 ≤ s) (s1 : s < M1.1 27) : RP (kf_sp_gather s K) (fun y => fr [] [60, 61, 62] K y.2 ∧ SRW s y.2 M1 ∧ ∀ i, i ≠ s → (∀ r, 4 * i ≤ r → r < 4 * i + 4 → y.2.2 60 r = K.2 60 r ∧ y.2.2 61 r = K.2 61 r) ∧ y.2.2 62 i = K.2 62 i) := by
  intro y hy
  obtain ⟨Ms, Ms', q1, q2, q3, q4⟩ := hd
  have fMs : fr [] [135, 136, 137] M1 Ms := ⟨fun k hk => (q2.1 k hk).trans (f1.1 k hk).symm, fun k hk => (q2.2 k hk).trans (f1.2 k hk).symm⟩
  have hm : LYP K Ms := LYP_f h (fr_0 : fr [] [] K K) fMs rfl rfl rfl rfl
  have m27 : Ms.1 27 = M1.1 27 := fr1 fMs 27 rfl
  obtain ⟨M', e, hG⟩ := gather_s hm.1 hm.2.1 hm.2.2.1 hm.2.2.2.1 hm.2.2.2.2.1.2 hm.2.2.2.2.2.1 s0 (by omega) q3 y _ hy q1
  cases e
  have fMs' : fr [] [135, 136, 137] M1 Ms' := fr_s hG.2.1 fMs rfl rfl
  refine ⟨hG.1, SRW_c (GS_w hG) (fun r _ _ => ⟨rfl, rfl⟩) rfl q4 (fr2 fMs' 29 rfl).symm (fr2 fMs' 34 rfl).symm, fun i hi => ⟨fun r r0 r1 => ?_, hG.2.2.2.2.1 i hi⟩⟩
  have ho : r < 4 * s ∨ 4 * s + 4 ≤ r := by
    by_cases q : i < s
    · exact Or.inl (by omega)
    · exact Or.inr (by omega)
  exact ⟨hG.2.2.1.1 r ho, hG.2.2.2.1.1 r ho⟩
end TAL
