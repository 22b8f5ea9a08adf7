/-! ===== p20 at the law: what is given of tables, homes; reading, laying ===== -/
section TPC
variable {K K1 M M1 Kp mp : mR} {i : Int}
theorem agk1 (h : AGk K Kp) {k : Nat} (hk : nin RAk k = false) {j : Int} (hj : dom k j) : K.2 k j = Kp.2 k j := (h.2.2.1 k hk j hj).symm
theorem agm1 (h : AGm M mp) {k : Nat} (hk : nin RAx k = false) {j : Int} (hj : 0 ≤ j) : M.2 k j = mp.2 k j := (h.2.2.1 k hk j hj).symm
theorem RX_GV (h : RX K M) (hIM : IM i M) (h1 : M.1 127 = 1) : (∀ t, 0 ≤ t → t < M.1 26 → GVQ t K M) ∧ (0 ≤ M.1 26 ∧ M.1 26 ≤ 8) ∧ K.1 225 = M.1 27 ∧ 0 ≤ M.1 27 ∧ M.1 27 ≤ 48 := by
  obtain ⟨Kp, mp, a, b, r, -⟩ := h
  obtain ⟨r0, r1, r2, r3, r4, r5, r6, -⟩ := r
  have e1 : mp.1 = M.1 := b.1
  have e0 : Kp.1 = K.1 := a.1
  have rd := r6 (by rw [e1]; exact h1)
  obtain ⟨⟨cn, -, -, -, -, -, pa⟩, -, -, -, -, -, -, tb, ⟨s1, s2, s3, -⟩, -⟩ := rd
  obtain ⟨-, -, -, -, -, -, -, ⟨c0, c1⟩, ⟨d0, d1⟩, -⟩ := cn
  rw [e1] at c0 c1 d0 d1 s1 s2 s3
  rw [e0] at s1
  obtain ⟨m_ct, m_pth, m_pld, m_hNM0, m_hFA0, m_hPA0, m_hHB0, m_wCN, m_wSO, m_wSt, m_wTd, m_wAc, m_wTb, m_wIN, m_wHO, m_wAR, m_wSp, m_wEM, m_wNA, m_hEMp, m_hEAp, m_hLT, m_pin, m_pou⟩ := hIM
  refine ⟨fun t t0 t1 => ?_, ⟨d0, d1⟩, s1, s2, s3⟩
  have tb1 := tb t t0 (by rw [e1]; exact t1)
  rw [e1] at tb1
  have dk : ∀ k : Nat, 72 ≤ k → k ≤ 77 → dom k t := fun k k0 k1 => ⟨t0, fun _ _ => by omega, fun q => by omega⟩
  have du : ∀ (k : Nat) (j : Int), 79 ≤ k → 0 ≤ j → j < 8 → dom k (65536 * t + j) := fun k j k0 j0 j1 => ⟨by omega, fun _ q => by omega, fun _ => by omega⟩
  have at' : AT t Kp mp K M := ⟨⟨agk1 a rfl (dk 72 (by decide) (by decide)), agk1 a rfl (dk 73 (by decide) (by decide)), agk1 a rfl (dk 74 (by decide) (by decide)), agk1 a rfl (dk 75 (by decide) (by decide)), agk1 a rfl (dk 76 (by decide) (by decide)), agk1 a rfl (dk 77 (by decide) (by decide))⟩, fun j j0 j1 => ⟨agk1 a rfl (du 79 j (by decide) j0 j1), agk1 a rfl (du 80 j (by decide) j0 j1), agk1 a rfl (du 81 j (by decide) j0 j1), agk1 a rfl (du 82 j (by decide) j0 j1), agk1 a rfl (du 83 j (by decide) j0 j1)⟩, ⟨agm1 b rfl t0, agm1 b rfl t0, agm1 b rfl t0, agm1 b rfl t0, agm1 b rfl t0, agm1 b rfl t0, agm1 b rfl t0, agm1 b rfl t0⟩, fun j j0 j1 => ⟨agm1 b rfl (by omega), agm1 b rfl (by omega), agm1 b rfl (by omega), agm1 b rfl (by omega)⟩, fun j j0 j1 => agm1 b rfl (by omega)⟩
  have tb2 := TB1_c tb1 at'
  refine ⟨⟨t0, by omega⟩, tb2, fun x x0 x1 => ?_, ⟨c0, c1⟩, fun q => ?_⟩
  · obtain ⟨p1, p2, p3, p4, -⟩ := pa x x0 (by rw [e1]; exact x1)
    have dl : ∀ (k : Nat) (j : Int), k < 72 → 0 ≤ j → dom k j := fun k j k0 j0 => ⟨j0, fun q => by omega, fun q => by omega⟩
    rw [agk1 a (k := 39) rfl (dl 39 x (by decide) x0), agm1 b (k := 46) rfl x0]
    refine ⟨p1, p2, p3, fun j j0 j1 => ?_⟩
    obtain ⟨q1, q2, q3, -⟩ := p4 j j0 j1
    rw [agk1 a (k := 40) rfl (dl 40 (4 * x + j) (by decide) (by omega)), agm1 b (k := 49) rfl (show 0 ≤ 4 * x + j by omega)]
    exact ⟨q1, q2, q3⟩
  · have w := (m_wTb h1 t t0 t1).2.2.2.1
    rcases tb2.2.2.1 with ⟨z, -⟩ | ⟨z, -⟩
    · exact w z
    · exact absurd z q
theorem RX_HM (h : RX K M) (hIM : IM i M) (h8 : M.1 128 = 1) (hs : HSs M) : ∀ t, 0 ≤ homeK K t ∧ homeK K t < M.1 129 := fun t => by
  have h7 : M.1 127 = 1 := by
    obtain ⟨m_ct, m_pth, m_pld, -⟩ := hIM
    exact m_pld h8
  obtain ⟨-, -, s1, s2, s3⟩ := RX_GV h hIM h7
  obtain ⟨Kp, mp, a, b, r, -⟩ := h
  obtain ⟨r0, r1, r2, r3, r4, r5, r6, ⟨r7, r7b⟩, -⟩ := r
  have e1 : mp.1 = M.1 := b.1
  unfold LDR at r7
  rw [e1] at r7
  rcases r7 with ⟨-, -, ⟨l1, l2⟩, -, hme⟩ | ⟨l1, -⟩
  · unfold homeK
    rcases fnda_r (K.2 55) t (K.1 225).toNat with q | ⟨q0, q1⟩
    · rw [if_pos q]
      omega
    · rw [if_neg (by omega)]
      have q1 : fnda (K.2 55) t (K.1 225).toNat < M.1 27 := by omega
      obtain ⟨z1, z2, z3⟩ := hme _ q0 (by rw [e1]; exact q1)
      rw [agk1 a (k := 59) rfl ⟨q0, fun q => by omega, fun q => by omega⟩, z1]
      refine ⟨z2, ?_⟩
      rw [← agm1 b (k := 131) rfl q0]
      exact hs h8 _ q0 q1
  · omega
theorem stf_r {j n me wi : Int} (n1 : n ≤ 12) : RP (rf_stageFor j n me wi M) (fun y => y < 12) := by
  have L : ∀ (v7 v8 v9 : Int), RP (rfl_stageFor_135 j n me wi v7 v8 v9 M) (fun y => y < 12) := fun v7 v8 v9 => by
    unfold rfl_stageFor_135
    refine RP_ite (fun _ => RP_some (show (-1 : Int) < 12 by decide)) (fun _ => RP_bnd (P := sel (fun y : Int => y < 12) (fun _ : Unit => True)) (RP_whl (I := fun _ : Int => True) (fun s _ => ?_) trivial) (RP_sl (fun e he => RP_some he) (fun e _ => RP_some (show (-1 : Int) < 12 by decide))))
    have A : RP (rfl_stageFor_216 j n me wi v8 s M) (sel (fun _ : Int => True) (sel (fun y : Int => y < 12) (fun _ : Unit => True))) := by
      unfold rfl_stageFor_216
      exact RP_some trivial
    unfold rfb_stageFor_146
    refine RP_ite (fun _ => RP_some trivial) (fun g => ?_)
    have B : RP (rfl_stageFor_164 j n me wi v8 s M) (sel (fun _ : Int => True) (sel (fun y : Int => y < 12) (fun _ : Unit => True))) := by
      unfold rfl_stageFor_164
      exact RP_ite (fun _ => A) (fun _ => RP_bndT (fun y => RP_ite (fun _ => A) (fun _ => RP_bndT (fun z => RP_ite (fun _ => A) (fun _ => RP_some (show s < 12 by omega))))))
    exact RP_ite (fun _ => B) (fun _ => RP_ite (fun _ => B) (fun _ => A))
  unfold rf_stageFor
  exact RP_bndT (fun e => L _ _ _)
theorem lay_hs {a b c : Int} (h27 : M.1 27 ≤ 1000) (hs : HSs M) : RP (rf_lay a b c M) (fun z => HSs z.2) := by
  have L : ∀ u : Int, 0 < u → RP (rfl_lay_43 a b c u M) (fun z => HSs z.2) := fun u hu => by
    unfold rfl_lay_43
    exact RP_ite (fun h => absurd h (by omega)) (fun _ => RP_some hs)
  unfold rf_lay rfl_lay_38 rfl_lay_15
  refine RP_ite (fun _ => L 1 (by decide)) (fun _ => RP_ite (fun h8 => RP_ite (fun _ => L 2 (by decide)) (fun _ => RP_ite (fun _ => L 2 (by decide)) (fun ha => RP_ite (fun _ => L 2 (by decide)) (fun _ => RP_ite (fun _ => ?_) (fun _ => L 2 (by decide)))))) (fun _ => L 1 (by decide)))
  unfold rfl_lay_43
  refine RP_ite (fun _ => ?_) (fun h => absurd (show (0 : Int) ≤ 0 by decide) h)
  refine RP_bnd (u_rf_touchesAll _) (fun y hy => ?_)
  have y8 : y.2.1 128 = 0 := (fr1 hy.1 128 rfl).trans h8
  have y27 : y.2.1 27 = M.1 27 := fr1 hy.1 27 rfl
  unfold rfl_lay_64
  refine RP_bnd (P := fun e => e.1 128 = 0 ∧ e.1 27 = M.1 27) (RP_whl (I := fun s : Int × mR => s.2.1 128 = 0 ∧ s.2.1 27 = M.1 27) (fun s h => ?_) ⟨y8, y27⟩) (fun e he => ?_)
  · unfold rfb_lay_67
    exact RP_ite (fun _ => RP_some h) (fun _ => RP_some h)
  · obtain ⟨e8, e27⟩ := he
    unfold rfl_lay_104
    refine RP_bnd (P := sel (fun q : Int × mR => q.2.1 128 = 0) (fun q : mR => ∀ j, 0 ≤ j → j < q.1 27 → q.2 131 j < q.1 129)) (RP_whl (I := fun s : Int × mR => (0 ≤ s.1 ∧ s.2.1 128 = 0 ∧ s.2.1 27 = M.1 27) ∧ ∀ j, 0 ≤ j → j < s.1 → s.2.2 131 j < s.2.1 129) (fun s h => ?_) ⟨⟨Int.le_refl _, e8, e27⟩, fun j j0 j1 => by have j1 : j < 0 := j1; omega⟩) (RP_sl (fun q hq => ?_) (fun q hq => ?_))
    · obtain ⟨⟨s0, s8, s27⟩, sj⟩ := h
      unfold rfb_lay_112
      refine RP_ite (fun g => RP_some ?_) (fun g => RP_bnd (stf_r (by omega)) (fun v hv => RP_ite (fun v0 => RP_bndT (fun p => RP_bndT (fun w => ?_))) (fun _ => RP_some s8)))
      · show ∀ j, 0 ≤ j → j < s.2.1 27 → s.2.2 131 j < s.2.1 129
        exact fun j j0 j1 => sj j j0 (by omega)
      · have fin : ∀ u : Int, s.2.1 129 ≤ u → v + 1 ≤ u → RP (rfl_lay_227 a b c s.1 u (mO s.2 [] [(131, upI (s.2.2 131) s.1 v), (132, upI (s.2.2 132) v (cut (((s.2.2 132) v) + 1))), (133, upI (s.2.2 133) v (cutl (((s.2.2 133) v) + p))), (134, upI (s.2.2 134) v (cutl (((s.2.2 134) v) + w)))])) (sel (fun s : Int × mR => (0 ≤ s.1 ∧ s.2.1 128 = 0 ∧ s.2.1 27 = M.1 27) ∧ ∀ j, 0 ≤ j → j < s.1 → s.2.2 131 j < s.2.1 129) (sel (fun q : Int × mR => q.2.1 128 = 0) (fun q : mR => ∀ j, 0 ≤ j → j < q.1 27 → q.2 131 j < q.1 129))) := fun u u1 u2 => by
          unfold rfl_lay_227
          rw [cut_i (z := s.1 + 1) (by omega) (by omega)]
          refine RP_some ⟨⟨show 0 ≤ s.1 + 1 by omega, s8, s27⟩, fun j j0 j1 => ?_⟩
          have j1 : j < s.1 + 1 := j1
          show upI (s.2.2 131) s.1 v j < u
          by_cases e : j = s.1
          · rw [e, upI_s]
            omega
          · rw [upI_n e]
            have := sj j j0 (by omega)
            omega
        rw [cut_i (z := v + 1) (by omega) (by omega)]
        exact RP_ite (fun q => fin _ (Int.le_refl _) q) (fun q => fin _ (by omega) (Int.le_refl _))
    · unfold rfl_lay_139
      refine RP_some (fun z => ?_)
      have z : q.2.1 128 = 1 := z
      have hq : q.2.1 128 = 0 := hq
      omega
    · unfold rfl_lay_236
      exact RP_some (fun _ => hq)
/-! reading -/
def Z139 (m : mR) : Prop := ∀ t, 0 ≤ t → t < 8 → m.2 139 t = 0
theorem Z139_f {m m' : mR} {F A : List Nat} (h : Z139 m) (f : fr F A m m') (c : chk [139] A = true) : Z139 m' := by
  unfold Z139
  rw [fr2 f 139 (chk_1 c (by decide))]
  exact h
theorem beg_9 (m : mR) : RP (rf_begin m) (fun z => Z139 z.2) := by
  unfold rf_begin
  refine RP_bndT (fun e => ?_)
  unfold rfl_begin_32
  refine RP_bnd (P := fun e => Z139 e) (RP_whl (I := fun s : Int × mR => (0 ≤ s.1 ∧ s.1 ≤ 8) ∧ ∀ t, 0 ≤ t → t < s.1 → s.2.2 139 t = 0) (fun s hs => ?_) ⟨⟨Int.le_refl _, show (0 : Int) ≤ 8 by decide⟩, fun t t0 t1 => by have t1 : t < 0 := t1; omega⟩) (fun q hq => ?_)
  · obtain ⟨⟨a0, a1⟩, a2⟩ := hs
    unfold rfb_begin_34
    refine RP_ite (fun g => RP_some (fun t t0 t1 => a2 t t0 (by omega))) (fun g => ?_)
    rw [cut_i (z := s.1 + 1) (by omega) (by omega)]
    refine RP_some ⟨⟨show 0 ≤ s.1 + 1 by omega, show s.1 + 1 ≤ 8 by omega⟩, fun t t0 t1 => ?_⟩
    have t1 : t < s.1 + 1 := t1
    show upI (s.2.2 139) s.1 0 t = 0
    by_cases e : t = s.1
    · rw [e, upI_s]
    · rw [upI_n e]
      exact a2 t t0 (by omega)
  · unfold rfl_begin_53
    exact RP_some hq
theorem read_9 : RP (rf_read M) (fun z => Z139 z.2) := by
  unfold rf_read
  refine RP_bndT (fun e => ?_)
  unfold rfl_read_41
  refine RP_bndT (fun g => ?_)
  unfold rfl_read_107
  refine RP_bnd (beg_9 _) (fun b hb => ?_)
  unfold rfl_read_156
  refine RP_bnd (u_rf_next b.2) (fun x hx => ?_)
  refine RP_bnd (P := fun w : mR => Z139 w) (RP_whl (I := fun w : mR => Z139 w) (fun s hs => ?_) (Z139_f hb hx.1 rfl)) (fun w hw => ?_)
  · unfold rfb_read_160 rfl_read_171
    refine RP_ite (fun _ => RP_bnd (u_rf_takeOne s) (fun y hy => ?_)) (fun _ => RP_some hs)
    have f := Z139_f hs hy.1 rfl
    exact RP_ite (fun _ => RP_some f) (fun _ => RP_some f)
  · exact RP_w (rd182_u w) (fun z hz => Z139_f hw hz.1 rfl)
end TPC
