/-! ===== calls that functions speak of, as the relation sees them ===== -/
section LX4
variable {K K' K1 M M' M1 Kp mp : mR} {F A G C : List Nat} {c1 c2 c3 c4 : Nat → Option am_C}
theorem REL_t (h : REL0 K M) (hK : fr F A K K') (hM : fr G C M M') (hB : BYR K' M') (hT : TPE K' M') (hR : RDY K' M') (c1 : chk [201, 202, 214, 215, 216, 217, 218, 219, 220, 221, 222, 223, 224, 225, 226, 232, 233, 235] F = true) (c2 : chk [5, 10, 11, 12, 13, 14, 15, 16, 17, 18, 19, 26, 30, 33, 34, 35, 36, 37, 39, 40, 41, 42, 43, 44, 45, 46, 47, 48, 49, 50, 51, 52, 53, 54, 55, 56, 57, 58, 59, 63, 64, 65, 72, 73, 74, 75, 76, 77, 79, 80, 81, 82, 83] A = true) (c3 : chk [6, 13, 19, 20, 21, 22, 23, 24, 25, 26, 27, 28, 99, 125, 127, 128, 129, 130, 148, 150, 152] G = true) (c4 : chk [4, 16, 17, 29, 30, 31, 32, 33, 34, 35, 36, 37, 38, 39, 41, 42, 44, 45, 46, 47, 48, 49, 50, 51, 52, 53, 54, 55, 56, 57, 58, 60, 61, 62, 63, 65, 67, 93, 101, 102, 103, 104, 105, 106, 107, 108, 109, 110, 111, 112, 113, 114, 120, 121, 122, 124, 131, 132, 133, 134] C = true) : REL0 K' M' := by
  obtain ⟨h0, h1, h2, h3, h4, h5, h6, ⟨h7, h7b⟩, h8, h9, h10, h11⟩ := h
  have e127 := fr1 hM 127 (chk_1 c3 (by decide))
  have e128 := fr1 hM 128 (chk_1 c3 (by decide))
  have e130 := fr1 hM 130 (chk_1 c3 (by decide))
  have e148 := fr1 hM 148 (chk_1 c3 (by decide))
  have e150 := fr1 hM 150 (chk_1 c3 (by decide))
  have e152 := fr1 hM 152 (chk_1 c3 (by decide))
  have k201 := fr1 hK 201 (chk_1 c1 (by decide))
  have k202 := fr1 hK 202 (chk_1 c1 (by decide))
  have k232 := fr1 hK 232 (chk_1 c1 (by decide))
  have k233 := fr1 hK 233 (chk_1 c1 (by decide))
  have k235 := fr1 hK 235 (chk_1 c1 (by decide))
  exact ⟨hB, hT, hR, KWD_f h3 hK (chk_s c2 rfl), by omega, by omega, fun q => RDk_f (h6 (by omega)) hK hM (chk_s c1 rfl) (chk_s c2 rfl) (chk_s c3 rfl) (chk_s c4 rfl), ⟨LDR_f h7 hK hM (chk_s c1 rfl) (chk_s c2 rfl) (chk_s c3 rfl) (chk_s c4 rfl), fun q => by have := h7b (by omega); omega⟩, by omega, by omega, by omega, by omega⟩
theorem RX_feed {a b c d e : Int} (hA : AGk K Kp) (hB : AGm M mp) (hR : REL0 Kp mp) (hG : FRG mp) {y z : Int × mR} (hy : kf_pw_feed a b c d e Kp = some y) (hz : rf_feed a b c d e mp = some z) (cK : KCn y.2) (cM : Cn z.2) (hk : khp K1 c1 = khp y.2 c2) (hm : mhp M1 c3 = mhp z.2 c4) (fK : fr fF_pw_feed fA_pw_feed K K1) (vK : KTy K1) (fM : fr fF_feed fA_feed M M1) (vM : Ty M1) : RX K1 M1 := by
  obtain ⟨f1, f2, r2⟩ := feed_s y z hy hz
  have rel : REL0 y.2 z.2 := REL_t hR f1 f2 (BYR_f hR.1 f1 f2 rfl rfl) (TPE_f hR.2.1 f1 f2 rfl rfl rfl rfl) r2 rfl rfl rfl rfl
  refine (RX_h hA hB fK vK fM vM f1 cK f2 cM hk hm rfl rfl rfl rfl rel (fun h _ => ?_)).1
  rw [fr2 f2 29 rfl]
  exact hG h
theorem RX_end {n : Int} (hA : AGk K Kp) (hB : AGm M mp) (hR : REL0 Kp mp) (hG : FRG mp) {y z : Int × mR} (hy : kf_pw_end n Kp = some y) (hz : rf_end n mp = some z) (cK : KCn y.2) (cM : Cn z.2) (hk : khp K1 c1 = khp y.2 c2) (hm : mhp M1 c3 = mhp z.2 c4) (fK : fr fF_pw_end fA_pw_end K K1) (vK : KTy K1) (fM : fr fF_end fA_end M M1) (vM : Ty M1) : RX K1 M1 ∧ y.1 = z.1 := by
  obtain ⟨e1, f1, f2, t, r2, -⟩ := end_s hR.2.1 hR.2.2.1 y z hy hz
  have B : BYR y.2 z.2 := by
    obtain ⟨b1, b2, b3, b4, b5⟩ := hR.1
    refine ⟨end_kb b1 y hy, end_rb (RDY_r hR.2.2.1) b2 z hz, ?_, ?_, ?_⟩
    · rw [fr2 f2 4 rfl]; exact b3
    · rw [fr2 f2 0 rfl]; exact b4
    · rw [fr2 f2 18 rfl]; exact b5
  have rel : REL0 y.2 z.2 := REL_t hR f1 f2 B t r2 rfl rfl rfl rfl
  refine ⟨(RX_h hA hB fK vK fM vM f1 cK f2 cM hk hm rfl rfl rfl rfl rel (fun h _ => ?_)).1, e1⟩
  rw [fr2 f2 29 rfl]
  exact hG h
theorem RX_read (hA : AGk K Kp) (hB : AGm M mp) (hR : REL0 Kp mp) (hG : FRG mp) {y : Int × Int × mR} {z : Int × mR} (hy : kf_pw_read Kp = some y) (hz : rf_read mp = some z) (cK : KCn y.2.2) (cM : Cn z.2) (hk : khp K1 c1 = khp y.2.2 c2) (hm : mhp M1 c3 = mhp z.2 c4) (fK : fr fF_pw_read fA_pw_read K K1) (vK : KTy K1) (fM : fr fF_read fA_read M M1) (vM : Ty M1) : RX K1 M1 ∧ ((y.1 = 0 ∧ M1.1 1 = 0 ∧ y.2.1 = z.1) ∨ (y.1 ≠ 0 ∧ M1.1 1 = 1)) := by
  have e10 : M1.1 10 = z.2.1 10 := HMf hm (by decide) (by decide) ((Ty_V vM).1 10) (cM.1 10)
  have z0 : 0 ≤ z.2.1 10 := by
    rw [← e10]
    exact (vM.1 10).1
  obtain ⟨rel, out⟩ := REL_read hR y z hy hz z0
  obtain ⟨f2, g29⟩ := read_rf z hz
  obtain ⟨q, e, -⟩ := RX_h hA hB fK vK fM vM (u_kf_pw_read Kp y hy) cK f2 cM hk hm (by decide) (by decide +kernel) (by decide +kernel) (by decide +kernel) rel (fun h hh => by rw [g29 h hh]; exact hG h)
  refine ⟨q, ?_⟩
  rw [e]
  exact out
theorem RX_lay {i : Int} {a b c : Int} (hb : R32 b) (hc : R32 c) (hM : Ty M) (hIM : IM i M) (hA : AGk K Kp) (hB : AGm M mp) (hR : REL0 Kp mp) (hG : FRG mp) {y : Int × Int × mR} {z : Int × mR} (hy : kf_pw_lay a b c Kp = some y) (hz : rf_lay a b c mp = some z) (cK : KCn y.2.2) (cM : Cn z.2) (hk : khp K1 c1 = khp y.2.2 c2) (hm : mhp M1 c3 = mhp z.2 c4) (fK : fr fF_pw_lay fA_pw_lay K K1) (vK : KTy K1) (fM : fr fF_lay fA_lay M M1) (vM : Ty M1) : RX K1 M1 ∧ ((y.1 = 0 ∧ M1.1 1 = 0 ∧ y.2.1 = z.1) ∨ (y.1 = 2 ∧ M1.1 1 = 1) ∨ (y.1 = 1 ∧ M1.1 1 = 2) ∨ (y.1 = 3 ∧ M1.1 1 = 3)) := by
  obtain ⟨m_ct, m_pth, m_pld, m_hNM0, m_hFA0, m_hPA0, m_hHB0, m_wCN, m_wSO, m_wSt, m_wTd, m_wAc, m_wTb, m_wIN, m_wHO, m_wAR, m_wSp, m_wEM, m_wNA, m_hEMp, m_hEAp, m_hLT, m_pin, m_pou⟩ := id hIM
  obtain ⟨r0, r1, r2, r3, r4, r5, r6, ⟨r7, r7b⟩, r8, r9, r10, r11⟩ := id hR
  have e1 : mp.1 = M.1 := hB.1
  have h128 : mp.1 128 = 0 ∨ mp.1 128 = 1 := by
    rcases r7 with ⟨q, -⟩ | ⟨q, -⟩
    · exact Or.inr q
    · exact Or.inl q
  have h99 : mp.1 99 ≤ 4000 := by
    rw [e1]
    have q : M.1 99 ≤ fhi 99 := (hM.1 99).2
    have q2 : fhi 99 ≤ 4000 := by decide +kernel
    omega
  have L := lay_s (a := a) (K := Kp) (M := mp) hb hc r4 r5 h128 (fun q => by
    rcases r7 with ⟨q1, q2, q3, -⟩ | ⟨q1, q2⟩
    · omega
    · omega) (fun q => LYP_r (r6 q) (RGE_m hB hG (m_wTd (by rw [← e1]; exact q)) (m_wAc (by rw [← e1]; exact q)) (m_wTb (by rw [← e1]; exact q)) (m_wSp (by rw [← e1]; exact q))) h99) y z hy hz
  have rel := REL_lay hR L
  have fz : fr [1, 128, 129, 130] [131, 132, 133, 134, 135, 136, 137] mp z.2 := by
    rcases L with ⟨-, -, -, -, -, -, -, -, -, -, -, -, -, f, -⟩ | ⟨-, -, -, f⟩ | ⟨-, -, -, f⟩ | ⟨-, -, -, -, -, -, f⟩
    · exact f
    · exact fr_s f fr_0 rfl rfl
    · exact fr_s f fr_0 rfl rfl
    · exact fr_s f fr_0 rfl rfl
  obtain ⟨q, e, -⟩ := RX_h hA hB fK vK fM vM (u_kf_pw_lay a b c Kp y hy) cK fz cM hk hm (by decide) (by decide +kernel) (by decide +kernel) (by decide +kernel) rel (fun h _ => by rw [fr2 fz 29 rfl]; exact hG h)
  refine ⟨q, ?_⟩
  rw [e]
  rcases L with ⟨q1, q2, q3, -⟩ | ⟨q1, q2, -⟩ | ⟨q1, q2, -⟩ | ⟨q1, q2, -⟩
  · exact Or.inl ⟨q1, q2, q3⟩
  · exact Or.inr (Or.inl ⟨q1, q2⟩)
  · exact Or.inr (Or.inr (Or.inl ⟨q1, q2⟩))
  · exact Or.inr (Or.inr (Or.inr ⟨q1, q2⟩))
theorem RX_fa (h : RX K M) : K.1 201 = M.1 127 ∧ ((M.1 128 = 1 ∧ K.1 226 = M.1 129 ∧ 1 ≤ M.1 129) ∨ (M.1 128 = 0 ∧ K.1 226 = 0)) ∧ K.1 200 = M.1 5 ∧ K.1 232 = M.1 148 ∧ K.1 233 = M.1 150 ∧ K.1 235 = M.1 152 ∧ (M.1 127 = 1 → K.1 219 = M.1 26) := by
  obtain ⟨Kp, mp, a, b, r, -⟩ := h
  obtain ⟨r0, r1, r2, r3, r4, r5, r6, ⟨r7, r7b⟩, r8, r9, r10, r11⟩ := r
  have q3 : Kp.1 = K.1 := a.1
  have q4 : mp.1 = M.1 := b.1
  rw [q3, q4] at r4 r9 r10 r11
  refine ⟨r4, ?_, ?_, r9, r10, r11, fun q => ?_⟩
  · unfold LDR at r7
    rw [q3, q4] at r7
    rcases r7 with ⟨t1, t2, t3, -⟩ | t
    · exact Or.inl ⟨t1, t2, t3.1⟩
    · exact Or.inr t
  · have t := r1.1
    rw [q3, q4] at t
    exact t
  · rw [q4] at r6
    have t := (r6 q).1.1.1
    rw [q3, q4] at t
    exact t.2.2.2.2.1
theorem RX_packet {r1 r2 : Int} (h : RX K M) (hM : Ty M) (m_pth : M.1 127 = 0 ∨ M.1 127 = 1) (m_pld : M.1 128 = 1 → M.1 127 = 1) (m_pin : M.1 150 + M.1 149 = M.1 148) (fK : fr fF_pw_packet fA_pw_packet K K1) (vK : KTy K1) (fM : fr fF_packet fA_packet M M1) (vM : Ty M1) (hpk : (r1 = 0 ∧ K.1 201 = 1 ∧ 1 ≤ K.1 226 ∧ K.1 232 - K.1 233 < 40 ∧ K.1 200 ≤ 128 ∧ K1.1 200 = 0 ∧ K1.1 232 = K.1 232 + 1) ∨ (r1 = 1 ∧ (K.1 201 = 0 ∨ K.1 226 ≤ 0 ∨ 40 ≤ K.1 232 - K.1 233) ∧ K1.1 232 = K.1 232 ∧ K1.1 200 = K.1 200) ∨ (r1 = 2 ∧ K.1 201 = 1 ∧ 1 ≤ K.1 226 ∧ K.1 232 - K.1 233 < 40 ∧ 128 < K.1 200 ∧ K1.1 232 = K.1 232 ∧ K1.1 200 = K.1 200)) (hpq : (M1.1 1 = 0 ∧ M.1 128 = 1 ∧ M.1 149 < 40 ∧ M.1 5 ≤ 128 ∧ M1.1 5 = 0 ∧ M1.1 148 = M.1 148 + 1 ∧ r2 = M.1 148) ∨ (M1.1 1 = 1 ∧ (M.1 128 = 0 ∨ M.1 149 = 40) ∧ M1.1 5 = M.1 5 ∧ M1.1 148 = M.1 148) ∨ (M1.1 1 = 2 ∧ M.1 128 = 1 ∧ M.1 149 < 40 ∧ 128 < M.1 5 ∧ M1.1 5 = M.1 5 ∧ M1.1 148 = M.1 148)) : RX K1 M1 ∧ M1.1 1 = r1 ∧ (r1 = 0 → r2 = K.1 232) := by
  obtain ⟨x1, x2, x3, x4, x5, x6, x7⟩ := RX_fa h
  have t1 : M.1 149 ≤ 40 := (hM.1 149).2
  have t2 : 0 ≤ M.1 149 := (hM.1 149).1
  have fk233 := fr1 fK 233 rfl
  have fk235 := fr1 fK 235 rfl
  have fm150 := fr1 fM 150 rfl
  have fm152 := fr1 fM 152 rfl
  have s1 : (K1.1 200 = K.1 200 ∧ M1.1 5 = M.1 5) ∨ (K1.1 200 = 0 ∧ M1.1 5 = 0) := by rcases hpk with hpk | hpk | hpk <;> rcases hpq with hpq | hpq | hpq <;> omega
  have s2 : K1.1 232 = M1.1 148 := by rcases hpk with hpk | hpk | hpk <;> rcases hpq with hpq | hpq | hpq <;> omega
  have s3 : K1.1 233 = M1.1 150 := by rcases hpk with hpk | hpk | hpk <;> rcases hpq with hpq | hpq | hpq <;> omega
  have s4 : K1.1 235 = M1.1 152 := by rcases hpk with hpk | hpk | hpk <;> rcases hpq with hpq | hpq | hpq <;> omega
  have s5 : M1.1 1 = r1 := by rcases hpk with hpk | hpk | hpk <;> rcases hpq with hpq | hpq | hpq <;> omega
  have s6 : r1 = 0 → r2 = K.1 232 := by rcases hpk with hpk | hpk | hpk <;> rcases hpq with hpq | hpq | hpq <;> omega
  exact ⟨RX_l h fK vK fM vM s1 s2 s3 s4 rfl rfl rfl rfl, s5, s6⟩
theorem RX_entry {r1 r2 a0 a1 : Int} (h : RX K M) (hM : Ty M) (m_pth : M.1 127 = 0 ∨ M.1 127 = 1) (m_pld : M.1 128 = 1 → M.1 127 = 1) (m_pin : M.1 150 + M.1 149 = M.1 148) (fK : fr fF_pw_entry fA_pw_entry K K1) (vK : KTy K1) (fM : fr fF_entry fA_entry M M1) (vM : Ty M1) (hpk : (r1 = 0 ∧ (0 ≤ a0 ∧ a0 ≤ 2 ∧ K.1 201 = 1 ∧ 0 ≤ a1 ∧ a1 < K.1 219) ∧ 1 ≤ K.1 226 ∧ K.1 232 - K.1 233 < 40 ∧ K1.1 232 = K.1 232 + 1) ∨ (r1 = 1 ∧ (a0 < 0 ∨ 2 < a0 ∨ K.1 201 = 0 ∨ a1 < 0 ∨ K.1 219 ≤ a1) ∧ K1.1 232 = K.1 232) ∨ (r1 = 2 ∧ (0 ≤ a0 ∧ a0 ≤ 2 ∧ K.1 201 = 1 ∧ 0 ≤ a1 ∧ a1 < K.1 219) ∧ (K.1 226 ≤ 0 ∨ 40 ≤ K.1 232 - K.1 233) ∧ K1.1 232 = K.1 232)) (hpq : (M1.1 1 = 0 ∧ 0 ≤ a0 ∧ a0 ≤ 2 ∧ M.1 127 = 1 ∧ 0 ≤ a1 ∧ a1 < M.1 26 ∧ M.1 128 = 1 ∧ M.1 149 < 40 ∧ M1.1 148 = M.1 148 + 1 ∧ r2 = M.1 148) ∨ (M1.1 1 = 1 ∧ (a0 < 0 ∨ 2 < a0 ∨ M.1 127 = 0 ∨ a1 < 0 ∨ M.1 26 ≤ a1) ∧ M1.1 148 = M.1 148) ∨ (M1.1 1 = 2 ∧ 0 ≤ a0 ∧ a0 ≤ 2 ∧ M.1 127 = 1 ∧ 0 ≤ a1 ∧ a1 < M.1 26 ∧ (M.1 128 = 0 ∨ M.1 149 = 40) ∧ M1.1 148 = M.1 148)) : RX K1 M1 ∧ M1.1 1 = r1 ∧ (r1 = 0 → r2 = K.1 232) := by
  obtain ⟨x1, x2, x3, x4, x5, x6, x7⟩ := RX_fa h
  have t1 : M.1 149 ≤ 40 := (hM.1 149).2
  have t2 : 0 ≤ M.1 149 := (hM.1 149).1
  have fk200 := fr1 fK 200 rfl
  have fk233 := fr1 fK 233 rfl
  have fk235 := fr1 fK 235 rfl
  have fm5 := fr1 fM 5 rfl
  have fm150 := fr1 fM 150 rfl
  have fm152 := fr1 fM 152 rfl
  have s1 : K1.1 200 = K.1 200 ∧ M1.1 5 = M.1 5 := by rcases hpk with hpk | hpk | hpk <;> rcases hpq with hpq | hpq | hpq <;> omega
  have s2 : K1.1 232 = M1.1 148 := by rcases hpk with hpk | hpk | hpk <;> rcases hpq with hpq | hpq | hpq <;> omega
  have s3 : K1.1 233 = M1.1 150 := by rcases hpk with hpk | hpk | hpk <;> rcases hpq with hpq | hpq | hpq <;> omega
  have s4 : K1.1 235 = M1.1 152 := by rcases hpk with hpk | hpk | hpk <;> rcases hpq with hpq | hpq | hpq <;> omega
  have s5 : M1.1 1 = r1 := by rcases hpk with hpk | hpk | hpk <;> rcases hpq with hpq | hpq | hpq <;> omega
  have s6 : r1 = 0 → r2 = K.1 232 := by rcases hpk with hpk | hpk | hpk <;> rcases hpq with hpq | hpq | hpq <;> omega
  exact ⟨RX_l h fK vK fM vM (Or.inl s1) s2 s3 s4 rfl rfl rfl rfl, s5, s6⟩
theorem RX_run {r1 r2 a0 : Int} (h : RX K M) (hM : Ty M) (m_pth : M.1 127 = 0 ∨ M.1 127 = 1) (m_pld : M.1 128 = 1 → M.1 127 = 1) (m_pin : M.1 150 + M.1 149 = M.1 148) (fK : fr fF_pw_run fA_pw_run K K1) (vK : KTy K1) (fM : fr fF_run fA_run M M1) (vM : Ty M1) (hpk : (r1 = 0 ∧ K.1 201 = 1 ∧ 1 ≤ K.1 226 ∧ 0 ≤ a0 ∧ a0 ≤ 100 ∧ K1.1 235 = K.1 235 + a0 ∧ ((K1.1 233 = K.1 233 + a0 ∧ a0 ≤ K.1 232 - K.1 233) ∨ (K1.1 233 = K.1 232 ∧ K.1 232 - K.1 233 ≤ a0))) ∨ (r1 = 1 ∧ (K.1 201 = 0 ∨ K.1 226 ≤ 0) ∧ K1.1 233 = K.1 233 ∧ K1.1 235 = K.1 235) ∨ (r1 = 2 ∧ K.1 201 = 1 ∧ 1 ≤ K.1 226 ∧ (a0 < 0 ∨ 100 < a0) ∧ K1.1 233 = K.1 233 ∧ K1.1 235 = K.1 235)) (hsum : M1.1 150 + M1.1 149 = M.1 148) (hpq : (M1.1 1 = 0 ∧ M.1 128 = 1 ∧ 0 ≤ a0 ∧ a0 ≤ 100 ∧ M1.1 152 = M.1 152 + a0 ∧ ((M1.1 150 = M.1 150 + a0 ∧ a0 ≤ M.1 149) ∨ (M1.1 149 = 0 ∧ M.1 149 ≤ a0))) ∨ (M1.1 1 = 1 ∧ M.1 128 = 0 ∧ M1.1 150 = M.1 150 ∧ M1.1 152 = M.1 152) ∨ (M1.1 1 = 2 ∧ M.1 128 = 1 ∧ (a0 < 0 ∨ 100 < a0) ∧ M1.1 150 = M.1 150 ∧ M1.1 152 = M.1 152)) : RX K1 M1 ∧ M1.1 1 = r1 := by
  obtain ⟨x1, x2, x3, x4, x5, x6, x7⟩ := RX_fa h
  have t1 : M.1 149 ≤ 40 := (hM.1 149).2
  have t2 : 0 ≤ M.1 149 := (hM.1 149).1
  have fk200 := fr1 fK 200 rfl
  have fk232 := fr1 fK 232 rfl
  have fm5 := fr1 fM 5 rfl
  have fm148 := fr1 fM 148 rfl
  have s1 : K1.1 200 = K.1 200 ∧ M1.1 5 = M.1 5 := by rcases hpk with hpk | hpk | hpk <;> rcases hpq with hpq | hpq | hpq <;> omega
  have s2 : K1.1 232 = M1.1 148 := by rcases hpk with hpk | hpk | hpk <;> rcases hpq with hpq | hpq | hpq <;> omega
  have s3 : K1.1 233 = M1.1 150 := by rcases hpk with hpk | hpk | hpk <;> rcases hpq with hpq | hpq | hpq <;> omega
  have s4 : K1.1 235 = M1.1 152 := by rcases hpk with hpk | hpk | hpk <;> rcases hpq with hpq | hpq | hpq <;> omega
  have s5 : M1.1 1 = r1 := by rcases hpk with hpk | hpk | hpk <;> rcases hpq with hpq | hpq | hpq <;> omega
  exact ⟨RX_l h fK vK fM vM (Or.inl s1) s2 s3 s4 rfl rfl rfl rfl, s5⟩
end LX4
