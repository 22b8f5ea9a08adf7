/-! ===== an entry comes; an operation on entries whole ===== -/
section TQ7
variable {K M K' M' : mR} {t r : Int}
/-- a row more in the reference -/
def NRM (t n a : Int) (M M3 : mR) : Prop := fr [] [139, 140, 141, 142, 143, 144] M M3 ∧ M3.2 139 = upI (M.2 139) t (n + 1) ∧ (∀ j, j < 4 * (96 * t + n) ∨ 4 * (96 * t + n) + 4 ≤ j → M3.2 142 j = M.2 142 j ∧ M3.2 143 j = M.2 143 j ∧ M3.2 144 j = M.2 144 j) ∧ (∀ j, j ≠ 96 * t + n → M3.2 140 j = M.2 140 j ∧ M3.2 141 j = M.2 141 j) ∧ M3.2 140 (96 * t + n) = M.2 157 0 ∧ M3.2 141 (96 * t + n) = a ∧ (∀ i, 0 ≤ i → i < M.2 51 t → M3.2 143 (4 * (96 * t + n) + i) = and64 (M.2 161 i) (mk64 (M.2 112 (4 * t + i))) ∧ M3.2 142 (4 * (96 * t + n) + i) = and64 (M.2 160 i) (and64 (M.2 161 i) (mk64 (M.2 112 (4 * t + i))))) ∧ ∀ i, 0 ≤ i → i < 4 → M3.2 144 (4 * (96 * t + n) + i) = if M.2 46 a ≤ i then 0 else and64 (M.2 162 i) (mk64 (M.2 49 (4 * a + i)))
theorem com_r {α : Type} {X : Option α} {Q : α → Int × mR → Prop} {n a : Int} (t0 : 0 ≤ t) (t1 : t < 8) (h0 : 0 ≤ M.2 51 t) (h1 : M.2 51 t ≤ 4) (hn : M.2 139 t = n) (n0 : 0 ≤ n) (n1 : n ≤ 72) (ha : M.2 158 0 = a) (a0 : 0 ≤ a) (a1 : a < 16) (hR : ∀ i, 0 ≤ i → i < 4 → R64 (M.2 161 i) ∧ R64 (M.2 162 i)) (h : ∀ M3, NRM t n a M M3 → RR X (if M3.2 58 t = 0 then some (1, M3) else bnd (rf_above t M3) fun y4 => rfl_entryComes_179 t y4.1 y4.2) Q) : RR X (rfl_entryComes_48 t M) Q := by
  unfold rfl_entryComes_48
  rw [hn]
  refine RR_r (app_r (M := M) (t := t) (e := n) t0 t1 n0 (by omega) h0 h1 (fun i i0 i1 => (hR i i0 i1).1)) (fun m hm => ?_)
  obtain ⟨-, b2, b3, b4⟩ := hm
  have b2 : fr [] [142, 143] M m := b2
  unfold rfl_entryComes_132 rf_slot
  rw [bnd_some, cut_i (z := 96 * t) (by omega) (by omega), cut_i (z := 96 * t + n) (by omega) (by omega), show m.2 140 = M.2 140 from fr2 b2 140 rfl, show m.2 157 = M.2 157 from fr2 b2 157 rfl]
  have eM : ∃ M1, M1 = mO m [] [(140, upI (M.2 140) (96 * t + n) (M.2 157 0))] := ⟨_, rfl⟩
  obtain ⟨M1, eM⟩ := eM
  rw [← eM]
  have f1 : fr [] [140, 142, 143] M M1 := by
    rw [eM]
    exact fr_m (fr_s b2 fr_0 rfl rfl) rfl rfl
  have g140 : M1.2 140 = upI (M.2 140) (96 * t + n) (M.2 157 0) := by rw [eM]; rfl
  have g142 : M1.2 142 = m.2 142 := by rw [eM]; rfl
  have g143 : M1.2 143 = m.2 143 := by rw [eM]; rfl
  refine RR_r (put_r (M := M1) (t := t) (e := n) (a := a) (by rw [show M1.2 158 = M.2 158 from fr2 f1 158 rfl]; exact ha) a0 a1 t0 t1 n0 (by omega) (fun i i0 i1 => by rw [show M1.2 162 = M.2 162 from fr2 f1 162 rfl]; exact (hR i i0 i1).2)) (fun u hu => ?_)
  obtain ⟨-, c2, c3, c4, c5⟩ := hu
  have c2 : fr [] [141, 144] M1 u.2 := c2
  have c3 : u.2.2 141 = upI (M1.2 141) (96 * t + n) a := c3
  unfold rfl_entryComes_155
  have f2 : fr [] [140, 141, 142, 143, 144] M u.2 := fr_s c2 (fr_s f1 fr_0 rfl rfl) rfl rfl
  rw [show u.2.2 139 = M.2 139 from fr2 f2 139 rfl, hn, cut_i (z := n + 1) (by omega) (by omega)]
  have eN : ∃ M3, M3 = mO u.2 [] [(139, upI (M.2 139) t (n + 1))] := ⟨_, rfl⟩
  obtain ⟨M3, eN⟩ := eN
  rw [← eN, show u.2.2 58 = M3.2 58 by rw [eN]; rfl]
  refine h M3 ⟨?_, ?_, fun j hj => ?_, fun j hj => ?_, ?_, ?_, fun i i0 i1 => ?_, fun i i0 i1 => ?_⟩
  · rw [eN]
    exact fr_m (fr_s f2 fr_0 rfl rfl) rfl rfl
  · rw [eN]; rfl
  · rw [eN]
    show u.2.2 142 j = _ ∧ u.2.2 143 j = _ ∧ u.2.2 144 j = _
    rw [show u.2.2 142 = M1.2 142 from fr2 c2 142 rfl, show u.2.2 143 = M1.2 143 from fr2 c2 143 rfl, g142, g143]
    obtain ⟨q1, q2⟩ := b4 j hj
    refine ⟨q1, q2, ?_⟩
    have q3 : u.2.2 144 j = M1.2 144 j := c5 j hj
    rw [q3, show M1.2 144 = M.2 144 from fr2 f1 144 rfl]
  · rw [eN]
    show u.2.2 140 j = _ ∧ u.2.2 141 j = _
    rw [show u.2.2 140 = M1.2 140 from fr2 c2 140 rfl, g140, c3, show M1.2 141 = M.2 141 from fr2 f1 141 rfl]
    exact ⟨upI_n hj, upI_n hj⟩
  · rw [eN]
    show u.2.2 140 _ = _
    rw [show u.2.2 140 = M1.2 140 from fr2 c2 140 rfl, g140, upI_s]
  · rw [eN]
    show u.2.2 141 _ = _
    rw [c3, upI_s]
  · rw [eN]
    show u.2.2 143 _ = _ ∧ u.2.2 142 _ = _
    rw [show u.2.2 142 = M1.2 142 from fr2 c2 142 rfl, show u.2.2 143 = M1.2 143 from fr2 c2 143 rfl, g142, g143]
    exact b3 i i0 i1
  · rw [eN]
    show u.2.2 144 _ = _
    have q : u.2.2 144 (4 * (96 * t + n) + i) = if M1.2 46 a ≤ i then 0 else and64 (M1.2 162 i) (mk64 (M1.2 49 (4 * a + i))) := c4 i i0 i1
    rw [q, show M1.2 46 = M.2 46 from fr2 f1 46 rfl, show M1.2 162 = M.2 162 from fr2 f1 162 rfl, show M1.2 49 = M.2 49 from fr2 f1 49 rfl]
/-- a row more in the class: keys and priority -/
def NRK (t r n : Int) (K K1 : mR) : Prop := fr [] [85, 86, 88] K K1 ∧ (∀ j, j < 65536 * t + n * 4 ∨ 65536 * t + (n * 4 + 4) ≤ j → K1.2 85 j = K.2 85 j ∧ K1.2 86 j = K.2 86 j) ∧ (∀ i, 0 ≤ i → i < K.2 72 t → K1.2 85 (65536 * t + (n * 4 + i)) = K.2 103 (65536 * r + i) ∧ K1.2 86 (65536 * t + (n * 4 + i)) = K.2 104 (65536 * r + i)) ∧ K1.2 88 = upI (K.2 88) (65536 * t + n) (K.2 96 r)
noncomputable def a65 (t : Int) (K1 : mR) : Option (Int × mR) :=
  bnd (kf_tb_isHashed t K1) fun y4 =>
  if y4 = 0 then
    if (K1.2 78) t < (K1.2 75) t then
      kfl_tb_append_126 t 0 K1
    else
      kfl_tb_append_126 t 1 K1
  else
    bnd (kf_tb_above t (cut (((K1.2 78) t) + 1)) K1) fun y9 =>
    if y9.1 ≤ (y9.2.2 77) t then
      kfl_tb_append_126 t 0 y9.2
    else
      kfl_tb_append_126 t 1 y9.2
theorem a65_e (m : mR) : kfl_tb_append_65 t r m = a65 t (mO m [] [(88, upI (m.2 88) (65536 * t + m.2 78 t) (m.2 96 r))]) := rfl
theorem app2_k {β : Type} {Y : Option β} {Q : Int × mR → β → Prop} {n : Int} (h0 : 0 ≤ K.2 72 t) (h1 : K.2 72 t ≤ 4) (hn : K.2 78 t = n) (n0 : 0 ≤ n) (n1 : n < 72) {k : Int × mR → Option (Int × mR)} (h : ∀ K1, NRK t r n K K1 → RR (bnd (a65 t K1) k) Y Q) : RR (bnd (kf_tb_append t r K) k) Y Q := by
  unfold kf_tb_append
  rw [if_pos (by omega)]
  intro y z hy hz
  cases hw : whl (kfb_tb_append_13 t r) (0, K) with
  | none => rw [hw] at hy; cases hy
  | some m =>
    rw [hw, bnd_some, a65_e] at hy
    obtain ⟨-, b2, b3, b4⟩ := app_k (K := K) (t := t) (r := r) (e := n) hn n0 (by omega) h0 h1 m hw
    have b2 : fr [] [85, 86] K m := b2
    refine h (mO m [] [(88, upI (m.2 88) (65536 * t + m.2 78 t) (m.2 96 r))]) ⟨fr_m (fr_s b2 fr_0 rfl rfl) rfl rfl, fun j hj => b4 j hj, fun i i0 i1 => b3 i i0 i1, ?_⟩ y z hy hz
    show upI (m.2 88) _ _ = _
    rw [show m.2 88 = K.2 88 from fr2 b2 88 rfl, show m.2 78 = K.2 78 from fr2 b2 78 rfl, show m.2 96 = K.2 96 from fr2 b2 96 rfl, hn]
/-- the new row and those ahead of it -/
theorem TQ_n {n a : Int} {K1 K2 M3 M4 : mR} (hG : GVQ t K M) (hQ : TQ t K M) (hO : OCQ t r K M) (hn : M.2 139 t = n) (n1 : n < 72) (a0 : 0 ≤ a) (a1 : a < M.1 25) (ns : ∀ e, 0 ≤ e → e < n → ¬ sqM t e M) (hK : NRK t r n K K1) (hM : NRM t n a M M3) (hr : M.2 58 t = 0 → n + 1 ≤ M.2 54 t) (f4 : fr [] [170] M3 M4) (k2 : fr [] [78, 87, 89, 90] K1 K2) (k78 : K2.2 78 t = n + 1) (k89 : K2.2 89 = upI (K.2 89) (65536 * t + n) a) (k87 : ∀ i, 0 ≤ i → i < M.2 46 a → K2.2 87 (65536 * t + (n * 4 + i)) = and64 (M.2 162 i) (mk64 (M.2 49 (4 * a + i)))) (k87o : ∀ j, j < 65536 * t + n * 4 ∨ 65536 * t + (n * 4 + 4) ≤ j → K2.2 87 j = K.2 87 j) : TQ t K2 M4 := by
  have p4 := GVQ_4 hG
  obtain ⟨⟨t0, t1⟩, hB, hP, -, -⟩ := hG
  obtain ⟨c1, c2, c3, c4⟩ := hP a a0 a1
  obtain ⟨kt1, kt2, kt3, -⟩ := hB.1
  obtain ⟨q1, ⟨q2, q3⟩, q4, q5, q6⟩ := hQ
  obtain ⟨o1, o2, o3, o4⟩ := hO
  obtain ⟨r1, r2, r3, r4⟩ := hK
  obtain ⟨m1, m2, m3, m4, m5, m6, m7, m8⟩ := hM
  have fM : fr [] svG M M4 := fr_s f4 (fr_s m1 fr_0 rfl rfl) rfl rfl
  have e139 : M4.2 139 = upI (M.2 139) t (n + 1) := (fr2 f4 139 rfl).trans m2
  have e140 : M4.2 140 = M3.2 140 := fr2 f4 140 rfl
  have e141 : M4.2 141 = M3.2 141 := fr2 f4 141 rfl
  have e142 : M4.2 142 = M3.2 142 := fr2 f4 142 rfl
  have e143 : M4.2 143 = M3.2 143 := fr2 f4 143 rfl
  have e144 : M4.2 144 = M3.2 144 := fr2 f4 144 rfl
  have k85 : K2.2 85 = K1.2 85 := fr2 k2 85 rfl
  have k86 : K2.2 86 = K1.2 86 := fr2 k2 86 rfl
  have k88 : K2.2 88 = K1.2 88 := fr2 k2 88 rfl
  refine ⟨?_, ?_, ?_, fun x x0 x1 => ?_, fun e f e0 e1 f1 => ?_⟩
  · rw [k78, e139, upI_s]
  · rw [e139, upI_s]
    omega
  · rw [e139, upI_s, show M4.2 58 = M.2 58 from fr2 fM 58 rfl, show M4.2 54 = M.2 54 from fr2 fM 54 rfl]
    exact hr
  · rw [e139, upI_s] at x1
    by_cases e : x = n
    · subst e
      unfold TR2
      rw [show M4.2 51 = M.2 51 from fr2 fM 51 rfl, show M4.2 46 = M.2 46 from fr2 fM 46 rfl, show M4.2 49 = M.2 49 from fr2 fM 49 rfl, show M4.1 25 = M.1 25 from fr1 fM 25 rfl, e140, e141, e142, e143, e144, k85, k86, k88, k89, upI_s, r4, upI_s, m5, m6]
      refine ⟨fun i i0 i1 => ?_, o1, rfl, ⟨a0, a1⟩, fun i i0 i1 => ?_⟩
      · obtain ⟨z1, z2⟩ := m7 i i0 i1
        obtain ⟨y1, y2⟩ := r3 i i0 (by omega)
        obtain ⟨x1, x2⟩ := o3 i i0 i1
        rw [z1, z2, y1, y2, x1, x2]
        exact ⟨rfl, rfl, and_aa _ _⟩
      · obtain ⟨d1, d2, d3⟩ := c4 i i0 i1
        have z := m8 i i0 (by omega)
        rw [if_neg (by omega)] at z
        rw [z, k87 i i0 i1]
        exact ⟨rfl, VW_m (by omega) d3⟩
    · refine TR2_s (q5 x x0 (by omega)) fM p4 kt3 (fun i i0 i1 => ?_) ?_ ?_ (fun i i0 i1 => ?_) ?_ ?_
      · rw [k85, k86]
        obtain ⟨y1, y2⟩ := r2 (65536 * t + (x * 4 + i)) (by omega)
        exact ⟨y1, y2, k87o _ (by omega)⟩
      · rw [k88, r4, upI_n (by omega)]
      · rw [k89, upI_n (by omega)]
      · rw [e142, e143, e144]
        exact m3 _ (by omega)
      · rw [e140]
        exact (m4 _ (by omega)).1
      · rw [e141]
        exact (m4 _ (by omega)).2
  · rw [e139, upI_s] at f1
    by_cases ef : f = n
    · have no := ns e e0 (by omega)
      have ex : ∃ i, 0 ≤ i ∧ i < M.2 51 t ∧ ¬ sqQ t e M i := Classical.byContradiction (fun z => no (fun i i0 i1 => Classical.byContradiction (fun z2 => z ⟨i, i0, i1, z2⟩)))
      obtain ⟨i, i0, i1, i2⟩ := ex
      refine ⟨i, i0, by rw [show M4.2 51 = M.2 51 from fr2 fM 51 rfl]; exact i1, ?_⟩
      obtain ⟨z1, z2⟩ := m7 i i0 i1
      obtain ⟨y1, y2, -⟩ := m3 (4 * (96 * t + e) + i) (by omega)
      rw [e142, e143, ef, y1, y2, z1, z2]
      exact fun q => i2 ⟨q.2, q.1⟩
    · obtain ⟨i, i0, i1, i2⟩ := q6 e f e0 e1 (by omega)
      refine ⟨i, i0, by rw [show M4.2 51 = M.2 51 from fr2 fM 51 rfl]; exact i1, ?_⟩
      obtain ⟨y1, y2, -⟩ := m3 (4 * (96 * t + e) + i) (by omega)
      obtain ⟨z1, z2, -⟩ := m3 (4 * (96 * t + f) + i) (by omega)
      rw [e142, e143, y1, y2, z1, z2]
      exact i2
/-- a row that isn't counted leaves all as it was -/
theorem TQ_o {n : Int} {K2 M4 : mR} (hG : GVQ t K M) (hQ : TQ t K M) (hn : M.2 139 t = n) (k78 : K2.2 78 t = K.2 78 t) (hK : ∀ j, j < 65536 * t + n * 4 ∨ 65536 * t + (n * 4 + 4) ≤ j → K2.2 85 j = K.2 85 j ∧ K2.2 86 j = K.2 86 j ∧ K2.2 87 j = K.2 87 j) (h88 : ∀ j, j ≠ 65536 * t + n → K2.2 88 j = K.2 88 j ∧ K2.2 89 j = K.2 89 j) (fM : fr [] svG M M4) (h139 : M4.2 139 t = n) (hM : ∀ j, j < 4 * (96 * t + n) ∨ 4 * (96 * t + n) + 4 ≤ j → M4.2 142 j = M.2 142 j ∧ M4.2 143 j = M.2 143 j ∧ M4.2 144 j = M.2 144 j) (h140 : ∀ j, j ≠ 96 * t + n → M4.2 140 j = M.2 140 j ∧ M4.2 141 j = M.2 141 j) : TQ t K2 M4 := by
  have p4 := GVQ_4 hG
  obtain ⟨-, hB, -, -, -⟩ := hG
  have kt3 := hB.1.2.2.1
  obtain ⟨q1, ⟨q2, q3⟩, q4, q5, q6⟩ := hQ
  refine ⟨by rw [k78, h139, q1, hn], by rw [h139]; omega, ?_, fun x x0 x1 => ?_, fun e f e0 e1 f1 => ?_⟩
  · rw [h139, show M4.2 58 = M.2 58 from fr2 fM 58 rfl, show M4.2 54 = M.2 54 from fr2 fM 54 rfl, ← hn]
    exact q4
  · rw [h139] at x1
    refine TR2_s (q5 x x0 (by omega)) fM p4 kt3 (fun i i0 i1 => hK _ (by omega)) (h88 _ (by omega)).1 (h88 _ (by omega)).2 (fun i i0 i1 => hM _ (by omega)) (h140 _ (by omega)).1 (h140 _ (by omega)).2
  · rw [h139] at f1
    obtain ⟨i, i0, i1, i2⟩ := q6 e f e0 e1 (by omega)
    refine ⟨i, i0, by rw [show M4.2 51 = M.2 51 from fr2 fM 51 rfl]; exact i1, ?_⟩
    obtain ⟨y1, y2, -⟩ := hM (4 * (96 * t + e) + i) (by omega)
    obtain ⟨z1, z2, -⟩ := hM (4 * (96 * t + f) + i) (by omega)
    rw [y1, y2, z1, z2]
    exact i2
end TQ7
