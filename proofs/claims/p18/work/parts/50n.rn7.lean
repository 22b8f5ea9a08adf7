/-! ===== the relation, of the records that contracts speak of ===== -/
section RXS
variable {K K1 M M1 : mR} {F A G C : List Nat}
theorem gdz {l : List Int} {k : Nat} (h : l.length ≤ k) : l.getD k 0 = 0 := by
  rw [List.getD_eq_getElem?_getD, List.getElem?_eq_none h]
  rfl
def rVb (b : Bool) (lo hi : Int) : Bool := match b with
  | false => decide (-2147483648 ≤ lo) && decide (hi < 2147483648)
  | true => decide (-9223372036854775808 ≤ lo) && decide (hi < 9223372036854775808)
theorem rVb_ok {b : Bool} {lo hi x : Int} (h : rVb b lo hi = true) (h1 : lo ≤ x) (h2 : x ≤ hi) : rV b x := by
  cases b with
  | false =>
    simp only [rVb, Bool.and_eq_true, decide_eq_true_eq] at h
    exact ⟨by omega, by omega⟩
  | true =>
    simp only [rVb, Bool.and_eq_true, decide_eq_true_eq] at h
    exact ⟨by omega, by omega⟩
theorem kfV0 : (List.range 300).all (fun k => rVb (klg k) (kflo k) (kfhi k)) = true := by decide +kernel
theorem keV0 : (List.range 300).all (fun k => rVb (klg k) (kelo k) (kehi k)) = true := by decide +kernel
theorem mfV0 : (List.range 300).all (fun k => rVb (lg k) (flo k) (fhi k)) = true := by decide +kernel
theorem meV0 : (List.range 300).all (fun k => rVb (lg k) (elo k) (ehi k)) = true := by decide +kernel
theorem kz (k : Nat) (h : 300 ≤ k) : kflo k = 0 ∧ kfhi k = 0 ∧ kelo k = 0 ∧ kehi k = 0 := ⟨gdz (Nat.le_trans (by decide +kernel) h), gdz (Nat.le_trans (by decide +kernel) h), gdz (Nat.le_trans (by decide +kernel) h), gdz (Nat.le_trans (by decide +kernel) h)⟩
theorem mz (k : Nat) (h : 300 ≤ k) : flo k = 0 ∧ fhi k = 0 ∧ elo k = 0 ∧ ehi k = 0 := ⟨gdz (Nat.le_trans (by decide +kernel) h), gdz (Nat.le_trans (by decide +kernel) h), gdz (Nat.le_trans (by decide +kernel) h), gdz (Nat.le_trans (by decide +kernel) h)⟩
theorem rV_z {b : Bool} {x : Int} (h : x = 0) : rV b x := by
  rw [h]
  cases b with
  | false => exact ⟨by decide, by decide⟩
  | true => exact ⟨by decide, by decide⟩
theorem KTy_V (h : KTy K) : (∀ k, rV (klg k) (K.1 k)) ∧ ∀ k i, rV (klg k) (K.2 k i) := by
  refine ⟨fun k => ?_, fun k i => ?_⟩
  · by_cases hk : k < 300
    · exact rVb_ok (List.all_eq_true.mp kfV0 k (List.mem_range.mpr hk)) (h.1 k).1 (h.1 k).2
    · obtain ⟨e1, e2, -, -⟩ := kz k (by omega)
      have q := h.1 k
      rw [e1, e2] at q
      exact rV_z (by omega)
  · by_cases hk : k < 300
    · exact rVb_ok (List.all_eq_true.mp keV0 k (List.mem_range.mpr hk)) (h.2.1 k i).1 (h.2.1 k i).2
    · obtain ⟨-, -, e1, e2⟩ := kz k (by omega)
      have q := h.2.1 k i
      rw [e1, e2] at q
      exact rV_z (by omega)
theorem Ty_V (h : Ty M) : (∀ k, rV (lg k) (M.1 k)) ∧ ∀ k i, rV (lg k) (M.2 k i) := by
  refine ⟨fun k => ?_, fun k i => ?_⟩
  · by_cases hk : k < 300
    · exact rVb_ok (List.all_eq_true.mp mfV0 k (List.mem_range.mpr hk)) (h.1 k).1 (h.1 k).2
    · obtain ⟨e1, e2, -, -⟩ := mz k (by omega)
      have q := h.1 k
      rw [e1, e2] at q
      exact rV_z (by omega)
  · by_cases hk : k < 300
    · exact rVb_ok (List.all_eq_true.mp meV0 k (List.mem_range.mpr hk)) (h.2.1 k i).1 (h.2.1 k i).2
    · obtain ⟨-, -, e1, e2⟩ := mz k (by omega)
      have q := h.2.1 k i
      rw [e1, e2] at q
      exact rV_z (by omega)
/-- rows of headers hold numbers of fields -/
def FRG (M : mR) : Prop := ∀ h, 0 ≤ M.2 29 h ∧ M.2 29 h ≤ 16
def RX3 (K M Kp mp : mR) : Prop := AGk K Kp ∧ AGm M mp ∧ REL0 Kp mp ∧ FRG mp
def RX (K M : mR) : Prop := ∃ Kp mp, RX3 K M Kp mp
theorem AGk_C {Kp : mR} (h : AGk K Kp) (hK : KTy K) : KCn Kp := by
  refine ⟨fun k => ?_, h.2.2.2, ?_⟩
  · rw [h.1]
    exact (KTy_V hK).1 k
  · exact KO_c (h.2.1 107 (by decide)) (h.2.1 108 (by decide)) hK.2.2
theorem AGm_C {mp : mR} (h : AGm M mp) (hM : Ty M) : Cn mp := by
  refine ⟨fun k => ?_, h.2.2.2⟩
  rw [h.1]
  exact (Ty_V hM).1 k
theorem RX_f (h : RX K M) (fK : fr F A K K1) (vK : KTy K1) (fM : fr G C M M1) (vM : Ty M1) (c1 : chk RFk F = true) (c2 : chk RAk A = true) (c3 : chk RFm G = true) (c4 : chk RAx C = true) : RX K1 M1 := by
  obtain ⟨Kp, mp, a, b, r, g⟩ := h
  obtain ⟨a1, f1⟩ := AGk_f a fK c2 (KTy_V vK).2
  obtain ⟨b1, f2⟩ := AGm_f b fM c4 (Ty_V vM).2
  refine ⟨_, _, a1, b1, REL_f r f1 f2 c1 c2 c3 c4, ?_⟩
  unfold FRG
  rw [fr2 f2 29 (chk_1 c4 (by decide))]
  exact g
/-- packet, entry, run -/
theorem RX_l (h : RX K M) (fK : fr F A K K1) (vK : KTy K1) (fM : fr G C M M1) (vM : Ty M1) (hT : (K1.1 200 = K.1 200 ∧ M1.1 5 = M.1 5) ∨ (K1.1 200 = 0 ∧ M1.1 5 = 0)) (e1 : K1.1 232 = M1.1 148) (e2 : K1.1 233 = M1.1 150) (e3 : K1.1 235 = M1.1 152) (c1 : chk [201, 202, 214, 215, 216, 217, 218, 219, 220, 221, 222, 223, 224, 225, 226] F = true) (c2 : chk RAk A = true) (c3 : chk [6, 13, 19, 20, 21, 22, 23, 24, 25, 26, 27, 28, 99, 125, 127, 128, 129, 130] G = true) (c4 : chk RAx C = true) : RX K1 M1 := by
  obtain ⟨Kp, mp, a, b, r, g⟩ := h
  obtain ⟨a1, f1⟩ := AGk_f a fK c2 (KTy_V vK).2
  obtain ⟨b1, f2⟩ := AGm_f b fM c4 (Ty_V vM).2
  have T := r.2.1
  have q1 : (ptk Kp K1).1 = K1.1 := rfl
  have q2 : (ptm mp M1).1 = M1.1 := rfl
  have q3 : Kp.1 = K.1 := a.1
  have q4 : mp.1 = M.1 := b.1
  refine ⟨_, _, a1, b1, REL_l r f1 f2 ?_ (by rw [q1, q2]; exact e1) (by rw [q1, q2]; exact e2) (by rw [q1, q2]; exact e3) c1 c2 c3 c4, ?_⟩
  · unfold TPE
    rw [q1, q2, fr2 f1 1 (chk_1 c2 (by decide)), fr2 f2 3 (chk_1 c4 (by decide))]
    unfold TPE at T
    rw [q3, q4] at T
    rcases hT with ⟨t1, t2⟩ | ⟨t1, t2⟩
    · rw [t1, t2]
      exact T
    · rw [t1, t2]
      exact ⟨rfl, by decide, by decide, fun i i0 i1 => by omega⟩
  · unfold FRG
    rw [fr2 f2 29 (chk_1 c4 (by decide))]
    exact g
/-- calls that contracts and functions speak of, in both -/
theorem RX_h {F2 A2 G2 C2 : List Nat} {c1 c2 c3 c4 : Nat → Option am_C} {Kp mp K2 M2 : mR} (a : AGk K Kp) (b : AGm M mp) (fK : fr F A K K1) (vK : KTy K1) (fM : fr G C M M1) (vM : Ty M1) (uK : fr F2 A2 Kp K2) (cK : KCn K2) (uM : fr G2 C2 mp M2) (cM : Cn M2) (hk : khp K1 c1 = khp K2 c2) (hm : mhp M1 c3 = mhp M2 c4) (d1 : (F ++ F2).all (fun k => decide (200 ≤ k) && decide (k < 236)) = true) (d2 : (G ++ G2).all (fun k => decide (k < 179) && decide (mkd k < 3)) = true) (d3 : chk RAk ((A ++ A2).filter (nin RAk)) = true) (d4 : chk RAx ((C ++ C2).filter (nin RAx)) = true) (r : REL0 K2 M2) (g : ∀ h, h < 0 → 0 ≤ M2.2 29 h ∧ M2.2 29 h ≤ 16) : RX K1 M1 ∧ M1.1 = M2.1 ∧ K1.1 = K2.1 := by
  obtain ⟨a1, f1⟩ := AGk_h a fK uK hk d1 (KTy_V vK) ⟨cK.1, cK.2.1⟩
  obtain ⟨b1, f2⟩ := AGm_h b fM uM hm d2 (Ty_V vM) ⟨cM.1, cM.2⟩
  refine ⟨⟨_, _, a1, b1, REL_f r f1 f2 rfl d3 rfl d4, fun h => ?_⟩, funext (fun k => f2.1 k rfl), funext (fun k => f1.1 k rfl)⟩
  by_cases q : h < 0
  · rw [fr2 f2 29 (chk_1 d4 (by decide))]
    exact g h q
  · have e := b1.2.2.1 29 (by decide) h (by omega)
    rw [e]
    exact vM.2.1 29 h
/-- where codes end: out of what the reference's contracts keep -/
theorem RGE_m {mp : mR} (b : AGm M mp) (g : FRG mp) (h1 : TdP (M.2 65) (M.1 28) (M.1 22) (M.1 99) (M.2 101) (M.2 103) (M.2 105) (M.2 106) (M.2 107) (M.2 108)) (h2 : AcP (M.1 25) (M.1 99) (M.2 109) (M.2 50)) (h3 : TbP (M.2 65) (M.1 28) (M.1 25) (M.1 26) (M.2 51) (M.2 110) (M.2 111) (M.2 57) (M.2 53) (M.2 114) (M.2 58) (M.2 54)) (h4 : SpP (M.2 65) (M.1 28) (M.1 99) (M.1 26) (M.1 27) (M.2 60) (M.2 61) (M.2 120) (M.2 121) (M.2 122) (M.2 63)) : RGE mp := by
  have e := b.1
  refine ⟨fun k k0 k1 => ⟨fun ht => ?_, fun ht => ?_⟩, fun t t0 t1 i i0 i1 => ?_, fun p p0 p1 hp => ?_, fun a a0 a1 => ?_, g⟩
  · rw [e] at k1 ⊢
    rw [AGm_d b k0] at ht ⊢
    rw [AGm_d b k0]
    have q := (h1 k k0 k1).1 ht
    exact ⟨q.2, q.1.1⟩
  · rw [e] at k1 ⊢
    rw [AGm_d b k0] at ht ⊢
    rw [AGm_d b k0]
    have q := ((h1 k k0 k1).2 ht).1
    exact ⟨q.2, q.1.1⟩
  · rw [e] at t1 ⊢
    rw [AGm_d b t0] at i1
    rw [AGm_d b (show 0 ≤ 4 * t + i by omega), AGm_d b (show 0 ≤ 4 * t + i by omega)]
    have q := (h3 t t0 t1).1 (4 * t + i) (by omega) (by omega)
    exact ⟨q.2, q.1.1⟩
  · rw [e] at p1 ⊢
    rw [AGm_d b p0] at hp ⊢
    rw [AGm_d b p0]
    have q := (h4 p p0 p1).2.2.1 hp
    exact ⟨q.2, q.1.1⟩
  · rw [e] at a1 ⊢
    rw [AGm_d b a0, AGm_d b a0]
    exact h2 a a0 a1
end RXS
