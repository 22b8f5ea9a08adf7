/-! ===== feed and end, side by side ===== -/
section FEE
variable {K M : mR}
theorem i2b_b {v : Int} (h : R32 v) : i2b32 v = v.bmod 256 := by
  unfold i2b32
  rw [Int8.toInt_toInt32, Int32.toInt_toInt8, i32_to h]
theorem nar2_b {v : Int} (h : R32 v) : nar2 v = v.bmod 256 := by
  rw [← i2b_b h]
  rfl
theorem and_255 {v : Int} (h : R32 v) : and32 v 255 = v % 256 := by
  unfold and32
  have e1 : ((i32 v &&& i32 255).toBitVec).toNat = (v % 256).toNat := by
    rw [Int32.toBitVec_and, BitVec.toNat_and]
    have e2 : (i32 255).toBitVec.toNat = 2 ^ 8 - 1 := by decide
    rw [e2, Nat.and_two_pow_sub_one_eq_mod]
    have e3 : ((i32 v).toBitVec.toNat : Int) = v % 4294967296 := by
      show (((BitVec.ofInt 32 v).toNat : Nat) : Int) = _
      rw [BitVec.toNat_ofInt]
      omega
    omega
  show (i32 v &&& i32 255).toBitVec.toInt = _
  rw [BitVec.toInt_eq_toNat_of_lt (by rw [e1]; omega), e1]
  omega
theorem sh_b9 {n : Nat} (hn : n < 32) : (((i32 (n : Int)) &&& 31).toBitVec.smod 32) = BitVec.ofNat 32 n := by
  have : ∀ n : Fin 32, (((i32 ((n.val : Nat) : Int)) &&& 31).toBitVec.smod 32) = BitVec.ofNat 32 n.val := by decide +kernel
  exact this ⟨n, hn⟩
theorem shr_low {w : Int} {n : Nat} (hn : n ≤ 24) : and32 (shr32 w n) 255 = and32 (ushr32 w n) 255 := by
  unfold and32 shr32 ushr32
  rw [show i32 ((i32 w >>> (i32 (n : Int) &&& 31)).toInt) = i32 w >>> (i32 (n : Int) &&& 31) from Int32.ofInt_toInt _, show i32 ((((i32 w).toUInt32 >>> ((i32 (n : Int)).toUInt32 &&& Int32.toUInt32 31)).toInt32).toInt) = ((i32 w).toUInt32 >>> ((i32 (n : Int)).toUInt32 &&& Int32.toUInt32 31)).toInt32 from Int32.ofInt_toInt _]
  have e : ((i32 w).toUInt32 >>> ((i32 (n : Int)).toUInt32 &&& Int32.toUInt32 31)).toInt32.toBitVec = (i32 w).toBitVec >>> n := by
    show ((i32 w).toUInt32 >>> ((i32 (n : Int)).toUInt32 &&& Int32.toUInt32 31)).toBitVec = _
    rw [UInt32.toBitVec_shiftRight]
    show (i32 w).toBitVec >>> (((i32 (n : Int)).toUInt32 &&& Int32.toUInt32 31).toBitVec % 32).toNat = _
    rw [sh_b32 n (by omega)]
  have e2 : (i32 w >>> (i32 (n : Int) &&& 31)).toBitVec = (i32 w).toBitVec.sshiftRight n := by
    rw [Int32.toBitVec_shiftRight, sh_b9 (by omega)]
    show (i32 w).toBitVec.sshiftRight (BitVec.ofNat 32 n).toNat = _
    rw [BitVec.toNat_ofNat, Nat.mod_eq_of_lt (by omega)]
  apply congrArg Int32.toInt
  apply Int32.toBitVec_inj.mp
  rw [Int32.toBitVec_and, Int32.toBitVec_and, e, e2]
  apply BitVec.eq_of_getLsbD_eq
  intro i hi
  rw [BitVec.getLsbD_and, BitVec.getLsbD_and]
  have e3 : ∀ i : Nat, i < 32 → 8 ≤ i → (i32 255).toBitVec.getLsbD i = false := by decide +kernel
  by_cases h8 : i < 8
  · rw [BitVec.getLsbD_sshiftRight, BitVec.getLsbD_ushiftRight]
    have : n + i < 32 := by omega
    rw [if_pos this, decide_eq_false (show ¬ 32 ≤ i by omega)]
    simp only [Bool.not_false, Bool.true_and]
  · rw [e3 i hi (by omega), Bool.and_false, Bool.and_false]
/-- a byte of both -/
theorem byte_kr {w : Int} {n : Nat} (hn : n ≤ 24) : nar2 (i2b32 (ushr32 w n)) = (if and32 (shr32 w n) 255 < 128 then and32 (shr32 w n) 255 else and32 (shr32 w n) 255 - 256) := by
  have hr : R32 (ushr32 w n) := t32_r
  rw [shr_low hn, and_255 hr, i2b_b hr]
  have hb : R32 ((ushr32 w n).bmod 256) := by
    have h1 := Int.le_bmod (x := ushr32 w n) (m := 256) (by decide)
    have h2 := Int.bmod_lt (x := ushr32 w n) (m := 256) (by decide)
    exact ⟨by omega, by omega⟩
  rw [nar2_b hb, Int.bmod_bmod]
  unfold Int.bmod
  by_cases h : (ushr32 w n) % 256 < 128
  · rw [if_pos h]
    simp only
    split <;> omega
  · rw [if_neg h]
    simp only
    split <;> omega
/-- the bytes that are ready -/
def RDY (K M : mR) : Prop := ∀ k, 0 ≤ k → k < 20 → M.2 2 k = and32 (shr32 (K.2 0 (k / 4)) (24 - 8 * (k % 4))) 255
theorem feed_s {a b c d e : Int} : RR (kf_pw_feed a b c d e K) (rf_feed a b c d e M) (fun y z => fr [] [0] K y.2 ∧ fr [1] [2] M z.2 ∧ RDY y.2 z.2) := by
  unfold kf_pw_feed rf_feed
  have hK : ∀ k, 0 ≤ k → k < 20 → (upI (upI (upI (upI (upI (K.2 0) 0 a) 1 b) 2 c) 3 d) 4 e) (k / 4) = (if k < 4 then a else if k < 8 then b else if k < 12 then c else if k < 16 then d else e) := by
    intro k k0 k1
    by_cases h4 : 16 ≤ k
    · rw [show k / 4 = 4 by omega, upI_s, if_neg (by omega), if_neg (by omega), if_neg (by omega), if_neg (by omega)]
    rw [upI_n (by omega)]
    by_cases h3 : 12 ≤ k
    · rw [show k / 4 = 3 by omega, upI_s, if_neg (by omega), if_neg (by omega), if_neg (by omega), if_pos (by omega)]
    rw [upI_n (by omega)]
    by_cases h2 : 8 ≤ k
    · rw [show k / 4 = 2 by omega, upI_s, if_neg (by omega), if_neg (by omega), if_pos (by omega)]
    rw [upI_n (by omega)]
    by_cases h1 : 4 ≤ k
    · rw [show k / 4 = 1 by omega, upI_s, if_neg (by omega), if_pos (by omega)]
    rw [upI_n (by omega), show k / 4 = 0 by omega, upI_s, if_pos (by omega)]
  intro y z hy hz
  cases hy
  cases hw : whl (rfb_feed_8 a b c d e) (0, mO M [(1, 0)] []) with
  | none => rw [hw] at hz; cases hz
  | some g =>
    rw [hw, bnd_some] at hz
    cases hz
    have hg : fr [1] [2] M g ∧ ∀ k, 0 ≤ k → k < 20 → k % 4 < 4 → g.2 2 k = and32 (shr32 (if k < 4 then a else if k < 8 then b else if k < 12 then c else if k < 16 then d else e) (24 - 8 * (k % 4))) 255 := by
      refine RP_whl (f := rfb_feed_8 a b c d e) (I := fun s : Int × mR => 0 ≤ s.1 ∧ s.1 ≤ 4 ∧ fr [1] [2] M s.2 ∧ ∀ k, 0 ≤ k → k < 20 → k % 4 < s.1 → s.2.2 2 k = and32 (shr32 (if k < 4 then a else if k < 8 then b else if k < 12 then c else if k < 16 then d else e) (24 - 8 * (k % 4))) 255) (E := fun g : mR => fr [1] [2] M g ∧ ∀ k, 0 ≤ k → k < 20 → k % 4 < 4 → g.2 2 k = and32 (shr32 (if k < 4 then a else if k < 8 then b else if k < 12 then c else if k < 16 then d else e) (24 - 8 * (k % 4))) 255) (fun s hs => ?_) (s := (0, mO M [(1, 0)] [])) ⟨Int.le_refl 0, (show (0 : Int) ≤ 4 by decide), fr_m fr_0 rfl rfl, fun k k0 k1 k2 => absurd (show k % 4 < 0 from k2) (by omega)⟩ g hw
      obtain ⟨i, m⟩ := s
      obtain ⟨i0, i1, f1, hk⟩ := hs
      have i0 : 0 ≤ i := i0
      have i1 : i ≤ 4 := i1
      have hk : ∀ k, 0 ≤ k → k < 20 → k % 4 < i → m.2 2 k = and32 (shr32 (if k < 4 then a else if k < 8 then b else if k < 12 then c else if k < 16 then d else e) (24 - 8 * (k % 4))) 255 := hk
      unfold rfb_feed_8
      dsimp only
      refine RP_ite (fun q => RP_some ⟨f1, fun k k0 k1 k2 => hk k k0 k1 (by omega)⟩) (fun q => ?_)
      rw [show cut (8 * i) = 8 * i from cut_i (by omega) (by omega), show cut (24 - 8 * i) = 24 - 8 * i from cut_i (by omega) (by omega), show cut (4 + i) = 4 + i from cut_i (by omega) (by omega), show cut (8 + i) = 8 + i from cut_i (by omega) (by omega), show cut (12 + i) = 12 + i from cut_i (by omega) (by omega), show cut (16 + i) = 16 + i from cut_i (by omega) (by omega), show cut (i + 1) = i + 1 from cut_i (by omega) (by omega)]
      refine RP_some ⟨(by show 0 ≤ i + 1; omega), (by show i + 1 ≤ 4; omega), fr_m f1 rfl rfl, fun k k0 k1 k2 => ?_⟩
      have k2 : k % 4 < i + 1 := k2
      show upI (upI (upI (upI (upI (m.2 2) i _) (4 + i) _) (8 + i) _) (12 + i) _) (16 + i) _ k = _
      by_cases ek : k % 4 = i
      · by_cases h4 : 16 ≤ k
        · rw [show k = 16 + i by omega, upI_s, if_neg (by omega), if_neg (by omega), if_neg (by omega), if_neg (by omega), show (16 + i) % 4 = i by omega]
        rw [upI_n (by omega)]
        by_cases h3 : 12 ≤ k
        · rw [show k = 12 + i by omega, upI_s, if_neg (by omega), if_neg (by omega), if_neg (by omega), if_pos (by omega), show (12 + i) % 4 = i by omega]
        rw [upI_n (by omega)]
        by_cases h2 : 8 ≤ k
        · rw [show k = 8 + i by omega, upI_s, if_neg (by omega), if_neg (by omega), if_pos (by omega), show (8 + i) % 4 = i by omega]
        rw [upI_n (by omega)]
        by_cases h1 : 4 ≤ k
        · rw [show k = 4 + i by omega, upI_s, if_neg (by omega), if_pos (by omega), show (4 + i) % 4 = i by omega]
        rw [upI_n (by omega), show k = i by omega, upI_s, if_pos (by omega), show i % 4 = i by omega]
      · rw [upI_n (by omega), upI_n (by omega), upI_n (by omega), upI_n (by omega), upI_n (by omega)]
        exact hk k k0 k1 (by omega)
    refine ⟨fr_m fr_0 rfl rfl, hg.1, fun k k0 k1 => ?_⟩
    show g.2 2 k = and32 (shr32 ((upI (upI (upI (upI (upI (K.2 0) 0 a) 1 b) 2 c) 3 d) 4 e) (k / 4)) (24 - 8 * (k % 4))) 255
    rw [hK k k0 k1]
    exact hg.2 k k0 k1 (by omega)
theorem fill0_k : RP (kf_Arrays_fill0_b0 0 K) (fun z => fr [] [0] K z.2 ∧ ∀ i, 0 ≤ i → i < 5 → z.2.2 0 i = 0) := by
  unfold kf_Arrays_fill0_b0
  refine RP_bnd (P := fun e : mR => fr [] [0] K e ∧ ∀ i, 0 ≤ i → i < 5 → e.2 0 i = 0) (RP_whl (I := fun s : Int × mR => 0 ≤ s.1 ∧ s.1 ≤ 5 ∧ fr [] [0] K s.2 ∧ ∀ i, 0 ≤ i → i < s.1 → s.2.2 0 i = 0) (fun s hs => ?_) ⟨Int.le_refl 0, (show (0 : Int) ≤ 5 by decide), fr_0, fun i i0 i1 => absurd (show i < 0 from i1) (by omega)⟩) (fun e he => RP_some he)
  obtain ⟨k, m⟩ := s
  obtain ⟨a0, a1, a2, a3⟩ := hs
  have a0 : 0 ≤ k := a0
  have a1 : k ≤ 5 := a1
  have a3 : ∀ i, 0 ≤ i → i < k → m.2 0 i = 0 := a3
  unfold kfb_Arrays_fill0_b0_5
  dsimp only
  refine RP_ite (fun g => RP_some ⟨a2, fun i i0 i1 => a3 i i0 (by omega)⟩) (fun g => ?_)
  rw [cut_i (by omega) (by omega)]
  refine RP_some ⟨(by show 0 ≤ k + 1; omega), (by show k + 1 ≤ 5; omega), fr_m a2 rfl rfl, fun i i0 i1 => ?_⟩
  show upI (m.2 0) k 0 i = 0
  by_cases e : i = k
  · rw [e, upI_s]
  · rw [upI_n e]
    have i1 : i < k + 1 := i1
    exact a3 i i0 (by omega)
theorem clr2_e : RP (whl rfb_end_71 (0, M)) (fun e => fr [] [2] M e ∧ ∀ i, 0 ≤ i → i < 20 → e.2 2 i = 0) := by
  refine RP_whl (I := fun s : Int × mR => 0 ≤ s.1 ∧ s.1 ≤ 20 ∧ fr [] [2] M s.2 ∧ ∀ i, 0 ≤ i → i < s.1 → s.2.2 2 i = 0) (fun s hs => ?_) ⟨Int.le_refl 0, (show (0 : Int) ≤ 20 by decide), fr_0, fun i i0 i1 => absurd (show i < 0 from i1) (by omega)⟩
  obtain ⟨k, m⟩ := s
  obtain ⟨a0, a1, a2, a3⟩ := hs
  have a0 : 0 ≤ k := a0
  have a1 : k ≤ 20 := a1
  have a3 : ∀ i, 0 ≤ i → i < k → m.2 2 i = 0 := a3
  unfold rfb_end_71
  dsimp only
  refine RP_ite (fun g => RP_some ⟨a2, fun i i0 i1 => a3 i i0 (by omega)⟩) (fun g => ?_)
  rw [cut_i (by omega) (by omega)]
  refine RP_some ⟨(by show 0 ≤ k + 1; omega), (by show k + 1 ≤ 20; omega), fr_m a2 rfl rfl, fun i i0 i1 => ?_⟩
  show upI (m.2 2) k 0 i = 0
  by_cases e : i = k
  · rw [e, upI_s]
  · rw [upI_n e]
    have i1 : i < k + 1 := i1
    exact a3 i i0 (by omega)
theorem end_s {n : Int} (hT : TPE K M) (hR : RDY K M) : RR (kf_pw_end n K) (rf_end n M) (fun y z => y.1 = z.1 ∧ fr [200] [0, 1] K y.2 ∧ fr [1, 5] [2, 3] M z.2 ∧ TPE y.2 z.2 ∧ RDY y.2 z.2 ∧ z.2.1 1 = 0) := by
  obtain ⟨t1, t2, t3, t4⟩ := hT
  have no : RR (some ((-1 : Int), K)) (some ((-1 : Int), mO M [(1, 0)] [])) (fun y z => y.1 = z.1 ∧ fr [200] [0, 1] K y.2 ∧ fr [1, 5] [2, 3] M z.2 ∧ TPE y.2 z.2 ∧ RDY y.2 z.2 ∧ z.2.1 1 = 0) := RR_some ⟨rfl, fr_0, fr_m fr_0 rfl rfl, ⟨t1, t2, t3, t4⟩, hR, rfl⟩
  unfold kf_pw_end rf_end
  rw [t1]
  refine RR_ii Iff.rfl (fun _ _ => no) (fun n0 _ => ?_)
  refine RR_ii Iff.rfl (fun _ _ => no) (fun n1 _ => ?_)
  refine RR_ii Iff.rfl (fun n2 _ => ?_) (fun _ _ => no)
  rw [cut_i (show -2147483648 ≤ M.1 5 + n by omega) (by omega)] at n2
  refine RR_bnd (P := fun e g => fr [] [1] K e ∧ fr [1] [3] M g ∧ g.1 1 = 0 ∧ ∀ i, 0 ≤ i → i < M.1 5 + n → e.2 1 i = (if g.2 3 i < 128 then g.2 3 i else g.2 3 i - 256)) (RR_whl (I := fun (p q : Int × mR) => p.1 = q.1 ∧ 0 ≤ q.1 ∧ q.1 ≤ n ∧ fr [] [1] K p.2 ∧ fr [1] [3] M q.2 ∧ q.2.1 1 = 0 ∧ ∀ i, 0 ≤ i → i < M.1 5 + q.1 → p.2.2 1 i = (if q.2.2 3 i < 128 then q.2.2 3 i else q.2.2 3 i - 256)) (fun p q hI => ?_) ⟨rfl, Int.le_refl 0, by show (0 : Int) ≤ n; omega, fr_0, fr_m fr_0 rfl rfl, rfl, fun i i0 i1 => t4 i i0 (by have i1 : i < M.1 5 + 0 := i1; omega)⟩) (fun e g heg => ?_)
  · obtain ⟨i, K1⟩ := p
    obtain ⟨j, M1⟩ := q
    obtain ⟨e1, j0, j1, f1, f2, m1, hk⟩ := hI
    have e1 : i = j := e1
    subst e1
    have j0 : 0 ≤ i := j0
    have j1 : i ≤ n := j1
    have f1 : fr [] [1] K K1 := f1
    have f2 : fr [1] [3] M M1 := f2
    have hk : ∀ k, 0 ≤ k → k < M.1 5 + i → K1.2 1 k = (if M1.2 3 k < 128 then M1.2 3 k else M1.2 3 k - 256) := hk
    unfold kfb_pw_end_26 rfb_end_31
    dsimp only
    refine RR_ii Iff.rfl (fun g _ => RR_some ⟨f1, f2, m1, fun k k0 k1 => hk k k0 (by omega)⟩) (fun g _ => ?_)
    have c1 : cut (8 * i.tmod 4) = 8 * (i % 4) := by rw [Int.tmod_eq_emod_of_nonneg j0, cut_i (by omega) (by omega)]
    rw [fr1 f1 200 rfl, fr1 f2 5 rfl, t1, fr2 f1 0 rfl, fr2 f2 2 rfl, c1, show cut (24 - 8 * (i % 4)) = 24 - 8 * (i % 4) from cut_i (by omega) (by omega), Int.tdiv_eq_ediv_of_nonneg j0, show cut (M.1 5 + i) = M.1 5 + i from cut_i (by omega) (by omega), show cut (i + 1) = i + 1 from cut_i (by omega) (by omega)]
    refine RR_some ⟨rfl, (by show 0 ≤ i + 1; omega), (by show i + 1 ≤ n; omega), fr_m f1 rfl rfl, fr_m f2 rfl rfl, m1, fun k k0 k1 => ?_⟩
    have k1 : k < M.1 5 + (i + 1) := k1
    show upI (K1.2 1) (M.1 5 + i) _ k = (if upI (M1.2 3) (M.1 5 + i) _ k < 128 then upI (M1.2 3) (M.1 5 + i) _ k else upI (M1.2 3) (M.1 5 + i) _ k - 256)
    by_cases e : k = M.1 5 + i
    · rw [e, upI_s, upI_s, hR i j0 (by omega)]
      have hb := byte_kr (w := K.2 0 (i / 4)) (n := (24 - 8 * (i % 4)).toNat) (by omega)
      rw [show (((24 - 8 * (i % 4)).toNat : Nat) : Int) = 24 - 8 * (i % 4) by omega] at hb
      exact hb
    · rw [upI_n e, upI_n e]
      exact hk k k0 (by omega)
  · obtain ⟨f1, f2, m1, hk⟩ := heg
    unfold kfl_pw_end_67 rfl_end_59 rfl_end_90
    rw [fr1 f1 200 rfl, fr1 f2 5 rfl, t1, show cut (M.1 5 + n) = M.1 5 + n from cut_i (by omega) (by omega)]
    refine RR_l fill0_k (fun y hy => RR_r clr2_e (fun z hz => ?_))
    obtain ⟨h1, h2⟩ := hy
    obtain ⟨g1, g2⟩ := hz
    have a1 : y.2.1 200 = M.1 5 + n := fr1 h1 200 rfl
    have a2 : z.1 5 = M.1 5 + n := fr1 g1 5 rfl
    refine RR_some ⟨by show y.2.1 200 = z.1 5; omega, fr_s h1 (fr_m (fr_s f1 fr_0 rfl rfl) rfl rfl) rfl rfl, fr_s g1 (fr_m (fr_s f2 fr_0 rfl rfl) rfl rfl) rfl rfl, ⟨by show y.2.1 200 = z.1 5; omega, by show 0 ≤ z.1 5; omega, by show z.1 5 ≤ 4000; omega, fun i i0 i1 => ?_⟩, fun k k0 k1 => ?_, ?_⟩
    · have i1 : i < z.1 5 := i1
      show y.2.2 1 i = (if z.2 3 i < 128 then z.2 3 i else z.2 3 i - 256)
      rw [fr2 h1 1 rfl, fr2 g1 3 rfl]
      exact hk i i0 (by omega)
    · show z.2 2 k = and32 (shr32 (y.2.2 0 (k / 4)) (24 - 8 * (k % 4))) 255
      rw [g2 k k0 k1, h2 (k / 4) (by omega) (by omega)]
      have : ∀ j : Fin 4, and32 (shr32 0 (24 - 8 * ((j.val : Nat) : Int))) 255 = 0 := by decide +kernel
      have q := this ⟨(k % 4).toNat, by omega⟩
      dsimp only at q
      rw [show (((k % 4).toNat : Nat) : Int) = k % 4 by omega] at q
      exact q.symm
    · show z.1 1 = 0
      rw [fr1 g1 1 rfl]
      exact m1
/-- bytes stay bytes -/
theorem end_kb {n : Int} (hb : ∀ i, -128 ≤ K.2 1 i ∧ K.2 1 i ≤ 127) : RP (kf_pw_end n K) (fun y => ∀ i, -128 ≤ y.2.2 1 i ∧ y.2.2 1 i ≤ 127) := by
  unfold kf_pw_end kfl_pw_end_67
  refine RP_ite (fun _ => RP_some hb) (fun _ => RP_ite (fun _ => RP_some hb) (fun _ => RP_ite (fun _ => ?_) (fun _ => RP_some hb)))
  refine RP_bnd (P := fun e : mR => ∀ i, -128 ≤ e.2 1 i ∧ e.2 1 i ≤ 127) (RP_whl (I := fun s : Int × mR => ∀ i, -128 ≤ s.2.2 1 i ∧ s.2.2 1 i ≤ 127) (fun s hs => ?_) hb) (fun e he => RP_bnd fill0_k (fun y hy => RP_some (fun i => ?_)))
  · unfold kfb_pw_end_26
    refine RP_ite (fun _ => RP_some hs) (fun _ => RP_some (fun i => ?_))
    show -128 ≤ upI (s.2.2 1) _ _ i ∧ upI (s.2.2 1) _ _ i ≤ 127
    by_cases e : i = cut (s.2.1 200 + s.1)
    · rw [e, upI_s]
      have hr : R32 (i2b32 (ushr32 (s.2.2 0 (s.1.tdiv 4)) (cut (24 - cut (8 * s.1.tmod 4))))) := t32_r
      rw [nar2_b hr]
      have h1 := Int.le_bmod (x := i2b32 (ushr32 (s.2.2 0 (s.1.tdiv 4)) (cut (24 - cut (8 * s.1.tmod 4))))) (m := 256) (by decide)
      have h2 := Int.bmod_lt (x := i2b32 (ushr32 (s.2.2 0 (s.1.tdiv 4)) (cut (24 - cut (8 * s.1.tmod 4))))) (m := 256) (by decide)
      omega
    · rw [upI_n e]
      exact hs i
  · show -128 ≤ y.2.2 1 i ∧ y.2.2 1 i ≤ 127
    rw [fr2 hy.1 1 rfl]
    exact he i
theorem end_rb {n : Int} (h2 : ∀ k, 0 ≤ k → k < 20 → 0 ≤ M.2 2 k ∧ M.2 2 k ≤ 255) (hb : ∀ i, 0 ≤ M.2 3 i ∧ M.2 3 i ≤ 255) : RP (rf_end n M) (fun z => ∀ i, 0 ≤ z.2.2 3 i ∧ z.2.2 3 i ≤ 255) := by
  unfold rf_end rfl_end_59 rfl_end_90
  refine RP_ite (fun _ => RP_some hb) (fun n0 => RP_ite (fun _ => RP_some hb) (fun n1 => RP_ite (fun _ => ?_) (fun _ => RP_some hb)))
  refine RP_bnd (P := fun e : mR => ∀ i, 0 ≤ e.2 3 i ∧ e.2 3 i ≤ 255) (RP_whl (I := fun s : Int × mR => 0 ≤ s.1 ∧ s.2.2 2 = M.2 2 ∧ ∀ i, 0 ≤ s.2.2 3 i ∧ s.2.2 3 i ≤ 255) (fun s hs => ?_) ⟨Int.le_refl 0, rfl, hb⟩) (fun e he => RP_bnd clr2_e (fun y hy => RP_some (fun i => ?_)))
  · obtain ⟨k, m⟩ := s
    obtain ⟨k0, e2, h3⟩ := hs
    have k0 : 0 ≤ k := k0
    have e2 : m.2 2 = M.2 2 := e2
    have h3 : ∀ i, 0 ≤ m.2 3 i ∧ m.2 3 i ≤ 255 := h3
    unfold rfb_end_31
    dsimp only
    refine RP_ite (fun _ => RP_some h3) (fun g => ?_)
    rw [show cut (k + 1) = k + 1 from cut_i (by omega) (by omega)]
    refine RP_some ⟨(by show 0 ≤ k + 1; omega), e2, fun i => ?_⟩
    show 0 ≤ upI (m.2 3) _ _ i ∧ upI (m.2 3) _ _ i ≤ 255
    by_cases e : i = cut (m.1 5 + k)
    · rw [e, upI_s, e2]
      exact h2 k k0 (by omega)
    · rw [upI_n e]
      exact h3 i
  · show 0 ≤ y.2 3 i ∧ y.2 3 i ≤ 255
    rw [fr2 hy.1 3 rfl]
    exact he i
theorem RDY_r (h : RDY K M) : ∀ k, 0 ≤ k → k < 20 → 0 ≤ M.2 2 k ∧ M.2 2 k ≤ 255 := by
  intro k k0 k1
  rw [h k k0 k1, and_255 (show R32 (shr32 (K.2 0 (k / 4)) (24 - 8 * (k % 4))) from t32_r)]
  omega
end FEE
