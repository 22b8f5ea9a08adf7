/-! ===== the five given names ===== -/
section GVN
variable {K M : mR}
theorem i_nat {k : Int} (h : 0 ≤ k) : k = ((k.toNat : Nat) : Int) := (Int.toNat_of_nonneg h).symm
def gH1 : List Int := [(0), (7566047373982433280), (7597009621420605440), (7597114075025244160), (7597114556061581312), (7597114557923852288), (7597114557931323392), (7597114557931353088)]
theorem ga1 {k : Int} (h0 : 0 ≤ k) (h1 : k < 7) (m : mR) : kf_String_charAt_b20001 k m = some (i2c32 (and32 (chr 1 k) 255)) := by
  unfold kf_String_charAt_b20001 kf_StringLatin1_charAt_b10001 kf_String_checkIndex kf_Preconditions_checkIndex
  rw [if_neg (by omega), if_pos h1]
  rfl
theorem gl1 (m : mR) : kf_String_length_b20001 m = some 7 := by
  unfold kf_String_length_b20001
  exact congrArg some (by decide)
theorem gc1 : ∀ k : Fin 7, or64 (gH1.getD k.val 0) (shl64 (i2c32 (and32 (chr 1 (k.val : Int)) 255)) (cut (56 - cut (8 * (k.val : Int))))) = gH1.getD (k.val + 1) 0 := by decide +kernel
theorem gg1 {v2 v3 : Int} (h203 : K.1 203 < 90) (h0 : 0 ≤ K.1 203) : RP (kf_tx_makeGiven_b20001 v2 v3 K) (fun z => fr [203, 209, 210] [6, 7, 8, 9] K z.2 ∧ z.2.1 203 = K.1 203 + 1 ∧ z.2.2 6 = upI (K.2 6) (K.1 203) (7597114557931353088) ∧ z.2.2 7 = upI (K.2 7) (K.1 203) 0 ∧ z.2.2 8 = upI (K.2 8) (K.1 203) v2 ∧ z.2.2 9 = upI (K.2 9) (K.1 203) v3) := by
  unfold kf_tx_makeGiven_b20001
  refine RP_bnd (P := fun e : mR => fr [209, 210] [] K e ∧ e.1 209 = 7597114557931353088 ∧ e.1 210 = 0) (RP_whl (I := fun s : Int × mR => 0 ≤ s.1 ∧ s.1 ≤ 7 ∧ fr [209, 210] [] K s.2 ∧ s.2.1 209 = gH1.getD s.1.toNat 0 ∧ s.2.1 210 = 0) (fun s hs => ?_) ⟨Int.le_refl 0, (show (0 : Int) ≤ 7 by decide), fr_m fr_0 rfl rfl, rfl, rfl⟩) (fun e he => ?_)
  · obtain ⟨k, m⟩ := s
    obtain ⟨a0, a1, a2, a3, a4⟩ := hs
    have a0 : 0 ≤ k := a0
    have a1 : k ≤ 7 := a1
    have a3 : m.1 209 = gH1.getD k.toNat 0 := a3
    unfold kfb_tx_makeGiven_b20001_13
    dsimp only
    rw [gl1, bnd_some]
    have ex : 7 ≤ k → fr [209, 210] [] K m ∧ m.1 209 = 7597114557931353088 ∧ m.1 210 = 0 := by
      intro hk
      have ek : k = 7 := by omega
      rw [ek] at a3
      exact ⟨a2, a3, a4⟩
    refine RP_ite (fun g => RP_some (ex (by omega))) (fun g => RP_ite (fun g2 => RP_some (ex (by omega))) (fun g2 => ?_))
    rw [ga1 a0 (by omega), bnd_some, cut_i (show -2147483648 ≤ k + 1 by omega) (by omega)]
    refine RP_some ⟨(by show 0 ≤ k + 1; omega), (by show k + 1 ≤ 7; omega), fr_m a2 rfl rfl, ?_, a4⟩
    show or64 (m.1 209) (shl64 (i2c32 (and32 (chr 1 k) 255)) (cut (56 - cut (8 * k)))) = gH1.getD (k + 1).toNat 0
    have hc := gc1 ⟨k.toNat, by omega⟩
    dsimp only at hc
    rw [← i_nat a0] at hc
    rw [a3, hc, show (k + 1).toNat = k.toNat + 1 by omega]
  · obtain ⟨b1, b2, b3⟩ := he
    have e203 : e.1 203 = K.1 203 := fr1 b1 203 rfl
    unfold kfl_tx_makeGiven_b20001_60 kf_tx_makeName
    rw [if_neg (by omega), bnd_some]
    refine RP_some ⟨fr_m (fr_s b1 fr_0 rfl rfl) rfl rfl, ?_, ?_, ?_, ?_, ?_⟩
    · show cut (e.1 203 + 1) = _
      rw [cut_i (by omega) (by omega), e203]
    · show upI (e.2 6) (e.1 203) (e.1 209) = _
      rw [fr2 b1 6 rfl, e203, b2]
    · show upI (e.2 7) (e.1 203) (e.1 210) = _
      rw [fr2 b1 7 rfl, e203, b3]
    · show upI (e.2 8) (e.1 203) v2 = _
      rw [fr2 b1 8 rfl, e203]
    · show upI (e.2 9) (e.1 203) v3 = _
      rw [fr2 b1 9 rfl, e203]
def gH2 : List Int := [(0), (7782220156096217088), (7810649128743993344), (7810770075023048704), (7810770517404680192), (7810770519350837248), (7810770519357652992)]
theorem ga2 {k : Int} (h0 : 0 ≤ k) (h1 : k < 6) (m : mR) : kf_String_charAt_b20002 k m = some (i2c32 (and32 (chr 2 k) 255)) := by
  unfold kf_String_charAt_b20002 kf_StringLatin1_charAt_b10002 kf_String_checkIndex kf_Preconditions_checkIndex
  rw [if_neg (by omega), if_pos h1]
  rfl
theorem gl2 (m : mR) : kf_String_length_b20002 m = some 6 := by
  unfold kf_String_length_b20002
  exact congrArg some (by decide)
theorem gc2 : ∀ k : Fin 6, or64 (gH2.getD k.val 0) (shl64 (i2c32 (and32 (chr 2 (k.val : Int)) 255)) (cut (56 - cut (8 * (k.val : Int))))) = gH2.getD (k.val + 1) 0 := by decide +kernel
theorem gg2 {v2 v3 : Int} (h203 : K.1 203 < 90) (h0 : 0 ≤ K.1 203) : RP (kf_tx_makeGiven_b20002 v2 v3 K) (fun z => fr [203, 209, 210] [6, 7, 8, 9] K z.2 ∧ z.2.1 203 = K.1 203 + 1 ∧ z.2.2 6 = upI (K.2 6) (K.1 203) (7810770519357652992) ∧ z.2.2 7 = upI (K.2 7) (K.1 203) 0 ∧ z.2.2 8 = upI (K.2 8) (K.1 203) v2 ∧ z.2.2 9 = upI (K.2 9) (K.1 203) v3) := by
  unfold kf_tx_makeGiven_b20002
  refine RP_bnd (P := fun e : mR => fr [209, 210] [] K e ∧ e.1 209 = 7810770519357652992 ∧ e.1 210 = 0) (RP_whl (I := fun s : Int × mR => 0 ≤ s.1 ∧ s.1 ≤ 6 ∧ fr [209, 210] [] K s.2 ∧ s.2.1 209 = gH2.getD s.1.toNat 0 ∧ s.2.1 210 = 0) (fun s hs => ?_) ⟨Int.le_refl 0, (show (0 : Int) ≤ 6 by decide), fr_m fr_0 rfl rfl, rfl, rfl⟩) (fun e he => ?_)
  · obtain ⟨k, m⟩ := s
    obtain ⟨a0, a1, a2, a3, a4⟩ := hs
    have a0 : 0 ≤ k := a0
    have a1 : k ≤ 6 := a1
    have a3 : m.1 209 = gH2.getD k.toNat 0 := a3
    unfold kfb_tx_makeGiven_b20002_13
    dsimp only
    rw [gl2, bnd_some]
    have ex : 6 ≤ k → fr [209, 210] [] K m ∧ m.1 209 = 7810770519357652992 ∧ m.1 210 = 0 := by
      intro hk
      have ek : k = 6 := by omega
      rw [ek] at a3
      exact ⟨a2, a3, a4⟩
    refine RP_ite (fun g => RP_some (ex (by omega))) (fun g => RP_ite (fun g2 => RP_some (ex (by omega))) (fun g2 => ?_))
    rw [ga2 a0 (by omega), bnd_some, cut_i (show -2147483648 ≤ k + 1 by omega) (by omega)]
    refine RP_some ⟨(by show 0 ≤ k + 1; omega), (by show k + 1 ≤ 6; omega), fr_m a2 rfl rfl, ?_, a4⟩
    show or64 (m.1 209) (shl64 (i2c32 (and32 (chr 2 k) 255)) (cut (56 - cut (8 * k)))) = gH2.getD (k + 1).toNat 0
    have hc := gc2 ⟨k.toNat, by omega⟩
    dsimp only at hc
    rw [← i_nat a0] at hc
    rw [a3, hc, show (k + 1).toNat = k.toNat + 1 by omega]
  · obtain ⟨b1, b2, b3⟩ := he
    have e203 : e.1 203 = K.1 203 := fr1 b1 203 rfl
    unfold kfl_tx_makeGiven_b20002_60 kf_tx_makeName
    rw [if_neg (by omega), bnd_some]
    refine RP_some ⟨fr_m (fr_s b1 fr_0 rfl rfl) rfl rfl, ?_, ?_, ?_, ?_, ?_⟩
    · show cut (e.1 203 + 1) = _
      rw [cut_i (by omega) (by omega), e203]
    · show upI (e.2 6) (e.1 203) (e.1 209) = _
      rw [fr2 b1 6 rfl, e203, b2]
    · show upI (e.2 7) (e.1 203) (e.1 210) = _
      rw [fr2 b1 7 rfl, e203, b3]
    · show upI (e.2 8) (e.1 203) v2 = _
      rw [fr2 b1 8 rfl, e203]
    · show upI (e.2 9) (e.1 203) v3 = _
      rw [fr2 b1 9 rfl, e203]
def gH3 : List Int := [(0), (7998392938210000896), (8031325510485147648), (8031453053833969664), (8031453461855862784), (8031453463734910976), (8031453463742185472), (8031453463742214656), (8031453463742214772)]
theorem ga3 {k : Int} (h0 : 0 ≤ k) (h1 : k < 8) (m : mR) : kf_String_charAt_b20003 k m = some (i2c32 (and32 (chr 3 k) 255)) := by
  unfold kf_String_charAt_b20003 kf_StringLatin1_charAt_b10003 kf_String_checkIndex kf_Preconditions_checkIndex
  rw [if_neg (by omega), if_pos h1]
  rfl
theorem gl3 (m : mR) : kf_String_length_b20003 m = some 8 := by
  unfold kf_String_length_b20003
  exact congrArg some (by decide)
theorem gc3 : ∀ k : Fin 8, or64 (gH3.getD k.val 0) (shl64 (i2c32 (and32 (chr 3 (k.val : Int)) 255)) (cut (56 - cut (8 * (k.val : Int))))) = gH3.getD (k.val + 1) 0 := by decide +kernel
theorem gg3 {v2 v3 : Int} (h203 : K.1 203 < 90) (h0 : 0 ≤ K.1 203) : RP (kf_tx_makeGiven_b20003 v2 v3 K) (fun z => fr [203, 209, 210] [6, 7, 8, 9] K z.2 ∧ z.2.1 203 = K.1 203 + 1 ∧ z.2.2 6 = upI (K.2 6) (K.1 203) (8031453463742214772) ∧ z.2.2 7 = upI (K.2 7) (K.1 203) 0 ∧ z.2.2 8 = upI (K.2 8) (K.1 203) v2 ∧ z.2.2 9 = upI (K.2 9) (K.1 203) v3) := by
  unfold kf_tx_makeGiven_b20003
  refine RP_bnd (P := fun e : mR => fr [209, 210] [] K e ∧ e.1 209 = 8031453463742214772 ∧ e.1 210 = 0) (RP_whl (I := fun s : Int × mR => 0 ≤ s.1 ∧ s.1 ≤ 8 ∧ fr [209, 210] [] K s.2 ∧ s.2.1 209 = gH3.getD s.1.toNat 0 ∧ s.2.1 210 = 0) (fun s hs => ?_) ⟨Int.le_refl 0, (show (0 : Int) ≤ 8 by decide), fr_m fr_0 rfl rfl, rfl, rfl⟩) (fun e he => ?_)
  · obtain ⟨k, m⟩ := s
    obtain ⟨a0, a1, a2, a3, a4⟩ := hs
    have a0 : 0 ≤ k := a0
    have a1 : k ≤ 8 := a1
    have a3 : m.1 209 = gH3.getD k.toNat 0 := a3
    unfold kfb_tx_makeGiven_b20003_13
    dsimp only
    rw [gl3, bnd_some]
    have ex : 8 ≤ k → fr [209, 210] [] K m ∧ m.1 209 = 8031453463742214772 ∧ m.1 210 = 0 := by
      intro hk
      have ek : k = 8 := by omega
      rw [ek] at a3
      exact ⟨a2, a3, a4⟩
    refine RP_ite (fun g => RP_some (ex (by omega))) (fun g => RP_ite (fun g2 => RP_some (ex (by omega))) (fun g2 => ?_))
    rw [ga3 a0 (by omega), bnd_some, cut_i (show -2147483648 ≤ k + 1 by omega) (by omega)]
    refine RP_some ⟨(by show 0 ≤ k + 1; omega), (by show k + 1 ≤ 8; omega), fr_m a2 rfl rfl, ?_, a4⟩
    show or64 (m.1 209) (shl64 (i2c32 (and32 (chr 3 k) 255)) (cut (56 - cut (8 * k)))) = gH3.getD (k + 1).toNat 0
    have hc := gc3 ⟨k.toNat, by omega⟩
    dsimp only at hc
    rw [← i_nat a0] at hc
    rw [a3, hc, show (k + 1).toNat = k.toNat + 1 by omega]
  · obtain ⟨b1, b2, b3⟩ := he
    have e203 : e.1 203 = K.1 203 := fr1 b1 203 rfl
    unfold kfl_tx_makeGiven_b20003_60 kf_tx_makeName
    rw [if_neg (by omega), bnd_some]
    refine RP_some ⟨fr_m (fr_s b1 fr_0 rfl rfl) rfl rfl, ?_, ?_, ?_, ?_, ?_⟩
    · show cut (e.1 203 + 1) = _
      rw [cut_i (by omega) (by omega), e203]
    · show upI (e.2 6) (e.1 203) (e.1 209) = _
      rw [fr2 b1 6 rfl, e203, b2]
    · show upI (e.2 7) (e.1 203) (e.1 210) = _
      rw [fr2 b1 7 rfl, e203, b3]
    · show upI (e.2 8) (e.1 203) v2 = _
      rw [fr2 b1 8 rfl, e203]
    · show upI (e.2 9) (e.1 203) v3 = _
      rw [fr2 b1 9 rfl, e203]
def gH4 : List Int := [(0), (6989586621679009792), (7017452644373364736), (7017561496024514560), (7017561929816211456), (7017561931695259648), (7017561931702861824)]
theorem ga4 {k : Int} (h0 : 0 ≤ k) (h1 : k < 6) (m : mR) : kf_String_charAt_b20004 k m = some (i2c32 (and32 (chr 4 k) 255)) := by
  unfold kf_String_charAt_b20004 kf_StringLatin1_charAt_b10004 kf_String_checkIndex kf_Preconditions_checkIndex
  rw [if_neg (by omega), if_pos h1]
  rfl
theorem gl4 (m : mR) : kf_String_length_b20004 m = some 6 := by
  unfold kf_String_length_b20004
  exact congrArg some (by decide)
theorem gc4 : ∀ k : Fin 6, or64 (gH4.getD k.val 0) (shl64 (i2c32 (and32 (chr 4 (k.val : Int)) 255)) (cut (56 - cut (8 * (k.val : Int))))) = gH4.getD (k.val + 1) 0 := by decide +kernel
theorem gg4 {v2 v3 : Int} (h203 : K.1 203 < 90) (h0 : 0 ≤ K.1 203) : RP (kf_tx_makeGiven_b20004 v2 v3 K) (fun z => fr [203, 209, 210] [6, 7, 8, 9] K z.2 ∧ z.2.1 203 = K.1 203 + 1 ∧ z.2.2 6 = upI (K.2 6) (K.1 203) (7017561931702861824) ∧ z.2.2 7 = upI (K.2 7) (K.1 203) 0 ∧ z.2.2 8 = upI (K.2 8) (K.1 203) v2 ∧ z.2.2 9 = upI (K.2 9) (K.1 203) v3) := by
  unfold kf_tx_makeGiven_b20004
  refine RP_bnd (P := fun e : mR => fr [209, 210] [] K e ∧ e.1 209 = 7017561931702861824 ∧ e.1 210 = 0) (RP_whl (I := fun s : Int × mR => 0 ≤ s.1 ∧ s.1 ≤ 6 ∧ fr [209, 210] [] K s.2 ∧ s.2.1 209 = gH4.getD s.1.toNat 0 ∧ s.2.1 210 = 0) (fun s hs => ?_) ⟨Int.le_refl 0, (show (0 : Int) ≤ 6 by decide), fr_m fr_0 rfl rfl, rfl, rfl⟩) (fun e he => ?_)
  · obtain ⟨k, m⟩ := s
    obtain ⟨a0, a1, a2, a3, a4⟩ := hs
    have a0 : 0 ≤ k := a0
    have a1 : k ≤ 6 := a1
    have a3 : m.1 209 = gH4.getD k.toNat 0 := a3
    unfold kfb_tx_makeGiven_b20004_13
    dsimp only
    rw [gl4, bnd_some]
    have ex : 6 ≤ k → fr [209, 210] [] K m ∧ m.1 209 = 7017561931702861824 ∧ m.1 210 = 0 := by
      intro hk
      have ek : k = 6 := by omega
      rw [ek] at a3
      exact ⟨a2, a3, a4⟩
    refine RP_ite (fun g => RP_some (ex (by omega))) (fun g => RP_ite (fun g2 => RP_some (ex (by omega))) (fun g2 => ?_))
    rw [ga4 a0 (by omega), bnd_some, cut_i (show -2147483648 ≤ k + 1 by omega) (by omega)]
    refine RP_some ⟨(by show 0 ≤ k + 1; omega), (by show k + 1 ≤ 6; omega), fr_m a2 rfl rfl, ?_, a4⟩
    show or64 (m.1 209) (shl64 (i2c32 (and32 (chr 4 k) 255)) (cut (56 - cut (8 * k)))) = gH4.getD (k + 1).toNat 0
    have hc := gc4 ⟨k.toNat, by omega⟩
    dsimp only at hc
    rw [← i_nat a0] at hc
    rw [a3, hc, show (k + 1).toNat = k.toNat + 1 by omega]
  · obtain ⟨b1, b2, b3⟩ := he
    have e203 : e.1 203 = K.1 203 := fr1 b1 203 rfl
    unfold kfl_tx_makeGiven_b20004_60 kf_tx_makeName
    rw [if_neg (by omega), bnd_some]
    refine RP_some ⟨fr_m (fr_s b1 fr_0 rfl rfl) rfl rfl, ?_, ?_, ?_, ?_, ?_⟩
    · show cut (e.1 203 + 1) = _
      rw [cut_i (by omega) (by omega), e203]
    · show upI (e.2 6) (e.1 203) (e.1 209) = _
      rw [fr2 b1 6 rfl, e203, b2]
    · show upI (e.2 7) (e.1 203) (e.1 210) = _
      rw [fr2 b1 7 rfl, e203, b3]
    · show upI (e.2 8) (e.1 203) v2 = _
      rw [fr2 b1 8 rfl, e203]
    · show upI (e.2 9) (e.1 203) v3 = _
      rw [fr2 b1 9 rfl, e203]
def gH5 : List Int := [(0), (8214565720323784704), (8242994692971560960), (8243111241204105216), (8243111674995802112), (8243111676656746496), (8243111676664348672)]
theorem ga5 {k : Int} (h0 : 0 ≤ k) (h1 : k < 6) (m : mR) : kf_String_charAt_b20005 k m = some (i2c32 (and32 (chr 5 k) 255)) := by
  unfold kf_String_charAt_b20005 kf_StringLatin1_charAt_b10005 kf_String_checkIndex kf_Preconditions_checkIndex
  rw [if_neg (by omega), if_pos h1]
  rfl
theorem gl5 (m : mR) : kf_String_length_b20005 m = some 6 := by
  unfold kf_String_length_b20005
  exact congrArg some (by decide)
theorem gc5 : ∀ k : Fin 6, or64 (gH5.getD k.val 0) (shl64 (i2c32 (and32 (chr 5 (k.val : Int)) 255)) (cut (56 - cut (8 * (k.val : Int))))) = gH5.getD (k.val + 1) 0 := by decide +kernel
theorem gg5 {v2 v3 : Int} (h203 : K.1 203 < 90) (h0 : 0 ≤ K.1 203) : RP (kf_tx_makeGiven_b20005 v2 v3 K) (fun z => fr [203, 209, 210] [6, 7, 8, 9] K z.2 ∧ z.2.1 203 = K.1 203 + 1 ∧ z.2.2 6 = upI (K.2 6) (K.1 203) (8243111676664348672) ∧ z.2.2 7 = upI (K.2 7) (K.1 203) 0 ∧ z.2.2 8 = upI (K.2 8) (K.1 203) v2 ∧ z.2.2 9 = upI (K.2 9) (K.1 203) v3) := by
  unfold kf_tx_makeGiven_b20005
  refine RP_bnd (P := fun e : mR => fr [209, 210] [] K e ∧ e.1 209 = 8243111676664348672 ∧ e.1 210 = 0) (RP_whl (I := fun s : Int × mR => 0 ≤ s.1 ∧ s.1 ≤ 6 ∧ fr [209, 210] [] K s.2 ∧ s.2.1 209 = gH5.getD s.1.toNat 0 ∧ s.2.1 210 = 0) (fun s hs => ?_) ⟨Int.le_refl 0, (show (0 : Int) ≤ 6 by decide), fr_m fr_0 rfl rfl, rfl, rfl⟩) (fun e he => ?_)
  · obtain ⟨k, m⟩ := s
    obtain ⟨a0, a1, a2, a3, a4⟩ := hs
    have a0 : 0 ≤ k := a0
    have a1 : k ≤ 6 := a1
    have a3 : m.1 209 = gH5.getD k.toNat 0 := a3
    unfold kfb_tx_makeGiven_b20005_13
    dsimp only
    rw [gl5, bnd_some]
    have ex : 6 ≤ k → fr [209, 210] [] K m ∧ m.1 209 = 8243111676664348672 ∧ m.1 210 = 0 := by
      intro hk
      have ek : k = 6 := by omega
      rw [ek] at a3
      exact ⟨a2, a3, a4⟩
    refine RP_ite (fun g => RP_some (ex (by omega))) (fun g => RP_ite (fun g2 => RP_some (ex (by omega))) (fun g2 => ?_))
    rw [ga5 a0 (by omega), bnd_some, cut_i (show -2147483648 ≤ k + 1 by omega) (by omega)]
    refine RP_some ⟨(by show 0 ≤ k + 1; omega), (by show k + 1 ≤ 6; omega), fr_m a2 rfl rfl, ?_, a4⟩
    show or64 (m.1 209) (shl64 (i2c32 (and32 (chr 5 k) 255)) (cut (56 - cut (8 * k)))) = gH5.getD (k + 1).toNat 0
    have hc := gc5 ⟨k.toNat, by omega⟩
    dsimp only at hc
    rw [← i_nat a0] at hc
    rw [a3, hc, show (k + 1).toNat = k.toNat + 1 by omega]
  · obtain ⟨b1, b2, b3⟩ := he
    have e203 : e.1 203 = K.1 203 := fr1 b1 203 rfl
    unfold kfl_tx_makeGiven_b20005_60 kf_tx_makeName
    rw [if_neg (by omega), bnd_some]
    refine RP_some ⟨fr_m (fr_s b1 fr_0 rfl rfl) rfl rfl, ?_, ?_, ?_, ?_, ?_⟩
    · show cut (e.1 203 + 1) = _
      rw [cut_i (by omega) (by omega), e203]
    · show upI (e.2 6) (e.1 203) (e.1 209) = _
      rw [fr2 b1 6 rfl, e203, b2]
    · show upI (e.2 7) (e.1 203) (e.1 210) = _
      rw [fr2 b1 7 rfl, e203, b3]
    · show upI (e.2 8) (e.1 203) v2 = _
      rw [fr2 b1 8 rfl, e203]
    · show upI (e.2 9) (e.1 203) v3 = _
      rw [fr2 b1 9 rfl, e203]
def gHH : List Int := [(7597114557931353088), (7810770519357652992), (8031453463742214772), (7017561931702861824), (8243111676664348672)]
theorem gHH_pk : ∀ g : Fin 5, ∀ k : Fin 64, bt (gHH.getD g.val 0) k.val = (decide (0 + 7 - ((k.val / 8 : Nat) : Int) < glen (g.val : Int)) && bt (gvF (gst (g.val : Int) + (0 + 7 - ((k.val / 8 : Nat) : Int)))) (k.val % 8)) := by decide +kernel
theorem gHH_d : ∀ i : Fin 5, ∀ j : Fin 5, i.val < j.val → gHH.getD i.val 0 ≠ gHH.getD j.val 0 := by decide +kernel
theorem gHH_r : ∀ i : Fin 5, (-9223372036854775808 ≤ gHH.getD i.val 0 ∧ gHH.getD i.val 0 < 9223372036854775808) := by decide +kernel
def GVK (K : mR) : Prop := K.1 203 = 5 ∧ ∀ g, 0 ≤ g → g < 5 → K.2 6 g = gHH.getD g.toNat 0 ∧ K.2 7 g = 0 ∧ K.2 8 g = (if g < 3 then 302 else 304) ∧ K.2 9 g = (if g < 3 then g else g + 13)
theorem GVK_n (h : GVK K) (h13 : M.1 13 = 0) (h18 : M.2 18 = gvF) : NMR K M := by
  refine ⟨⟨by omega, by omega, fun k k0 k1 => by omega⟩, by rw [h.1, h13]; rfl, fun k k0 k1 => by omega, fun g g0 g1 => ?_, fun i j i0 ij j1 => ?_, h18⟩
  · obtain ⟨a1, a2, a3, a4⟩ := h.2 g g0 g1
    rw [a1]
    refine ⟨fun k hk => ?_, gHH_r ⟨g.toNat, by omega⟩, a2, a3, a4⟩
    have := gHH_pk ⟨g.toNat, by omega⟩ ⟨k, hk⟩
    dsimp only at this
    rw [← i_nat g0] at this
    exact this
  · rw [h.1] at j1
    obtain ⟨a1, -⟩ := h.2 i i0 (by omega)
    obtain ⟨b1, -⟩ := h.2 j (by omega) (by omega)
    rw [a1, b1]
    exact fun q => gHH_d ⟨i.toNat, by omega⟩ ⟨j.toNat, by omega⟩ (show i.toNat < j.toNat by omega) q.1
theorem open_k {n : Int} : RP (kf_tx_open n K) (fun y => ∃ K1, GVK K1 ∧ fr [203, 204, 205, 209, 210, 211, 212, 213] [6, 7, 8, 9] K K1 ∧ K1.1 204 = n ∧ K1.1 205 = 0 ∧ K1.1 213 = 0 ∧ ∃ x, kf_tx_advance K1 = some x ∧ x.1 = y.1 ∧ x.2.2 = y.2.2) := by
  unfold kf_tx_open
  have eL : ∃ L, L = mO K [(203, 0), (204, n), (205, 0), (211, 0), (212, (-1)), (213, 0)] [] := ⟨_, rfl⟩
  obtain ⟨L, eL⟩ := eL
  have fL : fr [203, 204, 205, 211, 212, 213] [] K L := by rw [eL]; exact fr_m fr_0 rfl rfl
  have l203 : L.1 203 = 0 := by rw [eL]; rfl
  have l204 : L.1 204 = n := by rw [eL]; rfl
  have l205 : L.1 205 = 0 := by rw [eL]; rfl
  have l213 : L.1 213 = 0 := by rw [eL]; rfl
  rw [← eL]
  clear eL
  refine RP_bnd (gg1 (by omega) (by omega)) (fun y1 h1 => ?_)
  obtain ⟨f1, a1, b1, c1, d1, e1⟩ := h1
  refine RP_bnd (gg2 (by omega) (by omega)) (fun y2 h2 => ?_)
  obtain ⟨f2, a2, b2, c2, d2, e2⟩ := h2
  refine RP_bnd (gg3 (by omega) (by omega)) (fun y3 h3 => ?_)
  obtain ⟨f3, a3, b3, c3, d3, e3⟩ := h3
  refine RP_bnd (gg4 (by omega) (by omega)) (fun y4 h4 => ?_)
  obtain ⟨f4, a4, b4, c4, d4, e4⟩ := h4
  refine RP_bnd (gg5 (by omega) (by omega)) (fun y5 h5 => ?_)
  obtain ⟨f5, a5, b5, c5, d5, e5⟩ := h5
  have s1 : y1.2.1 203 = 1 := by omega
  have s2 : y2.2.1 203 = 2 := by omega
  have s3 : y3.2.1 203 = 3 := by omega
  have s4 : y4.2.1 203 = 4 := by omega
  have s5 : y5.2.1 203 = 5 := by omega
  rw [l203] at b1 c1 d1 e1
  rw [s1, b1] at b2
  rw [s1, c1] at c2
  rw [s1, d1] at d2
  rw [s1, e1] at e2
  rw [s2, b2] at b3
  rw [s2, c2] at c3
  rw [s2, d2] at d3
  rw [s2, e2] at e3
  rw [s3, b3] at b4
  rw [s3, c3] at c4
  rw [s3, d3] at d4
  rw [s3, e3] at e4
  rw [s4, b4] at b5
  rw [s4, c4] at c5
  rw [s4, d4] at d5
  rw [s4, e4] at e5
  have fA : fr [203, 204, 205, 209, 210, 211, 212, 213] [6, 7, 8, 9] K y5.2 := fr_s f5 (fr_s f4 (fr_s f3 (fr_s f2 (fr_s f1 (fr_s fL fr_0 rfl rfl) rfl rfl) rfl rfl) rfl rfl) rfl rfl) rfl rfl
  have fB : fr [203, 209, 210] [6, 7, 8, 9] L y5.2 := fr_s f5 (fr_s f4 (fr_s f3 (fr_s f2 (fr_s f1 fr_0 rfl rfl) rfl rfl) rfl rfl) rfl rfl) rfl rfl
  have hG : GVK y5.2 := by
    refine ⟨s5, fun g g0 g1 => ?_⟩
    rw [b5, c5, d5, e5]
    have : g = 0 ∨ g = 1 ∨ g = 2 ∨ g = 3 ∨ g = 4 := by omega
    rcases this with q | q | q | q | q <;> subst q <;> exact ⟨rfl, rfl, rfl, rfl⟩
  refine RP_bnd (P := fun y => kf_tx_advance y5.2 = some y) (fun y hy => hy) (fun y hy => ?_)
  refine RP_ite (fun g => RP_some ⟨y5.2, hG, fA, (fr1 fB 204 rfl).trans l204, (fr1 fB 205 rfl).trans l205, (fr1 fB 213 rfl).trans l213, y, hy, g, rfl⟩) (fun g => RP_some ⟨y5.2, hG, fA, (fr1 fB 204 rfl).trans l204, (fr1 fB 205 rfl).trans l205, (fr1 fB 213 rfl).trans l213, y, hy, rfl, rfl⟩)
end GVN
