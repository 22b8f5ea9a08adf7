theorem zck_ok {o : Option am_C} {w : zw} (h : zck o w = true) (hz : ∀ c, o = some c → zC c) (h6 : w.2.1 ≠ 6) : o = some (zex w) := by
  obtain ⟨q, kd, a, b, fs⟩ := w
  unfold zck at h
  dsimp only at h h6
  unfold zex
  dsimp only
  split at h
  · simp only [Bool.and_eq_true, decide_eq_true_eq] at h
    obtain ⟨rfl, rfl⟩ := h
    rfl
  · rename_i u n f
    simp only [Bool.and_eq_true, decide_eq_true_eq] at h
    obtain ⟨⟨rfl, rfl, hn⟩, ha⟩ := h
    have e : f = fun _ => 0 := by
      funext j
      by_cases hj : j < 2 ^ zwk (q, 1, u, n, fs)
      · exact of_decide_eq_true (zall_ok _ 0 ha j (by omega) (by omega))
      · exact hz _ rfl j (by omega)
    rw [e]
    rfl
  · rename_i u n f
    simp only [Bool.and_eq_true, decide_eq_true_eq] at h
    obtain ⟨⟨rfl, rfl, hn⟩, ha⟩ := h
    have e : f = fun _ => 0 := by
      funext j
      by_cases hj : j < 2 ^ zwk (q, 2, u, n, fs)
      · exact of_decide_eq_true (zall_ok _ 0 ha j (by omega) (by omega))
      · exact hz _ rfl j (by omega)
    rw [e]
    rfl
  · rename_i u n f
    simp only [Bool.and_eq_true, decide_eq_true_eq] at h
    obtain ⟨⟨rfl, rfl, hn⟩, ha⟩ := h
    have e : f = fun _ => none := by
      funext j
      by_cases hj : j < 2 ^ zwk (q, 3, u, n, fs)
      · exact Option.isNone_iff_eq_none.mp (zall_ok _ 0 ha j (by omega) (by omega))
      · exact hz _ rfl j (by omega)
    rw [e]
    rfl
  · rename_i u n f
    simp only [Bool.and_eq_true, decide_eq_true_eq] at h
    obtain ⟨⟨rfl, rfl, hn, hk⟩, ha⟩ := h
    have e : f = fun j => if j < 8 then some (74 + 13 * j) else none := by
      funext j
      by_cases hj : j < 8
      · rw [if_pos hj]
        exact of_decide_eq_true (zall_ok _ 0 ha j (by omega) (by rw [hk]; have : (2 : Nat) ^ 3 = 8 := rfl; omega))
      · rw [if_neg hj]
        exact hz _ rfl j (by omega)
    rw [e]
    rfl
  · rename_i u n f
    simp only [Bool.and_eq_true, decide_eq_true_eq] at h
    obtain ⟨⟨rfl, rfl, hn, hk⟩, ha⟩ := h
    have e : f = fun j : Nat => i32 (kyF (j : Int)) := by
      funext j
      by_cases hj : j < 2 ^ zwk (q, 5, u, n, fs)
      · rw [← (of_decide_eq_true (zall_ok _ 0 ha j (by omega) (by omega)) : (f j).toInt = kyF j), i32_of]
      · rw [hz _ rfl j (by omega)]
        unfold kyF
        rw [List.getD_eq_getElem?_getD, List.getElem?_eq_none (by rw [show kyL.length = 178 by decide +kernel]; show 178 ≤ (j : Int).toNat; omega)]
        rfl
    rw [e]
    rfl
  · rename_i u n f
    simp only [Bool.and_eq_true, decide_eq_true_eq] at h
    obtain ⟨⟨rfl, rfl, hn, hk⟩, ha⟩ := h
    have e : f = fun j : Nat => i32 (gvF (j : Int)) := by
      funext j
      by_cases hj : j < 2 ^ zwk (q, 7, u, n, fs)
      · rw [← (of_decide_eq_true (zall_ok _ 0 ha j (by omega) (by omega)) : (f j).toInt = gvF j), i32_of]
      · rw [hz _ rfl j (by omega)]
        unfold gvF
        rw [List.getD_eq_getElem?_getD, List.getElem?_eq_none (by rw [show gvL.length = 38 by decide +kernel]; show 38 ≤ (j : Int).toNat; omega)]
        rfl
    rw [e]
    rfl
  · exact absurd rfl h6
  · cases h
/-- the words of keys that the constructor laid into cell 7 -/
def z7 (h : List am_C) : Nat → Int64 := match (h[7]? : Option am_C) with
  | some (.inl (_, _, .inr (.inl f))) => f
  | _ => fun _ => 0
def zcov : Bool := (List.range 327).all (fun q => zws.any (fun w => Nat.beq w.1 q))
theorem zcov_ok : zcov = true := by decide +kernel
def zsix : Bool := zws.all (fun w => !(Nat.beq w.2.1 6) || (Nat.beq w.1 7 && Nat.beq w.2.2.1 1 && Nat.beq w.2.2.2.1 31))
theorem zsix_ok : zsix = true := by decide +kernel
def zsev : Bool := zws.all (fun w => !(Nat.beq w.1 7) || Nat.beq w.2.1 6)
theorem zsev_ok : zsev = true := by decide +kernel
theorem z7_kw {h : List am_C} (hw : ∀ w ∈ zws, zck h[w.1]? w = true) : ∀ j, j < 32 → (z7 h j).toInt = kwF j := by
  intro j hj
  obtain ⟨w, hm, he⟩ := List.any_eq_true.mp (List.all_eq_true.mp zcov_ok 7 (List.mem_range.mpr (by omega)))
  have he := Nat.eq_of_beq_eq_true he
  have hs := List.all_eq_true.mp zsev_ok w hm
  rw [he] at hs
  have h6 : w.2.1 = 6 := Nat.eq_of_beq_eq_true (by simpa using hs)
  have hc := hw w hm
  rw [he] at hc
  unfold zck at hc
  rw [h6] at hc
  cases hh : h[7]? with
  | none => rw [hh] at hc; cases hc
  | some x =>
    rw [hh] at hc
    rcases x with ⟨u, n, f | f | f | f | f⟩ | ⟨ci, fs⟩ <;> first | (cases hc; done) | skip
    simp only [Bool.and_eq_true, decide_eq_true_eq] at hc
    have e7 : z7 h = f := by
      unfold z7
      rw [hh]
    rw [e7]
    exact of_decide_eq_true (zall_ok 5 0 hc.2 j (by omega) (by omega))
theorem kw_pk : ∀ k : Fin 31, ∀ b : Fin 64, bt (kwF k.val) b.val = (decide (0 + 7 - ((b.val / 8 : Nat) : Int) < klen (k.val : Int)) && bt (kyF (kst (k.val : Int) + (0 + 7 - ((b.val / 8 : Nat) : Int)))) (b.val % 8)) := by decide +kernel
theorem KWD_0 {g : Nat → Int64} (hg : ∀ j, j < 32 → (g j).toInt = kwF j) : KWD (K0 g) := by
  intro k k0 k1
  have e : (K0 g).2 5 k = kwF k.toNat := by
    show (g k.toNat).toInt = _
    exact hg _ (by omega)
  refine ⟨?_, fun b hb => ?_⟩
  · show R64 ((g k.toNat).toInt)
    exact t64_r
  · rw [e]
    have q := kw_pk ⟨k.toNat, by omega⟩ ⟨b, hb⟩
    dsimp only at q
    rw [← i_nat k0] at q
    exact q
theorem z_start {h : List am_C} (hl : h.length = 327) (hz : zH h) (hw : ∀ w ∈ zws, zck h[w.1]? w = true) : af_R (khp (K0 (z7 h)) c0, 327) h := by
  refine ⟨hl.symm, fun q c hq => ?_⟩
  have hq : khp (K0 (z7 h)) c0 q = some c := hq
  by_cases h3 : q < 327
  · obtain ⟨w, hm, he⟩ := List.any_eq_true.mp (List.all_eq_true.mp zcov_ok q (List.mem_range.mpr h3))
    have he := Nat.eq_of_beq_eq_true he
    subst he
    have hc := hw w hm
    by_cases h6 : w.2.1 = 6
    · have hs := List.all_eq_true.mp zsix_ok w hm
      rw [h6] at hs
      have hs : (Nat.beq w.1 7 && Nat.beq w.2.2.1 1 && Nat.beq w.2.2.2.1 31) = true := by simpa using hs
      simp only [Bool.and_eq_true] at hs
      obtain ⟨⟨s1, s2⟩, s3⟩ := hs
      have s1 := Nat.eq_of_beq_eq_true s1
      have s2 := Nat.eq_of_beq_eq_true s2
      have s3 := Nat.eq_of_beq_eq_true s3
      rw [s1] at hq hc ⊢
      unfold zck at hc
      rw [h6] at hc
      cases hh : h[7]? with
      | none => rw [hh] at hc; cases hc
      | some x =>
        rw [hh] at hc
        rcases x with ⟨u, n, f | f | f | f | f⟩ | ⟨ci, fs⟩ <;> first | (cases hc; done) | skip
        simp only [Bool.and_eq_true, decide_eq_true_eq] at hc
        obtain ⟨⟨rfl, rfl⟩, -⟩ := hc
        have e7 : z7 h = f := by
          unfold z7
          rw [hh]
        rw [← hq, e7]
        show _ = some (Sum.inl (1, 31, Sum.inr (Sum.inl (fun j : Nat => i64 ((f (j : Int).toNat).toInt)))))
        rw [s2, s3]
        congr 6
        funext j
        show f j = _
        rw [show ((j : Int).toNat) = j from rfl]
        exact (Int64.ofInt_toInt (f j)).symm
    · rcases zt (z7 h) w hm with h9 | h9
      · exact absurd h9 h6
      · rw [zck_ok hc (fun c hc => z_get hz hc) h6, ← h9, hq]
  · have : khp (K0 (z7 h)) c0 q = none := by
      rw [khp_hi (by omega) (Int.le_refl _)]
      unfold c0
      rw [mhp_lo (by omega)]
      exact if_neg (by omega)
    rw [this] at hq
    cases hq
/-! the records where the loop begins -/
def kr1 : Bool := (List.range 260).all (fun k => decide (kflo k ≤ f0K k) && decide (f0K k ≤ kfhi k))
theorem kr1_ok : kr1 = true := by decide +kernel
def kr2 : Bool := (List.range 120).all (fun k => decide (kelo k ≤ 0) && decide (0 ≤ kehi k))
theorem kr2_ok : kr2 = true := by decide +kernel
def mr1 : Bool := (List.range 260).all (fun k => decide (flo k ≤ f0M k) && decide (f0M k ≤ fhi k))
theorem mr1_ok : mr1 = true := by decide +kernel
def mr2 : Bool := (List.range 260).all (fun k => decide (elo k ≤ 0) && decide (0 ≤ ehi k))
theorem mr2_ok : mr2 = true := by decide +kernel
def kyr : Bool := kyL.all (fun x => decide (0 ≤ x) && decide (x ≤ 127)) && gvL.all (fun x => decide (0 ≤ x) && decide (x ≤ 127))
theorem kyr_ok : kyr = true := by decide +kernel
theorem gd_r {l : List Int} (h : l.all (fun x => decide (0 ≤ x) && decide (x ≤ 127)) = true) (n : Nat) : 0 ≤ l.getD n 0 ∧ l.getD n 0 ≤ 127 := by
  rw [List.getD_eq_getElem?_getD]
  cases hn : l[n]? with
  | none => exact ⟨by decide, by decide⟩
  | some x =>
    have := List.all_eq_true.mp h x (List.mem_of_getElem? hn)
    simpa using this
theorem gd_0 {l : List Int} {k n : Nat} (hl : l.length ≤ n) (h : n ≤ k) : l.getD k 0 = 0 := by
  rw [List.getD_eq_getElem?_getD, List.getElem?_eq_none (Nat.le_trans hl h)]
  rfl
theorem K0_Ty (g : Nat → Int64) : KTy (K0 g) := by
  refine ⟨fun k => ?_, fun k i => ?_, fun p hp => absurd hp (Int.lt_irrefl 0), fun r _ _ => Or.inl rfl, fun p _ => Int.le_refl 0, fun p hp => absurd hp (Int.lt_irrefl 0)⟩
  · show kflo k ≤ f0K k ∧ f0K k ≤ kfhi k
    by_cases hk : k < 260
    · simpa using List.all_eq_true.mp kr1_ok k (List.mem_range.mpr hk)
    · have e1 : kflo k = 0 := gd_0 (n := 260) (by decide +kernel) (by omega)
      have e2 : kfhi k = 0 := gd_0 (n := 260) (by decide +kernel) (by omega)
      have e3 : f0K k = 0 := if_neg (by omega)
      rw [e1, e2, e3]
      exact ⟨Int.le_refl _, Int.le_refl _⟩
  · by_cases h5 : k = 5
    · subst h5
      show kelo 5 ≤ (g i.toNat).toInt ∧ (g i.toNat).toInt ≤ kehi 5
      rw [show kelo 5 = -9223372036854775808 by decide +kernel, show kehi 5 = 9223372036854775807 by decide +kernel]
      exact ⟨Int64.le_toInt _, Int.le_of_lt_add_one (Int64.toInt_lt _)⟩
    · by_cases h6 : k = 106
      · subst h6
        show kelo 106 ≤ -1 ∧ -1 ≤ kehi 106
        decide +kernel
      · have e : (K0 g).2 k i = 0 := by
          show (if k = 5 then _ else if k = 106 then _ else fun _ => 0 : Int → Int) i = 0
          rw [if_neg h5, if_neg h6]
        rw [e]
        by_cases hk : k < 120
        · simpa using List.all_eq_true.mp kr2_ok k (List.mem_range.mpr hk)
        · have e1 : kelo k = 0 := gd_0 (n := 120) (by decide +kernel) (by omega)
          have e2 : kehi k = 0 := gd_0 (n := 120) (by decide +kernel) (by omega)
          rw [e1, e2]
          exact ⟨Int.le_refl _, Int.le_refl _⟩
theorem m0_Ty : Ty m0 := by
  refine ⟨fun k => ?_, fun k i => ?_, rfl, rfl⟩
  · show flo k ≤ f0M k ∧ f0M k ≤ fhi k
    by_cases hk : k < 260
    · simpa using List.all_eq_true.mp mr1_ok k (List.mem_range.mpr hk)
    · have e1 : flo k = 0 := gd_0 (n := 260) (by decide +kernel) (by omega)
      have e2 : fhi k = 0 := gd_0 (n := 260) (by decide +kernel) (by omega)
      have e3 : f0M k = 0 := if_neg (by omega)
      rw [e1, e2, e3]
      exact ⟨Int.le_refl _, Int.le_refl _⟩
  · obtain ⟨y1, y2⟩ := Bool.and_eq_true_iff.mp kyr_ok
    by_cases h5 : k = 0
    · subst h5
      have h := gd_r y1 i.toNat
      show elo 0 ≤ kyF i ∧ kyF i ≤ ehi 0
      have h : 0 ≤ kyF i ∧ kyF i ≤ 127 := h
      have e0 : elo 0 ≤ 0 ∧ 127 ≤ ehi 0 := by decide +kernel
      omega
    · by_cases h6 : k = 18
      · subst h6
        have h := gd_r y2 i.toNat
        show elo 18 ≤ gvF i ∧ gvF i ≤ ehi 18
        have h : 0 ≤ gvF i ∧ gvF i ≤ 127 := h
        have e0 : elo 18 ≤ 0 ∧ 127 ≤ ehi 18 := by decide +kernel
        omega
      · have e : m0.2 k i = 0 := by
          show (if k = 0 then kyF else if k = 18 then gvF else fun _ => 0 : Int → Int) i = 0
          rw [if_neg h5, if_neg h6]
        rw [e]
        by_cases hk : k < 260
        · simpa using List.all_eq_true.mp mr2_ok k (List.mem_range.mpr hk)
        · have e1 : elo k = 0 := gd_0 (n := 260) (by decide +kernel) (by omega)
          have e2 : ehi k = 0 := gd_0 (n := 260) (by decide +kernel) (by omega)
          rw [e1, e2]
          exact ⟨Int.le_refl _, Int.le_refl _⟩
theorem K0_IK (g : Nat → Int64) : IK 0 (K0 g) := by
  refine ⟨⟨(by decide : f0K 232 ≤ 0), (by decide : f0K 235 ≤ 20 * 0), (by decide : f0K 234 ≤ f0K 235), (by decide : f0K 233 ≤ f0K 232)⟩, fun r a0 _ h => absurd (show r < f0K 232 from h) (by have e : f0K 232 = 0 := (by decide); omega), fun i => ⟨fun h => absurd (show (0 : Int) = 400 from h) (by decide), fun h => absurd (show (0 : Int) = 401 from h) (by decide)⟩, PI_0 (fun _ _ _ => rfl), ?_⟩
  refine ⟨?_, ?_, ?_, ?_, ?_, ?_, ?_, ?_, ?_⟩ <;> exact fun h => absurd (show f0K 201 = 1 from h) (by decide)
theorem m0_IM : IM 0 m0 := by
  refine ⟨⟨by decide, by decide⟩, Or.inl (by decide), fun h => absurd (show f0M 128 = 1 from h) (by decide), fun _ => (by decide : (0 : Int) + 0 ≤ 4000), fun _ => (by decide : (0 : Int) + 0 ≤ 4000), fun _ => (by decide : (0 : Int) + 0 ≤ 4000), fun h _ _ => rfl, ?_⟩
  refine ⟨?_, ?_, ?_, ?_, ?_, ?_, ?_, ?_, ?_, ?_, ?_, ?_, ?_, ?_, ?_, ?_, ?_⟩
  iterate 12 exact fun h => absurd (show f0M 127 = 1 from h) (by decide)
  · exact fun t a b => absurd (show t < f0M 26 from b) (by have e : f0M 26 = 0 := by decide
                                                           omega)
  · exact fun t e a b c d => absurd (show e < (0 : Int) from d) (by omega)
  · exact fun k a b => absurd (show k < f0M 149 from b) (by have e : f0M 149 = 0 := by decide
                                                            omega)
  · decide
  · decide
theorem rd_z : ∀ k : Fin 20, (0 : Int) = and32 (shr32 0 (24 - 8 * ((k.val : Int) % 4))) 255 := by decide +kernel
theorem z_REL {g : Nat → Int64} (hg : ∀ j, j < 32 → (g j).toInt = kwF j) : REL0 (K0 g) m0 := by
  refine ⟨⟨fun i => ⟨(by decide : (-128 : Int) ≤ 0), (by decide : (0 : Int) ≤ 127)⟩, fun i => ⟨(by decide : (0 : Int) ≤ 0), (by decide : (0 : Int) ≤ 255)⟩, fun i => ⟨(by decide : (0 : Int) ≤ 0), (by decide : (0 : Int) ≤ 255)⟩, rfl, rfl⟩, ⟨(by decide : f0K 200 = f0M 5), (by decide : 0 ≤ f0M 5), (by decide : f0M 5 ≤ 4000), fun i i0 i1 => ?_⟩, fun k k0 k1 => ?_, KWD_0 hg, (by decide : f0K 201 = f0M 127), Or.inl (by decide : f0M 127 = 0), fun h => absurd (show f0M 127 = 1 from h) (by decide), ⟨Or.inr ⟨(by decide : f0M 128 = 0), (by decide : f0K 226 = 0)⟩, fun h => absurd (show f0M 128 = 1 from h) (by decide)⟩, (by decide : f0K 202 = f0M 130), (by decide : f0K 232 = f0M 148), (by decide : f0K 233 = f0M 150), (by decide : f0K 235 = f0M 152)⟩
  · have e : f0M 5 = 0 := by decide
    have i1 : i < f0M 5 := i1
    omega
  · have q := rd_z ⟨k.toNat, by omega⟩
    dsimp only at q
    rw [← i_nat k0] at q
    exact q
theorem z_RX {g : Nat → Int64} (hg : ∀ j, j < 32 → (g j).toInt = kwF j) : RX (K0 g) m0 :=
  ⟨K0 g, m0, ⟨rfl, fun _ _ => rfl, fun _ _ _ _ => rfl, (KTy_V (K0_Ty g)).2⟩, ⟨rfl, fun _ _ => rfl, fun _ _ _ _ => rfl, (Ty_V m0_Ty).2⟩, z_REL hg, fun h => ⟨(by decide : (0 : Int) ≤ 0), (by decide : (0 : Int) ≤ 16)⟩⟩
theorem z_LI {g : Nat → Int64} (hg : ∀ j, j < 32 → (g j).toInt = kwF j) : LI5 0 (K0 g) m0 c0 327 327 208818 := ⟨⟨K0_Ty g, m0_Ty, K0_IK g, m0_IM, mhp_id, ⟨_, by unfold c0; rw [mhp_lo (by omega)]; exact if_pos rfl⟩, fun q _ => Int.le_refl 0, by omega, by omega, by omega, by omega⟩, z_RX hg, TM_0 (by decide : f0K 234 = 0) (fun _ _ _ => rfl) (by decide : f0M 151 = 0) (by decide : f0M 150 = 0) (by decide : f0M 128 ≠ 1), PQs_0 (fun _ _ _ => ⟨rfl, rfl, rfl⟩) (by decide : f0M 127 = 0) (by decide : f0M 128 = 0), PJs_0 (K0_Ty g) m0_Ty (by decide : f0M 127 = 0) (by decide : f0M 128 = 0)⟩
section AZ
variable {X : ag_X} {e1 e1' : Nat × (Nat → Int32)} {e2 : (List Nat × List (List Int32)) × (Nat → Nat → FieldType) × (Nat → List Value) × (Nat → Nat) × (Nat → Nat) × Value} {dd : Nat} {me : am_M} {tab : Nat → Option kg_F}
theorem az_go {call : ag_Ca at_T} {call' : am_Ca} (hX : ag_Xok X e1') (hT : ∀ pc F, tab pc = some F → kg_P X (e1, e2) me pc F)
    (hc : ∀ mi av t h r, at_R t h → call mi av t = some r → ∃ h', call' mi av h = some (r.1, h', r.2.2.1, r.2.2.2) ∧ at_R r.2.1 h') (hcz : ∀ mi av h r, zH h → call' mi av h = some r → zH r.2.1) : ∀ (n : Nat) (S S1 : ag_St at_T) (h : List am_C), at_R S.2.2.2.1 h → zH h → kg_go X (e1, e2) tab dd call n S = some S1 →
      ∃ h', at_R S1.2.2.2.1 h' ∧ zH h' ∧ ∀ k, am_run (e1', e2) nm_cn dd call' me (n + k) (ag_with S h) = am_run (e1', e2) nm_cn dd call' me k (ag_with S1 h') := by
  intro n
  induction n with
  | zero => intro S S1 h hR hz hr; cases hr; exact ⟨h, hR, hz, fun k => by rw [Nat.zero_add]⟩
  | succ n ih =>
    intro S S1 h hR hz hr
    unfold kg_go at hr
    split at hr
    · rename_i F hF
      obtain ⟨i, hi, hs9⟩ := hT _ _ hF
      have hi' : me.2.2.2.2.2 (ag_with S h).1 = some i := hi
      rw [hs9] at hr
      split at hr
      · rename_i S' hs
        obtain ⟨y, e, hy⟩ := ag_step_ok (call' := call') at_ok hX hc hR hs
        obtain ⟨pc, lv, st, t, nc, ns⟩ := S'
        obtain ⟨h', rfl, hR'⟩ := hy
        have hz' : zH h' := z_step hcz (S := ag_with S h) hz e
        obtain ⟨h2, hR2, hz2, hk⟩ := ih (pc, lv, st, t, nc, ns) S1 h' hR' hz' hr
        refine ⟨h2, hR2, hz2, fun k => ?_⟩
        rw [show n + 1 + k = (n + k) + 1 by omega]
        rw [am_run]
        rw [hi']
        dsimp only
        rw [e]
        exact hk k
      · cases hr
    · cases hr
end AZ
/-- the law's answer, with its room -/
def np_Good (r : Option am_Re) : Prop := ∃ h nc ns, r = some (.inl (some (.int 1)), h, nc, ns) ∧ nc ≤ 600000 ∧ ns ≤ 7000000
theorem np_run {L : Nat} {xs : Nat → Int32} {sio : Value} (hL : L ≤ 3072) (hsio : sio.category = 1) (hk : nk_chk sio = true) : ∃ fuel, np_Good (am_call (nm_E L xs sio) nm_cn pg fuel 18 0 [.ref 1000000] []) := by
  unfold nk_chk at hk
  split at hk
  · rename_i pc lv st t nc ns hS
    simp only [Bool.and_eq_true, decide_eq_true_eq] at hk
    obtain ⟨rfl, rfl, rfl, rfl, rfl, hn, hw⟩ := hk
    have hX : ag_Xok ((none, fun _ => none) : ag_X) (L, xs) := ⟨(fun L' hl => nomatch hl), (fun j v hv => nomatch hv)⟩
    -- the loop, from what the constructors leave
    have hloop : ∀ g : Nat → Int64, (∀ j, j < 32 → (g j).toInt = kwF j) → TT ((some L, fun j => some (xs j)), L, xs, sio) 17 pm_0 (23, LV 0, [], (khp (K0 g) c0, 327), 327, 208818) (fun r => ∃ t nc ns, r = (.inl (some (.int 1)), t, nc, ns) ∧ nc ≤ 600000 ∧ ns ≤ 7000000) := fun g hg =>
      lw_loop (w := ((some L, fun j => some (xs j)), L, xs, sio)) hsio rfl hL (fun K m c N nc ns i hI hi => ⟨_, nc, ns, rfl, by have := hI.1.2.2.2.2.2.2.2; omega, by have := hI.1.2.2.2.2.2.2.2; omega⟩) (L + 1) 0 (K0 g) m0 c0 327 327 208818 (by omega) (by omega) (by omega) (z_LI hg)
    have hgo : ∀ fuel, 100000 ≤ fuel → ∃ h', at_R t h' ∧ zH h' ∧ ∀ k, am_run (nm_E L xs sio) nm_cn 18 (am_call (nm_E L xs sio) nm_cn pg fuel 17) pm_0 (13 + k) (0, [(0, .ref 1000000)], [], [], 0, 0) = am_run (nm_E L xs sio) nm_cn 18 (am_call (nm_E L xs sio) nm_cn pg fuel 17) pm_0 k (23, nk_lv, [], h', 327, 208818) := fun fuel hf =>
      az_go (X := (none, fun _ => none)) (e1 := (0, fun _ => 0)) (e1' := (L, xs)) (e2 := (nm_E 0 (fun _ => 0) sio).2) (dd := 18) (me := pm_0) (call' := am_call (nm_E L xs sio) nm_cn pg fuel 17) hX (ke_0 (none, fun _ => none) sio)
        (fun mi av t h r hR hc => by
          obtain ⟨h', e, hR'⟩ := kg_call_ok (e1' := (L, xs)) hX (kpg_ok (none, fun _ => none) sio) 100000 17 mi av t h r hR hc
          exact ⟨h', am_call_m hf 17 mi av h _ e, hR'⟩)
        (fun mi av h r hz hr => z_call 17 mi av h r hz hr) 13 (0, [(0, .ref 1000000)], [], at_0, 0, 0) _ [] at_0_ok (fun c hc => nomatch hc) hS
    -- which cells: the same for every fuel
    obtain ⟨h1, hR1, hz1, -⟩ := hgo 100000 (Nat.le_refl _)
    have hlen : ∀ {h : List am_C}, at_R t h → h.length = 327 := fun hR => by rw [← hR.1]; exact hn
    have hck : ∀ {h : List am_C}, at_R t h → ∀ w ∈ zws, zck h[w.1]? w = true := fun {h} hR w hm => by
      have h9 := List.all_eq_true.mp hw w hm
      have e : at_O.1 t w.1 = h[w.1]? := by
        show (if w.1 < t.2 then at_at t.1 w.1 else none) = _
        split
        · rename_i hl
          exact hR.2.2.2 _ hl
        · rename_i hl
          rw [List.getElem?_eq_none (by rw [hlen hR]; omega)]
      rw [← e]
      exact h9
    have hst : ∀ {h : List am_C}, at_R t h → zH h → af_R (khp (K0 (z7 h)) c0, 327) h := fun {h} hR hz => z_start (hlen hR) hz (hck hR)
    have hsame : ∀ {h : List am_C}, at_R t h → h = h1 := fun {h} hR => by
      apply List.ext_getElem?
      intro q
      by_cases hq : q < 327
      · rw [← hR.2.2.2 q (by omega), ← hR1.2.2.2 q (by omega)]
      · rw [List.getElem?_eq_none (by rw [hlen hR]; omega), List.getElem?_eq_none (by rw [hlen hR1]; omega)]
    obtain ⟨r, ⟨t9, nc9, ns9, rfl, b1, b2⟩, F, hF⟩ := hloop (z7 h1) (z7_kw (hck hR1))
    refine ⟨F + 100013, ?_⟩
    obtain ⟨h2, hR2, hz2, hk2⟩ := hgo (F + 100013) (by omega)
    have e2 := hsame hR2
    subst e2
    have hrun := hF (F + 100013) (by omega) (F + 100000) (by omega)
    have hX2 : ag_Xok ((some L, fun j => some (xs j)) : ag_X) (L, xs) := ⟨fun L' hl => by cases hl; rfl, fun j v hv => by cases hv; rfl⟩
    obtain ⟨h9, e9, -⟩ := ag_run_ok (T := af_T) (O := af_O) (lim := 8192) (R := af_R) (X := (some L, fun j => some (xs j))) (e1 := (L, xs)) (e1' := (L, xs)) (e2 := (nm_E L xs sio).2) (cn := nm_cn) (dd := 18) (me := pm_0) (call := ag_call af_O 8192 (some L, fun j => some (xs j)) (nm_E L xs sio) nm_cn pg (F + 100013) 17) (call' := am_call (nm_E L xs sio) nm_cn pg (F + 100013) 17) af_ok hX2
      (fun mi av t h r hR hc => ag_call_ok af_ok hX2 (F + 100013) 17 mi av t h r hR hc) (F + 100000) (23, nk_lv, [], (khp (K0 (z7 h2)) c0, 327), 327, 208818) h2 _ (hst hR2 hz2) hrun
    refine ⟨h9, nc9, ns9, ?_, b1, b2⟩
    have hcat : am_cat [Value.ref 1000000] ≤ (pg 0).2.2.1 := by
      rw [sg_0]
      exact of_decide_eq_true rfl
    rw [am_call]
    show (if am_cat [Value.ref 1000000] ≤ (pg 0).2.2.1 then am_run (nm_E L xs sio) nm_cn 18 (am_call (nm_E L xs sio) nm_cn pg (F + 100013) 17) (pg 0) (F + 100013) (0, lv_args 0 [Value.ref 1000000], [], [], 0, 0) else none) = _
    rw [if_pos hcat, sg_0]
    have hk3 := hk2 (F + 100000)
    rw [show 13 + (F + 100000) = F + 100013 by omega] at hk3
    exact hk3.trans e9
  · cases hk
