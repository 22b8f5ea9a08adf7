/-! ===== what an operation does to the reference's tables ===== -/
/-- a table of the reference is in its bounds -/
def TOK (t : Int) (M : mR) : Prop := (0 ≤ M.2 139 t ∧ M.2 139 t ≤ 72) ∧ (M.2 58 t = 0 → M.2 139 t ≤ M.2 54 t)
/-- what is given all the time of the reference's tables -/
def GVM (t : Int) (M : mR) : Prop := (0 ≤ t ∧ t < 8) ∧ (0 ≤ M.2 51 t ∧ M.2 51 t ≤ 4) ∧ (0 ≤ M.2 53 t ∧ M.2 53 t ≤ 8 ∧ ∀ i, 0 ≤ i → i < M.2 53 t → 0 ≤ M.2 114 (8 * t + i) ∧ M.2 114 (8 * t + i) < 16) ∧ (1 ≤ M.2 54 t ∧ M.2 54 t ≤ 32) ∧ (0 ≤ M.2 55 t ∧ M.2 55 t ≤ 4) ∧ (0 ≤ M.2 56 t ∧ M.2 56 t ≤ 8) ∧ (M.2 58 t ≠ 0 → M.2 54 t ≤ 16)
theorem GVQ_M {t : Int} {K M : mR} (h : GVQ t K M) : GVM t M := by
  obtain ⟨h0, ⟨h1, h2, h3, h4, h5, h6, h7⟩, h8, h9, h10⟩ := h
  obtain ⟨-, a2, a3, -⟩ := h1
  obtain ⟨-, b2, b3, b4⟩ := h2
  refine ⟨h0, ⟨a2, a3⟩, ⟨b2, b3, fun i i0 i1 => ?_⟩, h5.2, h6.2, h7.2, h10⟩
  obtain ⟨-, c2, c3⟩ := b4 i i0 i1
  exact ⟨c2, by omega⟩
theorem GVM_f {t : Int} {M M' : mR} {G C : List Nat} (h : GVM t M) (hM : fr G C M M') (c4 : chk [51, 53, 54, 55, 56, 58, 114] C = true) : GVM t M' := by
  unfold GVM
  rw [fr2 hM 51 (chk_1 c4 (by decide)), fr2 hM 53 (chk_1 c4 (by decide)), fr2 hM 54 (chk_1 c4 (by decide)), fr2 hM 55 (chk_1 c4 (by decide)), fr2 hM 56 (chk_1 c4 (by decide)), fr2 hM 58 (chk_1 c4 (by decide)), fr2 hM 114 (chk_1 c4 (by decide))]
  exact h
def OPR (M : mR) : Prop := ∀ i, 0 ≤ i → i < 4 → R64 (M.2 160 i) ∧ R64 (M.2 161 i) ∧ R64 (M.2 162 i)
def SRo (t : Int) (M : mR) (z : Int × mR) : Prop := fr [] svG M z.2 ∧ ofR t M z.2 ∧ TOK t z.2
section TP2
variable {M : mR} {t : Int}
theorem SRo_0 {x : Int} (h : TOK t M) : SRo t M (x, M) := ⟨fr_0, ofR_0, h⟩
theorem put_of {e a : Int} {M2 : mR} (t0 : 0 ≤ t) (e0 : 0 ≤ e) (e1 : e < 96) (h : puJ t e a M (4, M2)) : fr [] [141, 144] M M2 ∧ ofR t M M2 := by
  obtain ⟨-, q2, q3, -, q5⟩ := h
  have q2 : fr [] [141, 144] M M2 := q2
  have q3 : M2.2 141 = upI (M.2 141) (96 * t + e) a := q3
  refine ⟨q2, fun x _ => by rw [show M2.2 139 = M.2 139 from fr2 q2 139 rfl], fun j hj => ?_, fun j hj => ?_⟩
  · rw [show M2.2 140 = M.2 140 from fr2 q2 140 rfl, q3]
    exact ⟨rfl, upI_n (by omega)⟩
  · rw [show M2.2 142 = M.2 142 from fr2 q2 142 rfl, show M2.2 143 = M.2 143 from fr2 q2 143 rfl]
    exact ⟨rfl, rfl, q5 j (by omega)⟩
theorem nrm_of {n a : Int} {M3 : mR} (t0 : 0 ≤ t) (n0 : 0 ≤ n) (n1 : n ≤ 72) (h : NRM t n a M M3) : ofR t M M3 := by
  obtain ⟨m1, m2, m3, m4, -⟩ := h
  exact ⟨fun x hx => by rw [m2, upI_n hx], fun j hj => m4 j (by omega), fun j hj => m3 j (by omega)⟩
theorem com_of (hV : GVM t M) (hT : TOK t M) (hR : OPR M) : RP (rf_entryComes t M) (SRo t M) := by
  obtain ⟨⟨t0, t1⟩, ⟨h0, h1⟩, ⟨l0, l1, l2⟩, ⟨r0, r1⟩, ⟨w0, w1⟩, ⟨s0, s1⟩, h16⟩ := hV
  have hT0 := hT
  obtain ⟨⟨n0, n1⟩, n2⟩ := hT0
  unfold rf_entryComes
  refine RP_bnd (isOf_r (M := M) (a := M.2 158 0) t0 t1 l0 l1) (fun u hu => ?_)
  refine RP_ite (fun _ => RP_some (SRo_0 hT)) (fun g => RP_bndT (fun f => RP_ite (fun _ => RP_some (SRo_0 hT)) (fun _ => ?_)))
  have ha : 0 ≤ M.2 158 0 ∧ M.2 158 0 < 16 := by
    rcases hu with ⟨-, i, i0, i1, i2⟩ | ⟨u0, -⟩
    · have := l2 i i0 i1
      omega
    · exact absurd u0 g
  have main : (M.2 58 t = 0 → M.2 139 t ≠ M.2 54 t) → RP (rfl_entryComes_48 t M) (SRo t M) := fun nf => by
    have C := com_r (M := M) (t := t) (X := some ()) (Q := fun _ z => SRo t M z) (n := M.2 139 t) (a := M.2 158 0) t0 t1 h0 h1 rfl n0 n1 rfl ha.1 ha.2 (fun i i0 i1 => ⟨(hR i i0 i1).2.1, (hR i i0 i1).2.2⟩) (fun M3 hM => ?_)
    · exact fun z hz => C () z rfl hz
    · have m1 := hM.1
      have oR := nrm_of t0 n0 n1 hM
      have e58 : M3.2 58 = M.2 58 := fr2 m1 58 rfl
      have e54 : M3.2 54 = M.2 54 := fr2 m1 54 rfl
      have e55 : M3.2 55 = M.2 55 := fr2 m1 55 rfl
      have e139 : M3.2 139 t = M.2 139 t + 1 := by rw [hM.2.1, upI_s]
      have f3 : fr [] svG M M3 := fr_s m1 fr_0 rfl rfl
      rw [e58]
      refine RR_ir (fun ex => ?_) (fun ex => ?_)
      · refine RR_some ⟨f3, oR, ?_, ?_⟩
        · show 0 ≤ M3.2 139 t ∧ M3.2 139 t ≤ 72
          have := nf ex
          have := n2 ex
          omega
        · show M3.2 58 t = 0 → M3.2 139 t ≤ M3.2 54 t
          rw [e58, e54]
          intro _
          have := nf ex
          have := n2 ex
          omega
      · have h16 := h16 ex
        refine RR_r (above_b (M := M3) (t := t) (by rw [e54]; exact r0) (by rw [e58]; exact ex) (by rw [e54]; exact h16) (by rw [e55]; exact w0) (by omega) (by omega)) (fun x hx => ?_)
        obtain ⟨A3, A6⟩ := hx
        rw [e55, e139] at A6
        have fx : fr [] svG M x.2 := fr_s A3 (fr_s f3 fr_0 rfl rfl) rfl rfl
        have x56 : x.2.2 56 t = M.2 56 t := by rw [show x.2.2 56 = M.2 56 from fr2 fx 56 rfl]
        have x139 : x.2.2 139 = M3.2 139 := fr2 A3 139 rfl
        have ox : ofR t M x.2 := by
          refine ofR_t oR ⟨fun y _ => by rw [x139], fun j _ => ?_, fun j _ => ?_⟩
          · rw [show x.2.2 140 = M3.2 140 from fr2 A3 140 rfl, show x.2.2 141 = M3.2 141 from fr2 A3 141 rfl]
            exact ⟨rfl, rfl⟩
          · rw [show x.2.2 142 = M3.2 142 from fr2 A3 142 rfl, show x.2.2 143 = M3.2 143 from fr2 A3 143 rfl, show x.2.2 144 = M3.2 144 from fr2 A3 144 rfl]
            exact ⟨rfl, rfl, rfl⟩
        have nx : ¬ M.2 58 t = 0 := ex
        unfold rfl_entryComes_179
        rw [x56]
        refine RR_ir (fun q => RR_some ⟨fr_m fx rfl rfl, ?_, ?_⟩) (fun q => RR_some ⟨fx, ox, ?_⟩)
        · refine ofR_t ox ⟨fun y hy => ?_, fun _ _ => ⟨rfl, rfl⟩, fun _ _ => ⟨rfl, rfl, rfl⟩⟩
          show upI (x.2.2 139) t _ y = _
          rw [upI_n hy]
        · refine ⟨?_, fun z => absurd (show M.2 58 t = 0 from ((show (x.2.2 58) t = M.2 58 t by rw [show x.2.2 58 = M.2 58 from fr2 fx 58 rfl]).symm.trans z)) nx⟩
          show 0 ≤ upI (x.2.2 139) t (cut (x.2.2 139 t - 1)) t ∧ upI (x.2.2 139) t (cut (x.2.2 139 t - 1)) t ≤ 72
          rw [upI_s, x139, e139, cut_i (by omega) (by omega)]
          omega
        · refine ⟨?_, fun z => absurd (show M.2 58 t = 0 from ((show (x.2.2 58) t = M.2 58 t by rw [show x.2.2 58 = M.2 58 from fr2 fx 58 rfl]).symm.trans z)) nx⟩
          rw [x139, e139]
          omega
  refine RP_ite (fun ex => RP_ite (fun _ => RP_some (SRo_0 hT)) (fun nf => main (fun _ => nf))) (fun ex => main (fun q => absurd q ex))
theorem chg_of (hV : GVM t M) (hT : TOK t M) (hR : OPR M) : RP (rf_entryChanges t M) (SRo t M) := by
  obtain ⟨⟨t0, t1⟩, ⟨h0, h1⟩, ⟨l0, l1, l2⟩, -⟩ := hV
  have hT0 := hT
  obtain ⟨⟨n0, n1⟩, n2⟩ := hT0
  unfold rf_entryChanges
  refine RP_bnd (fins_r (M := M) t0 t1 h0 h1 n0 (by omega) (fun i i0 i1 => (hR i i0 i1).2.1)) (fun f hf => RP_ite (fun _ => RP_some (SRo_0 hT)) (fun f0 => RP_bnd (isOf_r (M := M) (a := M.2 158 0) t0 t1 l0 l1) (fun u hu => RP_ite (fun _ => RP_some (SRo_0 hT)) (fun g => ?_))))
  have ha : 0 ≤ M.2 158 0 ∧ M.2 158 0 < 16 := by
    rcases hu with ⟨-, i, i0, i1, i2⟩ | ⟨u0, -⟩
    · have := l2 i i0 i1
      omega
    · exact absurd u0 g
  have hf1 : f < M.2 139 t := by
    rcases hf with ⟨q, -⟩ | ⟨-, q, -⟩
    · omega
    · exact q
  refine RP_bnd (put_r (M := M) (t := t) (e := f) (a := M.2 158 0) rfl ha.1 ha.2 t0 t1 (by omega) (by omega) (fun i i0 i1 => (hR i i0 i1).2.2)) (fun y hy => RP_some ?_)
  obtain ⟨p1, p2⟩ := put_of t0 (by omega) (by omega) hy
  refine ⟨fr_s p1 fr_0 rfl rfl, p2, ?_⟩
  unfold TOK
  show (0 ≤ y.2.2 139 t ∧ y.2.2 139 t ≤ 72) ∧ (y.2.2 58 t = 0 → y.2.2 139 t ≤ y.2.2 54 t)
  rw [show y.2.2 139 = M.2 139 from fr2 p1 139 rfl, show y.2.2 58 = M.2 58 from fr2 p1 58 rfl, show y.2.2 54 = M.2 54 from fr2 p1 54 rfl]
  exact hT
theorem goe_of (hV : GVM t M) (hT : TOK t M) (hR : OPR M) : RP (rf_entryGoes t M) (SRo t M) := by
  obtain ⟨⟨t0, t1⟩, ⟨h0, h1⟩, -⟩ := hV
  have hT0 := hT
  obtain ⟨⟨n0, n1⟩, n2⟩ := hT0
  unfold rf_entryGoes
  refine RP_bnd (fins_r (M := M) t0 t1 h0 h1 n0 (by omega) (fun i i0 i1 => (hR i i0 i1).2.1)) (fun f hf => RP_ite (fun f0 => ?_) (fun _ => RP_some (SRo_0 hT)))
  have hf1 : f < M.2 139 t := by
    rcases hf with ⟨q, -⟩ | ⟨-, q, -⟩
    · omega
    · exact q
  rw [cut_i (z := M.2 139 t - 1) (by omega) (by omega)]
  have eM : ∃ M1, M1 = mO M [] [(139, upI (M.2 139) t (M.2 139 t - 1))] := ⟨_, rfl⟩
  obtain ⟨M1, eM⟩ := eM
  rw [← eM]
  have g1 : fr [] [139] M M1 := by rw [eM]; exact fr_m fr_0 rfl rfl
  have g139 : M1.2 139 = upI (M.2 139) t (M.2 139 t - 1) := by rw [eM]; rfl
  refine RP_bnd (rem_r (M := M1) (t := t) (e := f) (n := M.2 139 t - 1) t0 t1 (by rw [g139, upI_s]) (by omega) f0 (by omega)) (fun m hm => RP_some ?_)
  obtain ⟨⟨-, -⟩, m2, m3, m4, m5, m6, m7⟩ := hm
  have m139 : m.2 139 = upI (M.2 139) t (M.2 139 t - 1) := (fr2 m2 139 rfl).trans g139
  rw [show M1.2 140 = M.2 140 from fr2 g1 140 rfl] at m6
  rw [show M1.2 141 = M.2 141 from fr2 g1 141 rfl] at m7
  rw [show M1.2 142 = M.2 142 from fr2 g1 142 rfl] at m3
  rw [show M1.2 143 = M.2 143 from fr2 g1 143 rfl] at m4
  rw [show M1.2 144 = M.2 144 from fr2 g1 144 rfl] at m5
  have fM : fr [] svG M m := fr_s m2 (fr_s g1 fr_0 rfl rfl) rfl rfl
  refine ⟨fM, ⟨fun x hx => ?_, fun j hj => ⟨m6.2 _ (by omega), m7.2 _ (by omega)⟩, fun j hj => ⟨m3.2 _ (by omega), m4.2 _ (by omega), m5.2 _ (by omega)⟩⟩, ?_, ?_⟩
  · show m.2 139 x = _
    rw [m139, upI_n hx]
  · show 0 ≤ m.2 139 t ∧ m.2 139 t ≤ 72
    rw [m139, upI_s]
    omega
  · show m.2 58 t = 0 → m.2 139 t ≤ m.2 54 t
    rw [m139, upI_s, show m.2 58 = M.2 58 from fr2 fM 58 rfl, show m.2 54 = M.2 54 from fr2 fM 54 rfl]
    exact fun q => by have := n2 q; omega
theorem srv_of {k : Int} (hV : GVM t M) (hT : TOK t M) (hR : OPR M) : RP (srvM t k M) (SRo t M) := by
  unfold srvM
  exact RP_bndT (fun y => RP_ite (fun _ => RP_some (SRo_0 hT)) (fun _ => RP_ite (fun _ => com_of hV hT hR) (fun _ => RP_ite (fun _ => chg_of hV hT hR) (fun _ => goe_of hV hT hR))))
/-! the reference's operation, its tables -/
theorem d73 {v1 k : Int} (hk : 0 < k) : rfl_doFirst_73 v1 k M = bnd (srvM (M.2 156 0) k M) fun y => rfl_doFirst_154 v1 (if y.1 = 0 then 1 else 0) y.2 := by
  unfold rfl_doFirst_73 srvM
  rw [if_neg (by omega)]
  have e0 : ∀ m : mR, rfl_doFirst_136 v1 m = rfl_doFirst_154 v1 1 m := fun m => by
    unfold rfl_doFirst_136 rfl_doFirst_137
    rw [if_pos rfl]
  have e1 : ∀ m : mR, rfl_doFirst_132 v1 m = rfl_doFirst_154 v1 0 m := fun m => by
    unfold rfl_doFirst_132 rfl_doFirst_137
    rw [if_neg (by decide)]
  have e2 : ∀ (u : Int) (m : mR), (if u = 0 then rfl_doFirst_136 v1 m else rfl_doFirst_132 v1 m) = rfl_doFirst_154 v1 (if u = 0 then 1 else 0) m := fun u m => by
    by_cases q : u = 0
    · rw [if_pos q, if_pos q]
      exact e0 m
    · rw [if_neg q, if_neg q]
      exact e1 m
  cases rf_areMasks (M.2 156 0) M with
  | none => rfl
  | some y =>
    show (if y = 0 then rfl_doFirst_136 v1 M else _) = bnd (if y = 0 then some (0, M) else _) _
    by_cases q : y = 0
    · rw [if_pos q, if_pos q, bnd_some, e0]
      rfl
    · rw [if_neg q, if_neg q]
      by_cases q1 : k = 1
      · rw [if_pos q1, if_pos q1]
        cases rf_entryComes (M.2 156 0) M with
        | none => rfl
        | some w => exact e2 _ _
      · rw [if_neg q1, if_neg q1]
        by_cases q2 : k = 2
        · rw [if_pos q2, if_pos q2]
          cases rf_entryChanges (M.2 156 0) M with
          | none => rfl
          | some w => exact e2 _ _
        · rw [if_neg q2, if_neg q2]
          cases rf_entryGoes (M.2 156 0) M with
          | none => rfl
          | some w => exact e2 _ _
end TP2
