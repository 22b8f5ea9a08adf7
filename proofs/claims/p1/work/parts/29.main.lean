/-! ===== EVERY SCRIPT OF AT MOST 6 INTS: the pure machine answers 1 ===== -/
theorem np_and31 (x : Int32) : ∃ c, c < 32 ∧ x &&& 31 = Int32.ofNat c := by
  refine ⟨x.toBitVec.toNat % 32, Nat.mod_lt _ (by decide), ?_⟩
  apply Int32.toBitVec_inj.mp
  show x.toBitVec &&& (31#32) = BitVec.ofNat 32 (x.toBitVec.toNat % 32)
  apply BitVec.eq_of_toNat_eq
  have h31 : (31#32).toNat = 2 ^ 5 - 1 := by decide
  rw [BitVec.toNat_and, h31, Nat.and_two_pow_sub_one_eq_mod, BitVec.toNat_ofNat]
  exact (Nat.mod_eq_of_lt (Nat.lt_of_lt_of_le (Nat.mod_lt _ (by decide)) (by decide))).symm
theorem np_small {x : Int32} {k : Nat} (hk : k < 2 ^ 31) (h0 : ¬ x < 0) (h1 : ¬ Int32.ofNat k < x) : ∃ n, n ≤ k ∧ x = Int32.ofNat n := by
  rw [Int32.lt_iff_toInt_lt, Int32.toInt_zero] at h0
  rw [Int32.lt_iff_toInt_lt, Int32.toInt_ofNat_of_lt hk] at h1
  refine ⟨x.toInt.toNat, by omega, ?_⟩
  apply Int32.toInt_inj.mp
  rw [Int32.toInt_ofNat_of_lt (by omega)]
  omega
theorem np_lt {x : Int32} {b : Bool} (h : decide (x < 0) = b) : am_c0 .lt x = b := h
/-- what stands in an array's cell -/
def nk_f (t : at_T) (q : Nat) : Nat → Int32 := match at_O.1 t q with
  | some (.inl (_, _, .inl k)) => k
  | _ => fun _ => 0
def nk_g (t : at_T) (q : Nat) : Nat → Int64 := match at_O.1 t q with
  | some (.inl (_, _, .inr (.inl k))) => k
  | _ => fun _ => 0
theorem nk_sh1 {o : Option am_C} {ci : Nat} {fs : List Value} (h : nk_sh o = (1, ci, 0, fs)) : o = some (.inr (ci, fs)) := by
  rcases o with _ | (⟨u, n, a | a | a | a | a⟩ | ⟨cj, gs⟩) <;> first | (cases h; rfl) | (simp [nk_sh] at h)
theorem nk_sh2 {t : at_T} {q u n : Nat} (h : nk_sh (at_O.1 t q) = (2, u, n, [])) : at_O.1 t q = some (.inl (u, n, .inl (nk_f t q))) := by
  unfold nk_f
  generalize at_O.1 t q = o at h ⊢
  rcases o with _ | (⟨u, n, a | a | a | a | a⟩ | ⟨cj, gs⟩) <;> first | (cases h; rfl) | (simp [nk_sh] at h)
theorem nk_sh3 {t : at_T} {q u n : Nat} (h : nk_sh (at_O.1 t q) = (3, u, n, [])) : at_O.1 t q = some (.inl (u, n, .inr (.inl (nk_g t q)))) := by
  unfold nk_g
  generalize at_O.1 t q = o at h ⊢
  rcases o with _ | (⟨u, n, a | a | a | a | a⟩ | ⟨cj, gs⟩) <;> first | (cases h; rfl) | (simp [nk_sh] at h)
theorem nk_view {t : at_T} {h : List am_C} (hR : at_R t h) (hw : nk_want.all (fun w => decide (nk_sh (at_O.1 t w.1) = w.2)) = true) (hn : t.2 = 327) : av_R (sw (nk_f t) (nk_g t), 327) h := by
  have hq : ∀ w ∈ nk_want, nk_sh (at_O.1 t w.1) = w.2 := fun w hm => of_decide_eq_true (List.all_eq_true.mp hw w hm)
  have hlen : h.length = 327 := by rw [← hR.1]; exact hn
  have h0 : av_R ([], 327) h := by rw [← hlen]; exact av_nil h
  have m : ∀ (i : Nat) (w : Nat × Nat × Nat × Nat × List Value), nk_want[i]? = some w → nk_sh (at_O.1 t w.1) = w.2 := fun i w hi => hq w (List.mem_of_getElem? hi)
  have g : ∀ q c, at_O.1 t q = some c → h[q]? = some c := fun q c => at_ok.1 t h q c hR
  exact av_cons (av_cons (av_cons (av_cons (av_cons (av_cons (av_cons (av_cons (av_cons (av_cons (av_cons (av_cons (av_cons (av_cons h0
    (g _ _ (nk_sh3 (m 13 (326, 3, 1, 1, []) rfl)))) (g _ _ (nk_sh3 (m 12 (301, 3, 1, 4, []) rfl)))) (g _ _ (nk_sh3 (m 11 (300, 3, 1, 4, []) rfl)))) (g _ _ (nk_sh3 (m 10 (299, 3, 1, 4, []) rfl)))) (g _ _ (nk_sh2 (m 9 (191, 2, 0, 20, []) rfl))))
    (g _ _ (nk_sh3 (m 8 (5, 3, 1, 4, []) rfl)))) (g _ _ (nk_sh3 (m 7 (4, 3, 1, 4, []) rfl)))) (g _ _ (nk_sh3 (m 6 (3, 3, 1, 4, []) rfl)))) (g _ _ (nk_sh2 (m 5 (1, 2, 0, 5, []) rfl))))
    (g _ _ (nk_sh1 (m 4 (189, 1, 12, 0, sv_189) rfl)))) (g _ _ (nk_sh1 (m 3 (185, 1, 5, 0, sv_185) rfl)))) (g _ _ (nk_sh1 (m 2 (12, 1, 6, 0, sv_12) rfl)))) (g _ _ (nk_sh1 (m 1 (6, 1, 11, 0, sv_6) rfl)))) (g _ _ (nk_sh1 (m 0 (0, 1, 0, 0, sv_0) rfl)))
/-- what is known of the cells, and which cells they are as long as nothing is written -/
def av_R1 (h1 : List am_C) (v : av_T) (h : List am_C) : Prop := av_R v h ∧ 14 ≤ v.1.length ∧ (v.1.length = 14 → h = h1)
theorem av_ok1 (h1 : List am_C) : ag_R av_O 8192 (av_R1 h1) := by
  refine ⟨fun t h q c hR hq => av_ok.1 t h q c hR.1 hq, fun t h q c c' hR hq => ⟨av_ok.2.1 t h q c c' hR.1 hq, ?_, fun hz => ?_⟩, fun t h c hR hl => ⟨av_ok.2.2.1 t h c hR.1 hl, ?_, fun hz => ?_⟩, fun t h hR => hR.1.1, by decide⟩
  · show 14 ≤ t.1.length + 1
    have := hR.2.1
    omega
  · have hz : t.1.length + 1 = 14 := hz
    have := hR.2.1
    omega
  · show 14 ≤ t.1.length + 1
    have := hR.2.1
    omega
  · have hz : t.1.length + 1 = 14 := hz
    have := hR.2.1
    omega
/-- the law's answer, with its room -/
def np_Good (r : Option am_Re) : Prop := ∃ h nc ns, r = some (.inl (some (.int 1)), h, nc, ns) ∧ nc ≤ 600002 ∧ ns ≤ 7302231
section NP
variable {L : Nat} {xs : Nat → Int32} {sio : Value} {h : List am_C} {f : Nat → Nat → Int32} {g : Nat → Nat → Int64}
theorem np_view {n pc nc ns nc' ns' : Nat} {lv : List (Nat × Value)} {st : List Value} {t t' : av_T} (hR : av_R t h) (hr : sR L xs sio 17 pm_0 n (pc, lv, st, t, nc, ns) = some (.inl (some (.int 1)), t', nc', ns')) (h1 : nc' ≤ 600002) (h2 : ns' ≤ 7302231) :
    np_Good (am_run (nm_E L xs sio) nm_cn 18 (am_call (nm_E L xs sio) nm_cn pg 100000 17) pm_0 n (pc, lv, st, h, nc, ns)) := by
  have hX : ag_Xok (sX L xs) (L, xs) := ⟨fun L' hl => by cases hl; rfl, fun j v hv => by cases hv; rfl⟩
  obtain ⟨h', e, -⟩ := ag_run_ok (T := av_T) (O := av_O) (lim := 8192) (R := av_R) (X := sX L xs) (e1 := (0, fun _ => 0)) (e1' := (L, xs)) (e2 := (nm_E 0 (fun _ => 0) sio).2) (cn := nm_cn) (dd := 18) (me := pm_0) (call := sC L xs sio 17) (call' := am_call (nm_E L xs sio) nm_cn pg 100000 17) av_ok hX
    (fun mi av t h r hR hc => ag_call_ok av_ok hX 100000 17 mi av t h r hR hc) n (pc, lv, st, t, nc, ns) h _ hR hr
  exact ⟨h', nc', ns', e, h1, h2⟩
theorem np_trie {t : at_T} {code : Int32} {k : Option Int32} (hR : at_R t h) (hk : ∀ v, k = some v → xs 1 = v) (hr : nk_op sio t code k = true) :
    np_Good (am_run (nm_E 6 xs sio) nm_cn 18 (am_call (nm_E 6 xs sio) nm_cn pg 100000 17) pm_0 99976 (40, nk_lv, [.int code], h, 327, 208818)) := by
  unfold nk_op at hr
  split at hr
  · rename_i r t' nc ns hrun
    simp only [Bool.and_eq_true, decide_eq_true_eq] at hr
    obtain ⟨rfl, h1, h2⟩ := hr
    have hX : ag_Xok (nk_X k) (6, xs) := ⟨fun L' hl => by cases hl; rfl, fun j v hv => by
      have hv : (if j = 1 then k else none) = some v := hv
      split at hv
      · rename_i hj
        subst hj
        exact hk v hv
      · cases hv⟩
    obtain ⟨h', e, -⟩ := kg_run_ok (X := nk_X k) (e1 := (0, fun _ => 0)) (e1' := (6, xs)) (e2 := (nm_E 0 (fun _ => 0) sio).2) (dd := 18) (me := pm_0) (call' := am_call (nm_E 6 xs sio) nm_cn pg 100000 17) hX (ke_0 (nk_X k) sio)
      (fun mi av t h r hR hc => kg_call_ok hX (kpg_ok (nk_X k) sio) 100000 17 mi av t h r hR hc) 99976 (40, nk_lv, [.int code], t, 327, 208818) h _ hR hrun
    exact ⟨h', nc, ns, e, h1, h2⟩
  · cases hr
theorem np_i {x y : Int32} {a b : Int} (hx : x.toInt = a) (hy : y.toInt = b) : (x < y ↔ a < b) ∧ (x ≤ y ↔ a ≤ b) := by
  rw [Int32.lt_iff_toInt_lt, Int32.le_iff_toInt_le, hx, hy]
  exact ⟨Iff.rfl, Iff.rfl⟩
theorem np_to (hV : av_R (sw f g, 327) h) : am_run (nm_E 6 xs sio) nm_cn 18 (am_call (nm_E 6 xs sio) nm_cn pg 100000 17) pm_0 99987 (23, nk_lv, [], h, 327, 208818) = am_run (nm_E 6 xs sio) nm_cn 18 (am_call (nm_E 6 xs sio) nm_cn pg 100000 17) pm_0 99976 (40, nk_lv, [.int (xs 0 &&& 31)], h, 327, 208818) := by
  have hX : ag_Xok (sX 6 xs) (6, xs) := ⟨fun L' hl => by cases hl; rfl, fun j v hv => by cases hv; rfl⟩
  obtain ⟨h', hR', e⟩ := ag_go_ok (T := av_T) (O := av_O) (lim := 8192) (R := av_R1 h) (X := sX 6 xs) (e1 := (0, fun _ => 0)) (e1' := (6, xs)) (e2 := (nm_E 0 (fun _ => 0) sio).2) (cn := nm_cn) (dd := 18) (me := pm_0) (call := sC 6 xs sio 17) (call' := am_call (nm_E 6 xs sio) nm_cn pg 100000 17) (av_ok1 h) hX
    (fun mi av t h r hR hc => ag_call_ok (av_ok1 _) hX 100000 17 mi av t h r hR hc) 11 (23, nk_lv, [], (sw f g, 327), 327, 208818) _ h ⟨hV, Nat.le_refl _, fun _ => rfl⟩ (sl_go xs sio f g)
  have hh : h' = h := hR'.2.2 rfl
  rw [hh] at e
  have e2 := e 99976
  exact Eq.trans (congrArg (fun n => am_run (nm_E 6 xs sio) nm_cn 18 (am_call (nm_E 6 xs sio) nm_cn pg 100000 17) pm_0 n (23, nk_lv, [], h, 327, 208818)) (show 99987 = 11 + 99976 by decide)) e2
theorem np_six {t : at_T} (hR : at_R t h) (hV : av_R (sw f g, 327) h) (h2 : nk_op sio t 2 none = true) (h1 : ∀ n, n ≤ 20 → nk_op sio t 1 (some (Int32.ofNat n)) = true) :
    np_Good (am_run (nm_E 6 xs sio) nm_cn 18 (am_call (nm_E 6 xs sio) nm_cn pg 100000 17) pm_0 99976 (40, nk_lv, [.int (xs 0 &&& 31)], h, 327, 208818)) := by
  obtain ⟨c, hc, e⟩ := np_and31 (xs 0)
  rw [e]
  have hcs : c = 0 ∨ c = 1 ∨ c = 2 ∨ c = 3 ∨ c = 4 ∨ c = 5 ∨ c = 6 ∨ c = 7 ∨ c = 8 ∨ c = 9 ∨ c = 10 ∨ c = 11 ∨ c = 12 ∨ c = 13 ∨ c = 14 ∨ c = 15 ∨ c = 16 ∨ c = 17 ∨ c = 18 ∨ c = 19 ∨ c = 20 ∨ c = 21 ∨ c = 22 ∨ c = 23 ∨ c = 24 ∨ c = 25 ∨ c = 26 ∨ c = 27 ∨ c = 28 ∨ c = 29 ∨ c = 30 ∨ c = 31 := by omega
  have neg : ∀ {x : Int32}, x < 0 ↔ x.toInt < 0 := Int32.lt_iff_toInt_lt
  rcases hcs with rfl | rfl | rfl | rfl | rfl | rfl | rfl | rfl | rfl | rfl | rfl | rfl | rfl | rfl | rfl | rfl | rfl | rfl | rfl | rfl | rfl | rfl | rfl | rfl | rfl | rfl | rfl | rfl | rfl | rfl | rfl | rfl
  · exact np_view hV (so_0 xs sio f g 99976 (by decide)) (by decide) (by decide)
  · by_cases a0 : xs 1 < 0
    · exact np_view hV (so_1_n xs sio f g 99976 (by decide) (decide_eq_true a0)) (by decide) (by decide)
    · by_cases a1 : 20 < xs 1
      · exact np_view hV (so_1_p xs sio f g 99976 (by decide) (decide_eq_false a0) (decide_eq_true a1)) (by decide) (by decide)
      · obtain ⟨n, hn, en⟩ := np_small (k := 20) (by decide) a0 a1
        exact np_trie hR (fun v hv => by cases hv; exact en) (h1 n hn)
  · exact np_trie hR (fun v hv => by cases hv) h2
  · by_cases a0 : xs 1 = 0
    · exact np_view hV (so_3_0 xs sio f g 99976 (by decide) a0) (by decide) (by decide)
    · by_cases a1 : xs 1 = 1
      · exact np_view hV (so_3_1 xs sio f g 99976 (by decide) a1) (by decide) (by decide)
      · exact np_view hV (so_3_x xs sio f g 99976 (by decide) (decide_eq_true a0) (decide_eq_true a1)) (by decide) (by decide)
  · exact np_view hV (so_4 xs sio f g 99976 (by decide)) (by decide) (by decide)
  · exact np_view hV (so_5 xs sio f g 99976 (by decide)) (by decide) (by decide)
  · exact np_view hV (so_6 xs sio f g 99976 (by decide)) (by decide) (by decide)
  · exact np_view hV (so_7 xs sio f g 99976 (by decide)) (by decide) (by decide)
  · exact np_view hV (so_8 xs sio f g 99976 (by decide)) (by decide) (by decide)
  · exact np_view hV (so_9 xs sio f g 99976 (by decide)) (by decide) (by decide)
  · by_cases a0 : xs 1 < 0
    · exact np_view hV (so_10_n xs sio f g 99976 (by decide) (decide_eq_true a0)) (by decide) (by decide)
    · by_cases a1 : 4 ≤ xs 1
      · exact np_view hV (so_10_p xs sio f g 99976 (by decide) (decide_eq_false a0) (decide_eq_false (fun z => by rw [Int32.lt_iff_toInt_lt] at z; rw [Int32.le_iff_toInt_le] at a1; omega)) (decide_eq_true a1)) (by decide) (by decide)
      · have a2 : ¬ Int32.ofNat 3 < xs 1 := by
          rw [Int32.lt_iff_toInt_lt]
          rw [Int32.le_iff_toInt_le] at a1
          have e3 : (Int32.ofNat 3).toInt = 3 := by decide
          have e4 : (4 : Int32).toInt = 4 := by decide
          omega
        obtain ⟨n, hn, en⟩ := np_small (k := 3) (by decide) a0 a2
        have hns : n = 0 ∨ n = 1 ∨ n = 2 ∨ n = 3 := by omega
        rcases hns with rfl | rfl | rfl | rfl
        · exact np_view hV (so_10_0 xs sio f g 99976 (by decide) en) (by decide) (by decide)
        · exact np_view hV (so_10_1 xs sio f g 99976 (by decide) en) (by decide) (by decide)
        · exact np_view hV (so_10_2 xs sio f g 99976 (by decide) en) (by decide) (by decide)
        · exact np_view hV (so_10_3 xs sio f g 99976 (by decide) en) (by decide) (by decide)
  · by_cases a0 : xs 1 < 0
    · exact np_view hV (so_11_n xs sio f g 99976 (by decide) (decide_eq_true a0)) (by decide) (by decide)
    · by_cases a1 : 4 ≤ xs 1
      · exact np_view hV (so_11_p xs sio f g 99976 (by decide) (decide_eq_false a0) (decide_eq_false (fun z => by rw [Int32.lt_iff_toInt_lt] at z; rw [Int32.le_iff_toInt_le] at a1; omega)) (decide_eq_true a1)) (by decide) (by decide)
      · have a2 : ¬ Int32.ofNat 3 < xs 1 := by
          rw [Int32.lt_iff_toInt_lt]
          rw [Int32.le_iff_toInt_le] at a1
          have e3 : (Int32.ofNat 3).toInt = 3 := by decide
          have e4 : (4 : Int32).toInt = 4 := by decide
          omega
        obtain ⟨n, hn, en⟩ := np_small (k := 3) (by decide) a0 a2
        have hns : n = 0 ∨ n = 1 ∨ n = 2 ∨ n = 3 := by omega
        rcases hns with rfl | rfl | rfl | rfl
        · exact np_view hV (so_11_0 xs sio f g 99976 (by decide) en) (by decide) (by decide)
        · exact np_view hV (so_11_1 xs sio f g 99976 (by decide) en) (by decide) (by decide)
        · exact np_view hV (so_11_2 xs sio f g 99976 (by decide) en) (by decide) (by decide)
        · exact np_view hV (so_11_3 xs sio f g 99976 (by decide) en) (by decide) (by decide)
  · by_cases a0 : xs 1 < 0
    · exact np_view hV (so_12_n xs sio f g 99976 (by decide) (decide_eq_true a0)) (by decide) (by decide)
    · have e2 : (2 : Int32).toInt = 2 := by decide
      have e3 : (3 : Int32).toInt = 3 := by decide
      by_cases a1 : 2 < xs 1
      · have a2 : 3 ≤ xs 1 := by
          rw [Int32.lt_iff_toInt_lt] at a1
          rw [Int32.le_iff_toInt_le]
          omega
        exact np_view hV (so_12_p xs sio f g 99976 (by decide) (decide_eq_false a0) (decide_eq_true a1) (decide_eq_true a2)) (by decide) (by decide)
      · have a2 : ¬ 3 ≤ xs 1 := by
          rw [Int32.lt_iff_toInt_lt] at a1
          rw [Int32.le_iff_toInt_le]
          omega
        exact np_view hV (so_12_i xs sio f g 99976 (by decide) (decide_eq_false a0) (decide_eq_false a1) (decide_eq_false a2)) (by decide) (by decide)
  · exact np_view hV (so_13 xs sio f g 99976 (by decide)) (by decide) (by decide)
  · by_cases a0 : xs 1 < 0
    · exact np_view hV (so_14_n xs sio f g 99976 (by decide) (decide_eq_true a0)) (by decide) (by decide)
    · have a1 : 0 ≤ xs 1 := by
        rw [Int32.lt_iff_toInt_lt] at a0
        rw [Int32.le_iff_toInt_le]
        omega
      exact np_view hV (so_14_p xs sio f g 99976 (by decide) (decide_eq_false a0) (decide_eq_true a1)) (by decide) (by decide)
  · by_cases a0 : xs 1 < 0
    · exact np_view hV (so_15_n xs sio f g 99976 (by decide) (decide_eq_true a0)) (by decide) (by decide)
    · have a1 : 0 ≤ xs 1 := by
        rw [Int32.lt_iff_toInt_lt] at a0
        rw [Int32.le_iff_toInt_le]
        omega
      exact np_view hV (so_15_p xs sio f g 99976 (by decide) (decide_eq_false a0) (decide_eq_true a1)) (by decide) (by decide)
  · by_cases a0 : xs 1 < 0
    · exact np_view hV (so_16_n xs sio f g 99976 (by decide) (decide_eq_true a0)) (by decide) (by decide)
    · have a1 : 0 ≤ xs 1 := by
        rw [Int32.lt_iff_toInt_lt] at a0
        rw [Int32.le_iff_toInt_le]
        omega
      exact np_view hV (so_16_p xs sio f g 99976 (by decide) (decide_eq_false a0) (decide_eq_true a1)) (by decide) (by decide)
  · exact np_view hV (so_17 xs sio f g 99976 (by decide)) (by decide) (by decide)
  · exact np_view hV (so_18 xs sio f g 99976 (by decide)) (by decide) (by decide)
  · by_cases a0 : (xs 1).toInt < 0 ∨ 5 < (xs 1).toInt
    · exact np_view hV (so_19_x xs sio f g 99976 (by decide) a0) (by decide) (by decide)
    · have a1 : ¬ xs 1 < 0 := by
        rw [Int32.lt_iff_toInt_lt, Int32.toInt_zero]
        omega
      have a2 : ¬ Int32.ofNat 5 < xs 1 := by
        rw [Int32.lt_iff_toInt_lt]
        have e5 : (Int32.ofNat 5).toInt = 5 := by decide
        omega
      obtain ⟨n, hn, en⟩ := np_small (k := 5) (by decide) a1 a2
      have hns : n = 0 ∨ n = 1 ∨ n = 2 ∨ n = 3 ∨ n = 4 ∨ n = 5 := by omega
      rcases hns with rfl | rfl | rfl | rfl | rfl | rfl
      · exact np_view hV (so_19_0 xs sio f g 99976 (by decide) en) (by decide) (by decide)
      · exact np_view hV (so_19_1 xs sio f g 99976 (by decide) en) (by decide) (by decide)
      · exact np_view hV (so_19_2 xs sio f g 99976 (by decide) en) (by decide) (by decide)
      · exact np_view hV (so_19_3 xs sio f g 99976 (by decide) en) (by decide) (by decide)
      · exact np_view hV (so_19_4 xs sio f g 99976 (by decide) en) (by decide) (by decide)
      · exact np_view hV (so_19_5 xs sio f g 99976 (by decide) en) (by decide) (by decide)
  · exact np_view hV (so_20 xs sio f g 99976 (by decide)) (by decide) (by decide)
  · exact np_view hV (so_21 xs sio f g 99976 (by decide)) (by decide) (by decide)
  · exact np_view hV (so_22 xs sio f g 99976 (by decide)) (by decide) (by decide)
  · exact np_view hV (so_23 xs sio f g 99976 (by decide)) (by decide) (by decide)
  · exact np_view hV (so_24 xs sio f g 99976 (by decide)) (by decide) (by decide)
  · exact np_view hV (so_25 xs sio f g 99976 (by decide)) (by decide) (by decide)
  · exact np_view hV (so_26 xs sio f g 99976 (by decide)) (by decide) (by decide)
  · exact np_view hV (so_27 xs sio f g 99976 (by decide)) (by decide) (by decide)
  · exact np_view hV (so_28 xs sio f g 99976 (by decide)) (by decide) (by decide)
  · exact np_view hV (so_29 xs sio f g 99976 (by decide)) (by decide) (by decide)
  · exact np_view hV (so_30 xs sio f g 99976 (by decide)) (by decide) (by decide)
  · exact np_view hV (so_31 xs sio f g 99976 (by decide)) (by decide) (by decide)
theorem np_run (hL : L ≤ 6) (hk : nk_chk sio = true) (he0 : nk_end sio 0 11 = true) (he1 : nk_end sio 11 10 = true) : np_Good (am_call (nm_E L xs sio) nm_cn pg 100000 18 0 [.ref 1000000] []) := by
  unfold nk_chk at hk
  split at hk
  · rename_i pc lv st t nc ns hS
    simp only [Bool.and_eq_true, decide_eq_true_eq] at hk
    obtain ⟨rfl, rfl, rfl, rfl, rfl, hn, hw, h2⟩ := hk
    unfold nk_end at he0 he1
    rw [hS] at he0 he1
    have h1 : ∀ n, n ≤ 20 → nk_op sio t 1 (some (Int32.ofNat n)) = true := fun n hn => by
      by_cases hz : n < 11
      · exact List.all_eq_true.mp he0 n (List.mem_range'_1.mpr ⟨by omega, by omega⟩)
      · exact List.all_eq_true.mp he1 n (List.mem_range'_1.mpr ⟨by omega, by omega⟩)
    have hX : ag_Xok ((none, fun _ => none) : ag_X) (L, xs) := ⟨(fun L' hl => nomatch hl), (fun j v hv => nomatch hv)⟩
    obtain ⟨h', hR', e⟩ := kg_go_ok (X := (none, fun _ => none)) (e1 := (0, fun _ => 0)) (e1' := (L, xs)) (e2 := (nm_E 0 (fun _ => 0) sio).2) (dd := 18) (me := pm_0) (call' := am_call (nm_E L xs sio) nm_cn pg 100000 17) hX (ke_0 (none, fun _ => none) sio)
      (fun mi av t h r hR hc => kg_call_ok hX (kpg_ok (none, fun _ => none) sio) 100000 17 mi av t h r hR hc) 13 (0, [(0, .ref 1000000)], [], at_0, 0, 0) _ [] at_0_ok hS
    have hV := nk_view hR' hw hn
    have hc : am_call (nm_E L xs sio) nm_cn pg 100000 18 0 [.ref 1000000] [] = am_run (nm_E L xs sio) nm_cn 18 (am_call (nm_E L xs sio) nm_cn pg 100000 17) pm_0 99987 (23, nk_lv, [], h', 327, 208818) := by
      refine Eq.trans ?_ (e 99987)
      have hcat : am_cat [Value.ref 1000000] ≤ (pg 0).2.2.1 := by
        rw [sg_0]
        exact of_decide_eq_true rfl
      rw [am_call]
      show (if am_cat [Value.ref 1000000] ≤ (pg 0).2.2.1 then am_run (nm_E L xs sio) nm_cn 18 (am_call (nm_E L xs sio) nm_cn pg 100000 17) (pg 0) 100000 (0, lv_args 0 [Value.ref 1000000], [], [], 0, 0) else none) = _
      rw [if_pos hcat, sg_0]
      exact congrArg (fun n => am_run (nm_E L xs sio) nm_cn 18 (am_call (nm_E L xs sio) nm_cn pg 100000 17) pm_0 n (0, [(0, .ref 1000000)], [], [], 0, 0)) (show 100000 = 13 + 99987 by decide)
    rw [hc]
    by_cases h6 : L = 6
    · subst h6
      rw [np_to hV]
      exact np_six hR' hV h2 h1
    · have hLs : L = 0 ∨ L = 1 ∨ L = 2 ∨ L = 3 ∨ L = 4 ∨ L = 5 := by omega
      rcases hLs with rfl | rfl | rfl | rfl | rfl | rfl
      · exact np_view hV (sl_end0 xs sio _ _ 99987 (by decide)) (by decide) (by decide)
      · exact np_view hV (sl_end1 xs sio _ _ 99987 (by decide)) (by decide) (by decide)
      · exact np_view hV (sl_end2 xs sio _ _ 99987 (by decide)) (by decide) (by decide)
      · exact np_view hV (sl_end3 xs sio _ _ 99987 (by decide)) (by decide) (by decide)
      · exact np_view hV (sl_end4 xs sio _ _ 99987 (by decide)) (by decide) (by decide)
      · exact np_view hV (sl_end5 xs sio _ _ 99987 (by decide)) (by decide) (by decide)
  · cases hk
end NP
