/-! ===== STEPS over the class's record ===== -/
theorem nar_b {x : Int} (h : -128 ≤ x ∧ x ≤ 127) : vp_nar (am_ty 2) (i32 x) = i32 x := by
  show (i32 x).toInt8.toInt32 = i32 x
  unfold i32
  rw [Int32.toInt8_ofInt, Int8.toInt32_ofInt (show Int8.minValue.toInt ≤ x from h.1) (show x ≤ Int8.maxValue.toInt from h.2)]
section KST
variable {w : wX} {D : Nat} {me : am_M} {Q : ag_Re af_T → Prop} {pc nc ns N : Nat} {lv : List (Nat × Value)} {st : List Value} {c : Nat → Option am_C} {m : mR} {l : List (Nat × Int)} {a : List (Nat × (Int → Int))}
def kfo (q : Nat) : Bool := decide (q < 74) || (decide (178 ≤ q) && decide (q < 189))
theorem kfo_1 {q : Nat} (h : kfo q = true) : q < 189 ∧ (decide (q < 74) || decide (178 ≤ q)) = true := by
  unfold kfo at h
  simp only [Bool.or_eq_true, Bool.and_eq_true, decide_eq_true_eq] at h ⊢
  omega
theorem khp_fo (K : mR) {q ci : Nat} {xs : List Nat} (h : kfo q = true) (hd : kdt q = (0, ci, xs)) : khp K c q = some (.inr (ci, xs.map (kval K))) := by
  rw [khp_lo _ c (kfo_1 h).1, klo_fx _ (kfo_1 h).2, hd]
  rfl
theorem K_gf (pc' : Nat) (v : Value) {idx ci j len q x : Nat} {xs : List Nat} (hi : me.2.2.2.2.2 pc = some (.getfield idx, len, ci, j, 0)) (hq : kfo q = true) (hd : kdt q = (0, ci, xs)) (hx : xs[j]? = some x) (hv : kval (mO m l a) x = v) (hp : pc + 3 = pc') (H : TT w D me (pc', lv, v :: st, (khp (mO m l a) c, N), nc, ns) Q) : TT w D me (pc, lv, .ref q :: st, (khp (mO m l a) c, N), nc, ns) Q :=
  G_getf pc' v hi (khp_fo _ hq hd) (by rw [List.getElem?_map, hx, ← hv]; rfl) hp H
theorem K_pf (pc' : Nat) {l' : List (Nat × Int)} (y : Int) {idx ci j len q x k : Nat} {xs : List Nat} {v : Value} (hi : me.2.2.2.2.2 pc = some (.putfield idx, len, ci, j, 0)) (hq : kfo q = true) (hd : kdt q = (0, ci, xs)) (hx : xs[j]? = some x) (hk : x / 4 = k) (h2 : decide (x % 4 < 2) = true) (hf : am_fit (nm_ft ci j) v = true) (hv : kval (mO (mO m l a) [(k, y)] []) x = v) (hl : ins k y l = l') (hp : pc + 3 = pc') (H : TT w D me (pc', lv, st, (khp (mO m l' a) c, N), nc, ns) Q) : TT w D me (pc, lv, v :: .ref q :: st, (khp (mO m l a) c, N), nc, ns) Q := by
  subst hl
  refine G_putf pc' hi (khp_fo _ hq hd) ?_ hf ?_ hp H
  · rw [List.length_map]
    exact (List.getElem?_eq_some_iff.mp hx).1
  · rw [khp_setf _ c hq hd hx hk (of_decide_eq_true h2) hv, mO_f]
def kaok (k y : Nat) : Bool := Nat.blt k 72 && (Nat.blt (kaL k) 1000000 && (kfo (kac k) && (Nat.beq (kaT k) y && (match kdt (kac k) with
  | (d, n, [k2]) => Nat.beq d (y + 1) && (Nat.beq n (kaL k) && (Nat.beq k2 k && Nat.blt d 4))
  | _ => false))))
theorem kaok_1 {k y : Nat} (h : kaok k y = true) : k < 72 ∧ kaL k < 1000000 ∧ kfo (kac k) = true ∧ kdt (kac k) = (y + 1, kaL k, [k]) ∧ y < 3 := by
  unfold kaok at h
  obtain ⟨h1, h⟩ := Bool.and_eq_true_iff.mp h
  obtain ⟨h2, h⟩ := Bool.and_eq_true_iff.mp h
  obtain ⟨h3, h⟩ := Bool.and_eq_true_iff.mp h
  obtain ⟨h4, h⟩ := Bool.and_eq_true_iff.mp h
  rw [Nat.blt_eq] at h1 h2
  refine ⟨h1, h2, h3, ?_⟩
  split at h
  · next d n k2 he =>
    obtain ⟨h5, h⟩ := Bool.and_eq_true_iff.mp h
    obtain ⟨h6, h⟩ := Bool.and_eq_true_iff.mp h
    obtain ⟨h7, h8⟩ := Bool.and_eq_true_iff.mp h
    rw [Nat.blt_eq] at h8
    have e5 := Nat.eq_of_beq_eq_true h5
    rw [he, e5, Nat.eq_of_beq_eq_true h6, Nat.eq_of_beq_eq_true h7]
    exact ⟨rfl, by omega⟩
  · exact absurd h (by decide)
theorem khp_fa (K : mR) {k y : Nat} (h : kaok k y = true) : khp K c (kac k) = some (kar K y (kaL k) k) := by
  obtain ⟨h1, h2, h3, h4, h5⟩ := kaok_1 h
  rw [khp_lo _ c (kfo_1 h3).1, klo_fx _ (kfo_1 h3).2, h4]
  match y, h5 with
  | 0, _ => rfl
  | 1, _ => rfl
  | 2, _ => rfl
theorem tn_c {i : Int} (h : 0 ≤ i) : ((i.toNat : Nat) : Int) = i := by omega
theorem K_iald (pc' k : Nat) {q len p p' p'' : Nat} {i : Int} (f : Int → Int) (hi : me.2.2.2.2.2 pc = some (.iaload, len, p, p', p'')) (hp : pc + 1 = pc') (hk : (kaok k 0 && Nat.beq (kac k) q) = true) (h0 : 0 ≤ i) (h1 : i < kaL k) (hf : (mO m l a).2 k = f) (H : TT w D me (pc', lv, .int (i32 (f i)) :: st, (khp (mO m l a) c, N), nc, ns) Q) : TT w D me (pc, lv, .int (i32 i) :: .ref q :: st, (khp (mO m l a) c, N), nc, ns) Q := by
  subst hf
  obtain ⟨k1, k2⟩ := Bool.and_eq_true_iff.mp hk
  have e := Nat.eq_of_beq_eq_true k2
  subst e
  have hk2 := kaok_1 k1
  exact G_iald pc' hi (by have := (kfo_1 hk2.2.2.1).1; omega) (khp_fa _ k1) h0 h1 hk2.2.1 (by show i32 ((mO m l a).2 k ((i.toNat : Nat) : Int)) = _; rw [tn_c h0]) hp H
theorem K_bald (pc' k : Nat) {q len p p' p'' : Nat} {i : Int} (f : Int → Int) (hi : me.2.2.2.2.2 pc = some (.baload, len, p, p', p'')) (hp : pc + 1 = pc') (hk : (kaok k 2 && Nat.beq (kac k) q) = true) (h0 : 0 ≤ i) (h1 : i < kaL k) (hf : (mO m l a).2 k = f) (H : TT w D me (pc', lv, .int (i32 (f i)) :: st, (khp (mO m l a) c, N), nc, ns) Q) : TT w D me (pc, lv, .int (i32 i) :: .ref q :: st, (khp (mO m l a) c, N), nc, ns) Q := by
  subst hf
  obtain ⟨k1, k2⟩ := Bool.and_eq_true_iff.mp hk
  have e := Nat.eq_of_beq_eq_true k2
  subst e
  have hk2 := kaok_1 k1
  exact G_bald pc' hi (by have := (kfo_1 hk2.2.2.1).1; omega) (khp_fa _ k1) (Or.inl rfl) h0 h1 hk2.2.1 (by show i32 ((mO m l a).2 k ((i.toNat : Nat) : Int)) = _; rw [tn_c h0]) hp H
theorem K_lald (pc' k : Nat) {q len p p' p'' : Nat} {i : Int} (f : Int → Int) (hi : me.2.2.2.2.2 pc = some (.laload, len, p, p', p'')) (hp : pc + 1 = pc') (hk : (kaok k 1 && Nat.beq (kac k) q) = true) (h0 : 0 ≤ i) (h1 : i < kaL k) (hf : (mO m l a).2 k = f) (H : TT w D me (pc', lv, .long (i64 (f i)) :: st, (khp (mO m l a) c, N), nc, ns) Q) : TT w D me (pc, lv, .int (i32 i) :: .ref q :: st, (khp (mO m l a) c, N), nc, ns) Q := by
  subst hf
  obtain ⟨k1, k2⟩ := Bool.and_eq_true_iff.mp hk
  have e := Nat.eq_of_beq_eq_true k2
  subst e
  have hk2 := kaok_1 k1
  exact G_lald pc' hi (khp_fa _ k1) h0 h1 hk2.2.1 (by show i64 ((mO m l a).2 k ((i.toNat : Nat) : Int)) = _; rw [tn_c h0]) hp H
theorem upd_f {f : Int → Int} {i x : Int} (h0 : 0 ≤ i) : upd (fun j : Nat => i32 (f j)) i.toNat (i32 x) = fun j : Nat => i32 (upI f i x j) := by
  funext j
  unfold upd upI
  by_cases h : j = i.toNat
  · rw [if_pos h, if_pos (by omega)]
  · rw [if_neg h, if_neg (by omega)]
theorem updl_f {f : Int → Int} {i x : Int} (h0 : 0 ≤ i) : vp_updL (fun j : Nat => i64 (f j)) i.toNat (i64 x) = fun j : Nat => i64 (upI f i x j) := by
  funext j
  unfold vp_updL upI
  by_cases h : j = i.toNat
  · rw [if_pos h, if_pos (by omega)]
  · rw [if_neg h, if_neg (by omega)]
theorem K_iast (pc' k : Nat) {a' : List (Nat × (Int → Int))} {q len p p' p'' : Nat} {i x : Int} (f : Int → Int) (hi : me.2.2.2.2.2 pc = some (.iastore, len, p, p', p'')) (hp : pc + 1 = pc') (hk : (kaok k 0 && Nat.beq (kac k) q) = true) (h0 : 0 ≤ i) (h1 : i < kaL k) (hf : (mO m l a).2 k = f) (ha : ins k (upI f i x) a = a') (H : TT w D me (pc', lv, st, (khp (mO m l a') c, N), nc, ns) Q) : TT w D me (pc, lv, .int (i32 x) :: .int (i32 i) :: .ref q :: st, (khp (mO m l a) c, N), nc, ns) Q := by
  subst hf ha
  obtain ⟨k1, k2⟩ := Bool.and_eq_true_iff.mp hk
  have e := Nat.eq_of_beq_eq_true k2
  subst e
  have hk2 := kaok_1 k1
  refine G_iast pc' hi (khp_fa _ k1) h0 h1 hk2.2.1 ?_ hp H
  rw [← mO_a]
  refine khp_seta _ c hk2.1 ?_
  rw [khp_fa _ k1]
  show some (Sum.inl (0, kaL k, Sum.inl (fun j : Nat => i32 ((mO (mO m l a) [] [(k, upI ((mO m l a).2 k) i x)]).2 k j)))) = _
  rw [mO2_s, ← upd_f h0]
theorem K_last (pc' k : Nat) {a' : List (Nat × (Int → Int))} {q len p p' p'' : Nat} {i x : Int} (f : Int → Int) (hi : me.2.2.2.2.2 pc = some (.lastore, len, p, p', p'')) (hp : pc + 1 = pc') (hk : (kaok k 1 && Nat.beq (kac k) q) = true) (h0 : 0 ≤ i) (h1 : i < kaL k) (hf : (mO m l a).2 k = f) (ha : ins k (upI f i x) a = a') (H : TT w D me (pc', lv, st, (khp (mO m l a') c, N), nc, ns) Q) : TT w D me (pc, lv, .long (i64 x) :: .int (i32 i) :: .ref q :: st, (khp (mO m l a) c, N), nc, ns) Q := by
  subst hf ha
  obtain ⟨k1, k2⟩ := Bool.and_eq_true_iff.mp hk
  have e := Nat.eq_of_beq_eq_true k2
  subst e
  have hk2 := kaok_1 k1
  refine G_last pc' hi (khp_fa _ k1) h0 h1 hk2.2.1 ?_ hp H
  rw [← mO_a]
  refine khp_seta _ c hk2.1 ?_
  rw [khp_fa _ k1]
  show some (Sum.inl (1, kaL k, Sum.inr (Sum.inl (fun j : Nat => i64 ((mO (mO m l a) [] [(k, upI ((mO m l a).2 k) i x)]).2 k j))))) = _
  rw [mO2_s, ← updl_f h0]
theorem K_bast (pc' k : Nat) {a' : List (Nat × (Int → Int))} {q len p p' p'' : Nat} {i x : Int} (f : Int → Int) (hi : me.2.2.2.2.2 pc = some (.bastore, len, p, p', p'')) (hp : pc + 1 = pc') (hk : (kaok k 2 && Nat.beq (kac k) q) = true) (h0 : 0 ≤ i) (h1 : i < kaL k) (hx : -128 ≤ x ∧ x ≤ 127) (hf : (mO m l a).2 k = f) (ha : ins k (upI f i x) a = a') (H : TT w D me (pc', lv, st, (khp (mO m l a') c, N), nc, ns) Q) : TT w D me (pc, lv, .int (i32 x) :: .int (i32 i) :: .ref q :: st, (khp (mO m l a) c, N), nc, ns) Q := by
  subst hf ha
  obtain ⟨k1, k2⟩ := Bool.and_eq_true_iff.mp hk
  have e := Nat.eq_of_beq_eq_true k2
  subst e
  have hk2 := kaok_1 k1
  refine G_bast pc' hi (khp_fa _ k1) (Or.inl rfl) h0 h1 hk2.2.1 ?_ hp H
  rw [← mO_a]
  refine khp_seta _ c hk2.1 ?_
  rw [khp_fa _ k1]
  show some (Sum.inl (2, kaL k, Sum.inl (fun j : Nat => i32 ((mO (mO m l a) [] [(k, upI ((mO m l a).2 k) i x)]).2 k j)))) = _
  rw [mO2_s, ← upd_f h0, nar_b hx]
end KST
