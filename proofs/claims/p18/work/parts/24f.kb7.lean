/-! ===== THROWS, CALLS of objects, REFERENCES in arrays ===== -/
section KTH
variable {w : wX} {D : Nat} {me : am_M} {Q : ag_Re af_T → Prop} {pc nc ns N : Nat} {lv : List (Nat × Value)} {st : List Value} {t : af_T} {h : Nat → Option am_C} {c : Nat → Option am_C} {m : mR} {l : List (Nat × Int)} {a : List (Nat × (Int → Int))} {i : am_I}
theorem T_thr {idx len x b : Nat} (hi : me.2.2.2.2.2 pc = some (.new idx, len, x, b, 1)) (hD : 5 ≤ D) (hc : decide (am_cat st ≤ 8) = true) (hv : am_covered me.2.2.2.2.1 (pc + 4 + b + 3) = false) (H : Q (.inr x, t, nc + 1, ns + 6)) : TT w D me (pc, lv, st, t, nc, ns) Q := by
  refine Tm_end hi (fun call => ?_) H
  show ag_make af_O 8192 (nm_E w.2.1 w.2.2.1 w.2.2.2) (D + 1) me.2.2.2.2.1 x b 1 (pc, lv, st, t, nc, ns) = _
  show (if 6 ≤ D + 1 ∧ am_cat st ≤ 8 ∧ am_covered me.2.2.2.2.1 (pc + 4 + b + 3) = false then some (Sum.inr (Sum.inr x, t, nc + 1, ns + 6)) else none) = _
  rw [if_pos ⟨by omega, of_decide_eq_true hc, hv⟩]
theorem T_callx (pc' mi : Nat) (av rest : List Value) {Qc : ag_Re af_T → Prop} (hi : me.2.2.2.2.2 pc = some i) (hs : ∀ call, ag_step af_O 8192 w.1 (nm_E w.2.1 w.2.2.1 w.2.2.2) nm_cn (D + 1) call me i (pc, lv, st, t, nc, ns) = ag_back af_O 8192 (nm_E w.2.1 w.2.2.1 w.2.2.2) me.2.2.2.2.1 pc lv rest nc ns (call mi av t)) (hp : pc + 3 = pc') (hn : am_covered me.2.2.2.2.1 pc = false) (hc : TC w D mi av t Qc)
    (H : ∀ r, Qc r → (∃ v t' k n, r = (.inl v, t', k, n) ∧ TT w D me (pc', lv, v.toList ++ rest, t', nc + k, ns + n) Q) ∨ (∃ x t' k n, r = (.inr x, t', k, n) ∧ Q (.inr x, t', nc + k, ns + n))) : TT w D me (pc, lv, st, t, nc, ns) Q := by
  subst hp
  obtain ⟨rc, hqc, F1, hF1⟩ := hc
  rcases H rc hqc with ⟨v, t', k, n, rfl, r, hq, F2, hF2⟩ | ⟨x, t', k, n, rfl, hq⟩
  · refine ⟨r, hq, F1 + F2 + 1, fun fuel hf n9 hn9 => ?_⟩
    obtain ⟨n9, rfl⟩ : ∃ k, n9 = k + 1 := ⟨n9 - 1, by omega⟩
    rw [ag_run, show me.2.2.2.2.2 (pc, lv, st, t, nc, ns).1 = some i from hi]
    dsimp only
    rw [hs, hF1 fuel (by omega)]
    exact hF2 fuel (by omega) n9 (by omega)
  · refine ⟨_, hq, F1 + 1, fun fuel hf n9 hn9 => ?_⟩
    obtain ⟨n9, rfl⟩ : ∃ k, n9 = k + 1 := ⟨n9 - 1, by omega⟩
    rw [ag_run, show me.2.2.2.2.2 (pc, lv, st, t, nc, ns).1 = some i from hi]
    dsimp only
    rw [hs, hF1 fuel (by omega)]
    unfold ag_back
    dsimp only
    rw [hn]
    rfl
theorem inv_vt {idx len mi b q : Nat} {fs args rest : List Value} (hc : h q = some (.inr (nm_cn mi, fs))) (hl : st = args ++ .ref q :: rest) (hb : args.length = b) (h8 : decide (am_cat rest ≤ 8) = true) (call : ag_Ca af_T) : ag_step af_O 8192 w.1 (nm_E w.2.1 w.2.2.1 w.2.2.2) nm_cn (D + 1) call me (.invokevirtual idx, len, mi, b, 0) (pc, lv, st, (h, N), nc, ns) = ag_back af_O 8192 (nm_E w.2.1 w.2.2.1 w.2.2.2) me.2.2.2.2.1 pc lv rest nc ns (call mi (.ref q :: args.reverse) (h, N)) := by
  subst hl hb
  show ag_invoke af_O 8192 _ call me.2.2.2.2.1 nm_cn mi args.length 0 (pc, lv, args ++ .ref q :: rest, (h, N), nc, ns) = _
  unfold ag_invoke
  try dsimp only
  rw [if_pos (by rw [List.length_append]; omega), List.drop_left, List.take_left]
  show (match af_O.1 (h, N) q with
    | some (.inr (cj, _)) => if cj = nm_cn mi ∧ am_cat rest ≤ 8 then ag_back af_O 8192 (nm_E w.2.1 w.2.2.1 w.2.2.2) me.2.2.2.2.1 pc lv rest nc ns (call mi (.ref q :: args.reverse) (h, N)) else none
    | _ => none) = _
  rw [show af_O.1 (h, N) q = _ from hc]
  dsimp only
  rw [if_pos ⟨rfl, of_decide_eq_true h8⟩]
theorem kd_21 : kdt 21 = (5, 8, []) := by decide +kernel
theorem kd_186 : kdt 186 = (6, 128, []) := by decide +kernel
theorem kd_187 : kdt 187 = (7, 12, []) := by decide +kernel
theorem K_aatb (pc' : Nat) {len p p' p'' : Nat} {n : Int} (hi : me.2.2.2.2.2 pc = some (.aaload, len, p, p', p'')) (h0 : 0 ≤ n) (h1 : n < 8) (hp : pc + 1 = pc') (H : TT w D me (pc', lv, .ref (tbr n) :: st, (khp (mO m l a) c, N), nc, ns) Q) : TT w D me (pc, lv, .int (i32 n) :: .ref 21 :: st, (khp (mO m l a) c, N), nc, ns) Q := by
  have hc : khp (mO m l a) c 21 = some (kfx (mO m l a) (5, 8, [])) := by
    rw [khp_lo _ c (by omega), klo_fx _ (by decide), kd_21]
  refine G_aald pc' (.ref (tbr n)) hi hc (Or.inl rfl) h0 (by omega) (by omega) ?_ hp H
  show va_rf (if n.toNat < 8 then some (74 + 13 * n.toNat) else none) = _
  rw [if_pos (by omega)]
  rfl
theorem K_aaop (pc' : Nat) (v : Value) {len p p' p'' : Nat} {n : Int} (hi : me.2.2.2.2.2 pc = some (.aaload, len, p, p', p'')) (h0 : 0 ≤ n) (h1 : n < 128) (hv : va_rf (kor (mO m l a) n) = v) (hp : pc + 1 = pc') (H : TT w D me (pc', lv, v :: st, (khp (mO m l a) c, N), nc, ns) Q) : TT w D me (pc, lv, .int (i32 n) :: .ref 186 :: st, (khp (mO m l a) c, N), nc, ns) Q := by
  have hc : khp (mO m l a) c 186 = some (kfx (mO m l a) (6, 128, [])) := by
    rw [khp_lo _ c (by omega), klo_fx _ (by decide), kd_186]
  refine G_aald pc' v hi hc (Or.inr rfl) h0 (by omega) (by omega) ?_ hp H
  show va_rf (kor (mO m l a) ((n.toNat : Nat) : Int)) = _
  rw [tn_c h0]
  exact hv
theorem K_aais (pc' : Nat) (v : Value) {len p p' p'' : Nat} {n : Int} (hi : me.2.2.2.2.2 pc = some (.aaload, len, p, p', p'')) (h0 : 0 ≤ n) (h1 : n < 12) (hv : va_rf (if (mO m l a).2 106 n < 0 then none else kor (mO m l a) ((mO m l a).2 106 n)) = v) (hp : pc + 1 = pc') (H : TT w D me (pc', lv, v :: st, (khp (mO m l a) c, N), nc, ns) Q) : TT w D me (pc, lv, .int (i32 n) :: .ref 187 :: st, (khp (mO m l a) c, N), nc, ns) Q := by
  have hc : khp (mO m l a) c 187 = some (kfx (mO m l a) (7, 12, [])) := by
    rw [khp_lo _ c (by omega), klo_fx _ (by decide), kd_187]
  refine G_aald pc' v hi hc (Or.inr rfl) h0 (by omega) (by omega) ?_ hp H
  show va_rf (if (mO m l a).2 106 ((n.toNat : Nat) : Int) < 0 then none else kor (mO m l a) ((mO m l a).2 106 ((n.toNat : Nat) : Int))) = _
  rw [tn_c h0]
  exact hv
end KTH
