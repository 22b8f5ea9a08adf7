/-! ===== THE PURE MACHINE, part 12: what stands outside: the script, text constants, statics of the JDK's ===== -/
/-- cell 1000000 is the script; text i is 1000001 + 2 i, its bytes 1000002 + 2 i -/
def am_kT (i : Nat) : Nat := 1000001 + 2 * i
def am_kB (i : Nat) : Nat := 1000002 + 2 * i
theorem am_kB_ge (i : Nat) : 1000000 ≤ am_kB i := by unfold am_kB; omega
theorem am_kT_ge (i : Nat) : 1000000 ≤ am_kT i := by unfold am_kT; omega
/-- len, byt: the texts; refs: where each text stands in a constant pool (class, entry, text, number of the text) -/
def am_X (L : Nat) (xs : Nat → Int32) (len : List Nat) (byt : List (List Int32)) (refs : List (String × Nat × String × Nat)) (sio : Value) (A : Nat → Prop) (ad : Nat → Nat) (U : State) (H : Heap) : Prop :=
  (va_X (ad 1000000) L xs U H ∧ ¬ A (ad 1000000)) ∧
  (∀ i, i < len.length → va_O "java/lang/String" (ad (am_kT i)) A U H ∧ va_OF "java/lang/String" "coder" "B" (.int 0) (ad (am_kT i)) A U H ∧ va_OF "java/lang/String" "value" "[B" (.ref (ad (am_kB i))) (ad (am_kT i)) A U H ∧ va_T .byte (ad (am_kB i)) (len.getD i 0) (fun j => .int ((byt.getD i []).getD j 0)) A U H) ∧
  (∀ q ∈ refs, vk_R q.1 q.2.1 q.2.2.1 (ad (am_kT q.2.2.2)) U) ∧
  (va_Z "java/lang/String" "COMPACT_STRINGS" "Z" (.int 1) A U H ∧ va_Z "jdk/internal/util/Preconditions" "SIOOBE_FORMATTER" "Ljava/util/function/BiFunction;" (am_v ad sio) A U H) ∧ am_LS Bundle.tN "UNASSIGNED_STACK" Bundle.steD A U H ∧ am_LS Bundle.tN "SUPPRESSED_SENTINEL" Bundle.listD A U H
section AMXX
variable {L : Nat} {xs : Nat → Int32} {len : List Nat} {byt : List (List Int32)} {refs : List (String × Nat × String × Nat)} {sio : Value} {A : Nat → Prop} {ad : Nat → Nat} {u U : State} {H H1 : Heap}
theorem am_X.kept (h : am_X L xs len byt refs sio A ad U H) (hq : ∀ a : Nat, a < H.size → ¬ A a → H1[a]? = H[a]?) : am_X L xs len byt refs sio A ad U H1 := by
  obtain ⟨⟨h1, h3⟩, h4, h5, h6, h7, h8⟩ := h
  have hlt : ad 1000000 < H.size := by
    obtain ⟨scr, g1, -⟩ := h1
    exact (Array.getElem?_eq_some_iff.mp g1).1
  exact ⟨⟨h1.kept (hq _ hlt h3), h3⟩, fun i hi => ⟨(h4 i hi).1.kept hq, (h4 i hi).2.1.kept hq, (h4 i hi).2.2.1.kept hq, (h4 i hi).2.2.2.kept hq⟩, h5, ⟨h6.1.kept hq, h6.2.kept hq⟩, h7.kept hq, h8.kept hq⟩
theorem am_X.warm (hW : u.WarmedH U.vm) (h : am_X L xs len byt refs sio A ad u H) : am_X L xs len byt refs sio A ad U H := by
  obtain ⟨⟨h1, h3⟩, h4, h5, h6, h7, h8⟩ := h
  have hvm := hW.alike
  exact ⟨⟨h1.moved hvm, h3⟩, fun i hi => ⟨va_O.moved hvm (h4 i hi).1, va_OF.moved hvm (h4 i hi).2.1, va_OF.moved hvm (h4 i hi).2.2.1, va_T.moved hvm (h4 i hi).2.2.2⟩, fun q hq => (h5 q hq).warm hW, ⟨va_Z.moved hvm h6.1, va_Z.moved hvm h6.2⟩, am_LS.moved hvm h7, am_LS.moved hvm h8⟩
theorem am_X.ext {ad' : Nat → Nat} (hs : am_okv 0 sio) (he : ∀ k, 1000000 ≤ k → ad' k = ad k) (h : am_X L xs len byt refs sio A ad U H) : am_X L xs len byt refs sio A ad' U H := by
  obtain ⟨⟨h1, h3⟩, h4, h5, ⟨h6, h7⟩, h8⟩ := h
  have eS : am_v ad' sio = am_v ad sio := by
    cases sio <;> try rfl
    rcases hs with hs | hs
    · exact absurd hs (Nat.not_lt_zero _)
    · exact congrArg Value.ref (he _ hs)
  have e0 : ad' 1000000 = ad 1000000 := he _ (Nat.le_refl _)
  have eT : ∀ i, ad' (am_kT i) = ad (am_kT i) := fun i => he _ (am_kT_ge i)
  have eB : ∀ i, ad' (am_kB i) = ad (am_kB i) := fun i => he _ (am_kB_ge i)
  refine ⟨by rw [e0]; exact ⟨h1, h3⟩, fun i hi => by rw [eT, eB]; exact h4 i hi, fun q hq => by rw [eT]; exact h5 q hq, ⟨h6, by rw [eS]; exact h7⟩, h8⟩
end AMXX
/-- reads of what stands outside: script, bytes of a text, their lengths; fields of a text (1: value, 2: coder) -/
def am_xiald (L : Nat) (xs : Nat → Int32) : am_FH := fun pc lv st h => match st with
  | .int i :: .ref q :: r => if q = 1000000 ∧ ¬ (i < 0 ∨ L ≤ i.toNatClampNeg) then some (pc + 1, lv, .int (xs i.toNatClampNeg) :: r, h) else none
  | _ => none
def am_xbald (len : List Nat) (byt : List (List Int32)) : am_FH := fun pc lv st h => match st with
  | .int i :: .ref q :: r => if q = am_kB ((q - 1000002) / 2) ∧ (q - 1000002) / 2 < len.length ∧ ¬ (i < 0 ∨ len.getD ((q - 1000002) / 2) 0 ≤ i.toNatClampNeg) then some (pc + 1, lv, .int ((byt.getD ((q - 1000002) / 2) []).getD i.toNatClampNeg 0) :: r, h) else none
  | _ => none
def am_xalen (L : Nat) (len : List Nat) : am_FH := fun pc lv st h => match st with
  | .ref q :: r => if q = 1000000 then some (pc + 1, lv, .int (Int32.ofNat L) :: r, h) else if q = am_kB ((q - 1000002) / 2) ∧ (q - 1000002) / 2 < len.length then some (pc + 1, lv, .int (Int32.ofNat (len.getD ((q - 1000002) / 2) 0)) :: r, h) else none
  | _ => none
def am_xgetf (len : List Nat) (w : Nat) : am_FH := fun pc lv st h => match st with
  | .ref q :: r => if q = am_kT ((q - 1000001) / 2) ∧ (q - 1000001) / 2 < len.length then match w with
    | 1 => some (pc + 3, lv, .ref (am_kB ((q - 1000001) / 2)) :: r, h)
    | 2 => some (pc + 3, lv, .int 0 :: r, h)
    | _ => none
    else none
  | _ => none
/-- the statics that are read: 0 whether texts are compact, else one that is only handed on -/
def am_gs (sio : Value) (k : Nat) : Value := match k with
  | 0 => .int 1
  | _ => sio
section AMXR
variable {p : Program} {l : Launch} {e : Env} {R : Room} {s : State} {m : MethodId} {args : Array Value} {below : List Frame} {meth : Method} {c : Code} {H : Heap} {locs : List Loc} {cells slots : Nat} {Q : State → Prop}
variable {cc : ByteArray} {pc pc' : Nat} {ls : Array Slot} {lv lv' : List (Nat × Value)} {st st' : List Value} {ad : Nat → Nat} {h h' : List am_C}
variable {L : Nat} {xs : Nat → Int32} {len : List Nat} {byt : List (List Int32)} {refs : List (String × Nat × String × Nat)} {sio : Value} {A : Nat → Prop}
theorem am_xiald_ok (hx : p.tables.exec = Jvm.exec) (hb : c.code = cc) (hd : decode cc pc = .ok (.iaload, 1)) (hX : am_X L xs len byt refs sio A ad s H)
    (hr : am_xiald L xs pc lv st h = some (pc', lv', st', h')) (kk : lv = lv' → h = h' → W p l e R s m args below meth c H locs cells slots Q (F0 m pc' ls (st'.map (am_v ad)))) : W p l e R s m args below meth c H locs cells slots Q (F0 m pc ls (st.map (am_v ad))) := by
  unfold am_xiald at hr
  split at hr
  · rename_i i q r
    split at hr
    · rename_i hz
      obtain ⟨rfl, hi⟩ := hz
      cases hr
      obtain ⟨⟨⟨scr, h1, h2, h3, h4, h5⟩, -⟩, -⟩ := hX
      have hlt : i.toNatClampNeg < L := Nat.not_le.mp fun q => hi (Or.inr q)
      exact W.iald (v := .int (xs i.toNatClampNeg)) hx hb h1 h2 h3 (by rw [h4]; exact hi) (h5 _ hlt) rfl rfl hd (kk rfl rfl)
    · cases hr
  · cases hr
theorem am_xbald_ok (hx : p.tables.exec = Jvm.exec) (hb : c.code = cc) (hd : decode cc pc = .ok (.baload, 1)) (hX : am_X L xs len byt refs sio A ad s H)
    (hr : am_xbald len byt pc lv st h = some (pc', lv', st', h')) (kk : lv = lv' → h = h' → W p l e R s m args below meth c H locs cells slots Q (F0 m pc' ls (st'.map (am_v ad)))) : W p l e R s m args below meth c H locs cells slots Q (F0 m pc ls (st.map (am_v ad))) := by
  unfold am_xbald at hr
  split at hr
  · rename_i i q r
    split at hr
    · rename_i hz
      obtain ⟨hq, hn, hi⟩ := hz
      cases hr
      obtain ⟨cell, h1, h2, h3, h4, h5, h6, h7⟩ := (hX.2.1 _ hn).2.2.2
      have hlt : i.toNatClampNeg < len.getD ((q - 1000002) / 2) 0 := Nat.not_le.mp fun q => hi (Or.inr q)
      rw [← hq] at h1
      exact W.bald (v := .int ((byt.getD ((q - 1000002) / 2) []).getD i.toNatClampNeg 0)) hx hb h1 h2 h3 (fun z => hi (z.elim Or.inl (fun z => Or.inr (Nat.le_trans h4 z)))) (h6 _ hlt) rfl rfl hd (kk rfl rfl)
    · cases hr
  · cases hr
theorem am_xalen_ok (hx : p.tables.exec = Jvm.exec) (hb : c.code = cc) (hd : decode cc pc = .ok (.arraylength, 1)) (hX : am_X L xs len byt refs sio A ad s H)
    (hr : am_xalen L len pc lv st h = some (pc', lv', st', h')) (kk : lv = lv' → h = h' → W p l e R s m args below meth c H locs cells slots Q (F0 m pc' ls (st'.map (am_v ad)))) : W p l e R s m args below meth c H locs cells slots Q (F0 m pc ls (st.map (am_v ad))) := by
  unfold am_xalen at hr
  split at hr
  · rename_i q r
    split at hr
    · rename_i hq
      subst hq
      cases hr
      obtain ⟨⟨⟨scr, h1, h2, h3, h4, h5⟩, -⟩, -⟩ := hX
      exact W.alen (n := Int32.ofNat L) hx hb h1 h2 (by rw [h4] <;> rfl) rfl rfl hd (kk rfl rfl)
    · split at hr
      · rename_i hz
        obtain ⟨hq, hn⟩ := hz
        cases hr
        obtain ⟨cell, h1, h2, h3, h4, h5, h6, h7⟩ := (hX.2.1 _ hn).2.2.2
        rw [← hq] at h1
        exact W.alen (n := Int32.ofNat (len.getD ((q - 1000002) / 2) 0)) hx hb h1 h2 h5 rfl rfl hd (kk rfl rfl)
      · cases hr
  · cases hr
theorem am_xgetf_ok {own : String} {idx w : Nat} (hx : p.tables.exec = Jvm.exec) (hb : c.code = cc) (hd : decode cc pc = .ok (.getfield idx, 3)) (hown : s.vm.findClass own = some m.cls) (hX : am_X L xs len byt refs sio A ad s H)
    (hlink : (w = 1 ∧ (Cond.fieldLink own idx "java/lang/String" "value" "[B").before args s = true) ∨ (w = 2 ∧ (Cond.fieldLink own idx "java/lang/String" "coder" "B").before args s = true))
    (hr : am_xgetf len w pc lv st h = some (pc', lv', st', h')) (kk : lv = lv' → h = h' → W p l e R s m args below meth c H locs cells slots Q (F0 m pc' ls (st'.map (am_v ad)))) : W p l e R s m args below meth c H locs cells slots Q (F0 m pc ls (st.map (am_v ad))) := by
  unfold am_xgetf at hr
  split at hr
  · rename_i q r
    split at hr
    · rename_i hz
      obtain ⟨hq, hn⟩ := hz
      obtain ⟨-, ⟨cf, k, fi, f, cell, g1, g2, g3, g4, g5, g6⟩, ⟨cf', k', fi', f', cell', j1, j2, j3, j4, j5, j6⟩, -⟩ := hX.2.1 _ hn
      rw [← hq] at g3 j3
      rcases hlink with ⟨rfl, hl⟩ | ⟨rfl, hl⟩
      · cases hr
        exact W.getf hx hb hown hl j1 j2 j3 j4 (v := .ref (ad (am_kB ((q - 1000001) / 2)))) j5 rfl rfl hd (kk rfl rfl)
      · cases hr
        exact W.getf hx hb hown hl g1 g2 g3 g4 (v := .int 0) g5 rfl rfl hd (kk rfl rfl)
    · cases hr
  · cases hr
theorem am_xgets_ok {own : String} {idx k : Nat} (hx : p.tables.exec = Jvm.exec) (hb : c.code = cc) (hd : decode cc pc = .ok (.getstatic idx, 3)) (hown : s.vm.findClass own = some m.cls) (hX : am_X L xs len byt refs sio A ad s H) (hlink : (k = 0 ∧ (Cond.fieldLink own idx "java/lang/String" "COMPACT_STRINGS" "Z").before args s = true) ∨ (¬ k = 0 ∧ (Cond.fieldLink own idx "jdk/internal/util/Preconditions" "SIOOBE_FORMATTER" "Ljava/util/function/BiFunction;").before args s = true))
    (kk : W p l e R s m args below meth c H locs cells slots Q (F0 m (pc + 3) ls ((am_gs sio k :: st).map (am_v ad)))) : W p l e R s m args below meth c H locs cells slots Q (F0 m pc ls (st.map (am_v ad))) := by
  rcases hlink with ⟨rfl, hlink⟩ | ⟨hk, hlink⟩
  · obtain ⟨cf, kf, fi, f, a, cell, h1, h2, h3, h4, h5, h6, h7, h8⟩ := hX.2.2.2.1.1
    exact W.gets hx hb hown hlink h1 h2 h3 h4 h5 (fun e => by rw [e] at h6; cases h6) h7 rfl hd kk
  · obtain ⟨cf, kf, fi, f, a, cell, h1, h2, h3, h4, h5, h6, h7, h8⟩ := hX.2.2.2.1.2
    cases k with
    | zero => exact absurd rfl hk
    | succ n => exact W.gets hx hb hown hlink h1 h2 h3 h4 h5 (fun e => by rw [e] at h6; cases h6) h7 rfl hd kk
theorem am_xwf {pc pc' : Nat} (hw : am_ok3 lv st h) {f : am_FH} (hf : f = am_xiald L xs ∨ f = am_xbald len byt ∨ f = am_xalen L len ∨ ∃ w, f = am_xgetf len w) (hr : f pc lv st h = some (pc', lv', st', h')) : am_ok3 lv' st' h' ∧ h.length = h'.length := by
  obtain ⟨hL, hS, hH⟩ := hw
  rcases hf with rfl | rfl | rfl | ⟨w, rfl⟩
  · unfold am_xiald at hr
    split at hr
    · split at hr
      · cases hr
        exact ⟨⟨hL, am_okS_c.mpr ⟨trivial, (am_okS_c.mp (am_okS_c.mp hS).2).2⟩, hH⟩, rfl⟩
      · cases hr
    · cases hr
  · unfold am_xbald at hr
    split at hr
    · split at hr
      · cases hr
        exact ⟨⟨hL, am_okS_c.mpr ⟨trivial, (am_okS_c.mp (am_okS_c.mp hS).2).2⟩, hH⟩, rfl⟩
      · cases hr
    · cases hr
  · unfold am_xalen at hr
    split at hr
    · split at hr
      · cases hr
        exact ⟨⟨hL, am_okS_c.mpr ⟨trivial, (am_okS_c.mp hS).2⟩, hH⟩, rfl⟩
      · split at hr
        · cases hr
          exact ⟨⟨hL, am_okS_c.mpr ⟨trivial, (am_okS_c.mp hS).2⟩, hH⟩, rfl⟩
        · cases hr
    · cases hr
  · unfold am_xgetf at hr
    split at hr
    · split at hr
      · split at hr
        · cases hr
          exact ⟨⟨hL, am_okS_c.mpr ⟨Or.inr (am_kB_ge _), (am_okS_c.mp hS).2⟩, hH⟩, rfl⟩
        · cases hr
          exact ⟨⟨hL, am_okS_c.mpr ⟨trivial, (am_okS_c.mp hS).2⟩, hH⟩, rfl⟩
        · cases hr
      · cases hr
    · cases hr
end AMXR
