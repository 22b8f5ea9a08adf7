/-! ===== THE PURE MACHINE, part 16: a step of it is a step of the machine ===== -/
/-- what is known of the tables at a state -/
def am_At (K : am_Ta) (D : va_G) (cA : Nat → ClassId) (s : State) : Prop := (∀ w ∈ K.1, ∀ a : Array Value, w.before a s = true) ∧ va_K D K.2.1 (am_tys cA) s ∧ ∀ x y, x < 3 → y < 3 → x ≠ y → va_Nc (K.2.2.2.1 x) (K.2.2.2.1 y) s
theorem am_At.warm {K : am_Ta} {D : va_G} {cA : Nat → ClassId} {s U : State} (hc : ∀ w ∈ K.1, am_carry w = true) (hW : s.WarmedH U.vm) (h : am_At K D cA s) : am_At K D cA U :=
  ⟨fun w hw a => am_carried (hc w hw) hW (h.1 w hw a), va_K.moved hW.alike h.2.1, fun x y h1 h2 h3 => (h.2.2 x y h1 h2 h3).moved hW.alike⟩
/-- the machine's state is the pure machine's -/
def am_good (E : am_En) (K : am_Ta) (D : va_G) (cA : Nat → ClassId) (A : Nat → Prop) (H0 : Heap) (s : State) (nL : Nat) (ad : Nat → Nat) (ls : Array Slot) (S : am_St) (H : Heap) (locs : List Loc) : Prop :=
  lv_has ls nL (am_L ad S.2.1) ∧ am_ok3 S.2.1 S.2.2.1 S.2.2.2.1 ∧ va_P D K.2.1 (am_W cA ad S.2.2.2.1) H ∧ va_D A (am_W cA ad S.2.2.2.1) ∧ va_S A H0 H locs ∧ am_X E.1.1 E.1.2 E.2.1.1 E.2.1.2 K.2.2.1 E.2.2.2.2.2.2 A ad s H
def am_ex (n : Nat) (ad ad' : Nat → Nat) : Prop := ∀ k, (k < n ∨ 1000000 ≤ k) → ad' k = ad k
theorem am_ex.rf {n : Nat} {ad : Nat → Nat} : am_ex n ad ad := fun _ _ => rfl
theorem am_ex.tr {n k : Nat} {a b c : Nat → Nat} (h1 : am_ex n a b) (hn : n ≤ k) (h2 : am_ex k b c) : am_ex n a c := fun j hj => by
  rw [h2 j (hj.elim (fun z => Or.inl (Nat.lt_of_lt_of_le z hn)) Or.inr)]
  exact h1 j hj
theorem am_ex.ad {n q : Nat} {ad : Nat → Nat} (hn : n < 1000000) : am_ex n ad (am_ad ad n q) := fun k hk => am_ad_ne hn hk
/-- how a method's end is seen: cells lie where they lay, the answer or what is thrown -/
def am_Qc (K : am_Ta) (D : va_G) (cA : Nat → ClassId) (A : Nat → Prop) (H0 : Heap) (s : State) (n0 : Nat) (ad0 : Nat → Nat) (r : am_Re) : Outcome → Heap → Vm → Prop := fun o H1 _ =>
  ∃ ad' : Nat → Nat, am_ex n0 ad0 ad' ∧ n0 ≤ r.2.1.length ∧ am_okH r.2.1.length r.2.1 ∧ va_P D K.2.1 (am_W cA ad' r.2.1) H1 ∧ va_D A (am_W cA ad' r.2.1) ∧ va_S A H0 H1 [] ∧ (match r.1 with
    | .inl v => o = .returned (v.map (am_v ad')) ∧ ∀ w, v = some w → am_okv r.2.1.length w
    | .inr x => x < 3 ∧ ∃ (q : Addr) (cell : Cell), o = .threw q ∧ H1[q]? = some cell ∧ cell.vm = .none ∧ s.vm.findClass (K.2.2.2.1 x) = some cell.cls ∧ A q ∧ ∀ k, k < r.2.1.length → ad' k ≠ q)
def am_room (d nc ns : Nat) : Room := { frames := d, cells := nc, slots := ns, locals := 32 * d + 100 }
theorem am_frame {A : Nat → Prop} {H0 H H1 : Heap} {locs locs1 : List Loc} (hA : ∀ q, H0.size ≤ q → A q) (h : va_S A H0 H locs) (h1 : va_S A H0 H1 locs1) : ∀ a : Nat, a < H.size → ¬ A a → H1[a]? = H[a]? := fun a _ ha => by
  have hlt : a < H0.size := Nat.not_le.mp fun z => ha (hA a z)
  rw [h1.2.1 a hlt ha, h.2.1 a hlt ha]
section AMS
variable {E : am_En} {K : am_Ta} {cn : Nat → Nat} {pg : Nat → am_M} {D : va_G} {cA : Nat → ClassId} {A : Nat → Prop} {H0 : Heap}
variable {p : Program} {l : Launch} {e : Env} {R : Room} {s : State} {m : MethodId} {args : Array Value} {below : List Frame} {meth : Method} {c : Code} {H : Heap} {locs : List Loc} {Q : State → Prop} {me : am_M} {ad : Nat → Nat} {ls : Array Slot}
/-- the goal behind a step -/
abbrev am_go (E : am_En) (K : am_Ta) (D : va_G) (cA : Nat → ClassId) (A : Nat → Prop) (H0 : Heap) (p : Program) (l : Launch) (e : Env) (R : Room) (s : State) (m : MethodId) (args : Array Value) (below : List Frame) (meth : Method) (c : Code) (Q : State → Prop) (nL : Nat) (ad : Nat → Nat) (n0 : Nat) (S' : am_St) : Prop :=
  ∀ (ad' : Nat → Nat) (ls' : Array Slot) (H' : Heap) (locs' : List Loc), am_good E K D cA A H0 s nL ad' ls' S' H' locs' → am_ex n0 ad ad' → n0 ≤ S'.2.2.2.1.length → W p l e R s m args below meth c H' locs' S'.2.2.2.2.1 S'.2.2.2.2.2 Q (F0 m S'.1 ls' (S'.2.2.1.map (am_v ad')))
variable {pc : Nat} {lv : List (Nat × Value)} {st : List Value} {h : List am_C} {nc ns : Nat} {S' : am_St} {i : Instr} {len a b k : Nat}
theorem am_s_pure (hx : p.tables.exec = Jvm.exec) (hb : c.code = me.2.1) (hd : decode me.2.1 pc = .ok (i, len)) (hn : am_len i len = true) (hg : am_good E K D cA A H0 s me.2.2.1 ad ls (pc, lv, st, h, nc, ns) H locs)
    (hr : am_lift (am_pure i len me.2.2.1 pc lv st) h nc ns = some (.inl S')) (kk : am_go E K D cA A H0 p l e R s m args below meth c Q me.2.2.1 ad h.length S') : W p l e R s m args below meth c H locs nc ns Q (F0 m pc ls (st.map (am_v ad))) := by
  obtain ⟨pc', lv', st', hp, he⟩ := am_lift_n hr
  cases he
  obtain ⟨hl, ⟨w1, w2, w3⟩, hP, hD, hS, hX⟩ := hg
  obtain ⟨v1, v2⟩ := am_pure_wf w1 w2 hp
  exact am_pure_ok hx hb hd hn hl hp (fun ls' hl' => kk ad ls' H locs ⟨hl', ⟨v1, v2, w3⟩, hP, hD, hS, hX⟩ am_ex.rf (Nat.le_refl _))
/-- instructions that only read cells -/
theorem am_s_read {f : am_FH} (hg : am_good E K D cA A H0 s me.2.2.1 ad ls (pc, lv, st, h, nc, ns) H locs) (hr : am_liftH (f pc lv st h) nc ns = some (.inl S'))
    (hwf : ∀ {pc' lv' st' h'}, am_ok3 lv st h → f pc lv st h = some (pc', lv', st', h') → am_ok3 lv' st' h' ∧ h.length = h'.length)
    (row : ∀ {pc' lv' st' h'}, f pc lv st h = some (pc', lv', st', h') → (lv = lv' → h = h' → W p l e R s m args below meth c H locs nc ns Q (F0 m pc' ls (st'.map (am_v ad)))) → W p l e R s m args below meth c H locs nc ns Q (F0 m pc ls (st.map (am_v ad))))
    (kk : am_go E K D cA A H0 p l e R s m args below meth c Q me.2.2.1 ad h.length S') : W p l e R s m args below meth c H locs nc ns Q (F0 m pc ls (st.map (am_v ad))) := by
  obtain ⟨pc', lv', st', h', hp, he⟩ := am_liftH_n hr
  cases he
  obtain ⟨hl, hw, hP, hD, hS, hX⟩ := hg
  obtain ⟨v1, v2⟩ := hwf hw hp
  refine row hp (fun e1 e2 => ?_)
  subst e1
  subst e2
  exact kk ad ls H locs ⟨hl, v1, hP, hD, hS, hX⟩ am_ex.rf (Nat.le_refl _)
/-- instructions that write a cell -/
theorem am_s_write {f : am_FH} (hA : ∀ q, H0.size ≤ q → A q) (hg : am_good E K D cA A H0 s me.2.2.1 ad ls (pc, lv, st, h, nc, ns) H locs) (hr : am_liftH (f pc lv st h) nc ns = some (.inl S'))
    (hwf : ∀ {pc' lv' st' h'}, am_ok3 lv st h → f pc lv st h = some (pc', lv', st', h') → am_ok3 lv' st' h' ∧ h.length = h'.length)
    (row : ∀ {pc' lv' st' h'}, f pc lv st h = some (pc', lv', st', h') → (∀ (H1 : Heap) (locs1 : List Loc), lv = lv' → va_P D K.2.1 (am_W cA ad h') H1 → va_D A (am_W cA ad h') → va_S A H0 H1 locs1 → W p l e R s m args below meth c H1 locs1 nc ns Q (F0 m pc' ls (st'.map (am_v ad)))) → W p l e R s m args below meth c H locs nc ns Q (F0 m pc ls (st.map (am_v ad))))
    (kk : am_go E K D cA A H0 p l e R s m args below meth c Q me.2.2.1 ad h.length S') : W p l e R s m args below meth c H locs nc ns Q (F0 m pc ls (st.map (am_v ad))) := by
  obtain ⟨pc', lv', st', h', hp, he⟩ := am_liftH_n hr
  cases he
  obtain ⟨hl, hw, hP, hD, hS, hX⟩ := hg
  obtain ⟨v1, v2⟩ := hwf hw hp
  refine row hp (fun H1 locs1 e1 a1 a2 a3 => ?_)
  subst e1
  exact kk ad ls H1 locs1 ⟨hl, v1, a1, a2, a3, hX.kept (am_frame hA hS a3)⟩ am_ex.rf (by rw [← v2]; exact Nat.le_refl _)
/-- instructions that make a cell -/
theorem am_s_new {f : am_FN} (hso : am_okv 0 E.2.2.2.2.2.2) (hA : ∀ q, H0.size ≤ q → A q) (hg : am_good E K D cA A H0 s me.2.2.1 ad ls (pc, lv, st, h, nc, ns) H locs) (hr : am_liftN (f pc lv st h) nc ns = some (.inl S'))
    (hwf : ∀ {pc' lv' st' h' n}, am_ok3 lv st h → f pc lv st h = some (pc', lv', st', h', n) → am_ok3 lv' st' h' ∧ h'.length = h.length + 1)
    (row : ∀ {pc' lv' st' h' n}, f pc lv st h = some (pc', lv', st', h', n) → S'.2.2.2.2.2 = ns + n → S'.2.2.2.2.1 = nc + 1 → (lv = lv' → h.length < 1000000 → am_Knew p l e R s m args below meth c locs nc ns Q D K.2.1 A H0 cA ad h h' ls pc' st' n) → W p l e R s m args below meth c H locs nc ns Q (F0 m pc ls (st.map (am_v ad))))
    (kk : am_go E K D cA A H0 p l e R s m args below meth c Q me.2.2.1 ad h.length S') : W p l e R s m args below meth c H locs nc ns Q (F0 m pc ls (st.map (am_v ad))) := by
  obtain ⟨pc', lv', st', h', n, hp, he⟩ := am_liftN_n hr
  cases he
  obtain ⟨hl, hw, hP, hD, hS, hX⟩ := hg
  obtain ⟨v1, v2⟩ := hwf hw hp
  refine row hp rfl rfl (fun e1 hn q H1 a1 a2 a3 => ?_)
  subst e1
  have hx : am_ex h.length ad (am_ad ad h.length q) := am_ex.ad hn
  exact kk (am_ad ad h.length q) ls H1 locs ⟨by rw [am_L_ad hn hw.1]; exact hl, v1, a1, a2, a3, (hX.kept (am_frame hA hS a3)).ext hso (fun k hk => hx k (Or.inr hk))⟩ hx (by rw [v2]; exact Nat.le_succ _)
end AMS
