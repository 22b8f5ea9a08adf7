/-! ===== WHAT THE PRINTED WALKS USE ===== -/
abbrev wX : Type := ag_X × Nat × (Nat → Int32) × Value
abbrev TT (w : wX) (D : Nat) (me : am_M) (S : ag_St af_T) (Q : ag_Re af_T → Prop) : Prop := Tm w.1 (nm_E w.2.1 w.2.2.1 w.2.2.2) nm_cn pg D me S Q
abbrev TC (w : wX) (D mi : Nat) (av : List Value) (t : af_T) (Q : ag_Re af_T → Prop) : Prop := Tc w.1 (nm_E w.2.1 w.2.2.1 w.2.2.2) nm_cn pg D mi av t Q
def srt (l : List Nat) : Bool := match l with
  | [] => true
  | x :: r => r.all (fun y => Nat.blt x y) && srt r
theorem srt_ok {α : Type} {l : List (Nat × α)} (h : srt (l.map Prod.fst) = true) : l.Pairwise (fun a b => a.1 < b.1) := by
  induction l with
  | nil => exact List.Pairwise.nil
  | cons q r ih =>
    have h2 : ((r.map Prod.fst).all (fun y => Nat.blt q.1 y) && srt (r.map Prod.fst)) = true := h
    rw [Bool.and_eq_true] at h2
    refine List.pairwise_cons.mpr ⟨fun p hp => ?_, ih h2.2⟩
    have := List.all_eq_true.mp h2.1 p.1 (List.mem_map.mpr ⟨p, hp, rfl⟩)
    rw [Nat.blt_eq] at this
    exact this
theorem olk_pad {α : Type} (f : Nat → α) (ks : List Nat) (j : Nat) : olk (ks.map fun k => (k, f k)) j (f j) = f j := by
  induction ks with
  | nil => rfl
  | cons k r ih =>
    show (if k = j then f k else olk (r.map fun k => (k, f k)) j (f j)) = f j
    split
    · rename_i h
      rw [h]
    · exact ih
theorem mO_pad (m : mR) (ks ls : List Nat) : m = mO m (ks.map fun k => (k, m.1 k)) (ls.map fun k => (k, m.2 k)) := by
  unfold mO
  refine Prod.ext ?_ ?_
  · funext j
    exact (olk_pad m.1 ks j).symm
  · funext j
    exact (olk_pad m.2 ls j).symm
def rgF (lo hi : Nat → Int) (l : List (Nat × Int)) : Prop := match l with
  | [] => True
  | q :: r => (lo q.1 ≤ q.2 ∧ q.2 ≤ hi q.1) ∧ rgF lo hi r
def rgA (lo hi : Nat → Int) (l : List (Nat × (Int → Int))) : Prop := match l with
  | [] => True
  | q :: r => (∀ i, lo q.1 ≤ q.2 i ∧ q.2 i ≤ hi q.1) ∧ rgA lo hi r
theorem rgF_ok {lo hi : Nat → Int} {l : List (Nat × Int)} (h : rgF lo hi l) {f : Nat → Int} (hf : ∀ k, lo k ≤ f k ∧ f k ≤ hi k) (k : Nat) : lo k ≤ olk l k (f k) ∧ olk l k (f k) ≤ hi k := by
  induction l with
  | nil => exact hf k
  | cons q r ih =>
    show lo k ≤ (if q.1 = k then q.2 else olk r k (f k)) ∧ (if q.1 = k then q.2 else olk r k (f k)) ≤ hi k
    split
    · rename_i e
      rw [← e]
      exact h.1
    · exact ih h.2
theorem rgA_ok {lo hi : Nat → Int} {l : List (Nat × (Int → Int))} (h : rgA lo hi l) {f : Nat → Int → Int} (hf : ∀ k i, lo k ≤ f k i ∧ f k i ≤ hi k) (k : Nat) (i : Int) : lo k ≤ olk l k (f k) i ∧ olk l k (f k) i ≤ hi k := by
  induction l with
  | nil => exact hf k i
  | cons q r ih =>
    show lo k ≤ (if q.1 = k then q.2 else olk r k (f k)) i ∧ (if q.1 = k then q.2 else olk r k (f k)) i ≤ hi k
    split
    · rename_i e
      rw [← e]
      exact h.1 i
    · exact ih h.2
theorem upI_rg {lo hi : Int} {f : Int → Int} {i x : Int} (hf : ∀ j, lo ≤ f j ∧ f j ≤ hi) (hx : lo ≤ x ∧ x ≤ hi) : ∀ j, lo ≤ upI f i x j ∧ upI f i x j ≤ hi := fun j => by
  unfold upI
  split
  · exact hx
  · exact hf j
theorem upI_s {f : Int → Int} {i x : Int} : upI f i x i = x := if_pos rfl
theorem upI_n {f : Int → Int} {i j x : Int} (h : j ≠ i) : upI f i x j = f j := if_neg h
section MS4
variable {w : wX} {D : Nat} {me : am_M} {Q : ag_Re af_T → Prop} {pc nc ns N : Nat} {lv : List (Nat × Value)} {st : List Value} {t : af_T} {m : mR} {c : Nat → Option am_C} {l : List (Nat × Int)} {a : List (Nat × (Int → Int))} {i : am_I}
theorem T_ld (pc' : Nat) (v : Value) (hi : me.2.2.2.2.2 pc = some i) (hs : ∀ call, ag_step af_O 8192 w.1 (nm_E w.2.1 w.2.2.1 w.2.2.2) nm_cn (D + 1) call me i (pc, lv, st, t, nc, ns) = some (.inl (pc', lv, v :: st, t, nc, ns))) (h : TT w D me (pc', lv, v :: st, t, nc, ns) Q) : TT w D me (pc, lv, st, t, nc, ns) Q := Tm_step hi hs h
theorem T_sto (pc' : Nat) (lv' : List (Nat × Value)) {v : Value} (hi : me.2.2.2.2.2 pc = some i) (hs : ∀ call, ag_step af_O 8192 w.1 (nm_E w.2.1 w.2.2.1 w.2.2.2) nm_cn (D + 1) call me i (pc, lv, v :: st, t, nc, ns) = some (.inl (pc', lv', st, t, nc, ns))) (h : TT w D me (pc', lv', st, t, nc, ns) Q) : TT w D me (pc, lv, v :: st, t, nc, ns) Q := Tm_step hi hs h
theorem T_goto (pc' : Nat) (hi : me.2.2.2.2.2 pc = some i) (hs : ∀ call, ag_step af_O 8192 w.1 (nm_E w.2.1 w.2.2.1 w.2.2.2) nm_cn (D + 1) call me i (pc, lv, st, t, nc, ns) = some (.inl (pc', lv, st, t, nc, ns))) (h : TT w D me (pc', lv, st, t, nc, ns) Q) : TT w D me (pc, lv, st, t, nc, ns) Q := Tm_step hi hs h
theorem T_iinc (pc' : Nat) (lv' : List (Nat × Value)) {j len p q r : Nat} {n x : Int} (hi : me.2.2.2.2.2 pc = some (.iinc j n, len, p, q, r)) (hg : am_get lv j = some (.int (i32 x))) (hj : j < me.2.2.1) (hp : pc + 3 = pc') (hl : am_st1 j (.int (i32 (x + n))) lv = lv') (h : TT w D me (pc', lv', st, t, nc, ns) Q) : TT w D me (pc, lv, st, t, nc, ns) Q := by
  subst hp hl
  refine Tm_step hi (fun call => ?_) h
  show ag_lift (am_iinc j n me.2.2.1 pc lv st) t nc ns = _
  unfold am_iinc
  rw [hg]
  dsimp only
  rw [if_pos hj, show i32 x + Int32.ofInt n = i32 (x + n) from i32_add x n]
  rfl
/-- aload_0, getfield -/
theorem T_gf (pc' : Nat) (v : Value) {idx k k1 k2 k3 k4 : Nat} (hi0 : me.2.2.2.2.2 pc = some (.aload_n 0, 1, k1, k2, k3)) (hg : am_get lv 0 = some (.ref 189)) (hi : me.2.2.2.2.2 (pc + 1) = some (.getfield idx, k4, 12, k, 0)) (hk : decide (k < 179) = true) (hv : mfv (mO m l a) k = v) (hp : pc + 1 + 3 = pc') (h : TT w D me (pc', lv, v :: st, (mhp (mO m l a) c, N), nc, ns) Q) : TT w D me (pc, lv, st, (mhp (mO m l a) c, N), nc, ns) Q := by
  subst hp
  refine Tm_step (S' := (pc + 1, lv, .ref 189 :: st, (mhp (mO m l a) c, N), nc, ns)) hi0 (fun call => ?_) (Tm_getf (r := 0) hi (of_decide_eq_true hk) hv h)
  show ag_lift (am_aload 0 1 me.2.2.1 pc lv st) _ nc ns = _
  unfold am_aload
  rw [hg]
  rfl
theorem T_pf (pc' : Nat) {l' : List (Nat × Int)} (x : Int) {idx k len : Nat} {v : Value} (hi : me.2.2.2.2.2 pc = some (.putfield idx, len, 12, k, 0)) (hk : decide (k < 179) = true) (hf : am_fit (nm_ft 12 k) v = true) (hv : mfv (mO (mO m l a) [(k, x)] []) k = v) (hl : ins k x l = l') (hp : pc + 3 = pc') (h : TT w D me (pc', lv, st, (mhp (mO m l' a) c, N), nc, ns) Q) : TT w D me (pc, lv, v :: .ref 189 :: st, (mhp (mO m l a) c, N), nc, ns) Q := by
  subst hp
  exact Tm_putf hi (of_decide_eq_true hk) hf hv hl h
theorem fit01 {x : Int} (h : x = 0 ∨ x = 1) : am_fit .boolean (.int (i32 x)) = true := by
  rcases h with rfl | rfl <;> rfl
theorem T_ret {v : Option Value} {S : ag_St af_T} (hi : me.2.2.2.2.2 S.1 = some i) (hs : ∀ call, ag_step af_O 8192 w.1 (nm_E w.2.1 w.2.2.1 w.2.2.2) nm_cn (D + 1) call me i S = some (.inr (.inl v, S.2.2.2.1, S.2.2.2.2))) (h : Q (.inl v, S.2.2.2.1, S.2.2.2.2)) : TT w D me S Q := Tm_end hi hs h
theorem T_call (pc' mi : Nat) (av rest : List Value) {Qc : ag_Re af_T → Prop} (hi : me.2.2.2.2.2 pc = some i) (hs : ∀ call, ag_step af_O 8192 w.1 (nm_E w.2.1 w.2.2.1 w.2.2.2) nm_cn (D + 1) call me i (pc, lv, st, t, nc, ns) = ag_back af_O 8192 (nm_E w.2.1 w.2.2.1 w.2.2.2) me.2.2.2.2.1 pc lv rest nc ns (call mi av t)) (hp : pc + 3 = pc')
    (hc : TC w D mi av t Qc) (h : ∀ r, Qc r → ∃ v t', r = (.inl v, t', 0, 0) ∧ TT w D me (pc', lv, v.toList ++ rest, t', nc, ns) Q) : TT w D me (pc, lv, st, t, nc, ns) Q := by
  subst hp
  refine Tm_call hi hs hc (fun r hr => ?_)
  obtain ⟨v, t', e, h2⟩ := h r hr
  exact ⟨v, t', 0, 0, e, h2⟩
theorem T_nf {l' l2 : List (Nat × Int)} {a' a2 : List (Nat × (Int → Int))} {st' : List Value} (hs : st = st') (hl : mrg l l2 = l') (ha : mrg a a2 = a') (s1 : srt (l2.map Prod.fst) = true) (s2 : srt (a2.map Prod.fst) = true) (h : TT w D me (pc, lv, st', (mhp (mO m l' a') c, N), nc, ns) Q) : TT w D me (pc, lv, st, (mhp (mO (mO m l a) l2 a2) c, N), nc, ns) Q := by
  subst hs hl ha
  rw [mO_mO _ _ _ _ _ (srt_ok s1) (srt_ok s2)]
  exact h
end MS4
