/-! ===== STEPS over any heap that is a function, by what stands in the cell ===== -/
def up1 (h : Nat → Option am_C) (q : Nat) (x : am_C) : Nat → Option am_C := fun j => if j = q then some x else h j
section GST
variable {w : wX} {D : Nat} {me : am_M} {Q : ag_Re af_T → Prop} {pc nc ns N : Nat} {lv : List (Nat × Value)} {st : List Value} {h : Nat → Option am_C}
theorem G_getf (pc' : Nat) (v : Value) {idx ci j len q : Nat} {fs : List Value} (hi : me.2.2.2.2.2 pc = some (.getfield idx, len, ci, j, 0)) (hc : h q = some (.inr (ci, fs))) (hv : fs[j]? = some v) (hp : pc + 3 = pc') (H : TT w D me (pc', lv, v :: st, (h, N), nc, ns) Q) : TT w D me (pc, lv, .ref q :: st, (h, N), nc, ns) Q := by
  subst hp
  refine Tm_step hi (fun call => ?_) H
  show ag_liftH (ag_getfield af_O _ ci j 0 pc lv (Value.ref q :: st) (h, N)) nc ns = _
  unfold ag_getfield ag_do ad_getf
  dsimp only
  unfold ag_acc
  rw [show af_O.1 (h, N) q = _ from hc]
  dsimp only
  rw [if_pos rfl, hv]
  rfl
theorem G_putf (pc' : Nat) {h' : Nat → Option am_C} {idx ci j len q : Nat} {fs : List Value} {v : Value} (hi : me.2.2.2.2.2 pc = some (.putfield idx, len, ci, j, 0)) (hc : h q = some (.inr (ci, fs))) (hj : j < fs.length) (hf : am_fit (nm_ft ci j) v = true) (hh : up1 h q (.inr (ci, fs.set j v)) = h') (hp : pc + 3 = pc') (H : TT w D me (pc', lv, st, (h', N), nc, ns) Q) : TT w D me (pc, lv, v :: .ref q :: st, (h, N), nc, ns) Q := by
  subst hp hh
  refine Tm_step hi (fun call => ?_) H
  show ag_liftH (ag_do af_O (ad_putf ci j _) 3 pc lv (v :: Value.ref q :: st) (h, N)) nc ns = _
  unfold ag_do ad_putf
  dsimp only
  unfold ag_acc
  rw [show af_O.1 (h, N) q = _ from hc]
  dsimp only
  rw [if_pos ⟨rfl, hj, hf⟩]
  rfl
theorem G_iald (pc' : Nat) {len p p' p'' q n : Nat} {i : Int} {F : Nat → Int32} {x : Int} (hi : me.2.2.2.2.2 pc = some (.iaload, len, p, p', p'')) (hq : q < 1000000) (hc : h q = some (.inl (0, n, .inl F))) (h0 : 0 ≤ i) (h1 : i < n) (hn : n < 1000000) (hx : F i.toNat = i32 x) (hp : pc + 1 = pc') (H : TT w D me (pc', lv, .int (i32 x) :: st, (h, N), nc, ns) Q) : TT w D me (pc, lv, .int (i32 i) :: .ref q :: st, (h, N), nc, ns) Q := by
  subst hp
  refine Tm_step hi (fun call => ?_) H
  show ag_liftH (ag_iaload af_O w.1 pc lv (.int (i32 i) :: .ref q :: st) (h, N)) nc ns = _
  unfold ag_iaload
  dsimp only
  rw [if_pos hq]
  unfold ag_do ad_iald
  dsimp only
  unfold ag_acc
  rw [show af_O.1 (h, N) q = _ from hc]
  dsimp only
  rw [if_pos ⟨rfl, idx_in h0 h1 hn⟩, show (i32 i).toNatClampNeg = i.toNat by have := i32_nat h0 (by omega : i < 2147483648); omega, hx]
  rfl
theorem G_bald (pc' : Nat) {len p p' p'' q n u : Nat} {i : Int} {F : Nat → Int32} {x : Int} (hi : me.2.2.2.2.2 pc = some (.baload, len, p, p', p'')) (hq : q < 1000000) (hc : h q = some (.inl (u, n, .inl F))) (hu : u = 2 ∨ u = 3) (h0 : 0 ≤ i) (h1 : i < n) (hn : n < 1000000) (hx : F i.toNat = i32 x) (hp : pc + 1 = pc') (H : TT w D me (pc', lv, .int (i32 x) :: st, (h, N), nc, ns) Q) : TT w D me (pc, lv, .int (i32 i) :: .ref q :: st, (h, N), nc, ns) Q := by
  subst hp
  refine Tm_step hi (fun call => ?_) H
  show ag_liftH (ag_baload af_O _ pc lv (.int (i32 i) :: .ref q :: st) (h, N)) nc ns = _
  unfold ag_baload
  dsimp only
  rw [if_pos hq]
  unfold ag_do ad_bald
  dsimp only
  unfold ag_acc
  rw [show af_O.1 (h, N) q = _ from hc]
  dsimp only
  rw [if_pos ⟨hu, idx_in h0 h1 hn⟩, show (i32 i).toNatClampNeg = i.toNat by have := i32_nat h0 (by omega : i < 2147483648); omega, hx]
  rfl
theorem G_lald (pc' : Nat) {len p p' p'' q n : Nat} {i : Int} {F : Nat → Int64} {x : Int} (hi : me.2.2.2.2.2 pc = some (.laload, len, p, p', p'')) (hc : h q = some (.inl (1, n, .inr (.inl F)))) (h0 : 0 ≤ i) (h1 : i < n) (hn : n < 1000000) (hx : F i.toNat = i64 x) (hp : pc + 1 = pc') (H : TT w D me (pc', lv, .long (i64 x) :: st, (h, N), nc, ns) Q) : TT w D me (pc, lv, .int (i32 i) :: .ref q :: st, (h, N), nc, ns) Q := by
  subst hp
  refine Tm_step hi (fun call => ?_) H
  show ag_liftH (ag_do af_O ad_lald 1 pc lv (.int (i32 i) :: .ref q :: st) (h, N)) nc ns = _
  unfold ag_do ad_lald
  dsimp only
  unfold ag_acc
  rw [show af_O.1 (h, N) q = _ from hc]
  dsimp only
  rw [if_pos ⟨rfl, idx_in h0 h1 hn⟩, show (i32 i).toNatClampNeg = i.toNat by have := i32_nat h0 (by omega : i < 2147483648); omega, hx]
  rfl
theorem G_aald (pc' : Nat) (v : Value) {len p p' p'' q n u : Nat} {i : Int} {F : Nat → Option Nat} (hi : me.2.2.2.2.2 pc = some (.aaload, len, p, p', p'')) (hc : h q = some (.inl (u, n, .inr (.inr (.inr (.inr F)))))) (hu : u = 4 ∨ u = 5) (h0 : 0 ≤ i) (h1 : i < n) (hn : n < 1000000) (hx : va_rf (F i.toNat) = v) (hp : pc + 1 = pc') (H : TT w D me (pc', lv, v :: st, (h, N), nc, ns) Q) : TT w D me (pc, lv, .int (i32 i) :: .ref q :: st, (h, N), nc, ns) Q := by
  subst hp hx
  refine Tm_step hi (fun call => ?_) H
  show ag_liftH (ag_do af_O ad_aald 1 pc lv (.int (i32 i) :: .ref q :: st) (h, N)) nc ns = _
  unfold ag_do ad_aald
  dsimp only
  unfold ag_acc
  rw [show af_O.1 (h, N) q = _ from hc]
  dsimp only
  rw [if_pos ⟨hu, idx_in h0 h1 hn⟩, show (i32 i).toNatClampNeg = i.toNat by have := i32_nat h0 (by omega : i < 2147483648); omega]
  rfl
theorem G_iast (pc' : Nat) {h' : Nat → Option am_C} {len p p' p'' q n : Nat} {i x : Int} {F : Nat → Int32} (hi : me.2.2.2.2.2 pc = some (.iastore, len, p, p', p'')) (hc : h q = some (.inl (0, n, .inl F))) (h0 : 0 ≤ i) (h1 : i < n) (hn : n < 1000000) (hh : up1 h q (.inl (0, n, .inl (upd F i.toNat (i32 x)))) = h') (hp : pc + 1 = pc') (H : TT w D me (pc', lv, st, (h', N), nc, ns) Q) : TT w D me (pc, lv, .int (i32 x) :: .int (i32 i) :: .ref q :: st, (h, N), nc, ns) Q := by
  subst hp hh
  refine Tm_step hi (fun call => ?_) H
  show ag_liftH (ag_do af_O ad_iast 1 pc lv (.int (i32 x) :: .int (i32 i) :: .ref q :: st) (h, N)) nc ns = _
  unfold ag_do ad_iast
  dsimp only
  unfold ag_acc
  rw [show af_O.1 (h, N) q = _ from hc]
  dsimp only
  rw [if_pos ⟨rfl, idx_in h0 h1 hn⟩, show (i32 i).toNatClampNeg = i.toNat by have := i32_nat h0 (by omega : i < 2147483648); omega]
  rfl
theorem G_bast (pc' : Nat) {h' : Nat → Option am_C} {len p p' p'' q n u : Nat} {i x : Int} {F : Nat → Int32} (hi : me.2.2.2.2.2 pc = some (.bastore, len, p, p', p'')) (hc : h q = some (.inl (u, n, .inl F))) (hu : u = 2 ∨ u = 3) (h0 : 0 ≤ i) (h1 : i < n) (hn : n < 1000000) (hh : up1 h q (.inl (u, n, .inl (upd F i.toNat (vp_nar (am_ty u) (i32 x))))) = h') (hp : pc + 1 = pc') (H : TT w D me (pc', lv, st, (h', N), nc, ns) Q) : TT w D me (pc, lv, .int (i32 x) :: .int (i32 i) :: .ref q :: st, (h, N), nc, ns) Q := by
  subst hp hh
  refine Tm_step hi (fun call => ?_) H
  show ag_liftH (ag_do af_O ad_bast 1 pc lv (.int (i32 x) :: .int (i32 i) :: .ref q :: st) (h, N)) nc ns = _
  unfold ag_do ad_bast
  dsimp only
  unfold ag_acc
  rw [show af_O.1 (h, N) q = _ from hc]
  dsimp only
  rw [if_pos ⟨hu, idx_in h0 h1 hn⟩, show (i32 i).toNatClampNeg = i.toNat by have := i32_nat h0 (by omega : i < 2147483648); omega]
  rfl
theorem G_last (pc' : Nat) {h' : Nat → Option am_C} {len p p' p'' q n : Nat} {i x : Int} {F : Nat → Int64} (hi : me.2.2.2.2.2 pc = some (.lastore, len, p, p', p'')) (hc : h q = some (.inl (1, n, .inr (.inl F)))) (h0 : 0 ≤ i) (h1 : i < n) (hn : n < 1000000) (hh : up1 h q (.inl (1, n, .inr (.inl (vp_updL F i.toNat (i64 x))))) = h') (hp : pc + 1 = pc') (H : TT w D me (pc', lv, st, (h', N), nc, ns) Q) : TT w D me (pc, lv, .long (i64 x) :: .int (i32 i) :: .ref q :: st, (h, N), nc, ns) Q := by
  subst hp hh
  refine Tm_step hi (fun call => ?_) H
  show ag_liftH (ag_do af_O ad_last 1 pc lv (.long (i64 x) :: .int (i32 i) :: .ref q :: st) (h, N)) nc ns = _
  unfold ag_do ad_last
  dsimp only
  unfold ag_acc
  rw [show af_O.1 (h, N) q = _ from hc]
  dsimp only
  rw [if_pos ⟨rfl, idx_in h0 h1 hn⟩, show (i32 i).toNatClampNeg = i.toNat by have := i32_nat h0 (by omega : i < 2147483648); omega]
  rfl
theorem G_astn (pc' : Nat) {h' : Nat → Option am_C} {len p p' p'' q n u : Nat} {i : Int} {F : Nat → Option Nat} (hi : me.2.2.2.2.2 pc = some (.aastore, len, p, p', p'')) (hc : h q = some (.inl (u, n, .inr (.inr (.inr (.inr F)))))) (hu : u = 4 ∨ u = 5) (h0 : 0 ≤ i) (h1 : i < n) (hn : n < 1000000) (hh : up1 h q (.inl (u, n, .inr (.inr (.inr (.inr (va_up F i.toNat none)))))) = h') (hp : pc + 1 = pc') (H : TT w D me (pc', lv, st, (h', N), nc, ns) Q) : TT w D me (pc, lv, .null :: .int (i32 i) :: .ref q :: st, (h, N), nc, ns) Q := by
  subst hp hh
  refine Tm_step hi (fun call => ?_) H
  show ag_liftH (ag_aast af_O 10 4 pc lv (.null :: .int (i32 i) :: .ref q :: st) (h, N)) nc ns = _
  unfold ag_aast
  dsimp only
  unfold ag_do ad_astn
  dsimp only
  unfold ag_acc
  rw [show af_O.1 (h, N) q = _ from hc]
  dsimp only
  rw [if_pos ⟨hu, idx_in h0 h1 hn⟩, show (i32 i).toNatClampNeg = i.toNat by have := i32_nat h0 (by omega : i < 2147483648); omega]
  rfl
theorem G_aast (pc' : Nat) {h' : Nat → Option am_C} {len p p' p'' q x n : Nat} {fs : List Value} {i : Int} {F : Nat → Option Nat} (hi : me.2.2.2.2.2 pc = some (.aastore, len, p, p', p'')) (hx : h x = some (.inr (4, fs))) (hc : h q = some (.inl (5, n, .inr (.inr (.inr (.inr F)))))) (h0 : 0 ≤ i) (h1 : i < n) (hn : n < 1000000) (hh : up1 h q (.inl (5, n, .inr (.inr (.inr (.inr (va_up F i.toNat (some x))))))) = h') (hp : pc + 1 = pc') (H : TT w D me (pc', lv, st, (h', N), nc, ns) Q) : TT w D me (pc, lv, .ref x :: .int (i32 i) :: .ref q :: st, (h, N), nc, ns) Q := by
  subst hp hh
  refine Tm_step hi (fun call => ?_) H
  show ag_liftH (ag_aast af_O 10 4 pc lv (.ref x :: .int (i32 i) :: .ref q :: st) (h, N)) nc ns = _
  unfold ag_aast
  dsimp only
  rw [show af_O.1 (h, N) x = _ from hx]
  dsimp only
  unfold ag_do ad_aast
  dsimp only
  unfold ag_acc
  rw [show af_O.1 (h, N) q = _ from hc]
  dsimp only
  rw [if_pos ⟨Or.inr ⟨rfl, rfl⟩, idx_in h0 h1 hn⟩, show (i32 i).toNatClampNeg = i.toNat by have := i32_nat h0 (by omega : i < 2147483648); omega]
  rfl
end GST
