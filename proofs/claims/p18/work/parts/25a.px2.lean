section PGS
variable {bb : Nat} {w : wX} {D : Nat} {me : am_M} {Q : ag_Re af_T → Prop} {pc nc ns N : Nat} {lv : List (Nat × Value)} {st : List Value} {t : af_T} {h : Nat → Option am_C} {c : Nat → Option am_C} {m : mR} {l : List (Nat × Int)} {a : List (Nat × (Int → Int))} {i9 : am_I} {α β : Type} {F9 : β → ag_Re af_T → Prop}
theorem PG_getf (pc' : Nat) (v : Value) {idx ci j len q : Nat} {fs : List Value} (hi : me.2.2.2.2.2 pc = some (.getfield idx, len, ci, j, 0)) (hc : h q = some (.inr (ci, fs))) (hv : fs[j]? = some v) (hp : pc + 3 = pc') (H : PP bb w D me (pc', lv, v :: st, (h, N), nc, ns) Q) : PP bb w D me (pc, lv, .ref q :: st, (h, N), nc, ns) Q := by
  subst hp
  refine Pm_step hi (fun call => ?_) H
  show ag_liftH (ag_getfield af_O _ ci j 0 pc lv (Value.ref q :: st) (h, N)) nc ns = _
  unfold ag_getfield ag_do ad_getf
  dsimp only
  unfold ag_acc
  rw [show af_O.1 (h, N) q = _ from hc]
  dsimp only
  rw [if_pos rfl, hv]
  rfl
theorem PG_putf (pc' : Nat) {h' : Nat → Option am_C} {idx ci j len q : Nat} {fs : List Value} {v : Value} (hi : me.2.2.2.2.2 pc = some (.putfield idx, len, ci, j, 0)) (hc : h q = some (.inr (ci, fs))) (hj : j < fs.length) (hf : am_fit (nm_ft ci j) v = true) (hh : up1 h q (.inr (ci, fs.set j v)) = h') (hp : pc + 3 = pc') (H : PP bb w D me (pc', lv, st, (h', N), nc, ns) Q) : PP bb w D me (pc, lv, v :: .ref q :: st, (h, N), nc, ns) Q := by
  subst hp hh
  refine Pm_step hi (fun call => ?_) H
  show ag_liftH (ag_do af_O (ad_putf ci j _) 3 pc lv (v :: Value.ref q :: st) (h, N)) nc ns = _
  unfold ag_do ad_putf
  dsimp only
  unfold ag_acc
  rw [show af_O.1 (h, N) q = _ from hc]
  dsimp only
  rw [if_pos ⟨rfl, hj, hf⟩]
  rfl
theorem PG_iald (pc' : Nat) {len p p' p'' q n : Nat} {i : Int} {F : Nat → Int32} {x : Int} (hi : me.2.2.2.2.2 pc = some (.iaload, len, p, p', p'')) (hq : q < 1000000) (hc : h q = some (.inl (0, n, .inl F))) (h0 : 0 ≤ i) (h1 : i < n) (hn : n < 1000000) (hx : F i.toNat = i32 x) (hp : pc + 1 = pc') (H : PP bb w D me (pc', lv, .int (i32 x) :: st, (h, N), nc, ns) Q) : PP bb w D me (pc, lv, .int (i32 i) :: .ref q :: st, (h, N), nc, ns) Q := by
  subst hp
  refine Pm_step hi (fun call => ?_) H
  show ag_liftH (ag_iaload af_O w.1 pc lv (.int (i32 i) :: .ref q :: st) (h, N)) nc ns = _
  unfold ag_iaload
  dsimp only
  rw [if_pos hq]
  unfold ag_do ad_iald
  dsimp only
  unfold ag_acc
  rw [show af_O.1 (h, N) q = _ from hc]
  dsimp only
  rw [if_pos ⟨rfl, idx_in h0 h1 hn⟩, show (i32 i).toNatClampNeg = i.toNat by have := i32_nat h0 (by omega : i < 2147483648); omega, hx]
  rfl
theorem PG_bald (pc' : Nat) {len p p' p'' q n u : Nat} {i : Int} {F : Nat → Int32} {x : Int} (hi : me.2.2.2.2.2 pc = some (.baload, len, p, p', p'')) (hq : q < 1000000) (hc : h q = some (.inl (u, n, .inl F))) (hu : u = 2 ∨ u = 3) (h0 : 0 ≤ i) (h1 : i < n) (hn : n < 1000000) (hx : F i.toNat = i32 x) (hp : pc + 1 = pc') (H : PP bb w D me (pc', lv, .int (i32 x) :: st, (h, N), nc, ns) Q) : PP bb w D me (pc, lv, .int (i32 i) :: .ref q :: st, (h, N), nc, ns) Q := by
  subst hp
  refine Pm_step hi (fun call => ?_) H
  show ag_liftH (ag_baload af_O _ pc lv (.int (i32 i) :: .ref q :: st) (h, N)) nc ns = _
  unfold ag_baload
  dsimp only
  rw [if_pos hq]
  unfold ag_do ad_bald
  dsimp only
  unfold ag_acc
  rw [show af_O.1 (h, N) q = _ from hc]
  dsimp only
  rw [if_pos ⟨hu, idx_in h0 h1 hn⟩, show (i32 i).toNatClampNeg = i.toNat by have := i32_nat h0 (by omega : i < 2147483648); omega, hx]
  rfl
theorem PG_lald (pc' : Nat) {len p p' p'' q n : Nat} {i : Int} {F : Nat → Int64} {x : Int} (hi : me.2.2.2.2.2 pc = some (.laload, len, p, p', p'')) (hc : h q = some (.inl (1, n, .inr (.inl F)))) (h0 : 0 ≤ i) (h1 : i < n) (hn : n < 1000000) (hx : F i.toNat = i64 x) (hp : pc + 1 = pc') (H : PP bb w D me (pc', lv, .long (i64 x) :: st, (h, N), nc, ns) Q) : PP bb w D me (pc, lv, .int (i32 i) :: .ref q :: st, (h, N), nc, ns) Q := by
  subst hp
  refine Pm_step hi (fun call => ?_) H
  show ag_liftH (ag_do af_O ad_lald 1 pc lv (.int (i32 i) :: .ref q :: st) (h, N)) nc ns = _
  unfold ag_do ad_lald
  dsimp only
  unfold ag_acc
  rw [show af_O.1 (h, N) q = _ from hc]
  dsimp only
  rw [if_pos ⟨rfl, idx_in h0 h1 hn⟩, show (i32 i).toNatClampNeg = i.toNat by have := i32_nat h0 (by omega : i < 2147483648); omega, hx]
  rfl
theorem PG_aald (pc' : Nat) (v : Value) {len p p' p'' q n u : Nat} {i : Int} {F : Nat → Option Nat} (hi : me.2.2.2.2.2 pc = some (.aaload, len, p, p', p'')) (hc : h q = some (.inl (u, n, .inr (.inr (.inr (.inr F)))))) (hu : u = 4 ∨ u = 5) (h0 : 0 ≤ i) (h1 : i < n) (hn : n < 1000000) (hx : va_rf (F i.toNat) = v) (hp : pc + 1 = pc') (H : PP bb w D me (pc', lv, v :: st, (h, N), nc, ns) Q) : PP bb w D me (pc, lv, .int (i32 i) :: .ref q :: st, (h, N), nc, ns) Q := by
  subst hp hx
  refine Pm_step hi (fun call => ?_) H
  show ag_liftH (ag_do af_O ad_aald 1 pc lv (.int (i32 i) :: .ref q :: st) (h, N)) nc ns = _
  unfold ag_do ad_aald
  dsimp only
  unfold ag_acc
  rw [show af_O.1 (h, N) q = _ from hc]
  dsimp only
  rw [if_pos ⟨hu, idx_in h0 h1 hn⟩, show (i32 i).toNatClampNeg = i.toNat by have := i32_nat h0 (by omega : i < 2147483648); omega]
  rfl
theorem PG_iast (pc' : Nat) {h' : Nat → Option am_C} {len p p' p'' q n : Nat} {i x : Int} {F : Nat → Int32} (hi : me.2.2.2.2.2 pc = some (.iastore, len, p, p', p'')) (hc : h q = some (.inl (0, n, .inl F))) (h0 : 0 ≤ i) (h1 : i < n) (hn : n < 1000000) (hh : up1 h q (.inl (0, n, .inl (upd F i.toNat (i32 x)))) = h') (hp : pc + 1 = pc') (H : PP bb w D me (pc', lv, st, (h', N), nc, ns) Q) : PP bb w D me (pc, lv, .int (i32 x) :: .int (i32 i) :: .ref q :: st, (h, N), nc, ns) Q := by
  subst hp hh
  refine Pm_step hi (fun call => ?_) H
  show ag_liftH (ag_do af_O ad_iast 1 pc lv (.int (i32 x) :: .int (i32 i) :: .ref q :: st) (h, N)) nc ns = _
  unfold ag_do ad_iast
  dsimp only
  unfold ag_acc
  rw [show af_O.1 (h, N) q = _ from hc]
  dsimp only
  rw [if_pos ⟨rfl, idx_in h0 h1 hn⟩, show (i32 i).toNatClampNeg = i.toNat by have := i32_nat h0 (by omega : i < 2147483648); omega]
  rfl
theorem PG_bast (pc' : Nat) {h' : Nat → Option am_C} {len p p' p'' q n u : Nat} {i x : Int} {F : Nat → Int32} (hi : me.2.2.2.2.2 pc = some (.bastore, len, p, p', p'')) (hc : h q = some (.inl (u, n, .inl F))) (hu : u = 2 ∨ u = 3) (h0 : 0 ≤ i) (h1 : i < n) (hn : n < 1000000) (hh : up1 h q (.inl (u, n, .inl (upd F i.toNat (vp_nar (am_ty u) (i32 x))))) = h') (hp : pc + 1 = pc') (H : PP bb w D me (pc', lv, st, (h', N), nc, ns) Q) : PP bb w D me (pc, lv, .int (i32 x) :: .int (i32 i) :: .ref q :: st, (h, N), nc, ns) Q := by
  subst hp hh
  refine Pm_step hi (fun call => ?_) H
  show ag_liftH (ag_do af_O ad_bast 1 pc lv (.int (i32 x) :: .int (i32 i) :: .ref q :: st) (h, N)) nc ns = _
  unfold ag_do ad_bast
  dsimp only
  unfold ag_acc
  rw [show af_O.1 (h, N) q = _ from hc]
  dsimp only
  rw [if_pos ⟨hu, idx_in h0 h1 hn⟩, show (i32 i).toNatClampNeg = i.toNat by have := i32_nat h0 (by omega : i < 2147483648); omega]
  rfl
theorem PG_last (pc' : Nat) {h' : Nat → Option am_C} {len p p' p'' q n : Nat} {i x : Int} {F : Nat → Int64} (hi : me.2.2.2.2.2 pc = some (.lastore, len, p, p', p'')) (hc : h q = some (.inl (1, n, .inr (.inl F)))) (h0 : 0 ≤ i) (h1 : i < n) (hn : n < 1000000) (hh : up1 h q (.inl (1, n, .inr (.inl (vp_updL F i.toNat (i64 x))))) = h') (hp : pc + 1 = pc') (H : PP bb w D me (pc', lv, st, (h', N), nc, ns) Q) : PP bb w D me (pc, lv, .long (i64 x) :: .int (i32 i) :: .ref q :: st, (h, N), nc, ns) Q := by
  subst hp hh
  refine Pm_step hi (fun call => ?_) H
  show ag_liftH (ag_do af_O ad_last 1 pc lv (.long (i64 x) :: .int (i32 i) :: .ref q :: st) (h, N)) nc ns = _
  unfold ag_do ad_last
  dsimp only
  unfold ag_acc
  rw [show af_O.1 (h, N) q = _ from hc]
  dsimp only
  rw [if_pos ⟨rfl, idx_in h0 h1 hn⟩, show (i32 i).toNatClampNeg = i.toNat by have := i32_nat h0 (by omega : i < 2147483648); omega]
  rfl
theorem PG_astn (pc' : Nat) {h' : Nat → Option am_C} {len p p' p'' q n u : Nat} {i : Int} {F : Nat → Option Nat} (hi : me.2.2.2.2.2 pc = some (.aastore, len, p, p', p'')) (hc : h q = some (.inl (u, n, .inr (.inr (.inr (.inr F)))))) (hu : u = 4 ∨ u = 5) (h0 : 0 ≤ i) (h1 : i < n) (hn : n < 1000000) (hh : up1 h q (.inl (u, n, .inr (.inr (.inr (.inr (va_up F i.toNat none)))))) = h') (hp : pc + 1 = pc') (H : PP bb w D me (pc', lv, st, (h', N), nc, ns) Q) : PP bb w D me (pc, lv, .null :: .int (i32 i) :: .ref q :: st, (h, N), nc, ns) Q := by
  subst hp hh
  refine Pm_step hi (fun call => ?_) H
  show ag_liftH (ag_aast af_O 10 4 pc lv (.null :: .int (i32 i) :: .ref q :: st) (h, N)) nc ns = _
  unfold ag_aast
  dsimp only
  unfold ag_do ad_astn
  dsimp only
  unfold ag_acc
  rw [show af_O.1 (h, N) q = _ from hc]
  dsimp only
  rw [if_pos ⟨hu, idx_in h0 h1 hn⟩, show (i32 i).toNatClampNeg = i.toNat by have := i32_nat h0 (by omega : i < 2147483648); omega]
  rfl
theorem PG_ialdN {len p p' p'' q n : Nat} {i : Int} {F : Nat → Int32} (hi : me.2.2.2.2.2 pc = some (.iaload, len, p, p', p'')) (hq : q < 1000000) (hc : h q = some (.inl (0, n, .inl F))) (hr : R32 i) (hb : ¬ (0 ≤ i ∧ i < n)) : PP bb w D me (pc, lv, .int (i32 i) :: .ref q :: st, (h, N), nc, ns) Q := by
  refine Pm_no hi (fun call => ?_)
  show ag_liftH (ag_iaload af_O w.1 pc lv (.int (i32 i) :: .ref q :: st) (h, N)) nc ns = none
  unfold ag_iaload
  dsimp only
  rw [if_pos hq]
  unfold ag_do ad_iald
  dsimp only
  unfold ag_acc
  rw [show af_O.1 (h, N) q = _ from hc]
  dsimp only
  rw [if_neg (fun e => e.2 (idx_out hr hb))]
  rfl
theorem PG_baldN {len p p' p'' q n u : Nat} {i : Int} {F : Nat → Int32} (hi : me.2.2.2.2.2 pc = some (.baload, len, p, p', p'')) (hq : q < 1000000) (hc : h q = some (.inl (u, n, .inl F))) (hr : R32 i) (hb : ¬ (0 ≤ i ∧ i < n)) : PP bb w D me (pc, lv, .int (i32 i) :: .ref q :: st, (h, N), nc, ns) Q := by
  refine Pm_no hi (fun call => ?_)
  show ag_liftH (ag_baload af_O (nm_E w.2.1 w.2.2.1 w.2.2.2) pc lv (.int (i32 i) :: .ref q :: st) (h, N)) nc ns = none
  unfold ag_baload
  dsimp only
  rw [if_pos hq]
  unfold ag_do ad_bald
  dsimp only
  unfold ag_acc
  rw [show af_O.1 (h, N) q = _ from hc]
  dsimp only
  rw [if_neg (fun e => e.2 (idx_out hr hb))]
  rfl
theorem PG_laldN {len p p' p'' q n : Nat} {i : Int} {F : Nat → Int64} (hi : me.2.2.2.2.2 pc = some (.laload, len, p, p', p'')) (hc : h q = some (.inl (1, n, .inr (.inl F)))) (hr : R32 i) (hb : ¬ (0 ≤ i ∧ i < n)) : PP bb w D me (pc, lv, .int (i32 i) :: .ref q :: st, (h, N), nc, ns) Q := by
  refine Pm_no hi (fun call => ?_)
  show ag_liftH (ag_do af_O ad_lald 1 pc lv (.int (i32 i) :: .ref q :: st) (h, N)) nc ns = none
  unfold ag_do ad_lald
  dsimp only
  unfold ag_acc
  rw [show af_O.1 (h, N) q = _ from hc]
  dsimp only
  rw [if_neg (fun e => e.2 (idx_out hr hb))]
  rfl
theorem PG_aaldN {len p p' p'' q n u : Nat} {i : Int} {F : Nat → Option Nat} (hi : me.2.2.2.2.2 pc = some (.aaload, len, p, p', p'')) (hc : h q = some (.inl (u, n, .inr (.inr (.inr (.inr F)))))) (hr : R32 i) (hb : ¬ (0 ≤ i ∧ i < n)) : PP bb w D me (pc, lv, .int (i32 i) :: .ref q :: st, (h, N), nc, ns) Q := by
  refine Pm_no hi (fun call => ?_)
  show ag_liftH (ag_do af_O ad_aald 1 pc lv (.int (i32 i) :: .ref q :: st) (h, N)) nc ns = none
  unfold ag_do ad_aald
  dsimp only
  unfold ag_acc
  rw [show af_O.1 (h, N) q = _ from hc]
  dsimp only
  rw [if_neg (fun e => e.2 (idx_out hr hb))]
  rfl
theorem PG_iastN {len p p' p'' q n : Nat} {i x : Int} {F : Nat → Int32} (hi : me.2.2.2.2.2 pc = some (.iastore, len, p, p', p'')) (hc : h q = some (.inl (0, n, .inl F))) (hr : R32 i) (hb : ¬ (0 ≤ i ∧ i < n)) : PP bb w D me (pc, lv, .int (i32 x) :: .int (i32 i) :: .ref q :: st, (h, N), nc, ns) Q := by
  refine Pm_no hi (fun call => ?_)
  show ag_liftH (ag_do af_O ad_iast 1 pc lv (.int (i32 x) :: .int (i32 i) :: .ref q :: st) (h, N)) nc ns = none
  unfold ag_do ad_iast
  dsimp only
  unfold ag_acc
  rw [show af_O.1 (h, N) q = _ from hc]
  dsimp only
  rw [if_neg (fun e => e.2 (idx_out hr hb))]
  rfl
theorem PG_bastN {len p p' p'' q n u : Nat} {i x : Int} {F : Nat → Int32} (hi : me.2.2.2.2.2 pc = some (.bastore, len, p, p', p'')) (hc : h q = some (.inl (u, n, .inl F))) (hr : R32 i) (hb : ¬ (0 ≤ i ∧ i < n)) : PP bb w D me (pc, lv, .int (i32 x) :: .int (i32 i) :: .ref q :: st, (h, N), nc, ns) Q := by
  refine Pm_no hi (fun call => ?_)
  show ag_liftH (ag_do af_O ad_bast 1 pc lv (.int (i32 x) :: .int (i32 i) :: .ref q :: st) (h, N)) nc ns = none
  unfold ag_do ad_bast
  dsimp only
  unfold ag_acc
  rw [show af_O.1 (h, N) q = _ from hc]
  dsimp only
  rw [if_neg (fun e => e.2 (idx_out hr hb))]
  rfl
theorem PG_lastN {len p p' p'' q n : Nat} {i x : Int} {F : Nat → Int64} (hi : me.2.2.2.2.2 pc = some (.lastore, len, p, p', p'')) (hc : h q = some (.inl (1, n, .inr (.inl F)))) (hr : R32 i) (hb : ¬ (0 ≤ i ∧ i < n)) : PP bb w D me (pc, lv, .long (i64 x) :: .int (i32 i) :: .ref q :: st, (h, N), nc, ns) Q := by
  refine Pm_no hi (fun call => ?_)
  show ag_liftH (ag_do af_O ad_last 1 pc lv (.long (i64 x) :: .int (i32 i) :: .ref q :: st) (h, N)) nc ns = none
  unfold ag_do ad_last
  dsimp only
  unfold ag_acc
  rw [show af_O.1 (h, N) q = _ from hc]
  dsimp only
  rw [if_neg (fun e => e.2 (idx_out hr hb))]
  rfl
theorem PG_astnN {len p p' p'' q n u : Nat} {i : Int} {F : Nat → Option Nat} (hi : me.2.2.2.2.2 pc = some (.aastore, len, p, p', p'')) (hc : h q = some (.inl (u, n, .inr (.inr (.inr (.inr F)))))) (hr : R32 i) (hb : ¬ (0 ≤ i ∧ i < n)) : PP bb w D me (pc, lv, .null :: .int (i32 i) :: .ref q :: st, (h, N), nc, ns) Q := by
  refine Pm_no hi (fun call => ?_)
  show ag_liftH (ag_aast af_O 10 4 pc lv (.null :: .int (i32 i) :: .ref q :: st) (h, N)) nc ns = none
  unfold ag_aast
  dsimp only
  unfold ag_do ad_astn
  dsimp only
  unfold ag_acc
  rw [show af_O.1 (h, N) q = _ from hc]
  dsimp only
  rw [if_neg (fun e => e.2 (idx_out hr hb))]
  rfl
theorem PG_putN {idx ci j len q : Nat} {fs : List Value} {x : Int} (hi : me.2.2.2.2.2 pc = some (.putfield idx, len, ci, j, 0)) (hc : h q = some (.inr (ci, fs))) (hf : nm_ft ci j = .boolean) (hx : R32 x) (h01 : ¬ (x = 0 ∨ x = 1)) : PP bb w D me (pc, lv, .int (i32 x) :: .ref q :: st, (h, N), nc, ns) Q := by
  refine Pm_no hi (fun call => ?_)
  show ag_liftH (ag_do af_O (ad_putf ci j (nm_ft ci j)) 3 pc lv (.int (i32 x) :: .ref q :: st) (h, N)) nc ns = none
  unfold ag_do ad_putf
  dsimp only
  unfold ag_acc
  rw [show af_O.1 (h, N) q = _ from hc]
  dsimp only
  rw [if_neg (fun e => ?_)]
  · rfl
  · have e2 := e.2.2
    rw [hf] at e2
    have e3 : (decide (i32 x = 0) || decide (i32 x = 1)) = true := e2
    rw [Bool.or_eq_true, decide_eq_true_eq, decide_eq_true_eq, i32_0, show (1 : Int32) = i32 1 from rfl, i32_eq hx R32_0, i32_eq hx ⟨by decide, by decide⟩] at e3
    exact h01 e3
end PGS
def nar2 (x : Int) : Int := (vp_nar (am_ty 2) (i32 x)).toInt
def Rt (e : Int) : Prop := 0 ≤ e ∧ e < 8
def Rn (e : Int) : Prop := -1 ≤ e ∧ e < 8
def tbv (e : Int) : Value := if e < 0 then .null else .ref (tbr e)
theorem rn_1 : Rn (-1) := ⟨by decide, by decide⟩
theorem tbv_t {e : Int} (h : Rt e) : tbv e = .ref (tbr e) := if_neg (by have := h.1; omega)
theorem tbv_n {e : Int} (h : e < 0) : tbv e = .null := if_pos h
theorem Rn_t {e : Int} (h : Rt e) : Rn e := ⟨by have := h.1; omega, h.2⟩
theorem Rt_n {e : Int} (h : Rn e) (g : ¬ e < 0) : Rt e := ⟨by omega, h.2⟩
section PKS
variable {bb : Nat} {w : wX} {D : Nat} {me : am_M} {Q : ag_Re af_T → Prop} {pc nc ns N : Nat} {lv : List (Nat × Value)} {st : List Value} {t : af_T} {h : Nat → Option am_C} {c : Nat → Option am_C} {m : mR} {l : List (Nat × Int)} {a : List (Nat × (Int → Int))} {i9 : am_I} {α β : Type} {F9 : β → ag_Re af_T → Prop}
theorem PK_gf (pc' : Nat) (v : Value) {idx ci j len q x : Nat} {xs : List Nat} (hi : me.2.2.2.2.2 pc = some (.getfield idx, len, ci, j, 0)) (hq : kfo q = true) (hd : kdt q = (0, ci, xs)) (hx : xs[j]? = some x) (hv : kval (mO m l a) x = v) (hp : pc + 3 = pc') (H : PP bb w D me (pc', lv, v :: st, (khp (mO m l a) c, N), nc, ns) Q) : PP bb w D me (pc, lv, .ref q :: st, (khp (mO m l a) c, N), nc, ns) Q :=
  PG_getf pc' v hi (khp_fo _ hq hd) (by rw [List.getElem?_map, hx, ← hv]; rfl) hp H
theorem PK_pf (pc' : Nat) {l' : List (Nat × Int)} (y : Int) {idx ci j len q x k : Nat} {xs : List Nat} {v : Value} (hi : me.2.2.2.2.2 pc = some (.putfield idx, len, ci, j, 0)) (hq : kfo q = true) (hd : kdt q = (0, ci, xs)) (hx : xs[j]? = some x) (hk : x / 4 = k) (h2 : decide (x % 4 < 2) = true) (hf : am_fit (nm_ft ci j) v = true) (hv : kval (mO (mO m l a) [(k, y)] []) x = v) (hl : ins k y l = l') (hp : pc + 3 = pc') (H : PP bb w D me (pc', lv, st, (khp (mO m l' a) c, N), nc, ns) Q) : PP bb w D me (pc, lv, v :: .ref q :: st, (khp (mO m l a) c, N), nc, ns) Q := by
  subst hl
  refine PG_putf pc' hi (khp_fo _ hq hd) ?_ hf ?_ hp H
  · rw [List.length_map]
    exact (List.getElem?_eq_some_iff.mp hx).1
  · rw [khp_setf _ c hq hd hx hk (of_decide_eq_true h2) hv, mO_f]
theorem PK_iald (pc' k : Nat) {q len p p' p'' : Nat} {i : Int} (f : Int → Int) (hi : me.2.2.2.2.2 pc = some (.iaload, len, p, p', p'')) (hp : pc + 1 = pc') (hk : (kaok k 0 && Nat.beq (kac k) q) = true) (h0 : 0 ≤ i) (h1 : i < kaL k) (hf : (mO m l a).2 k = f) (H : PP bb w D me (pc', lv, .int (i32 (f i)) :: st, (khp (mO m l a) c, N), nc, ns) Q) : PP bb w D me (pc, lv, .int (i32 i) :: .ref q :: st, (khp (mO m l a) c, N), nc, ns) Q := by
  subst hf
  obtain ⟨k1, k2⟩ := Bool.and_eq_true_iff.mp hk
  have e := Nat.eq_of_beq_eq_true k2
  subst e
  have hk2 := kaok_1 k1
  exact PG_iald pc' hi (by have := (kfo_1 hk2.2.2.1).1; omega) (khp_fa _ k1) h0 h1 hk2.2.1 (by show i32 ((mO m l a).2 k ((i.toNat : Nat) : Int)) = _; rw [tn_c h0]) hp H
theorem PK_bald (pc' k : Nat) {q len p p' p'' : Nat} {i : Int} (f : Int → Int) (hi : me.2.2.2.2.2 pc = some (.baload, len, p, p', p'')) (hp : pc + 1 = pc') (hk : (kaok k 2 && Nat.beq (kac k) q) = true) (h0 : 0 ≤ i) (h1 : i < kaL k) (hf : (mO m l a).2 k = f) (H : PP bb w D me (pc', lv, .int (i32 (f i)) :: st, (khp (mO m l a) c, N), nc, ns) Q) : PP bb w D me (pc, lv, .int (i32 i) :: .ref q :: st, (khp (mO m l a) c, N), nc, ns) Q := by
  subst hf
  obtain ⟨k1, k2⟩ := Bool.and_eq_true_iff.mp hk
  have e := Nat.eq_of_beq_eq_true k2
  subst e
  have hk2 := kaok_1 k1
  exact PG_bald pc' hi (by have := (kfo_1 hk2.2.2.1).1; omega) (khp_fa _ k1) (Or.inl rfl) h0 h1 hk2.2.1 (by show i32 ((mO m l a).2 k ((i.toNat : Nat) : Int)) = _; rw [tn_c h0]) hp H
theorem PK_lald (pc' k : Nat) {q len p p' p'' : Nat} {i : Int} (f : Int → Int) (hi : me.2.2.2.2.2 pc = some (.laload, len, p, p', p'')) (hp : pc + 1 = pc') (hk : (kaok k 1 && Nat.beq (kac k) q) = true) (h0 : 0 ≤ i) (h1 : i < kaL k) (hf : (mO m l a).2 k = f) (H : PP bb w D me (pc', lv, .long (i64 (f i)) :: st, (khp (mO m l a) c, N), nc, ns) Q) : PP bb w D me (pc, lv, .int (i32 i) :: .ref q :: st, (khp (mO m l a) c, N), nc, ns) Q := by
  subst hf
  obtain ⟨k1, k2⟩ := Bool.and_eq_true_iff.mp hk
  have e := Nat.eq_of_beq_eq_true k2
  subst e
  have hk2 := kaok_1 k1
  exact PG_lald pc' hi (khp_fa _ k1) h0 h1 hk2.2.1 (by show i64 ((mO m l a).2 k ((i.toNat : Nat) : Int)) = _; rw [tn_c h0]) hp H
theorem PK_iast (pc' k : Nat) {a' : List (Nat × (Int → Int))} {q len p p' p'' : Nat} {i x : Int} (f : Int → Int) (hi : me.2.2.2.2.2 pc = some (.iastore, len, p, p', p'')) (hp : pc + 1 = pc') (hk : (kaok k 0 && Nat.beq (kac k) q) = true) (h0 : 0 ≤ i) (h1 : i < kaL k) (hf : (mO m l a).2 k = f) (ha : ins k (upI f i x) a = a') (H : PP bb w D me (pc', lv, st, (khp (mO m l a') c, N), nc, ns) Q) : PP bb w D me (pc, lv, .int (i32 x) :: .int (i32 i) :: .ref q :: st, (khp (mO m l a) c, N), nc, ns) Q := by
  subst hf ha
  obtain ⟨k1, k2⟩ := Bool.and_eq_true_iff.mp hk
  have e := Nat.eq_of_beq_eq_true k2
  subst e
  have hk2 := kaok_1 k1
  refine PG_iast pc' hi (khp_fa _ k1) h0 h1 hk2.2.1 ?_ hp H
  rw [← mO_a]
  refine khp_seta _ c hk2.1 ?_
  rw [khp_fa _ k1]
  show some (Sum.inl (0, kaL k, Sum.inl (fun j : Nat => i32 ((mO (mO m l a) [] [(k, upI ((mO m l a).2 k) i x)]).2 k j)))) = _
  rw [mO2_s, ← upd_f h0]
theorem PK_last (pc' k : Nat) {a' : List (Nat × (Int → Int))} {q len p p' p'' : Nat} {i x : Int} (f : Int → Int) (hi : me.2.2.2.2.2 pc = some (.lastore, len, p, p', p'')) (hp : pc + 1 = pc') (hk : (kaok k 1 && Nat.beq (kac k) q) = true) (h0 : 0 ≤ i) (h1 : i < kaL k) (hf : (mO m l a).2 k = f) (ha : ins k (upI f i x) a = a') (H : PP bb w D me (pc', lv, st, (khp (mO m l a') c, N), nc, ns) Q) : PP bb w D me (pc, lv, .long (i64 x) :: .int (i32 i) :: .ref q :: st, (khp (mO m l a) c, N), nc, ns) Q := by
  subst hf ha
  obtain ⟨k1, k2⟩ := Bool.and_eq_true_iff.mp hk
  have e := Nat.eq_of_beq_eq_true k2
  subst e
  have hk2 := kaok_1 k1
  refine PG_last pc' hi (khp_fa _ k1) h0 h1 hk2.2.1 ?_ hp H
  rw [← mO_a]
  refine khp_seta _ c hk2.1 ?_
  rw [khp_fa _ k1]
  show some (Sum.inl (1, kaL k, Sum.inr (Sum.inl (fun j : Nat => i64 ((mO (mO m l a) [] [(k, upI ((mO m l a).2 k) i x)]).2 k j))))) = _
  rw [mO2_s, ← updl_f h0]
theorem PK_bastn (pc' k : Nat) {a' : List (Nat × (Int → Int))} {q len p p' p'' : Nat} {i x : Int} (f : Int → Int) (hi : me.2.2.2.2.2 pc = some (.bastore, len, p, p', p'')) (hp : pc + 1 = pc') (hk : (kaok k 2 && Nat.beq (kac k) q) = true) (h0 : 0 ≤ i) (h1 : i < kaL k) (hf : (mO m l a).2 k = f) (ha : ins k (upI f i (nar2 x)) a = a') (H : PP bb w D me (pc', lv, st, (khp (mO m l a') c, N), nc, ns) Q) : PP bb w D me (pc, lv, .int (i32 x) :: .int (i32 i) :: .ref q :: st, (khp (mO m l a) c, N), nc, ns) Q := by
  subst hf ha
  obtain ⟨k1, k2⟩ := Bool.and_eq_true_iff.mp hk
  have e := Nat.eq_of_beq_eq_true k2
  subst e
  have hk2 := kaok_1 k1
  refine PG_bast pc' hi (khp_fa _ k1) (Or.inl rfl) h0 h1 hk2.2.1 ?_ hp H
  rw [← mO_a]
  refine khp_seta _ c hk2.1 ?_
  rw [khp_fa _ k1]
  show some (Sum.inl (2, kaL k, Sum.inl (fun j : Nat => i32 ((mO (mO m l a) [] [(k, upI ((mO m l a).2 k) i (nar2 x))]).2 k j)))) = _
  rw [mO2_s, ← upd_f h0, show vp_nar (am_ty 2) (i32 x) = i32 (nar2 x) from (i32_of _).symm]
theorem PK_gfr (pc' : Nat) {idx j len : Nat} {t : Int} (hi : me.2.2.2.2.2 pc = some (.getfield idx, len, 10, j, 0)) (hj : decide (j < 12) = true) (h0 : 0 ≤ t) (h1 : t < 8) (hp : pc + 3 = pc') (H : PP bb w D me (pc', lv, .ref (tbr t + (j + 1)) :: st, (khp (mO m l a) c, N), nc, ns) Q) : PP bb w D me (pc, lv, .ref (tbr t) :: st, (khp (mO m l a) c, N), nc, ns) Q := by
  have hj := of_decide_eq_true hj
  refine PG_getf pc' (.ref (tbr t + (j + 1))) hi (khp_t0 _ h0 h1) ?_ hp H
  rw [ktf_at _ (by omega)]
  unfold ktv tbr
  rw [if_pos hj, show 74 + 13 * t.toNat + 1 + j = 74 + 13 * t.toNat + (j + 1) by omega]
theorem PK_gfi (pc' k : Nat) (f : Int → Int) {idx j len : Nat} {t : Int} (hi : me.2.2.2.2.2 pc = some (.getfield idx, len, 10, j, 0)) (hj : (decide (12 ≤ j) && (decide (j < 19) && decide (60 + j = k))) = true) (h0 : 0 ≤ t) (h1 : t < 8) (hf : (mO m l a).2 k = f) (hp : pc + 3 = pc') (H : PP bb w D me (pc', lv, .int (i32 (f t)) :: st, (khp (mO m l a) c, N), nc, ns) Q) : PP bb w D me (pc, lv, .ref (tbr t) :: st, (khp (mO m l a) c, N), nc, ns) Q := by
  simp only [Bool.and_eq_true, decide_eq_true_eq] at hj
  obtain ⟨j1, j2, rfl⟩ := hj
  subst hf
  refine PG_getf pc' _ hi (khp_t0 _ h0 h1) ?_ hp H
  rw [ktf_at _ j2]
  unfold ktv
  rw [if_neg (by omega), tn_c h0]
theorem PK_pfi (pc' k : Nat) {a' : List (Nat × (Int → Int))} (f : Int → Int) {idx j len : Nat} {t x : Int} (hi : me.2.2.2.2.2 pc = some (.putfield idx, len, 10, j, 0)) (hj : (decide (12 ≤ j) && (decide (j < 19) && decide (60 + j = k))) = true) (hft : nm_ft 10 j = FieldType.int) (h0 : 0 ≤ t) (h1 : t < 8) (hf : (mO m l a).2 k = f) (ha : ins k (upI f t x) a = a') (hp : pc + 3 = pc') (H : PP bb w D me (pc', lv, st, (khp (mO m l a') c, N), nc, ns) Q) : PP bb w D me (pc, lv, .int (i32 x) :: .ref (tbr t) :: st, (khp (mO m l a) c, N), nc, ns) Q := by
  simp only [Bool.and_eq_true, decide_eq_true_eq] at hj
  obtain ⟨j1, j2, rfl⟩ := hj
  subst hf ha
  refine PG_putf pc' hi (khp_t0 _ h0 h1) (by unfold ktf; rw [List.length_map, List.length_range]; exact j2) (by rw [hft]; rfl) ?_ hp H
  rw [← mO_a]
  have e := khp_sett (mO m l a) c (t := t.toNat) (i := j - 12) (y := x) (x := .inr (10, (ktf (mO m l a) t.toNat).set j (.int (i32 x)))) (by omega) (by omega)
  rw [show 72 + (j - 12) = 60 + j by omega, tn_c h0] at e
  refine e ?_
  have e2 := khp_t0 (c := c) (mO (mO m l a) [] [(60 + j, upI ((mO m l a).2 (60 + j)) t x)]) h0 h1
  unfold tbr at e2
  rw [e2]
  congr 3
  apply List.ext_getElem?
  intro n
  by_cases hn : n < 19
  · rw [ktf_at _ hn]
    by_cases hnj : n = j
    · subst hnj
      rw [List.getElem?_set_self (by unfold ktf; rw [List.length_map, List.length_range]; exact j2)]
      unfold ktv
      rw [if_neg (by omega), mO2_s, tn_c h0, upI_s]
    · rw [List.getElem?_set_ne (fun e => hnj e.symm), ktf_at _ hn]
      unfold ktv
      split
      · rfl
      · rw [mO2_n (by omega)]
  · rw [List.getElem?_eq_none (by unfold ktf; rw [List.length_map, List.length_range]; omega), List.getElem?_eq_none (by rw [List.length_set]; unfold ktf; rw [List.length_map, List.length_range]; omega)]
theorem PK_ialt (pc' i : Nat) (f : Int → Int) {len p p' p'' : Nat} {t n : Int} (hi : me.2.2.2.2.2 pc = some (.iaload, len, p, p', p'')) (hp : pc + 1 = pc') (hk : (decide (i < 12) && (decide (tty i = 0) && decide (tln i < 65536))) = true) (h0 : 0 ≤ t) (h1 : t < 8) (n0 : 0 ≤ n) (n1 : n < tln i) (hf : (mO m l a).2 (79 + i) = f) (H : PP bb w D me (pc', lv, .int (i32 (f (65536 * t + n))) :: st, (khp (mO m l a) c, N), nc, ns) Q) : PP bb w D me (pc, lv, .int (i32 n) :: .ref (tbr t + (i + 1)) :: st, (khp (mO m l a) c, N), nc, ns) Q := by
  simp only [Bool.and_eq_true, decide_eq_true_eq] at hk
  obtain ⟨k1, k2, k3⟩ := hk
  subst hf
  have hc := khp_t1 (c := c) (mO m l a) h0 h1 k1
  rw [k2] at hc
  refine PG_iald pc' hi (by unfold tbr; omega) hc n0 n1 (by omega) ?_ hp H
  show i32 (ka1 (mO m l a) (79 + i) t n.toNat) = _
  unfold ka1
  rw [if_pos (by omega), tn_c n0]
theorem PK_lalt (pc' i : Nat) (f : Int → Int) {len p p' p'' : Nat} {t n : Int} (hi : me.2.2.2.2.2 pc = some (.laload, len, p, p', p'')) (hp : pc + 1 = pc') (hk : (decide (i < 12) && (decide (tty i = 1) && decide (tln i < 65536))) = true) (h0 : 0 ≤ t) (h1 : t < 8) (n0 : 0 ≤ n) (n1 : n < tln i) (hf : (mO m l a).2 (79 + i) = f) (H : PP bb w D me (pc', lv, .long (i64 (f (65536 * t + n))) :: st, (khp (mO m l a) c, N), nc, ns) Q) : PP bb w D me (pc, lv, .int (i32 n) :: .ref (tbr t + (i + 1)) :: st, (khp (mO m l a) c, N), nc, ns) Q := by
  simp only [Bool.and_eq_true, decide_eq_true_eq] at hk
  obtain ⟨k1, k2, k3⟩ := hk
  subst hf
  have hc := khp_t1 (c := c) (mO m l a) h0 h1 k1
  rw [k2] at hc
  refine PG_lald pc' hi hc n0 n1 (by omega) ?_ hp H
  show i64 (ka1 (mO m l a) (79 + i) t n.toNat) = _
  unfold ka1
  rw [if_pos (by omega), tn_c n0]
theorem PK_iastt (pc' i : Nat) {a' : List (Nat × (Int → Int))} (f : Int → Int) {len p p' p'' : Nat} {t n x : Int} (hi : me.2.2.2.2.2 pc = some (.iastore, len, p, p', p'')) (hp : pc + 1 = pc') (hk : (decide (i < 12) && (decide (tty i = 0) && decide (tln i < 65536))) = true) (h0 : 0 ≤ t) (h1 : t < 8) (n0 : 0 ≤ n) (n1 : n < tln i) (hf : (mO m l a).2 (79 + i) = f) (ha : ins (79 + i) (upI f (65536 * t + n) x) a = a') (H : PP bb w D me (pc', lv, st, (khp (mO m l a') c, N), nc, ns) Q) : PP bb w D me (pc, lv, .int (i32 x) :: .int (i32 n) :: .ref (tbr t + (i + 1)) :: st, (khp (mO m l a) c, N), nc, ns) Q := by
  simp only [Bool.and_eq_true, decide_eq_true_eq] at hk
  obtain ⟨k1, k2, k3⟩ := hk
  subst hf ha
  have hc := khp_t1 (c := c) (mO m l a) h0 h1 k1
  rw [k2] at hc
  refine PG_iast pc' hi hc n0 n1 (by omega) ?_ hp H
  rw [← mO_a]
  have e := khp_setu (mO m l a) c (t := t.toNat) (i := i) (n := n) (y := x) (x := .inl (0, tln i, .inl (upd (fun j : Nat => i32 (ka1 (mO m l a) (79 + i) t j)) n.toNat (i32 x)))) (by omega) k1 n0 (by omega)
  rw [tn_c h0] at e
  refine e ?_
  have hc2 := khp_t1 (c := c) (mO (mO m l a) [] [(79 + i, upI ((mO m l a).2 (79 + i)) (65536 * t + n) x)]) h0 h1 k1
  rw [k2] at hc2
  unfold tbr at hc2
  rw [hc2, upd_t n0 (by omega)]
  rfl
theorem PK_lastt (pc' i : Nat) {a' : List (Nat × (Int → Int))} (f : Int → Int) {len p p' p'' : Nat} {t n x : Int} (hi : me.2.2.2.2.2 pc = some (.lastore, len, p, p', p'')) (hp : pc + 1 = pc') (hk : (decide (i < 12) && (decide (tty i = 1) && decide (tln i < 65536))) = true) (h0 : 0 ≤ t) (h1 : t < 8) (n0 : 0 ≤ n) (n1 : n < tln i) (hf : (mO m l a).2 (79 + i) = f) (ha : ins (79 + i) (upI f (65536 * t + n) x) a = a') (H : PP bb w D me (pc', lv, st, (khp (mO m l a') c, N), nc, ns) Q) : PP bb w D me (pc, lv, .long (i64 x) :: .int (i32 n) :: .ref (tbr t + (i + 1)) :: st, (khp (mO m l a) c, N), nc, ns) Q := by
  simp only [Bool.and_eq_true, decide_eq_true_eq] at hk
  obtain ⟨k1, k2, k3⟩ := hk
  subst hf ha
  have hc := khp_t1 (c := c) (mO m l a) h0 h1 k1
  rw [k2] at hc
  refine PG_last pc' hi hc n0 n1 (by omega) ?_ hp H
  rw [← mO_a]
  have e := khp_setu (mO m l a) c (t := t.toNat) (i := i) (n := n) (y := x) (x := .inl (1, tln i, .inr (.inl (vp_updL (fun j : Nat => i64 (ka1 (mO m l a) (79 + i) t j)) n.toNat (i64 x))))) (by omega) k1 n0 (by omega)
  rw [tn_c h0] at e
  refine e ?_
  have hc2 := khp_t1 (c := c) (mO (mO m l a) [] [(79 + i, upI ((mO m l a).2 (79 + i)) (65536 * t + n) x)]) h0 h1 k1
  rw [k2] at hc2
  unfold tbr at hc2
  rw [hc2, updl_t n0 (by omega)]
  rfl
theorem PK_aatb (pc' : Nat) {len p p' p'' : Nat} {n : Int} (hi : me.2.2.2.2.2 pc = some (.aaload, len, p, p', p'')) (h0 : 0 ≤ n) (h1 : n < 8) (hp : pc + 1 = pc') (H : PP bb w D me (pc', lv, .ref (tbr n) :: st, (khp (mO m l a) c, N), nc, ns) Q) : PP bb w D me (pc, lv, .int (i32 n) :: .ref 21 :: st, (khp (mO m l a) c, N), nc, ns) Q := by
  have hc : khp (mO m l a) c 21 = some (kfx (mO m l a) (5, 8, [])) := by
    rw [khp_lo _ c (by omega), klo_fx _ (by decide), kd_21]
  refine PG_aald pc' (.ref (tbr n)) hi hc (Or.inl rfl) h0 (by omega) (by omega) ?_ hp H
  show va_rf (if n.toNat < 8 then some (74 + 13 * n.toNat) else none) = _
  rw [if_pos (by omega)]
  rfl
theorem PG_alen (pc' : Nat) {len p p' p'' q u : Nat} {A : vp_A} {L : Int} (hi : me.2.2.2.2.2 pc = some (.arraylength, len, p, p', p'')) (hq : q < 1000000) (hc : h q = some (.inl (u, A))) (hu : u < 6) (hL : Int32.ofNat A.1 = i32 L) (hp : pc + 1 = pc') (H : PP bb w D me (pc', lv, .int (i32 L) :: st, (h, N), nc, ns) Q) : PP bb w D me (pc, lv, .ref q :: st, (h, N), nc, ns) Q := by
  subst hp
  refine Pm_step hi (fun call => ?_) H
  show ag_liftH (ag_alength af_O w.1 (nm_E w.2.1 w.2.2.1 w.2.2.2) pc lv (.ref q :: st) (h, N)) nc ns = _
  unfold ag_alength
  dsimp only
  rw [if_pos hq]
  unfold ag_do ad_alen
  dsimp only
  unfold ag_acc
  rw [show af_O.1 (h, N) q = _ from hc]
  dsimp only
  rw [if_pos hu, hL]
  rfl
theorem PK_alent (pc' i : Nat) {len p p' p'' : Nat} {t L : Int} (hi : me.2.2.2.2.2 pc = some (.arraylength, len, p, p', p'')) (hk : (decide (i < 12) && decide (tty i < 6)) = true) (h0 : 0 ≤ t) (h1 : t < 8) (hL : Int32.ofNat (tln i) = i32 L) (hp : pc + 1 = pc') (H : PP bb w D me (pc', lv, .int (i32 L) :: st, (khp (mO m l a) c, N), nc, ns) Q) : PP bb w D me (pc, lv, .ref (tbr t + (i + 1)) :: st, (khp (mO m l a) c, N), nc, ns) Q := by
  simp only [Bool.and_eq_true, decide_eq_true_eq] at hk
  obtain ⟨B, hB⟩ := kar1_k (mO m l a) (tty i) (tln i) (79 + i) t
  have hc := khp_t1 (c := c) (mO m l a) h0 h1 hk.1
  rw [hB] at hc
  exact PG_alen pc' hi (by unfold tbr; omega) hc hk.2 hL hp H
theorem PK_iald2 (pc' k : Nat) {q len p p' p'' : Nat} {i : Int} (f : Int → Int) (hi : me.2.2.2.2.2 pc = some (.iaload, len, p, p', p'')) (hp : pc + 1 = pc') (hk : (kaok k 0 && Nat.beq (kac k) q) = true) (hr : R32 i) (hf : (mO m l a).2 k = f) (H : PP bb w D me (pc', lv, .int (i32 (f i)) :: st, (khp (mO m l a) c, N), nc, ns) Q) : PP bb w D me (pc, lv, .int (i32 i) :: .ref q :: st, (khp (mO m l a) c, N), nc, ns) Q := by
  by_cases hb : 0 ≤ i ∧ i < kaL k
  · exact PK_iald pc' k f hi hp hk hb.1 hb.2 hf H
  · obtain ⟨k1, k2⟩ := Bool.and_eq_true_iff.mp hk
    have e := Nat.eq_of_beq_eq_true k2
    subst e
    have hk2 := kaok_1 k1
    exact PG_ialdN hi (by have := (kfo_1 hk2.2.2.1).1; omega) (khp_fa _ k1) hr hb
theorem PK_bald2 (pc' k : Nat) {q len p p' p'' : Nat} {i : Int} (f : Int → Int) (hi : me.2.2.2.2.2 pc = some (.baload, len, p, p', p'')) (hp : pc + 1 = pc') (hk : (kaok k 2 && Nat.beq (kac k) q) = true) (hr : R32 i) (hf : (mO m l a).2 k = f) (H : PP bb w D me (pc', lv, .int (i32 (f i)) :: st, (khp (mO m l a) c, N), nc, ns) Q) : PP bb w D me (pc, lv, .int (i32 i) :: .ref q :: st, (khp (mO m l a) c, N), nc, ns) Q := by
  by_cases hb : 0 ≤ i ∧ i < kaL k
  · exact PK_bald pc' k f hi hp hk hb.1 hb.2 hf H
  · obtain ⟨k1, k2⟩ := Bool.and_eq_true_iff.mp hk
    have e := Nat.eq_of_beq_eq_true k2
    subst e
    have hk2 := kaok_1 k1
    exact PG_baldN hi (by have := (kfo_1 hk2.2.2.1).1; omega) (khp_fa _ k1) hr hb
theorem PK_lald2 (pc' k : Nat) {q len p p' p'' : Nat} {i : Int} (f : Int → Int) (hi : me.2.2.2.2.2 pc = some (.laload, len, p, p', p'')) (hp : pc + 1 = pc') (hk : (kaok k 1 && Nat.beq (kac k) q) = true) (hr : R32 i) (hf : (mO m l a).2 k = f) (H : PP bb w D me (pc', lv, .long (i64 (f i)) :: st, (khp (mO m l a) c, N), nc, ns) Q) : PP bb w D me (pc, lv, .int (i32 i) :: .ref q :: st, (khp (mO m l a) c, N), nc, ns) Q := by
  by_cases hb : 0 ≤ i ∧ i < kaL k
  · exact PK_lald pc' k f hi hp hk hb.1 hb.2 hf H
  · obtain ⟨k1, k2⟩ := Bool.and_eq_true_iff.mp hk
    have e := Nat.eq_of_beq_eq_true k2
    subst e
    have hk2 := kaok_1 k1
    exact PG_laldN hi (khp_fa _ k1) hr hb
theorem PK_iast2 (pc' k : Nat) {a' : List (Nat × (Int → Int))} {q len p p' p'' : Nat} {i x : Int} (f : Int → Int) (hi : me.2.2.2.2.2 pc = some (.iastore, len, p, p', p'')) (hp : pc + 1 = pc') (hk : (kaok k 0 && Nat.beq (kac k) q) = true) (hr : R32 i) (hf : (mO m l a).2 k = f) (ha : ins k (upI f i x) a = a') (H : PP bb w D me (pc', lv, st, (khp (mO m l a') c, N), nc, ns) Q) : PP bb w D me (pc, lv, .int (i32 x) :: .int (i32 i) :: .ref q :: st, (khp (mO m l a) c, N), nc, ns) Q := by
  by_cases hb : 0 ≤ i ∧ i < kaL k
  · exact PK_iast pc' k f hi hp hk hb.1 hb.2 hf ha H
  · obtain ⟨k1, k2⟩ := Bool.and_eq_true_iff.mp hk
    have e := Nat.eq_of_beq_eq_true k2
    subst e
    have hk2 := kaok_1 k1
    exact PG_iastN hi (khp_fa _ k1) hr hb
theorem PK_last2 (pc' k : Nat) {a' : List (Nat × (Int → Int))} {q len p p' p'' : Nat} {i x : Int} (f : Int → Int) (hi : me.2.2.2.2.2 pc = some (.lastore, len, p, p', p'')) (hp : pc + 1 = pc') (hk : (kaok k 1 && Nat.beq (kac k) q) = true) (hr : R32 i) (hf : (mO m l a).2 k = f) (ha : ins k (upI f i x) a = a') (H : PP bb w D me (pc', lv, st, (khp (mO m l a') c, N), nc, ns) Q) : PP bb w D me (pc, lv, .long (i64 x) :: .int (i32 i) :: .ref q :: st, (khp (mO m l a) c, N), nc, ns) Q := by
  by_cases hb : 0 ≤ i ∧ i < kaL k
  · exact PK_last pc' k f hi hp hk hb.1 hb.2 hf ha H
  · obtain ⟨k1, k2⟩ := Bool.and_eq_true_iff.mp hk
    have e := Nat.eq_of_beq_eq_true k2
    subst e
    have hk2 := kaok_1 k1
    exact PG_lastN hi (khp_fa _ k1) hr hb
theorem PK_bast2 (pc' k : Nat) {a' : List (Nat × (Int → Int))} {q len p p' p'' : Nat} {i x : Int} (f : Int → Int) (hi : me.2.2.2.2.2 pc = some (.bastore, len, p, p', p'')) (hp : pc + 1 = pc') (hk : (kaok k 2 && Nat.beq (kac k) q) = true) (hr : R32 i) (hf : (mO m l a).2 k = f) (ha : ins k (upI f i (nar2 x)) a = a') (H : PP bb w D me (pc', lv, st, (khp (mO m l a') c, N), nc, ns) Q) : PP bb w D me (pc, lv, .int (i32 x) :: .int (i32 i) :: .ref q :: st, (khp (mO m l a) c, N), nc, ns) Q := by
  by_cases hb : 0 ≤ i ∧ i < kaL k
  · exact PK_bastn pc' k f hi hp hk hb.1 hb.2 hf ha H
  · obtain ⟨k1, k2⟩ := Bool.and_eq_true_iff.mp hk
    have e := Nat.eq_of_beq_eq_true k2
    subst e
    have hk2 := kaok_1 k1
    exact PG_bastN hi (khp_fa _ k1) hr hb
theorem PK_ialt2 (pc' i : Nat) (f : Int → Int) {len p p' p'' : Nat} {t n : Int} (hi : me.2.2.2.2.2 pc = some (.iaload, len, p, p', p'')) (hp : pc + 1 = pc') (hk : (decide (i < 12) && (decide (tty i = 0) && decide (tln i < 65536))) = true) (ht : Rt t) (hr : R32 n) (hf : (mO m l a).2 (79 + i) = f) (H : PP bb w D me (pc', lv, .int (i32 (f (65536 * t + n))) :: st, (khp (mO m l a) c, N), nc, ns) Q) : PP bb w D me (pc, lv, .int (i32 n) :: .ref (tbr t + (i + 1)) :: st, (khp (mO m l a) c, N), nc, ns) Q := by
  by_cases hb : 0 ≤ n ∧ n < tln i
  · exact PK_ialt pc' i f hi hp hk ht.1 ht.2 hb.1 hb.2 hf H
  · simp only [Bool.and_eq_true, decide_eq_true_eq] at hk
    obtain ⟨k1, k2, k3⟩ := hk
    have hc := khp_t1 (c := c) (mO m l a) ht.1 ht.2 k1
    rw [k2] at hc
    have h1 := ht.1
    have h2 := ht.2
    exact PG_ialdN hi (by unfold tbr; omega) hc hr hb
theorem PK_lalt2 (pc' i : Nat) (f : Int → Int) {len p p' p'' : Nat} {t n : Int} (hi : me.2.2.2.2.2 pc = some (.laload, len, p, p', p'')) (hp : pc + 1 = pc') (hk : (decide (i < 12) && (decide (tty i = 1) && decide (tln i < 65536))) = true) (ht : Rt t) (hr : R32 n) (hf : (mO m l a).2 (79 + i) = f) (H : PP bb w D me (pc', lv, .long (i64 (f (65536 * t + n))) :: st, (khp (mO m l a) c, N), nc, ns) Q) : PP bb w D me (pc, lv, .int (i32 n) :: .ref (tbr t + (i + 1)) :: st, (khp (mO m l a) c, N), nc, ns) Q := by
  by_cases hb : 0 ≤ n ∧ n < tln i
  · exact PK_lalt pc' i f hi hp hk ht.1 ht.2 hb.1 hb.2 hf H
  · simp only [Bool.and_eq_true, decide_eq_true_eq] at hk
    obtain ⟨k1, k2, k3⟩ := hk
    have hc := khp_t1 (c := c) (mO m l a) ht.1 ht.2 k1
    rw [k2] at hc
    have h1 := ht.1
    have h2 := ht.2
    exact PG_laldN hi hc hr hb
theorem PK_iastt2 (pc' i : Nat) {a' : List (Nat × (Int → Int))} (f : Int → Int) {len p p' p'' : Nat} {t n x : Int} (hi : me.2.2.2.2.2 pc = some (.iastore, len, p, p', p'')) (hp : pc + 1 = pc') (hk : (decide (i < 12) && (decide (tty i = 0) && decide (tln i < 65536))) = true) (ht : Rt t) (hr : R32 n) (hf : (mO m l a).2 (79 + i) = f) (ha : ins (79 + i) (upI f (65536 * t + n) x) a = a') (H : PP bb w D me (pc', lv, st, (khp (mO m l a') c, N), nc, ns) Q) : PP bb w D me (pc, lv, .int (i32 x) :: .int (i32 n) :: .ref (tbr t + (i + 1)) :: st, (khp (mO m l a) c, N), nc, ns) Q := by
  by_cases hb : 0 ≤ n ∧ n < tln i
  · exact PK_iastt pc' i f hi hp hk ht.1 ht.2 hb.1 hb.2 hf ha H
  · simp only [Bool.and_eq_true, decide_eq_true_eq] at hk
    obtain ⟨k1, k2, k3⟩ := hk
    have hc := khp_t1 (c := c) (mO m l a) ht.1 ht.2 k1
    rw [k2] at hc
    have h1 := ht.1
    have h2 := ht.2
    exact PG_iastN hi hc hr hb
theorem PK_lastt2 (pc' i : Nat) {a' : List (Nat × (Int → Int))} (f : Int → Int) {len p p' p'' : Nat} {t n x : Int} (hi : me.2.2.2.2.2 pc = some (.lastore, len, p, p', p'')) (hp : pc + 1 = pc') (hk : (decide (i < 12) && (decide (tty i = 1) && decide (tln i < 65536))) = true) (ht : Rt t) (hr : R32 n) (hf : (mO m l a).2 (79 + i) = f) (ha : ins (79 + i) (upI f (65536 * t + n) x) a = a') (H : PP bb w D me (pc', lv, st, (khp (mO m l a') c, N), nc, ns) Q) : PP bb w D me (pc, lv, .long (i64 x) :: .int (i32 n) :: .ref (tbr t + (i + 1)) :: st, (khp (mO m l a) c, N), nc, ns) Q := by
  by_cases hb : 0 ≤ n ∧ n < tln i
  · exact PK_lastt pc' i f hi hp hk ht.1 ht.2 hb.1 hb.2 hf ha H
  · simp only [Bool.and_eq_true, decide_eq_true_eq] at hk
    obtain ⟨k1, k2, k3⟩ := hk
    have hc := khp_t1 (c := c) (mO m l a) ht.1 ht.2 k1
    rw [k2] at hc
    have h1 := ht.1
    have h2 := ht.2
    exact PG_lastN hi hc hr hb
theorem PK_aatb2 (pc' : Nat) {len p p' p'' : Nat} {n : Int} (hi : me.2.2.2.2.2 pc = some (.aaload, len, p, p', p'')) (hr : R32 n) (hp : pc + 1 = pc') (H : Rt n → PP bb w D me (pc', lv, .ref (tbr n) :: st, (khp (mO m l a) c, N), nc, ns) Q) : PP bb w D me (pc, lv, .int (i32 n) :: .ref 21 :: st, (khp (mO m l a) c, N), nc, ns) Q := by
  by_cases hb : 0 ≤ n ∧ n < 8
  · exact PK_aatb pc' hi hb.1 hb.2 hp (H hb)
  · have hc : khp (mO m l a) c 21 = some (kfx (mO m l a) (kdt 21)) := by
      rw [khp_lo _ c (by decide), klo_fx _ (by decide)]
    rw [kd_21] at hc
    exact PG_aaldN hi hc hr hb
theorem PK_pz (pc' : Nat) {l' : List (Nat × Int)} (y : Int) {idx ci j len q x k : Nat} {xs : List Nat} (hi : me.2.2.2.2.2 pc = some (.putfield idx, len, ci, j, 0)) (hq : kfo q = true) (hd : kdt q = (0, ci, xs)) (hx : xs[j]? = some x) (hk : x / 4 = k) (h2 : decide (x % 4 < 2) = true) (hf : nm_ft ci j = .boolean) (hy : R32 y) (hv : kval (mO (mO m l a) [(k, y)] []) x = .int (i32 y)) (hl : ins k y l = l') (hp : pc + 3 = pc') (H : PP bb w D me (pc', lv, st, (khp (mO m l' a) c, N), nc, ns) Q) : PP bb w D me (pc, lv, .int (i32 y) :: .ref q :: st, (khp (mO m l a) c, N), nc, ns) Q := by
  by_cases h01 : y = 0 ∨ y = 1
  · exact PK_pf pc' y hi hq hd hx hk h2 (by rw [hf]; exact fit01 h01) hv hl hp H
  · exact PG_putN hi (khp_fo _ hq hd) hf hy h01
theorem P_thr {idx len x b : Nat} (hi : me.2.2.2.2.2 pc = some (.new idx, len, x, b, 1)) (H : Q (.inr x, t, nc + 1, ns + 6)) : PP bb w D me (pc, lv, st, t, nc, ns) Q := by
  by_cases hg : 6 ≤ D + 1 ∧ am_cat st ≤ 8 ∧ am_covered me.2.2.2.2.1 (pc + 4 + b + 3) = false
  · refine Pm_end hi (fun call => ?_) H
    show ag_make af_O 8192 (nm_E w.2.1 w.2.2.1 w.2.2.2) (D + 1) me.2.2.2.2.1 x b 1 (pc, lv, st, t, nc, ns) = _
    unfold ag_make
    dsimp only
    rw [if_pos hg]
    rfl
  · refine Pm_no hi (fun call => ?_)
    show ag_make af_O 8192 (nm_E w.2.1 w.2.2.1 w.2.2.2) (D + 1) me.2.2.2.2.1 x b 1 (pc, lv, st, t, nc, ns) = _
    unfold ag_make
    dsimp only
    rw [if_neg hg]
    rfl
theorem P_top {v v' : Value} (e : v' = v) (h : PP bb w D me (pc, lv, v' :: st, t, nc, ns) Q) : PP bb w D me (pc, lv, v :: st, t, nc, ns) Q := e ▸ h
theorem P_ld1 (pc' : Nat) (v : Value) {u : Value} (hi : me.2.2.2.2.2 pc = some i9) (hs : ∀ call, ag_step af_O 8192 w.1 (nm_E w.2.1 w.2.2.1 w.2.2.2) nm_cn (D + 1) call me i9 (pc, lv, u :: st, t, nc, ns) = some (.inl (pc', lv, v :: st, t, nc, ns))) (h : PP bb w D me (pc', lv, v :: st, t, nc, ns) Q) : PP bb w D me (pc, lv, u :: st, t, nc, ns) Q := Pm_step hi hs h
def chr (a : Nat) (i : Int) : Int := ((nm_byt.getD a []).getD i.toNat 0).toInt
theorem P_xbald (pc' a L : Nat) {i : Int} {q len p p' p'' : Nat} (hi : me.2.2.2.2.2 pc = some (.baload, len, p, p', p'')) (hp : pc + 1 = pc') (hq : (Nat.beq q (1000002 + 2 * a) && (Nat.blt a nm_len.length && (Nat.beq (nm_len.getD a 0) L && Nat.blt L 1000000))) = true) (hr : R32 i) (h : PP bb w D me (pc', lv, .int (i32 (chr a i)) :: st, t, nc, ns) Q) : PP bb w D me (pc, lv, .int (i32 i) :: .ref q :: st, t, nc, ns) Q := by
  subst hp
  obtain ⟨q1, hq⟩ := Bool.and_eq_true_iff.mp hq
  obtain ⟨q2, hq⟩ := Bool.and_eq_true_iff.mp hq
  obtain ⟨q3, q4⟩ := Bool.and_eq_true_iff.mp hq
  rw [Nat.blt_eq] at q2 q4
  have e1 := Nat.eq_of_beq_eq_true q1
  have e3 := Nat.eq_of_beq_eq_true q3
  have e5 : (q - 1000002) / 2 = a := by omega
  by_cases hb : 0 ≤ i ∧ i < L
  · have e6 : (i32 i).toNatClampNeg = i.toNat := by
      have := i32_nat hb.1 hr.2
      omega
    refine Pm_step (S' := (pc + 1, lv, .int (i32 (chr a i)) :: st, t, nc, ns)) hi (fun call => ?_) h
    show ag_liftH (ag_baload af_O (nm_E w.2.1 w.2.2.1 w.2.2.2) pc lv (.int (i32 i) :: .ref q :: st) t) nc ns = _
    unfold ag_baload
    dsimp only
    rw [if_neg (show ¬ q < 1000000 by omega)]
    unfold am_xbald
    dsimp only
    rw [e5, if_pos ⟨by unfold am_kB; omega, q2, by
      show ¬ (i32 i < 0 ∨ nm_len.getD a 0 ≤ (i32 i).toNatClampNeg)
      rw [e3]
      exact idx_in hb.1 hb.2 q4⟩, e6]
    unfold chr
    rw [i32_of]
    rfl
  · refine Pm_no hi (fun call => ?_)
    show ag_liftH (ag_baload af_O (nm_E w.2.1 w.2.2.1 w.2.2.2) pc lv (.int (i32 i) :: .ref q :: st) t) nc ns = _
    unfold ag_baload
    dsimp only
    rw [if_neg (show ¬ q < 1000000 by omega)]
    unfold am_xbald
    dsimp only
    rw [e5, if_neg (fun e => e.2.2 (by
      show i32 i < 0 ∨ nm_len.getD a 0 ≤ (i32 i).toNatClampNeg
      rw [e3]
      exact idx_out hr hb))]
    rfl
theorem chr_r {a : Nat} {i : Int} : R32 (chr a i) := t32_r
end PKS
def klg (k : Nat) : Bool := ([208, 209, 210, 2, 3, 4, 5, 6, 7, 11, 12, 24, 25, 31, 32, 41, 42, 60, 61, 71, 84, 85, 86, 87, 101, 103, 104, 105] : List Nat).any (Nat.beq k)
def KCn (m : mR) : Prop := (∀ k, rV (klg k) (m.1 k)) ∧ (∀ k i, rV (klg k) (m.2 k i)) ∧ KO m
theorem KCn_i {m : mR} (h : KCn m) (k : Nat) (hk : klg k = false) : R32 (m.1 k) := by
  have := h.1 k
  rw [hk] at this
  exact this
theorem KCn_l {m : mR} (h : KCn m) (k : Nat) (hk : klg k = true) : R64 (m.1 k) := by
  have := h.1 k
  rw [hk] at this
  exact this
def kE (k : Nat) (f : Int → Int) : Prop := ∀ i, rV (klg k) (f i)
theorem KCn_a {m : mR} (h : KCn m) (k : Nat) : kE k (m.2 k) := h.2.1 k
theorem kE_i {k : Nat} {f : Int → Int} (h : kE k f) (hk : klg k = false) (i : Int) : R32 (f i) := by
  have := h i
  rw [hk] at this
  exact this
theorem kE_l {k : Nat} {f : Int → Int} (h : kE k f) (hk : klg k = true) (i : Int) : R64 (f i) := by
  have := h i
  rw [hk] at this
  exact this
theorem kV_i {k : Nat} {z : Int} (hk : klg k = false) (h : R32 z) : rV (klg k) z := by
  rw [hk]
  exact h
theorem kV_l {k : Nat} {z : Int} (hk : klg k = true) (h : R64 z) : rV (klg k) z := by
  rw [hk]
  exact h
theorem kE_ui {k : Nat} {f : Int → Int} {i x : Int} (h : kE k f) (hk : klg k = false) (hx : R32 x) : kE k (upI f i x) := by
  intro j
  unfold upI
  split
  · exact kV_i hk hx
  · exact h j
theorem kE_ul {k : Nat} {f : Int → Int} {i x : Int} (h : kE k f) (hk : klg k = true) (hx : R64 x) : kE k (upI f i x) := by
  intro j
  unfold upI
  split
  · exact kV_l hk hx
  · exact h j
def kF (l : List (Nat × Int)) : Prop := match l with
  | [] => True
  | q :: r => rV (klg q.1) q.2 ∧ kF r
def kA (l : List (Nat × (Int → Int))) : Prop := match l with
  | [] => True
  | q :: r => kE q.1 q.2 ∧ kA r
theorem KCn_mO {m : mR} (h : KCn m) {l : List (Nat × Int)} {a : List (Nat × (Int → Int))} (h7 : (mO m l a).2 107 = m.2 107) (h8 : (mO m l a).2 108 = m.2 108) (hl : kF l) (ha : kA a) : KCn (mO m l a) := by
  refine ⟨fun k => ?_, fun k i => ?_, KO_c h7 h8 h.2.2⟩
  · show rV (klg k) (olk l k (m.1 k))
    have h0 := h.1 k
    clear ha h7 h8
    induction l with
    | nil => exact h0
    | cons q r ih =>
      show rV (klg k) (if q.1 = k then q.2 else olk r k (m.1 k))
      split
      · rename_i e
        rw [← e]
        exact hl.1
      · exact ih hl.2
  · show rV (klg k) (olk a k (m.2 k) i)
    have h0 := h.2.1 k i
    clear hl h7 h8
    induction a with
    | nil => exact h0
    | cons q r ih =>
      show rV (klg k) ((if q.1 = k then q.2 else olk r k (m.2 k)) i)
      split
      · rename_i e
        rw [← e]
        exact ha.1 i
      · exact ih ha.2
section PKA
variable {bb : Nat} {w : wX} {D : Nat} {me : am_M} {Q : ag_Re af_T → Prop} {pc nc ns N : Nat} {lv : List (Nat × Value)} {st : List Value} {t : af_T} {h : Nat → Option am_C} {c : Nat → Option am_C} {m : mR} {l : List (Nat × Int)} {a : List (Nat × (Int → Int))} {i9 : am_I} {α β : Type} {F9 : β → ag_Re af_T → Prop}
theorem PK_aasn (pc' : Nat) {a' : List (Nat × (Int → Int))} (f : Int → Int) {len p p' p'' : Nat} {n : Int} (hi : me.2.2.2.2.2 pc = some (.aastore, len, p, p', p'')) (hp : pc + 1 = pc') (h0 : 0 ≤ n) (h1 : n < 12) (hK : KCn (mO m l a)) (hf : (mO m l a).2 106 = f) (ha : ins 106 (upI f n (-1)) a = a') (H : PP bb w D me (pc', lv, st, (khp (mO m l a') c, N), nc, ns) Q) : PP bb w D me (pc, lv, .null :: .int (i32 n) :: .ref 187 :: st, (khp (mO m l a) c, N), nc, ns) Q := by
  subst hf ha
  have hc : khp (mO m l a) c 187 = some (kfx (mO m l a) (7, 12, [])) := by
    rw [khp_lo _ c (by omega), klo_fx _ (by decide), kd_187]
  refine PG_astn pc' hi hc (Or.inr rfl) h0 (by omega) (by omega) ?_ hp H
  rw [← mO_a]
  refine khp_sets _ c hK.2.2 ?_
  rw [khp_lo _ c (by omega), klo_fx _ (by decide), kd_187]
  have e := kst_up (K := mO m l a) (x := -1) h0
  show some (Sum.inl (5, 12, Sum.inr (Sum.inr (Sum.inr (Sum.inr _))))) = _
  rw [e]
  try rfl
theorem PK_aasn2 (pc' : Nat) {a' : List (Nat × (Int → Int))} (f : Int → Int) {len p p' p'' : Nat} {n : Int} (hi : me.2.2.2.2.2 pc = some (.aastore, len, p, p', p'')) (hp : pc + 1 = pc') (hr : R32 n) (hK : KCn (mO m l a)) (hf : (mO m l a).2 106 = f) (ha : ins 106 (upI f n (-1)) a = a') (H : PP bb w D me (pc', lv, st, (khp (mO m l a') c, N), nc, ns) Q) : PP bb w D me (pc, lv, .null :: .int (i32 n) :: .ref 187 :: st, (khp (mO m l a) c, N), nc, ns) Q := by
  by_cases hb : 0 ≤ n ∧ n < 12
  · exact PK_aasn pc' f hi hp hb.1 hb.2 hK hf ha H
  · have hc : khp (mO m l a) c 187 = some (kfx (mO m l a) (7, 12, [])) := by
      rw [khp_lo _ c (by omega), klo_fx _ (by decide), kd_187]
    exact PG_astnN hi hc hr hb
end PKA
def FK0 (c : Nat → Option am_C) (N : Nat) : Int × mR → ag_Re af_T → Prop := fun y r => KCn y.2 ∧ r = (.inl none, (khp y.2 c, N), 0, 0)
def FK1 (c : Nat → Option am_C) (N : Nat) : Int × mR → ag_Re af_T → Prop := fun y r => R32 y.1 ∧ KCn y.2 ∧ r = (.inl (some (.int (i32 y.1))), (khp y.2 c, N), 0, 0)
def FK2 (c : Nat → Option am_C) (N : Nat) : Int × mR → ag_Re af_T → Prop := fun y r => R64 y.1 ∧ KCn y.2 ∧ r = (.inl (some (.long (i64 y.1))), (khp y.2 c, N), 0, 0)
def FX0 (c : Nat → Option am_C) (N : Nat) : Int × Int × mR → ag_Re af_T → Prop := fun y r => KCn y.2.2 ∧ ((y.1 = 0 ∧ r = (.inl none, (khp y.2.2 c, N), 0, 0)) ∨ (∃ x : Nat, y.1 = x + 1 ∧ r = (.inr x, (khp y.2.2 c, N), 1, 6)))
def FX1 (c : Nat → Option am_C) (N : Nat) : Int × Int × mR → ag_Re af_T → Prop := fun y r => KCn y.2.2 ∧ ((y.1 = 0 ∧ R32 y.2.1 ∧ r = (.inl (some (.int (i32 y.2.1))), (khp y.2.2 c, N), 0, 0)) ∨ (∃ x : Nat, y.1 = x + 1 ∧ r = (.inr x, (khp y.2.2 c, N), 1, 6)))
def FX2 (c : Nat → Option am_C) (N : Nat) : Int × Int × mR → ag_Re af_T → Prop := fun y r => KCn y.2.2 ∧ ((y.1 = 0 ∧ R64 y.2.1 ∧ r = (.inl (some (.long (i64 y.2.1))), (khp y.2.2 c, N), 0, 0)) ∨ (∃ x : Nat, y.1 = x + 1 ∧ r = (.inr x, (khp y.2.2 c, N), 1, 6)))
section PKC
variable {bb : Nat} {w : wX} {D : Nat} {me : am_M} {pc N : Nat} {lv : List (Nat × Value)} {st : List Value} {t : af_T} {c : Nat → Option am_C} {m : mR} {i : am_I} {β : Type} {F : β → ag_Re af_T → Prop}
theorem P_ck0 (pc' mi : Nat) (av rest : List Value) {M : mR} {T : Option (Int × mR)} {k : Int × mR → Option β} (hi : me.2.2.2.2.2 pc = some i) (hs : ∀ call, ag_step af_O 8192 w.1 (nm_E w.2.1 w.2.2.1 w.2.2.2) nm_cn (D + 1) call me i (pc, lv, st, (khp M c, N), 0, 0) = ag_back af_O 8192 (nm_E w.2.1 w.2.2.1 w.2.2.2) me.2.2.2.2.1 pc lv rest 0 0 (call mi av (khp M c, N))) (hp : pc + 3 = pc')
    (hc : PC w D mi av (khp M c, N) (QS (FK0 c N) T)) (h : ∀ y : Int × mR, KCn y.2 → PP bb w D me (pc', lv, rest, (khp (mO y.2 [] []) c, N), 0, 0) (QS F (k y))) : PP bb w D me (pc, lv, st, (khp M c, N), 0, 0) (QS F (bnd T k)) := by
  subst hp
  refine Pm_call hi hs hc (fun r hr => Or.inl ?_)
  obtain ⟨y, rfl, h1, rfl⟩ := hr
  exact ⟨_, _, 0, 0, rfl, h y h1⟩
theorem P_ck1 (pc' mi : Nat) (av rest : List Value) {M : mR} {T : Option (Int × mR)} {k : Int × mR → Option β} (hi : me.2.2.2.2.2 pc = some i) (hs : ∀ call, ag_step af_O 8192 w.1 (nm_E w.2.1 w.2.2.1 w.2.2.2) nm_cn (D + 1) call me i (pc, lv, st, (khp M c, N), 0, 0) = ag_back af_O 8192 (nm_E w.2.1 w.2.2.1 w.2.2.2) me.2.2.2.2.1 pc lv rest 0 0 (call mi av (khp M c, N))) (hp : pc + 3 = pc')
    (hc : PC w D mi av (khp M c, N) (QS (FK1 c N) T)) (h : ∀ y : Int × mR, R32 y.1 → KCn y.2 → PP bb w D me (pc', lv, .int (i32 y.1) :: rest, (khp (mO y.2 [] []) c, N), 0, 0) (QS F (k y))) : PP bb w D me (pc, lv, st, (khp M c, N), 0, 0) (QS F (bnd T k)) := by
  subst hp
  refine Pm_call hi hs hc (fun r hr => Or.inl ?_)
  obtain ⟨y, rfl, h0, h1, rfl⟩ := hr
  exact ⟨_, _, 0, 0, rfl, h y h0 h1⟩
theorem P_cx0 (pc' mi : Nat) (av rest : List Value) {M : mR} {T : Option (Int × Int × mR)} {k1 k2 : Int × Int × mR → Option β} (hi : me.2.2.2.2.2 pc = some i) (hs : ∀ call, ag_step af_O 8192 w.1 (nm_E w.2.1 w.2.2.1 w.2.2.2) nm_cn (D + 1) call me i (pc, lv, st, (khp M c, N), 0, 0) = ag_back af_O 8192 (nm_E w.2.1 w.2.2.1 w.2.2.2) me.2.2.2.2.1 pc lv rest 0 0 (call mi av (khp M c, N))) (hp : pc + 3 = pc') (hn : am_covered me.2.2.2.2.1 pc = false)
    (hc : PC w D mi av (khp M c, N) (QS (FX0 c N) T)) (hx : ∀ (y : Int × Int × mR) (x : Nat), KCn y.2.2 → y.1 = x + 1 → QS F (k2 y) (.inr x, (khp y.2.2 c, N), 1, 6)) (h : ∀ y : Int × Int × mR, KCn y.2.2 → PP bb w D me (pc', lv, rest, (khp (mO y.2.2 [] []) c, N), 0, 0) (QS F (k1 y))) : PP bb w D me (pc, lv, st, (khp M c, N), 0, 0) (QS F (bnd T fun y => if y.1 = 0 then k1 y else k2 y)) := by
  subst hp
  refine Pm_call hi hs hc (fun r hr => ?_)
  obtain ⟨y, rfl, h1, h2⟩ := hr
  show _ ∨ _
  rcases h2 with ⟨h3, rfl⟩ | ⟨x, h3, rfl⟩
  · refine Or.inl ⟨_, _, 0, 0, rfl, ?_⟩
    show PP bb w D me _ (QS F (if y.1 = 0 then k1 y else k2 y))
    rw [if_pos h3]
    exact h y h1
  · refine Or.inr ⟨x, _, 1, 6, rfl, hn, ?_⟩
    show QS F (if y.1 = 0 then k1 y else k2 y) _
    rw [if_neg (by omega)]
    exact hx y x h1 h3
theorem P_cx1 (pc' mi : Nat) (av rest : List Value) {M : mR} {T : Option (Int × Int × mR)} {k1 k2 : Int × Int × mR → Option β} (hi : me.2.2.2.2.2 pc = some i) (hs : ∀ call, ag_step af_O 8192 w.1 (nm_E w.2.1 w.2.2.1 w.2.2.2) nm_cn (D + 1) call me i (pc, lv, st, (khp M c, N), 0, 0) = ag_back af_O 8192 (nm_E w.2.1 w.2.2.1 w.2.2.2) me.2.2.2.2.1 pc lv rest 0 0 (call mi av (khp M c, N))) (hp : pc + 3 = pc') (hn : am_covered me.2.2.2.2.1 pc = false)
    (hc : PC w D mi av (khp M c, N) (QS (FX1 c N) T)) (hx : ∀ (y : Int × Int × mR) (x : Nat), KCn y.2.2 → y.1 = x + 1 → QS F (k2 y) (.inr x, (khp y.2.2 c, N), 1, 6)) (h : ∀ y : Int × Int × mR, R32 y.2.1 → KCn y.2.2 → PP bb w D me (pc', lv, .int (i32 y.2.1) :: rest, (khp (mO y.2.2 [] []) c, N), 0, 0) (QS F (k1 y))) : PP bb w D me (pc, lv, st, (khp M c, N), 0, 0) (QS F (bnd T fun y => if y.1 = 0 then k1 y else k2 y)) := by
  subst hp
  refine Pm_call hi hs hc (fun r hr => ?_)
  obtain ⟨y, rfl, h1, h2⟩ := hr
  show _ ∨ _
  rcases h2 with ⟨h3, h4, rfl⟩ | ⟨x, h3, rfl⟩
  · refine Or.inl ⟨_, _, 0, 0, rfl, ?_⟩
    show PP bb w D me _ (QS F (if y.1 = 0 then k1 y else k2 y))
    rw [if_pos h3]
    exact h y h4 h1
  · refine Or.inr ⟨x, _, 1, 6, rfl, hn, ?_⟩
    show QS F (if y.1 = 0 then k1 y else k2 y) _
    rw [if_neg (by omega)]
    exact hx y x h1 h3
theorem P_cx2 (pc' mi : Nat) (av rest : List Value) {M : mR} {T : Option (Int × Int × mR)} {k1 k2 : Int × Int × mR → Option β} (hi : me.2.2.2.2.2 pc = some i) (hs : ∀ call, ag_step af_O 8192 w.1 (nm_E w.2.1 w.2.2.1 w.2.2.2) nm_cn (D + 1) call me i (pc, lv, st, (khp M c, N), 0, 0) = ag_back af_O 8192 (nm_E w.2.1 w.2.2.1 w.2.2.2) me.2.2.2.2.1 pc lv rest 0 0 (call mi av (khp M c, N))) (hp : pc + 3 = pc') (hn : am_covered me.2.2.2.2.1 pc = false)
    (hc : PC w D mi av (khp M c, N) (QS (FX2 c N) T)) (hx : ∀ (y : Int × Int × mR) (x : Nat), KCn y.2.2 → y.1 = x + 1 → QS F (k2 y) (.inr x, (khp y.2.2 c, N), 1, 6)) (h : ∀ y : Int × Int × mR, R64 y.2.1 → KCn y.2.2 → PP bb w D me (pc', lv, .long (i64 y.2.1) :: rest, (khp (mO y.2.2 [] []) c, N), 0, 0) (QS F (k1 y))) : PP bb w D me (pc, lv, st, (khp M c, N), 0, 0) (QS F (bnd T fun y => if y.1 = 0 then k1 y else k2 y)) := by
  subst hp
  refine Pm_call hi hs hc (fun r hr => ?_)
  obtain ⟨y, rfl, h1, h2⟩ := hr
  show _ ∨ _
  rcases h2 with ⟨h3, h4, rfl⟩ | ⟨x, h3, rfl⟩
  · refine Or.inl ⟨_, _, 0, 0, rfl, ?_⟩
    show PP bb w D me _ (QS F (if y.1 = 0 then k1 y else k2 y))
    rw [if_pos h3]
    exact h y h4 h1
  · refine Or.inr ⟨x, _, 1, 6, rfl, hn, ?_⟩
    show QS F (if y.1 = 0 then k1 y else k2 y) _
    rw [if_neg (by omega)]
    exact hx y x h1 h3
theorem P_rk0 {len p q r : Nat} (hi : me.2.2.2.2.2 pc = some (.return_, len, p, q, r)) (hr : me.2.2.2.1 = none) (hm : KCn m) : PP bb w D me (pc, lv, [], (khp m c, N), 0, 0) (QS (FK0 c N) (some (0, m))) := by
  refine Pm_end (r := (.inl none, (khp m c, N), 0, 0)) hi (fun call => ?_) ⟨_, rfl, hm, rfl⟩
  show ag_end (am_return me.2.2.2.1 [] [] 0 0) _ = _
  rw [hr]
  rfl
theorem P_rk1 {x : Int} {len p q r : Nat} (hi : me.2.2.2.2.2 pc = some (.ireturn, len, p, q, r)) (hx : R32 x) (hm : KCn m) : PP bb w D me (pc, lv, [.int (i32 x)], (khp m c, N), 0, 0) (QS (FK1 c N) (some (x, m))) := P_reI hi ⟨_, rfl, hx, hm, rfl⟩
theorem P_rx0 {len p q r : Nat} (hi : me.2.2.2.2.2 pc = some (.return_, len, p, q, r)) (hr : me.2.2.2.1 = none) (hm : KCn m) : PP bb w D me (pc, lv, [], (khp m c, N), 0, 0) (QS (FX0 c N) (some (0, 0, m))) := by
  refine Pm_end (r := (.inl none, (khp m c, N), 0, 0)) hi (fun call => ?_) ⟨_, rfl, hm, Or.inl ⟨rfl, rfl⟩⟩
  show ag_end (am_return me.2.2.2.1 [] [] 0 0) _ = _
  rw [hr]
  rfl
theorem P_rx1 {x : Int} {len p q r : Nat} (hi : me.2.2.2.2.2 pc = some (.ireturn, len, p, q, r)) (hx : R32 x) (hm : KCn m) : PP bb w D me (pc, lv, [.int (i32 x)], (khp m c, N), 0, 0) (QS (FX1 c N) (some (0, x, m))) := P_reI hi ⟨_, rfl, hm, Or.inl ⟨rfl, hx, rfl⟩⟩
theorem P_rx2 {x : Int} {len p q r : Nat} (hi : me.2.2.2.2.2 pc = some (.lreturn, len, p, q, r)) (hr : me.2.2.2.1 = some .long) (hx : R64 x) (hm : KCn m) : PP bb w D me (pc, lv, [.long (i64 x)], (khp m c, N), 0, 0) (QS (FX2 c N) (some (0, x, m))) := by
  refine Pm_end (r := (.inl (some (.long (i64 x))), (khp m c, N), 0, 0)) hi (fun call => ?_) ⟨_, rfl, hm, Or.inl ⟨rfl, hx, rfl⟩⟩
  show ag_end (am_lreturn me.2.2.2.1 [.long (i64 x)] [] 0 0) _ = _
  rw [hr]
  rfl
end PKC
section PWX
variable {w : wX} {D : Nat} {me : am_M} {σ ξ : Type} {body : σ → Option (Sum σ ξ)} {CS : σ → Prop} {CX : ξ → Prop} {TX : ξ → ag_Re af_T → Prop} {hd : σ → (Nat → Int) → ag_St af_T} {ex : ξ → (Nat → Int) → ag_St af_T} {Qx : ξ → ag_Re af_T → Prop}
theorem P_whlx (hb : ∀ (bb : Nat) (Q2 : Sum σ ξ → ag_Re af_T → Prop), (∀ s j, CS s → PP bb w D me (hd s j) (Q2 (.inl s))) → (∀ x j, CX x → PP bb w D me (ex x j) (Q2 (.inr x))) → (∀ x r, TX x r → Q2 (.inr x) r) → ∀ s j, CS s → PP (bb + 1) w D me (hd s j) (QS Q2 (body s))) : ∀ (bb : Nat), (∀ x r, TX x r → Qx x r) → (∀ x j, CX x → PP bb w D me (ex x j) (Qx x)) → ∀ s j, CS s → PP bb w D me (hd s j) (QS Qx (whl body s)) := by
  intro bb
  induction bb with
  | zero => exact fun _ _ s j _ => Pm_0
  | succ bb ih =>
    intro ht hx s j hs
    have hx' : ∀ x j, CX x → PP bb w D me (ex x j) (Qx x) := fun x j h fuel n r hn hr => hx x j h fuel n r (by omega) hr
    refine Pm_w (hb bb (sel (fun s' => QS Qx (whl body s')) Qx) (fun s' j' hs' => ih ht hx' s' j' hs') hx' ht s j hs) (fun r hr => ?_)
    obtain ⟨y, h1, h2⟩ := hr
    rw [whl_eq, h1]
    cases y with
    | inl s' => exact h2
    | inr x => exact ⟨x, rfl, h2⟩
end PWX
