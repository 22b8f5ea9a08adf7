
abbrev XSt := Nat → Int → Int
abbrev PS9 := Nat → Int → Prop

def FPT (R W : PS9) (f : XSt → XSt) : Prop := (∀ x k j, ¬ W k j → f x k j = x k j) ∧ ∀ x x', (∀ k j, R k j → x k j = x' k j) → ∀ k j, W k j → (f x k j = x k j ∧ f x' k j = x' k j) ∨ f x k j = f x' k j
section SM1
variable {R W R' W' : PS9} {f g : XSt → XSt}
theorem FPT_0 : FPT (fun _ _ => False) (fun _ _ => False) (fun x => x) := ⟨fun _ _ _ _ => rfl, fun _ _ _ _ _ h => absurd h id⟩
theorem FPT_w (h : FPT R W f) (hR : ∀ k j, R k j → R' k j) (hW : ∀ k j, W k j → W' k j) : FPT R' W' f := by
  refine ⟨fun x k j q => h.1 x k j (fun w => q (hW k j w)), fun x x' e k j _ => ?_⟩
  by_cases w : W k j
  · exact h.2 x x' (fun k j r => e k j (hR k j r)) k j w
  · exact Or.inl ⟨h.1 x k j w, h.1 x' k j w⟩

theorem FPT_t (h : FPT R W f) (h' : FPT R W g) : FPT R W (fun x => g (f x)) := by
  refine ⟨fun x k j q => (h'.1 (f x) k j q).trans (h.1 x k j q), fun x x' e k j w => ?_⟩
  have ef : ∀ k j, R k j → f x k j = f x' k j := fun k j r => by
    by_cases w : W k j
    · rcases h.2 x x' e k j w with ⟨a, b⟩ | a
      · rw [a, b]; exact e k j r
      · exact a
    · rw [h.1 x k j w, h.1 x' k j w]; exact e k j r
  rcases h'.2 (f x) (f x') ef k j w with ⟨a, b⟩ | a
  · rcases h.2 x x' e k j w with ⟨a', b'⟩ | a'
    · exact Or.inl ⟨a.trans a', b.trans b'⟩
    · exact Or.inr (by show g (f x) k j = g (f x') k j; rw [a, b]; exact a')
  · exact Or.inr a

theorem FPT_c {α : Type} {F : α → XSt → XSt} {c : XSt → α} (h : ∀ a, FPT R W (F a)) (hc : ∀ x x', (∀ k j, R k j → x k j = x' k j) → c x = c x') : FPT R W (fun x => F (c x) x) := by
  refine ⟨fun x k j q => (h (c x)).1 x k j q, fun x x' e k j w => ?_⟩
  have ec := hc x x' e
  show (F (c x) x k j = x k j ∧ F (c x') x' k j = x' k j) ∨ F (c x) x k j = F (c x') x' k j
  rw [← ec]
  exact (h (c x)).2 x x' e k j w

theorem FPT_u {k0 : Nat} {p v : XSt → Int} (hp : ∀ x x', (∀ k j, R k j → x k j = x' k j) → p x = p x' ∧ v x = v x') (hw : ∀ x, W k0 (p x)) : FPT R W (fun x => fun k => if k = k0 then upI (x k) (p x) (v x) else x k) := by
  refine ⟨fun x k j q => ?_, fun x x' e k j w => ?_⟩
  · show (if k = k0 then upI (x k) (p x) (v x) else x k) j = x k j
    by_cases ek : k = k0
    · rw [if_pos ek, upI_n (fun z => q (by rw [ek, z]; exact hw x))]
    · rw [if_neg ek]
  · obtain ⟨e1, e2⟩ := hp x x' e
    show ((if k = k0 then upI (x k) (p x) (v x) else x k) j = x k j ∧ (if k = k0 then upI (x' k) (p x') (v x') else x' k) j = x' k j) ∨ (if k = k0 then upI (x k) (p x) (v x) else x k) j = (if k = k0 then upI (x' k) (p x') (v x') else x' k) j
    rw [← e1, ← e2]
    by_cases ek : k = k0
    · rw [if_pos ek, if_pos ek]
      by_cases ej : j = p x
      · rw [ej, upI_s, upI_s]
        exact Or.inr rfl
      · rw [upI_n ej, upI_n ej]
        exact Or.inl ⟨rfl, rfl⟩
    · rw [if_neg ek, if_neg ek]
      exact Or.inl ⟨rfl, rfl⟩

theorem FPT_s (h : FPT R W f) (h' : FPT R' W' g) (d1 : ∀ k j, W k j → ¬ R' k j ∧ ¬ W' k j) (d2 : ∀ k j, W' k j → ¬ R k j) (x : XSt) : f (g x) = g (f x) := by
  funext k j
  have a1 : ∀ k j, R k j → g x k j = x k j := fun k j r => h'.1 x k j (fun w => d2 k j w r)
  have a2 : ∀ k j, R' k j → f x k j = x k j := fun k j r => h.1 x k j (fun w => (d1 k j w).1 r)
  by_cases w : W k j
  · have nw := (d1 k j w).2
    rw [h'.1 (f x) k j nw]
    rcases h.2 (g x) x a1 k j w with ⟨b1, b2⟩ | b
    · rw [b1, b2]; exact h'.1 x k j nw
    · exact b
  · rw [h.1 (g x) k j w]
    by_cases w' : W' k j
    · rcases h'.2 (f x) x a2 k j w' with ⟨b1, b2⟩ | b
      · rw [b1, b2]; exact (h.1 x k j w).symm
      · exact b.symm
    · rw [h'.1 x k j w', h'.1 (f x) k j w']
      exact (h.1 x k j w).symm
end SM1

def remk (x n : Int) : Int := (kf_op_remainder x n (fun _ => 0, fun _ _ => 0)).getD 0
theorem remk_v (x n : Int) (K : mR) : kf_op_remainder x n K = some (remk x n) := by
  unfold remk kf_op_remainder
  by_cases h : (1 : Int) ≤ n
  · rw [if_pos h]; rfl
  · rw [if_neg h]; rfl
def setp (k0 : Nat) (p v : Int) (x : XSt) : XSt := fun k => if k = k0 then upI (x k) p v else x k

def aput (s v : Int) (x : XSt) : XSt := if 204 ≤ s ∨ x 0 (s - s % 17) ≠ 0 then setp 0 s v x else x
def atake (s : Int) (x : XSt) : XSt := fun k => if k = 0 then (fun j => if s ≤ j ∧ j < s + 17 then 0 else x 0 j) else x k
def aidx (K : mR) (pa : Int → Int) (d : Int) (x : XSt) : Int := if K.2 47 d = -1 then -1 else K.2 47 d * 64 + remk (ev K (x 0) pa (K.2 48 d) (K.2 49 d)) (K.2 16 (K.2 47 d))
def aval (K : mR) (pa : Int → Int) (d : Int) (x : XSt) : Int := if K.2 51 d = -1 then 0 else ev K (x 0) pa (K.2 50 d) (K.2 51 d)
def adeed (K : mR) (pa : Int → Int) (d : Int) (x : XSt) : XSt := if K.2 45 d = 61 then aput (K.2 46 d) (aval K pa d x) x else if K.2 45 d = 325 then atake (K.2 46 d) x else if K.2 45 d = 327 then aput (K.2 46 d) (x 1 (aidx K pa d x)) x else if K.2 45 d = 328 then setp 1 (aidx K pa d x) (aval K pa d x) x else setp 0 (K.2 46 d) 1 x
def adeeds (K : mR) (pa : Int → Int) (f : Int) : Nat → XSt → XSt
  | 0, x => x
  | n + 1, x => adeed K pa (f + n) (adeeds K pa f n x)
def akeys (K : mR) (t : Int) (x : XSt) : Int → Int := fun i => if 0 ≤ i ∧ i < K.2 72 t then ev K (x 0) (fun _ => 0) (K.2 79 (65536 * t + i)) (K.2 80 (65536 * t + i)) else 0

def adoes (K : mR) (lk : Int → (Int → Int) → Int × (Int → Int)) (s : Int) (x : XSt) : XSt := if K.2 52 s = 1 then setp 2 s (cut (ev K (x 0) (fun _ => 0) (K.2 57 s) (K.2 58 s))) x else if K.2 52 s = 2 then setp 2 s (lk (K.2 55 s) (akeys K (K.2 55 s) x)).1 (adeeds K (lk (K.2 55 s) (akeys K (K.2 55 s) x)).2 (K.2 43 (lk (K.2 55 s) (akeys K (K.2 55 s) x)).1) (K.2 44 (lk (K.2 55 s) (akeys K (K.2 55 s) x)).1).toNat x) else setp 2 s 0 (adeed K (fun _ => 0) (K.2 56 s) x)
def astep (K : mR) (lk : Int → (Int → Int) → Int × (Int → Int)) (s : Int) (x : XSt) : XSt := if K.2 53 s = -1 ∨ x 2 (K.2 53 s) = K.2 54 s then adoes K lk s x else x


def XRa (K : mR) (ac a r : Int) : Prop := (∃ B, XRk B ac K a r) ∧ ∀ j, a ≤ j → j ≤ r → K.2 18 j = 401 → 0 ≤ K.2 19 j ∧ K.2 19 j < 4
def XR1 (K : mR) (a r : Int) : Prop := ∃ ac, XRa K ac a r
def RDE (K : mR) (a r : Int) : PS9 := fun k j => k = 0 ∧ r ≠ -1 ∧ ∃ i, a ≤ i ∧ i ≤ r ∧ K.2 18 i = 400 ∧ K.2 19 i = j
def RDD (K : mR) (d : Int) : PS9 := fun k j => RDE K (K.2 48 d) (K.2 49 d) k j ∨ RDE K (K.2 50 d) (K.2 51 d) k j ∨ (k = 0 ∧ (K.2 45 d = 61 ∨ K.2 45 d = 327) ∧ K.2 46 d < 204 ∧ j = K.2 46 d - K.2 46 d % 17) ∨ (k = 1 ∧ K.2 47 d ≠ -1 ∧ 64 * K.2 47 d ≤ j ∧ j < 64 * K.2 47 d + 64)
def WRD (K : mR) (d : Int) : PS9 := fun k j => (k = 0 ∧ K.2 46 d ≠ -1 ∧ (j = K.2 46 d ∨ ((K.2 45 d = 324 ∨ K.2 45 d = 325) ∧ K.2 46 d ≤ j ∧ j < K.2 46 d + 17))) ∨ (k = 1 ∧ K.2 47 d ≠ -1 ∧ 64 * K.2 47 d ≤ j ∧ j < 64 * K.2 47 d + 64)

def ARw (K : mR) (d : Int) : Prop := (0 ≤ K.2 47 d ∧ K.2 47 d ≤ 7) ∧ 1 ≤ K.2 16 (K.2 47 d) ∧ K.2 16 (K.2 47 d) ≤ 64
def SLw (K : mR) (d : Int) : Prop := 0 ≤ K.2 46 d ∧ K.2 46 d ≤ 220
def DWF (K : mR) (d : Int) : Prop := (K.2 45 d = 61 ∧ SLw K d ∧ K.2 47 d = -1 ∧ K.2 49 d = -1 ∧ K.2 51 d ≠ -1 ∧ XR1 K (K.2 50 d) (K.2 51 d)) ∨ (K.2 45 d = 327 ∧ SLw K d ∧ ARw K d ∧ K.2 49 d ≠ -1 ∧ XR1 K (K.2 48 d) (K.2 49 d) ∧ K.2 51 d = -1) ∨ (K.2 45 d = 328 ∧ ARw K d ∧ K.2 49 d ≠ -1 ∧ XR1 K (K.2 48 d) (K.2 49 d) ∧ K.2 51 d ≠ -1 ∧ XR1 K (K.2 50 d) (K.2 51 d)) ∨ ((K.2 45 d = 324 ∨ K.2 45 d = 325 ∨ K.2 45 d = 326) ∧ SLw K d ∧ K.2 46 d ≤ 220 ∧ (K.2 45 d = 325 → K.2 46 d ≤ 187) ∧ K.2 47 d = -1 ∧ K.2 51 d = -1)
section SM2
variable {K : mR} {x x' : XSt}
theorem ev_R {a r : Int} {pa : Int → Int} {R : PS9} (hx : XR1 K a r) (hr : r ≠ -1) (hR : ∀ k j, RDE K a r k j → R k j) (e : ∀ k j, R k j → x k j = x' k j) : ev K (x 0) pa a r = ev K (x' 0) pa a r := by
  obtain ⟨ac, ⟨B, h⟩, -⟩ := hx
  exact ev_c h (fun j j0 j1 q => e 0 _ (hR 0 _ ⟨rfl, hr, j, j0, j1, q, rfl⟩)) (fun _ _ _ _ => rfl)
theorem rem_v {x n : Int} (x0 : 0 ≤ x) (x1 : x < 9223372036854775808) (n0 : 1 ≤ n) (n1 : n ≤ 64) : rem64 x n = x % n := by
  unfold rem64
  have q0 : 0 ≤ x / n := Int.ediv_nonneg x0 (by omega)
  have q1 : x / n ≤ x := Int.ediv_le_self n x0
  have e : i64 x / i64 n = i64 (x / n) := by
    apply Int64.toInt_inj.mp
    rw [Int64.toInt_div, i64_to ⟨by omega, x1⟩, i64_to ⟨by omega, by omega⟩, i64_to ⟨by omega, by omega⟩, Int.tdiv_eq_ediv_of_nonneg x0]
    exact Int.bmod_eq_of_le (by omega) (by omega)
  have e1 : i64 (x / n) * i64 n = i64 (x / n * n) := (Int64.ofInt_mul _ _).symm
  have e2 : x - x / n * n = x % n := by
    have h1 := Int.emod_add_mul_ediv x n
    have h2 := Int.mul_comm (x / n) n
    omega
  have a := Int.emod_nonneg x (show n ≠ 0 by omega)
  have b := Int.emod_lt_of_pos x (show 0 < n by omega)
  rw [e, e1, i64_sub, e2]
  exact i64_to ⟨by omega, by omega⟩
theorem rem_u {v n : Int} (n0 : 1 ≤ n) (n1 : n ≤ 64) (hv : 0 ≤ v ∧ v < 9223372036854775808) : 0 ≤ rem64 v n ∧ rem64 v n < n := by
  rw [rem_v hv.1 hv.2 n0 n1]
  exact ⟨Int.emod_nonneg v (by omega), Int.emod_lt_of_pos v (by omega)⟩
theorem ushr_0 (v : Int) : 0 ≤ ushr64 v 1 ∧ ushr64 v 1 < 9223372036854775808 := by
  have e := un_ushr v (k := 1) (by decide)
  have l := un_lt v
  have e : un (ushr64 v 1) = un v >>> 1 := e
  rw [Nat.shiftRight_eq_div_pow] at e
  have b : un (ushr64 v 1) < 9223372036854775808 := by omega
  have t : ushr64 v 1 = ((un (ushr64 v 1) : Nat) : Int) := by
    have i : (i64 (ushr64 v 1)).toInt = ushr64 v 1 := i64_to t64_r
    have j : (i64 (ushr64 v 1)).toInt = (((i64 (ushr64 v 1)).toBitVec.toNat : Nat) : Int) := by
      show (i64 (ushr64 v 1)).toBitVec.toInt = _
      exact BitVec.toInt_eq_toNat_of_lt (by show 2 * un (ushr64 v 1) < 2 ^ 64; omega)
    exact i.symm.trans j
  omega
theorem and_01 (v : Int) : 0 ≤ and64 v 1 ∧ and64 v 1 ≤ 1 := by
  have w : VW (and64 v 1) 1 := ⟨and_r, fun i hi => by rw [bq_and, bt_01.2, decide_eq_false (by omega), Bool.and_false]⟩
  rcases VW_1 w with q | q <;> omega
theorem remk_r {v n : Int} (n0 : 1 ≤ n) (n1 : n ≤ 64) : 0 ≤ remk v n ∧ remk v n < n := by
  have e : remk v n = cut (rem64 (cutl ((cutl ((rem64 (ushr64 v 1) n) * 2)) + (and64 v 1))) n) := by
    unfold remk kf_op_remainder
    rw [if_pos n0]
    rfl
  have b1 : 0 ≤ rem64 (ushr64 v 1) n ∧ rem64 (ushr64 v 1) n < n := rem_u n0 n1 (ushr_0 v)
  have a1 := and_01 v
  rw [e, cutl_i (z := rem64 (ushr64 v 1) n * 2) (by omega) (by omega), cutl_i (by omega) (by omega)]
  have b2 := rem_u (v := rem64 (ushr64 v 1) n * 2 + and64 v 1) n0 n1 ⟨by omega, by omega⟩
  rw [cut_i (by omega) (by omega)]
  exact b2
theorem aput_F {s : Int} {R W : PS9} {v : XSt → Int} (hv : ∀ x x', (∀ k j, R k j → x k j = x' k j) → v x = v x') (hR : s < 204 → R 0 (s - s % 17)) (hW : W 0 s) : FPT R W (fun x => aput s (v x) x) := by
  have hA : ∀ b : Bool, FPT R W ((fun (b : Bool) (x : XSt) => if b = true then setp 0 s (v x) x else x) b) := fun b => by
    cases b with
    | true => exact FPT_u (k0 := 0) (p := fun _ => s) (v := v) (fun x x' e => ⟨rfl, hv x x' e⟩) (fun _ => hW)
    | false => exact FPT_w FPT_0 (fun _ _ q => absurd q id) (fun _ _ q => absurd q id)
  have hB : ∀ x x' : XSt, (∀ k j, R k j → x k j = x' k j) → (fun x : XSt => decide (204 ≤ s ∨ x 0 (s - s % 17) ≠ 0)) x = (fun x : XSt => decide (204 ≤ s ∨ x 0 (s - s % 17) ≠ 0)) x' := fun x x' e => by
    show decide (204 ≤ s ∨ x 0 (s - s % 17) ≠ 0) = decide (204 ≤ s ∨ x' 0 (s - s % 17) ≠ 0)
    by_cases hs : s < 204
    · rw [e 0 _ (hR hs)]
    · have h4 : 204 ≤ s := by omega
      rw [decide_eq_true (Or.inl h4), decide_eq_true (Or.inl h4)]
  have h := FPT_c (F := (fun (b : Bool) (x : XSt) => if b = true then setp 0 s (v x) x else x)) (c := (fun x : XSt => decide (204 ≤ s ∨ x 0 (s - s % 17) ≠ 0))) hA hB
  · have e : (fun x => (if decide (204 ≤ s ∨ x 0 (s - s % 17) ≠ 0) = true then setp 0 s (v x) x else x)) = (fun x : XSt => aput s (v x) x) := by
      funext x
      unfold aput
      by_cases q : 204 ≤ s ∨ x 0 (s - s % 17) ≠ 0
      · rw [if_pos q, if_pos (decide_eq_true q)]
      · rw [if_neg q, if_neg (by rw [decide_eq_false q]; decide)]
    rw [← e]
    exact h
theorem atake_F {s : Int} {R W : PS9} (hW : ∀ j, s ≤ j → j < s + 17 → W 0 j) : FPT R W (atake s) := by
  refine ⟨fun x k j q => ?_, fun x x' e k j w => ?_⟩
  · unfold atake
    by_cases ek : k = 0
    · subst ek
      rw [if_pos rfl]
      by_cases ej : s ≤ j ∧ j < s + 17
      · exact absurd (hW j ej.1 ej.2) q
      · exact if_neg ej
    · rw [if_neg ek]
  · unfold atake
    by_cases ek : k = 0
    · subst ek
      rw [if_pos rfl, if_pos rfl]
      by_cases ej : s ≤ j ∧ j < s + 17
      · exact Or.inr (by rw [if_pos ej, if_pos ej])
      · exact Or.inl ⟨if_neg ej, if_neg ej⟩
    · rw [if_neg ek, if_neg ek]
      exact Or.inl ⟨rfl, rfl⟩

theorem adeed_F {pa : Int → Int} {d : Int} (h : DWF K d) : FPT (RDD K d) (WRD K d) (adeed K pa d) := by
  unfold adeed
  have sn : SLw K d → K.2 46 d ≠ -1 := fun q => by have := q.1; omega
  have an : ARw K d → K.2 47 d ≠ -1 := fun q => by have := q.1.1; omega
  rcases h with ⟨k1, s1, a1, i1, v0, v1⟩ | ⟨k1, s1, q0, i0, i1, v0⟩ | ⟨k1, q0, i0, i1, v0, v1⟩ | ⟨k1, s1, -⟩
  · have s0 := sn s1
    simp only [if_pos k1]
    refine aput_F (v := fun x => aval K pa d x) (fun x x' e => ?_) (fun hs => Or.inr (Or.inr (Or.inl ⟨rfl, Or.inl k1, hs, rfl⟩))) (Or.inl ⟨rfl, s0, Or.inl rfl⟩)
    unfold aval
    rw [if_neg v0, if_neg v0]
    exact ev_R v1 v0 (fun k j q => Or.inr (Or.inl q)) e
  · have s0 := sn s1
    have a0 := an q0
    obtain ⟨-, z0, z1⟩ := q0
    have n1 : ¬ K.2 45 d = 61 := by omega
    have n2 : ¬ K.2 45 d = 325 := by omega
    simp only [if_neg n1, if_neg n2, if_pos k1]
    refine aput_F (v := fun x => x 1 (aidx K pa d x)) (fun x x' e => ?_) (fun hs => Or.inr (Or.inr (Or.inl ⟨rfl, Or.inr k1, hs, rfl⟩))) (Or.inl ⟨rfl, s0, Or.inl rfl⟩)
    have ei : aidx K pa d x = aidx K pa d x' := by
      unfold aidx
      rw [if_neg a0, if_neg a0, ev_R i1 i0 (fun k j q => Or.inl q) e]
    rw [ei]
    refine e 1 _ (Or.inr (Or.inr (Or.inr ⟨rfl, a0, ?_⟩)))
    unfold aidx
    rw [if_neg a0]
    have b := remk_r (v := ev K (x' 0) pa (K.2 48 d) (K.2 49 d)) z0 z1
    omega
  · have a0 := an q0
    obtain ⟨-, z0, z1⟩ := q0
    have n1 : ¬ K.2 45 d = 61 := by omega
    have n2 : ¬ K.2 45 d = 325 := by omega
    have n3 : ¬ K.2 45 d = 327 := by omega
    simp only [if_neg n1, if_neg n2, if_neg n3, if_pos k1]
    refine FPT_u (k0 := 1) (p := fun x => aidx K pa d x) (v := fun x => aval K pa d x) (fun x x' e => ⟨?_, ?_⟩) (fun x => ?_)
    · unfold aidx
      rw [if_neg a0, if_neg a0, ev_R i1 i0 (fun k j q => Or.inl q) e]
    · unfold aval
      rw [if_neg v0, if_neg v0]
      exact ev_R v1 v0 (fun k j q => Or.inr (Or.inl q)) e
    · unfold aidx
      rw [if_neg a0]
      have b := remk_r (v := ev K (x 0) pa (K.2 48 d) (K.2 49 d)) z0 z1
      exact Or.inr ⟨rfl, a0, by omega, by omega⟩
  · have s0 := sn s1
    have n1 : ¬ K.2 45 d = 61 := by omega
    have n3 : ¬ K.2 45 d = 327 := by omega
    have n4 : ¬ K.2 45 d = 328 := by omega
    by_cases k2 : K.2 45 d = 325
    · simp only [if_neg n1, if_pos k2]
      exact atake_F (fun j j0 j1 => Or.inl ⟨rfl, s0, Or.inr ⟨Or.inr k2, j0, j1⟩⟩)
    · simp only [if_neg n1, if_neg k2, if_neg n3, if_neg n4]
      exact FPT_u (k0 := 0) (p := fun _ => K.2 46 d) (v := fun _ => 1) (fun x x' e => ⟨rfl, rfl⟩) (fun _ => Or.inl ⟨rfl, s0, Or.inl rfl⟩)
theorem adeeds_F {pa : Int → Int} {f : Int} {R W : PS9} : ∀ {n : Nat}, (∀ i : Nat, i < n → FPT R W (adeed K pa (f + i))) → FPT R W (adeeds K pa f n) := by
  intro n
  induction n with
  | zero => intro _; exact FPT_w FPT_0 (fun _ _ q => absurd q id) (fun _ _ q => absurd q id)
  | succ n ih =>
    intro h
    show FPT R W (fun x => adeed K pa (f + n) (adeeds K pa f n x))
    exact FPT_t (ih (fun i hi => h i (by omega))) (h n (by omega))
end SM2


def ACTS (K : mR) (s a : Int) : Prop := a = K.2 74 (K.2 55 s) ∨ ∃ i, 0 ≤ i ∧ i < K.2 73 (K.2 55 s) ∧ K.2 83 (65536 * K.2 55 s + i) = a
def RDs (K : mR) (s : Int) : PS9 := fun k j => (K.2 52 s = 1 ∧ RDE K (K.2 57 s) (K.2 58 s) k j) ∨ (K.2 52 s = 0 ∧ RDD K (K.2 56 s) k j) ∨ (K.2 52 s = 2 ∧ ((∃ i, 0 ≤ i ∧ i < K.2 72 (K.2 55 s) ∧ RDE K (K.2 79 (65536 * K.2 55 s + i)) (K.2 80 (65536 * K.2 55 s + i)) k j) ∨ ∃ a, ACTS K s a ∧ ∃ i, 0 ≤ i ∧ i < K.2 44 a ∧ RDD K (K.2 43 a + i) k j)) ∨ (k = 2 ∧ K.2 53 s ≠ -1 ∧ j = K.2 53 s)
def WRs (K : mR) (s : Int) : PS9 := fun k j => (K.2 52 s = 0 ∧ WRD K (K.2 56 s) k j) ∨ (K.2 52 s = 2 ∧ ∃ a, ACTS K s a ∧ ∃ i, 0 ≤ i ∧ i < K.2 44 a ∧ WRD K (K.2 43 a + i) k j) ∨ (k = 2 ∧ j = s)

def SWF (K : mR) (lk : Int → (Int → Int) → Int × (Int → Int)) (s : Int) : Prop := (K.2 52 s = 0 ∧ DWF K (K.2 56 s)) ∨ (K.2 52 s = 1 ∧ K.2 58 s ≠ -1 ∧ XR1 K (K.2 57 s) (K.2 58 s)) ∨ (K.2 52 s = 2 ∧ (∀ i, 0 ≤ i → i < K.2 72 (K.2 55 s) → K.2 80 (65536 * K.2 55 s + i) ≠ -1 ∧ XR1 K (K.2 79 (65536 * K.2 55 s + i)) (K.2 80 (65536 * K.2 55 s + i))) ∧ (∀ ks, ACTS K s (lk (K.2 55 s) ks).1) ∧ ∀ a, ACTS K s a → ∀ i, 0 ≤ i → i < K.2 44 a → DWF K (K.2 43 a + i))
section SM3
variable {K : mR} {lk : Int → (Int → Int) → Int × (Int → Int)} {s : Int}

theorem did_F {R W : PS9} {f : XSt → XSt} {v : XSt → Int} (hf : FPT R W f) (hv : ∀ x x', (∀ k j, R k j → x k j = x' k j) → v x = v x') (hw : W 2 s) : FPT R W (fun x => setp 2 s (v x) (f x)) := by
  refine ⟨fun x k j q => ?_, fun x x' e k j w => ?_⟩
  · show (if k = 2 then upI (f x k) s (v x) else f x k) j = x k j
    by_cases ek : k = 2
    · rw [if_pos ek, upI_n (fun z => q (by rw [ek, z]; exact hw))]
      exact hf.1 x k j q
    · rw [if_neg ek]
      exact hf.1 x k j q
  · show ((if k = 2 then upI (f x k) s (v x) else f x k) j = x k j ∧ (if k = 2 then upI (f x' k) s (v x') else f x' k) j = x' k j) ∨ (if k = 2 then upI (f x k) s (v x) else f x k) j = (if k = 2 then upI (f x' k) s (v x') else f x' k) j
    by_cases ek : k = 2
    · rw [if_pos ek, if_pos ek]
      by_cases ej : j = s
      · rw [ej, upI_s, upI_s]
        exact Or.inr (hv x x' e)
      · rw [upI_n ej, upI_n ej]
        exact hf.2 x x' e k j w
    · rw [if_neg ek, if_neg ek]
      exact hf.2 x x' e k j w
theorem akeys_R {R : PS9} {x x' : XSt} {t : Int} (h : ∀ i, 0 ≤ i → i < K.2 72 t → K.2 80 (65536 * t + i) ≠ -1 ∧ XR1 K (K.2 79 (65536 * t + i)) (K.2 80 (65536 * t + i)) ∧ ∀ k j, RDE K (K.2 79 (65536 * t + i)) (K.2 80 (65536 * t + i)) k j → R k j) (e : ∀ k j, R k j → x k j = x' k j) : akeys K t x = akeys K t x' := by
  funext i
  unfold akeys
  by_cases q : 0 ≤ i ∧ i < K.2 72 t
  · rw [if_pos q, if_pos q]
    obtain ⟨h1, h2, h3⟩ := h i q.1 q.2
    exact ev_R h2 h1 h3 e
  · rw [if_neg q, if_neg q]
theorem astep_F (h : SWF K lk s) : FPT (RDs K s) (WRs K s) (astep K lk s) := by
  have w2 : WRs K s 2 s := Or.inr (Or.inr ⟨rfl, rfl⟩)
  have body : FPT (RDs K s) (WRs K s) (adoes K lk s) := by
    unfold adoes
    rcases h with ⟨k1, d1⟩ | ⟨k1, r1, x1⟩ | ⟨k1, h1, h2, h3⟩
    · have n1 : ¬ K.2 52 s = 1 := by omega
      have n2 : ¬ K.2 52 s = 2 := by omega
      simp only [if_neg n1, if_neg n2]
      exact did_F (v := fun _ => 0) (FPT_w (adeed_F d1) (fun k j q => Or.inr (Or.inl ⟨k1, q⟩)) (fun k j q => Or.inl ⟨k1, q⟩)) (fun _ _ _ => rfl) w2
    · simp only [if_pos k1]
      exact did_F (f := fun x => x) (v := fun x => cut (ev K (x 0) (fun _ => 0) (K.2 57 s) (K.2 58 s))) (FPT_w FPT_0 (fun _ _ q => absurd q id) (fun _ _ q => absurd q id)) (fun x x' e => by rw [ev_R x1 r1 (fun k j q => Or.inl ⟨k1, q⟩) e]) w2
    · have n1 : ¬ K.2 52 s = 1 := by omega
      simp only [if_neg n1, if_pos k1]
      have kR : ∀ x x' : XSt, (∀ k j, RDs K s k j → x k j = x' k j) → akeys K (K.2 55 s) x = akeys K (K.2 55 s) x' := fun x x' e => akeys_R (fun i i0 i1 => ⟨(h1 i i0 i1).1, (h1 i i0 i1).2, fun k j q => Or.inr (Or.inr (Or.inl ⟨k1, Or.inl ⟨i, i0, i1, q⟩⟩))⟩) e
      refine did_F (v := fun x => (lk (K.2 55 s) (akeys K (K.2 55 s) x)).1) (f := fun x => adeeds K (lk (K.2 55 s) (akeys K (K.2 55 s) x)).2 (K.2 43 (lk (K.2 55 s) (akeys K (K.2 55 s) x)).1) (K.2 44 (lk (K.2 55 s) (akeys K (K.2 55 s) x)).1).toNat x) ?_ (fun x x' e => by rw [kR x x' e]) w2
      refine FPT_c (α := Int → Int) (F := fun ks x => adeeds K (lk (K.2 55 s) ks).2 (K.2 43 (lk (K.2 55 s) ks).1) (K.2 44 (lk (K.2 55 s) ks).1).toNat x) (c := fun x => akeys K (K.2 55 s) x) (fun ks => ?_) kR
      have ha := h2 ks
      refine adeeds_F (fun i hi => FPT_w (adeed_F (h3 _ ha i (by omega) (by omega))) (fun k j q => ?_) (fun k j q => ?_))
      · exact Or.inr (Or.inr (Or.inl ⟨k1, Or.inr ⟨_, ha, i, by omega, by omega, q⟩⟩))
      · exact Or.inr (Or.inl ⟨k1, _, ha, i, by omega, by omega, q⟩)
  unfold astep
  have hA : ∀ b : Bool, FPT (RDs K s) (WRs K s) ((fun (b : Bool) (x : XSt) => if b = true then adoes K lk s x else x) b) := fun b => by
    cases b with
    | true => exact body
    | false => exact FPT_w FPT_0 (fun _ _ q => absurd q id) (fun _ _ q => absurd q id)
  have hB : ∀ x x' : XSt, (∀ k j, RDs K s k j → x k j = x' k j) → (fun x : XSt => decide (K.2 53 s = -1 ∨ x 2 (K.2 53 s) = K.2 54 s)) x = (fun x : XSt => decide (K.2 53 s = -1 ∨ x 2 (K.2 53 s) = K.2 54 s)) x' := fun x x' e => by
    show decide (K.2 53 s = -1 ∨ x 2 (K.2 53 s) = K.2 54 s) = decide (K.2 53 s = -1 ∨ x' 2 (K.2 53 s) = K.2 54 s)
    by_cases hs : K.2 53 s = -1
    · rw [decide_eq_true (Or.inl hs), decide_eq_true (Or.inl hs)]
    · rw [e 2 _ (Or.inr (Or.inr (Or.inr ⟨rfl, hs, rfl⟩)))]
  have h := FPT_c (F := (fun (b : Bool) (x : XSt) => if b = true then adoes K lk s x else x)) (c := (fun x : XSt => decide (K.2 53 s = -1 ∨ x 2 (K.2 53 s) = K.2 54 s))) hA hB
  · have e : (fun x : XSt => (if decide (K.2 53 s = -1 ∨ x 2 (K.2 53 s) = K.2 54 s) = true then adoes K lk s x else x)) = (fun x : XSt => if K.2 53 s = -1 ∨ x 2 (K.2 53 s) = K.2 54 s then adoes K lk s x else x) := by
      funext x
      by_cases q : K.2 53 s = -1 ∨ x 2 (K.2 53 s) = K.2 54 s
      · rw [if_pos q, if_pos (decide_eq_true q)]
      · rw [if_neg q, if_neg (by rw [decide_eq_false q]; decide)]
    rw [← e]
    exact h

theorem astep_s {s' : Int} (h : SWF K lk s) (h' : SWF K lk s') (hne : s ≠ s') (hp : K.2 53 s ≠ s') (hp' : K.2 53 s' ≠ s) (d1 : ∀ k j, k < 2 → WRs K s k j → ¬ RDs K s' k j ∧ ¬ WRs K s' k j) (d2 : ∀ k j, k < 2 → WRs K s' k j → ¬ RDs K s k j) (x : XSt) : astep K lk s (astep K lk s' x) = astep K lk s' (astep K lk s x) := by
  have no2 : ∀ (s : Int) (j : Int), WRs K s 2 j → j = s := fun s j q => by
    rcases q with ⟨-, q⟩ | ⟨-, a, -, i, -, -, q⟩ | ⟨-, q⟩
    · rcases q with ⟨q, -⟩ | ⟨q, -⟩ <;> exact absurd q (by decide)
    · rcases q with ⟨q, -⟩ | ⟨q, -⟩ <;> exact absurd q (by decide)
    · exact q
  have nr2 : ∀ (s : Int) (j : Int), RDs K s 2 j → j = K.2 53 s := fun s j q => by
    have ne : ∀ a r, ¬ RDE K a r 2 j := fun a r q => absurd q.1 (by decide)
    have nd : ∀ d, ¬ RDD K d 2 j := fun d q => by
      rcases q with q | q | ⟨q, -⟩ | ⟨q, -⟩
      · exact ne _ _ q
      · exact ne _ _ q
      · exact absurd q (by decide)
      · exact absurd q (by decide)
    rcases q with ⟨-, q⟩ | ⟨-, q⟩ | ⟨-, q⟩ | ⟨-, -, q⟩
    · exact absurd q (ne _ _)
    · exact absurd q (nd _)
    · rcases q with ⟨i, -, -, q⟩ | ⟨a, -, i, -, -, q⟩
      · exact absurd q (ne _ _)
      · exact absurd q (nd _)
    · exact q
  have k3 : ∀ (s : Int) (k : Nat) (j : Int), WRs K s k j → k < 3 := fun s k j q => by
    rcases q with ⟨-, q⟩ | ⟨-, a, -, i, -, -, q⟩ | ⟨q, -⟩
    · rcases q with ⟨q, -⟩ | ⟨q, -⟩ <;> omega
    · rcases q with ⟨q, -⟩ | ⟨q, -⟩ <;> omega
    · omega
  refine FPT_s (astep_F h) (astep_F h') (fun k j w => ?_) (fun k j w => ?_) x
  · by_cases k2 : k < 2
    · exact d1 k j k2 w
    · have e : k = 2 := by have := k3 s k j w; omega
      subst e
      have ej := no2 s j w
      refine ⟨fun q => hp' ?_, fun q => hne ?_⟩
      · rw [← nr2 s' j q]; exact ej
      · rw [← ej]; exact no2 s' j q
  · by_cases k2 : k < 2
    · exact d2 k j k2 w
    · have e : k = 2 := by have := k3 s' k j w; omega
      subst e
      exact fun q => hp (by rw [← nr2 s j q]; exact no2 s' j w)
end SM3


def XSk (r : Int) (K : mR) : XSt := fun k => if k = 0 then fun s => K.2 101 (65536 * r + s) else if k = 1 then K.2 71 else if k = 2 then fun s => K.2 102 (65536 * r + s) else fun _ => 0
def pak (r : Int) (K : mR) : Int → Int := fun s => K.2 105 (65536 * r + s)

def rowC (k : Nat) (r : Int) (K K' : mR) : Prop := ∀ j, j < 65536 * r ∨ 65536 * r + 65536 ≤ j → K'.2 k j = K.2 k j
section SM4
variable {K K' : mR} {r : Int}
theorem XSk_c (e1 : K'.2 101 = K.2 101) (e2 : K'.2 71 = K.2 71) (e3 : K'.2 102 = K.2 102) : XSk r K' = XSk r K := by
  unfold XSk
  rw [e1, e2, e3]
theorem XSk_s {s v : Int} (e1 : K'.2 101 = upI (K.2 101) (65536 * r + s) v) (e2 : K'.2 71 = K.2 71) (e3 : K'.2 102 = K.2 102) : XSk r K' = setp 0 s v (XSk r K) := by
  funext k
  unfold XSk setp
  dsimp only
  by_cases h : k = 0
  · rw [if_pos h, if_pos h, if_pos h, e1]
    funext j
    by_cases q : j = s
    · rw [q, upI_s, upI_s]
    · rw [upI_n (by omega), upI_n q]
  · rw [if_neg h, if_neg h, if_neg h, e2, e3]
theorem XSk_w {p v : Int} (e1 : K'.2 101 = K.2 101) (e2 : K'.2 71 = upI (K.2 71) p v) (e3 : K'.2 102 = K.2 102) : XSk r K' = setp 1 p v (XSk r K) := by
  funext k
  unfold XSk setp
  by_cases h : k = 1
  · subst h
    show K'.2 71 = upI (K.2 71) p v
    exact e2
  · dsimp only
    by_cases h0 : k = 0
    · rw [if_pos h0, if_neg h, if_pos h0, e1]
    · rw [if_neg h0, if_neg h, if_neg h, if_neg h0, if_neg h, e3]
theorem tm17 {s : Int} (s0 : 0 ≤ s) (s1 : s ≤ 220) : cut (s - s.tmod 17) = s - s % 17 := by
  rw [Int.tmod_eq_emod_of_nonneg s0]
  exact cut_i (by omega) (by omega)
theorem aput_k {s v : Int} (s0 : 0 ≤ s) (s1 : s ≤ 220) : RP (kf_op_put r s v K) (fun y => XSk r y.2 = aput s v (XSk r K) ∧ fr [] [101] K y.2 ∧ rowC 101 r K y.2) := by
  unfold kf_op_put kfl_op_put_23 aput
  have yes : XSk r (mO K [] [(101, upI (K.2 101) (65536 * r + s) v)]) = setp 0 s v (XSk r K) ∧ fr [] [101] K (mO K [] [(101, upI (K.2 101) (65536 * r + s) v)]) ∧ rowC 101 r K (mO K [] [(101, upI (K.2 101) (65536 * r + s) v)]) := ⟨XSk_s rfl rfl rfl, fr_m fr_0 rfl rfl, fun j hj => upI_n (by omega)⟩
  refine RP_ite (fun h => RP_some ?_) (fun h => RP_ite (fun g => RP_some ?_) (fun g => RP_some ?_))
  · rw [if_pos (Or.inl h)]
    exact yes
  · rw [tm17 s0 s1, cmp64_0] at g
    rw [if_neg (fun q => by rcases q with q | q; exact h q; exact q g)]
    exact ⟨rfl, fr_0, fun _ _ => rfl⟩
  · rw [tm17 s0 s1, cmp64_0] at g
    rw [if_pos (show 204 ≤ s ∨ XSk r K 0 (s - s % 17) ≠ 0 from Or.inr g)]
    exact yes
theorem take_k {s : Int} (s0 : 0 ≤ s) (s1 : s ≤ 187) : RP (kf_op_takeAway r s K) (fun y => XSk r y.2 = atake s (XSk r K) ∧ fr [] [101] K y.2 ∧ rowC 101 r K y.2) := by
  unfold kf_op_takeAway
  refine RP_bnd (P := fun e => fr [] [101] K e ∧ ∀ j, e.2 101 j = if 65536 * r + s ≤ j ∧ j < 65536 * r + s + 17 then 0 else K.2 101 j) (RP_whl (I := fun q : Int × mR => (0 ≤ q.1 ∧ q.1 ≤ 17) ∧ fr [] [101] K q.2 ∧ ∀ j, q.2.2 101 j = if 65536 * r + s ≤ j ∧ j < 65536 * r + s + q.1 then 0 else K.2 101 j) (fun q hq => ?_) ⟨⟨Int.le_refl _, (by decide : (0 : Int) ≤ 17)⟩, fr_0, fun j => by rw [if_neg (by have z : ((0, K) : Int × mR).1 = 0 := rfl; omega)]⟩) (fun e he => RP_some ?_)
  · obtain ⟨i, K1⟩ := q
    obtain ⟨⟨i0, i1⟩, f, h⟩ := hq
    have i0 : 0 ≤ i := i0
    have i1 : i ≤ 17 := i1
    have h : ∀ j, K1.2 101 j = if 65536 * r + s ≤ j ∧ j < 65536 * r + s + i then 0 else K.2 101 j := h
    unfold kfb_op_takeAway_2
    refine RP_ite (fun g => RP_some ⟨f, fun j => ?_⟩) (fun g => ?_)
    · have g : 17 ≤ i := g
      rw [h j, show i = 17 by omega]
    · have g : ¬ 17 ≤ i := g
      show RP (some (Sum.inl (cut (i + 1), mO K1 [] [(101, upI (K1.2 101) (65536 * r + cut (s + i)) 0)]))) _
      rw [cut_i (z := i + 1) (by omega) (by omega), cut_i (z := s + i) (by omega) (by omega)]
      refine RP_some ⟨⟨show 0 ≤ i + 1 by omega, show i + 1 ≤ 17 by omega⟩, fr_m f rfl rfl, fun j => ?_⟩
      show upI (K1.2 101) (65536 * r + (s + i)) 0 j = if 65536 * r + s ≤ j ∧ j < 65536 * r + s + (i + 1) then 0 else K.2 101 j
      by_cases e : j = 65536 * r + (s + i)
      · rw [e, upI_s, if_pos (by omega)]
      · rw [upI_n e, h j]
        by_cases q : 65536 * r + s ≤ j ∧ j < 65536 * r + s + i
        · rw [if_pos q, if_pos (by omega)]
        · rw [if_neg q, if_neg (by omega)]
  · obtain ⟨f, h⟩ := he
    refine ⟨?_, f, fun j hj => ?_⟩
    · funext k
      unfold XSk atake
      by_cases k0 : k = 0
      · subst k0
        show (fun s => e.2 101 (65536 * r + s)) = (fun j => if s ≤ j ∧ j < s + 17 then 0 else K.2 101 (65536 * r + j))
        funext j
        rw [h]
        by_cases q : s ≤ j ∧ j < s + 17
        · rw [if_pos q, if_pos (by omega)]
        · rw [if_neg q, if_neg (by omega)]
      · dsimp only
        rw [if_neg k0, if_neg k0, if_neg k0, fr2 f 71 rfl, fr2 f 102 rfl]
    · rw [h, if_neg (by omega)]
def DQk (r : Int) (K : mR) (x' : XSt) (y : Int × mR) : Prop := XSk r y.2 = x' ∧ fr [] [25, 71, 101] K y.2 ∧ rowC 101 r K y.2

theorem TYP_f {B K1 : mR} {F A : List Nat} {ac j : Int} (h : TYP B ac K j) (f : fr F A K K1) (c : chk [18, 19, 20, 21, 22, 24] A = true) : TYP B ac K1 j := by
  unfold TYP OW at *
  rw [fr2 f 18 (chk_1 c (by decide)), fr2 f 19 (chk_1 c (by decide)), fr2 f 20 (chk_1 c (by decide)), fr2 f 21 (chk_1 c (by decide)), fr2 f 22 (chk_1 c (by decide)), fr2 f 24 (chk_1 c (by decide))]
  exact h
theorem XRk_f {B K1 : mR} {F A : List Nat} {ac a b : Int} (h : XRk B ac K a b) (f : fr F A K K1) (c : chk [18, 19, 20, 21, 22, 24] A = true) : XRk B ac K1 a b := by
  obtain ⟨h1, h2, h3, h4⟩ := h
  have e18 : K1.2 18 = K.2 18 := fr2 f 18 (chk_1 c (by decide))
  refine ⟨h1, by rw [e18]; exact h2, by rw [e18]; exact h3, fun j j0 j1 => ⟨?_, TYP_f (h4 j j0 j1).2 f c⟩⟩
  have o := (h4 j j0 j1).1
  unfold OPL at o ⊢
  rw [e18, fr2 f 19 (chk_1 c (by decide)), fr2 f 20 (chk_1 c (by decide)), fr2 f 21 (chk_1 c (by decide))]
  exact o
theorem ev_f {K1 : mR} {F A : List Nat} {sl pa : Int → Int} {a b : Int} (f : fr F A K K1) (c : chk [18, 19, 20, 21, 22, 24] A = true) : ev K1 sl pa a b = ev K sl pa a b := by
  have e : ∀ k, evs K1 sl pa a k = evs K sl pa a k := by
    intro k
    induction k with
    | zero => rfl
    | succ k ih =>
      show upI (evs K1 sl pa a k) (a + k) (nval K1 sl pa (evs K1 sl pa a k) (a + k)) = upI (evs K sl pa a k) (a + k) (nval K sl pa (evs K sl pa a k) (a + k))
      rw [ih]
      unfold nval rawv
      rw [fr2 f 18 (chk_1 c (by decide)), fr2 f 19 (chk_1 c (by decide)), fr2 f 20 (chk_1 c (by decide)), fr2 f 21 (chk_1 c (by decide)), fr2 f 22 (chk_1 c (by decide)), fr2 f 24 (chk_1 c (by decide))]
  unfold ev
  rw [e]

theorem deed_k {d : Int} (h : DWF K d) : RP (kf_op_doDeed_b71 r d K) (DQk r K (adeed K (pak r K) d (XSk r K))) := by
  have last : ∀ (K1 : mR) (at' v : Int), fr [] [25] K K1 → at' = aidx K (pak r K) d (XSk r K) → v = aval K (pak r K) d (XSk r K) → RP (kfl_op_doDeed_b71_131 r d (K.2 46 d) at' v K1) (DQk r K (adeed K (pak r K) d (XSk r K))) := fun K1 at' v f ea ev' => by
    have x1 : XSk r K1 = XSk r K := XSk_c (fr2 f 101 rfl) (fr2 f 71 rfl) (fr2 f 102 rfl)
    unfold kfl_op_doDeed_b71_131 adeed
    rw [show K1.2 45 = K.2 45 from fr2 f 45 rfl, show K1.2 71 = K.2 71 from fr2 f 71 rfl]
    have rc : ∀ {K2 : mR}, rowC 101 r K1 K2 → rowC 101 r K K2 := fun q j hj => (q j hj).trans (by rw [fr2 f 101 rfl])
    have sl : K.2 45 d = 61 ∨ K.2 45 d = 325 ∨ K.2 45 d = 327 → 0 ≤ K.2 46 d ∧ K.2 46 d ≤ 220 ∧ (K.2 45 d = 325 → K.2 46 d ≤ 187) := fun q => by
      rcases h with ⟨k1, s1, -⟩ | ⟨k1, s1, -⟩ | ⟨k1, -⟩ | ⟨k1, s1, -, s2, -⟩
      · exact ⟨s1.1, s1.2, fun z => by omega⟩
      · exact ⟨s1.1, s1.2, fun z => by omega⟩
      · omega
      · exact ⟨s1.1, s1.2, s2⟩
    refine RP_ite (fun k1 => ?_) (fun n1 => RP_ite (fun k2 => ?_) (fun n2 => RP_ite (fun k3 => ?_) (fun n3 => RP_ite (fun k4 => RP_some ?_) (fun n4 => RP_some ?_))))
    · obtain ⟨s0, s1, -⟩ := sl (Or.inl k1)
      rw [if_pos k1]
      refine RP_bnd (aput_k s0 s1) (fun y hy => RP_some ⟨?_, fr_s hy.2.1 (fr_s f fr_0 rfl rfl) rfl rfl, rc hy.2.2⟩)
      rw [show (0, y.2).2 = y.2 from rfl, hy.1, x1, ev']
    · obtain ⟨s0, s1, s2⟩ := sl (Or.inr (Or.inl k2))
      rw [if_neg n1, if_pos k2]
      refine RP_bnd (take_k s0 (s2 k2)) (fun y hy => RP_some ⟨?_, fr_s hy.2.1 (fr_s f fr_0 rfl rfl) rfl rfl, rc hy.2.2⟩)
      rw [show (0, y.2).2 = y.2 from rfl, hy.1, x1]
    · obtain ⟨s0, s1, -⟩ := sl (Or.inr (Or.inr k3))
      rw [if_neg n1, if_neg n2, if_pos k3]
      refine RP_bnd (aput_k s0 s1) (fun y hy => RP_some ⟨?_, fr_s hy.2.1 (fr_s f fr_0 rfl rfl) rfl rfl, rc hy.2.2⟩)
      rw [show (0, y.2).2 = y.2 from rfl, hy.1, x1, ea]
      rfl
    · rw [if_neg n1, if_neg n2, if_neg n3, if_pos k4]
      refine ⟨?_, fr_m (fr_s f fr_0 rfl rfl) rfl rfl, rc (fun _ _ => rfl)⟩
      rw [← ea, ← ev', ← x1]
      exact XSk_w rfl (by show upI (K.2 71) at' v = upI (K1.2 71) at' v; rw [fr2 f 71 rfl]) rfl
    · rw [if_neg n1, if_neg n2, if_neg n3, if_neg n4]
      refine ⟨?_, fr_m (fr_s f fr_0 rfl rfl) rfl rfl, rc (fun j hj => upI_n ?_)⟩
      · rw [← x1]
        exact XSk_s rfl rfl rfl
      · rcases h with ⟨k1, -⟩ | ⟨k1, -⟩ | ⟨k1, -⟩ | ⟨k1, s1, -⟩
        · exact absurd k1 n1
        · exact absurd k1 n3
        · exact absurd k1 n4
        · have := s1.1
          have := s1.2
          omega
  have second : ∀ (K1 : mR) (at' : Int), fr [] [25] K K1 → at' = aidx K (pak r K) d (XSk r K) → RP (kfl_op_doDeed_b71_88 r d (K.2 46 d) at' K1) (DQk r K (adeed K (pak r K) d (XSk r K))) := fun K1 at' f ea => by
    unfold kfl_op_doDeed_b71_88
    rw [show K1.2 51 = K.2 51 from fr2 f 51 rfl, show K1.2 50 = K.2 50 from fr2 f 50 rfl]
    refine RP_ite (fun q => last K1 at' 0 f ea (by unfold aval; rw [if_pos q])) (fun q => ?_)
    have hx : XR1 K (K.2 50 d) (K.2 51 d) := by
      rcases h with ⟨-, -, -, -, -, v1⟩ | ⟨-, -, -, -, -, v0⟩ | ⟨-, -, -, -, -, v1⟩ | ⟨-, -, -, -, -, v0⟩
      · exact v1
      · exact absurd v0 q
      · exact v1
      · exact absurd v0 q
    obtain ⟨ac, ⟨B, hx⟩, -⟩ := hx
    have hx1 : XRk B ac K1 (K.2 50 d) (K.2 51 d) := XRk_f hx f rfl
    refine RP_bnd (val_k (r := r) (v4 := r) hx1) (fun y hy => last y.2 at' y.1 (fr_s hy.2 f rfl rfl) ea ?_)
    rw [hy.1]
    unfold aval
    rw [if_neg q, ev_f f rfl]
    show ev K (fun s => K1.2 101 (65536 * r + s)) (fun s => K1.2 105 (65536 * r + s)) _ _ = ev K (XSk r K 0) (pak r K) _ _
    rw [fr2 f 101 rfl, fr2 f 105 rfl]
    rfl
  unfold kf_op_doDeed_b71
  refine RP_ite (fun q => second K (-1) (fr_0) (by unfold aidx; rw [if_pos q])) (fun q => ?_)
  have hx : XR1 K (K.2 48 d) (K.2 49 d) ∧ ARw K d := by
    rcases h with ⟨-, -, a1, -⟩ | ⟨-, -, a1, -, i1, -⟩ | ⟨-, a1, -, i1, -⟩ | ⟨-, -, -, -, a1, -⟩
    · exact absurd a1 q
    · exact ⟨i1, a1⟩
    · exact ⟨i1, a1⟩
    · exact absurd a1 q
  obtain ⟨⟨ac, ⟨B, hx⟩, -⟩, ⟨a0, a1⟩, z0, z1⟩ := hx
  refine RP_bnd (val_k (r := r) (v4 := r) hx) (fun y hy => ?_)
  rw [remk_v, bnd_some, show y.2.2 16 = K.2 16 from fr2 hy.2 16 rfl]
  have b := remk_r (v := y.1) z0 z1
  rw [cut_i (z := K.2 47 d * 64) (by omega) (by omega), cut_i (z := K.2 47 d * 64 + remk y.1 (K.2 16 (K.2 47 d))) (by omega) (by omega)]
  refine second y.2 _ hy.2 ?_
  unfold aidx
  rw [if_neg q, hy.1]
  rfl
end SM4
