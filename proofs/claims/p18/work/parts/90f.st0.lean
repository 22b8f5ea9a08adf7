/-! ===== WHERE THE LOOP BEGINS ===== -/
def f0K (k : Nat) : Int := if k = 202 ∨ k = 212 then -1 else 0
def f0M (k : Nat) : Int := if k = 11 ∨ k = 64 ∨ k = 130 then -1 else 0
def K0 (g : Nat → Int64) : mR := (f0K, fun k => if k = 5 then (fun j => (g j.toNat).toInt) else if k = 106 then (fun _ => -1) else fun _ => 0)
def m0 : mR := (f0M, fun k => if k = 0 then kyF else if k = 18 then gvF else fun _ => 0)
def c0 : Nat → Option am_C := mhp m0 (fun q => if q = 326 then some (ocl (fun _ => 0)) else none)
def zex (w : zw) : am_C := match w.2.1 with
  | 0 => .inr (w.2.2.1, w.2.2.2.2)
  | 1 => .inl (w.2.2.1, w.2.2.2.1, .inl (fun _ => 0))
  | 2 => .inl (w.2.2.1, w.2.2.2.1, .inr (.inl (fun _ => 0)))
  | 3 => .inl (w.2.2.1, w.2.2.2.1, .inr (.inr (.inr (.inr (fun _ => none)))))
  | 4 => .inl (w.2.2.1, w.2.2.2.1, .inr (.inr (.inr (.inr (fun j => if j < 8 then some (74 + 13 * j) else none)))))
  | 5 => .inl (w.2.2.1, w.2.2.2.1, .inl (fun j => i32 (kyF j)))
  | _ => .inl (w.2.2.1, w.2.2.2.1, .inl (fun j => i32 (gvF j)))
def zfa (p : zw → Prop) (l : List zw) : Prop := match l with
  | [] => True
  | w :: r => p w ∧ zfa p r
theorem zfa_m {p : zw → Prop} {l : List zw} (h : zfa p l) : ∀ w ∈ l, p w := by
  induction l with
  | nil => intro w hw; cases hw
  | cons a l ih =>
    intro w hw
    rcases List.mem_cons.mp hw with rfl | hw
    · exact h.1
    · exact ih h.2 w hw
theorem z_ka (g : Nat → Int64) {k : Nat} (h5 : k ≠ 5) (h6 : k ≠ 106) (t : Int) : ka1 (K0 g) k t = fun _ => 0 := by
  funext j
  unfold ka1
  have e : (K0 g).2 k = fun _ => 0 := by
    show (if k = 5 then _ else if k = 106 then _ else fun _ => 0) = _
    rw [if_neg h5, if_neg h6]
  rw [e]
  split <;> rfl
theorem z_ta (g : Nat → Int64) {t i : Nat} (ht : t < 8) (hi : i < 12) : khp (K0 g) c0 (74 + 13 * t + (i + 1)) = some (.inl (tty i, am_zero (tty i) (tln i))) := by
  rw [khp_lo _ _ (by omega), klo_tb _ ht (by omega)]
  show some (kar1 (K0 g) (tty i) (tln i) (79 + i) t) = _
  unfold kar1
  rw [z_ka g (by omega) (by omega)]
  match i, hi with
  | 0, _ => rfl
  | 1, _ => rfl
  | 2, _ => rfl
  | 3, _ => rfl
  | 4, _ => rfl
  | 5, _ => rfl
  | 6, _ => rfl
  | 7, _ => rfl
  | 8, _ => rfl
  | 9, _ => rfl
  | 10, _ => rfl
  | 11, _ => rfl
set_option maxRecDepth 100000 in
theorem z_189 (g : Nat → Int64) : khp (K0 g) c0 189 = some (.inr (12, [.ref 190, .int 0, .ref 191, .ref 192, .ref 193, .int 0, .int 0, .int 0, .int 0, .int 0, .int 0, .int (-1), .long 0, .int 0, .ref 194, .ref 195, .ref 196, .ref 197, .ref 198, .int 0, .int 0, .int 0, .int 0, .int 0, .int 0, .int 0, .int 0, .int 0, .int 0, .ref 199, .ref 200, .ref 201, .ref 202, .ref 203, .ref 204, .ref 205, .ref 206, .ref 207, .ref 208, .ref 209, .ref 210, .ref 211, .ref 212, .ref 213, .ref 214, .ref 215, .ref 216, .ref 217, .ref 218, .ref 219, .ref 220, .ref 221, .ref 222, .ref 223, .ref 224, .ref 225, .ref 226, .ref 227, .ref 228, .ref 229, .ref 230, .ref 231, .ref 232, .ref 233, .int (-1), .ref 234, .ref 235, .ref 236, .ref 237, .int 0, .int 0, .int 0, .long 0, .int 0, .int 0, .int 0, .ref 238, .ref 239, .ref 240, .ref 241, .ref 242, .ref 243, .ref 244, .ref 245, .ref 246, .ref 247, .ref 248, .ref 249, .ref 250, .ref 251, .ref 252, .ref 253, .ref 254, .ref 255, .ref 256, .ref 257, .ref 258, .ref 259, .ref 260, .int 0, .int 0, .ref 261, .ref 262, .ref 263, .ref 264, .ref 265, .ref 266, .ref 267, .ref 268, .ref 269, .ref 270, .ref 271, .ref 272, .ref 273, .ref 274, .ref 275, .ref 276, .ref 277, .ref 278, .int 0, .ref 279, .ref 280, .ref 281, .ref 282, .ref 283, .int 0, .ref 284, .int 0, .int 0, .int 0, .int (-1), .ref 285, .ref 286, .ref 287, .ref 288, .ref 289, .ref 290, .ref 291, .ref 292, .ref 293, .ref 294, .ref 295, .ref 296, .ref 297, .ref 298, .ref 299, .ref 300, .ref 301, .int 0, .int 0, .int 0, .int 0, .int 0, .ref 302, .ref 303, .ref 304, .ref 305, .ref 306, .ref 307, .ref 308, .ref 309, .ref 310, .ref 311, .ref 312, .ref 313, .ref 314, .ref 315, .ref 316, .ref 317, .ref 318, .ref 319, .ref 320, .ref 321, .ref 322, .ref 323, .ref 324, .int 0, .int 0, .ref 325])) := by
  rw [khp_hi (by omega) (Int.le_refl 0)]
  unfold c0
  rw [mhp_o]
  exact congrArg (fun l => some (Sum.inr (12, l))) (by decide +kernel)
set_option maxRecDepth 100000 in
set_option maxHeartbeats 4000000 in
theorem zt_0 (g : Nat → Int64) : zfa (fun w => w.2.1 = 6 ∨ khp (K0 g) c0 w.1 = some (zex w)) zws_0 := ⟨Or.inr rfl, Or.inr rfl, Or.inr rfl, Or.inr rfl, Or.inr rfl, Or.inr rfl, Or.inr rfl, Or.inl rfl, Or.inr rfl, Or.inr rfl, Or.inr rfl, Or.inr rfl, Or.inr rfl, Or.inr rfl, Or.inr rfl, Or.inr rfl, Or.inr rfl, Or.inr rfl, Or.inr rfl, Or.inr rfl, Or.inr rfl, Or.inr rfl, Or.inr rfl, Or.inr rfl, Or.inr rfl, Or.inr rfl, Or.inr rfl, Or.inr rfl, Or.inr rfl, Or.inr rfl, Or.inr rfl, Or.inr rfl, Or.inr rfl, Or.inr rfl, Or.inr rfl, Or.inr rfl, Or.inr rfl, Or.inr rfl, Or.inr rfl, Or.inr rfl, Or.inr rfl, Or.inr rfl, Or.inr rfl, Or.inr rfl, Or.inr rfl, Or.inr rfl, Or.inr rfl, Or.inr rfl, Or.inr rfl, Or.inr rfl, Or.inr rfl, Or.inr rfl, Or.inr rfl, Or.inr rfl, Or.inr rfl, Or.inr rfl, Or.inr rfl, Or.inr rfl, Or.inr rfl, Or.inr rfl, trivial⟩
set_option maxRecDepth 100000 in
set_option maxHeartbeats 4000000 in
theorem zt_1 (g : Nat → Int64) : zfa (fun w => w.2.1 = 6 ∨ khp (K0 g) c0 w.1 = some (zex w)) zws_1 := ⟨Or.inr rfl, Or.inr rfl, Or.inr rfl, Or.inr rfl, Or.inr rfl, Or.inr rfl, Or.inr rfl, Or.inr rfl, Or.inr rfl, Or.inr rfl, Or.inr rfl, Or.inr rfl, Or.inr rfl, Or.inr rfl, Or.inr rfl, Or.inr (z_ta g (t := 0) (i := 0) (by decide) (by decide)), Or.inr (z_ta g (t := 0) (i := 1) (by decide) (by decide)), Or.inr (z_ta g (t := 0) (i := 2) (by decide) (by decide)), Or.inr (z_ta g (t := 0) (i := 3) (by decide) (by decide)), Or.inr (z_ta g (t := 0) (i := 4) (by decide) (by decide)), Or.inr (z_ta g (t := 0) (i := 5) (by decide) (by decide)), Or.inr (z_ta g (t := 0) (i := 6) (by decide) (by decide)), Or.inr (z_ta g (t := 0) (i := 7) (by decide) (by decide)), Or.inr (z_ta g (t := 0) (i := 8) (by decide) (by decide)), Or.inr (z_ta g (t := 0) (i := 9) (by decide) (by decide)), Or.inr (z_ta g (t := 0) (i := 10) (by decide) (by decide)), Or.inr (z_ta g (t := 0) (i := 11) (by decide) (by decide)), Or.inr rfl, Or.inr (z_ta g (t := 1) (i := 0) (by decide) (by decide)), Or.inr (z_ta g (t := 1) (i := 1) (by decide) (by decide)), Or.inr (z_ta g (t := 1) (i := 2) (by decide) (by decide)), Or.inr (z_ta g (t := 1) (i := 3) (by decide) (by decide)), Or.inr (z_ta g (t := 1) (i := 4) (by decide) (by decide)), Or.inr (z_ta g (t := 1) (i := 5) (by decide) (by decide)), Or.inr (z_ta g (t := 1) (i := 6) (by decide) (by decide)), Or.inr (z_ta g (t := 1) (i := 7) (by decide) (by decide)), Or.inr (z_ta g (t := 1) (i := 8) (by decide) (by decide)), Or.inr (z_ta g (t := 1) (i := 9) (by decide) (by decide)), Or.inr (z_ta g (t := 1) (i := 10) (by decide) (by decide)), Or.inr (z_ta g (t := 1) (i := 11) (by decide) (by decide)), Or.inr rfl, Or.inr (z_ta g (t := 2) (i := 0) (by decide) (by decide)), Or.inr (z_ta g (t := 2) (i := 1) (by decide) (by decide)), Or.inr (z_ta g (t := 2) (i := 2) (by decide) (by decide)), Or.inr (z_ta g (t := 2) (i := 3) (by decide) (by decide)), Or.inr (z_ta g (t := 2) (i := 4) (by decide) (by decide)), Or.inr (z_ta g (t := 2) (i := 5) (by decide) (by decide)), Or.inr (z_ta g (t := 2) (i := 6) (by decide) (by decide)), Or.inr (z_ta g (t := 2) (i := 7) (by decide) (by decide)), Or.inr (z_ta g (t := 2) (i := 8) (by decide) (by decide)), Or.inr (z_ta g (t := 2) (i := 9) (by decide) (by decide)), Or.inr (z_ta g (t := 2) (i := 10) (by decide) (by decide)), Or.inr (z_ta g (t := 2) (i := 11) (by decide) (by decide)), Or.inr rfl, Or.inr (z_ta g (t := 3) (i := 0) (by decide) (by decide)), Or.inr (z_ta g (t := 3) (i := 1) (by decide) (by decide)), Or.inr (z_ta g (t := 3) (i := 2) (by decide) (by decide)), Or.inr (z_ta g (t := 3) (i := 3) (by decide) (by decide)), Or.inr (z_ta g (t := 3) (i := 4) (by decide) (by decide)), Or.inr (z_ta g (t := 3) (i := 5) (by decide) (by decide)), trivial⟩
set_option maxRecDepth 100000 in
set_option maxHeartbeats 4000000 in
theorem zt_2 (g : Nat → Int64) : zfa (fun w => w.2.1 = 6 ∨ khp (K0 g) c0 w.1 = some (zex w)) zws_2 := ⟨Or.inr (z_ta g (t := 3) (i := 6) (by decide) (by decide)), Or.inr (z_ta g (t := 3) (i := 7) (by decide) (by decide)), Or.inr (z_ta g (t := 3) (i := 8) (by decide) (by decide)), Or.inr (z_ta g (t := 3) (i := 9) (by decide) (by decide)), Or.inr (z_ta g (t := 3) (i := 10) (by decide) (by decide)), Or.inr (z_ta g (t := 3) (i := 11) (by decide) (by decide)), Or.inr rfl, Or.inr (z_ta g (t := 4) (i := 0) (by decide) (by decide)), Or.inr (z_ta g (t := 4) (i := 1) (by decide) (by decide)), Or.inr (z_ta g (t := 4) (i := 2) (by decide) (by decide)), Or.inr (z_ta g (t := 4) (i := 3) (by decide) (by decide)), Or.inr (z_ta g (t := 4) (i := 4) (by decide) (by decide)), Or.inr (z_ta g (t := 4) (i := 5) (by decide) (by decide)), Or.inr (z_ta g (t := 4) (i := 6) (by decide) (by decide)), Or.inr (z_ta g (t := 4) (i := 7) (by decide) (by decide)), Or.inr (z_ta g (t := 4) (i := 8) (by decide) (by decide)), Or.inr (z_ta g (t := 4) (i := 9) (by decide) (by decide)), Or.inr (z_ta g (t := 4) (i := 10) (by decide) (by decide)), Or.inr (z_ta g (t := 4) (i := 11) (by decide) (by decide)), Or.inr rfl, Or.inr (z_ta g (t := 5) (i := 0) (by decide) (by decide)), Or.inr (z_ta g (t := 5) (i := 1) (by decide) (by decide)), Or.inr (z_ta g (t := 5) (i := 2) (by decide) (by decide)), Or.inr (z_ta g (t := 5) (i := 3) (by decide) (by decide)), Or.inr (z_ta g (t := 5) (i := 4) (by decide) (by decide)), Or.inr (z_ta g (t := 5) (i := 5) (by decide) (by decide)), Or.inr (z_ta g (t := 5) (i := 6) (by decide) (by decide)), Or.inr (z_ta g (t := 5) (i := 7) (by decide) (by decide)), Or.inr (z_ta g (t := 5) (i := 8) (by decide) (by decide)), Or.inr (z_ta g (t := 5) (i := 9) (by decide) (by decide)), Or.inr (z_ta g (t := 5) (i := 10) (by decide) (by decide)), Or.inr (z_ta g (t := 5) (i := 11) (by decide) (by decide)), Or.inr rfl, Or.inr (z_ta g (t := 6) (i := 0) (by decide) (by decide)), Or.inr (z_ta g (t := 6) (i := 1) (by decide) (by decide)), Or.inr (z_ta g (t := 6) (i := 2) (by decide) (by decide)), Or.inr (z_ta g (t := 6) (i := 3) (by decide) (by decide)), Or.inr (z_ta g (t := 6) (i := 4) (by decide) (by decide)), Or.inr (z_ta g (t := 6) (i := 5) (by decide) (by decide)), Or.inr (z_ta g (t := 6) (i := 6) (by decide) (by decide)), Or.inr (z_ta g (t := 6) (i := 7) (by decide) (by decide)), Or.inr (z_ta g (t := 6) (i := 8) (by decide) (by decide)), Or.inr (z_ta g (t := 6) (i := 9) (by decide) (by decide)), Or.inr (z_ta g (t := 6) (i := 10) (by decide) (by decide)), Or.inr (z_ta g (t := 6) (i := 11) (by decide) (by decide)), Or.inr rfl, Or.inr (z_ta g (t := 7) (i := 0) (by decide) (by decide)), Or.inr (z_ta g (t := 7) (i := 1) (by decide) (by decide)), Or.inr (z_ta g (t := 7) (i := 2) (by decide) (by decide)), Or.inr (z_ta g (t := 7) (i := 3) (by decide) (by decide)), Or.inr (z_ta g (t := 7) (i := 4) (by decide) (by decide)), Or.inr (z_ta g (t := 7) (i := 5) (by decide) (by decide)), Or.inr (z_ta g (t := 7) (i := 6) (by decide) (by decide)), Or.inr (z_ta g (t := 7) (i := 7) (by decide) (by decide)), Or.inr (z_ta g (t := 7) (i := 8) (by decide) (by decide)), Or.inr (z_ta g (t := 7) (i := 9) (by decide) (by decide)), Or.inr (z_ta g (t := 7) (i := 10) (by decide) (by decide)), Or.inr (z_ta g (t := 7) (i := 11) (by decide) (by decide)), Or.inr rfl, Or.inr rfl, trivial⟩
set_option maxRecDepth 100000 in
set_option maxHeartbeats 4000000 in
theorem zt_3 (g : Nat → Int64) : zfa (fun w => w.2.1 = 6 ∨ khp (K0 g) c0 w.1 = some (zex w)) zws_3 := ⟨Or.inr rfl, Or.inr rfl, Or.inr rfl, Or.inr rfl, Or.inr rfl, Or.inr rfl, Or.inr rfl, Or.inr rfl, Or.inr rfl, Or.inr (z_189 g), Or.inr rfl, Or.inr rfl, Or.inr rfl, Or.inr rfl, Or.inr rfl, Or.inr rfl, Or.inr rfl, Or.inr rfl, Or.inr rfl, Or.inr rfl, Or.inr rfl, Or.inr rfl, Or.inr rfl, Or.inr rfl, Or.inr rfl, Or.inr rfl, Or.inr rfl, Or.inr rfl, Or.inr rfl, Or.inr rfl, Or.inr rfl, Or.inr rfl, Or.inr rfl, Or.inr rfl, Or.inr rfl, Or.inr rfl, Or.inr rfl, Or.inr rfl, Or.inr rfl, Or.inr rfl, Or.inr rfl, Or.inr rfl, Or.inr rfl, Or.inr rfl, Or.inr rfl, Or.inr rfl, Or.inr rfl, Or.inr rfl, Or.inr rfl, Or.inr rfl, Or.inr rfl, Or.inr rfl, Or.inr rfl, Or.inr rfl, Or.inr rfl, Or.inr rfl, Or.inr rfl, Or.inr rfl, Or.inr rfl, Or.inr rfl, trivial⟩
set_option maxRecDepth 100000 in
set_option maxHeartbeats 4000000 in
theorem zt_4 (g : Nat → Int64) : zfa (fun w => w.2.1 = 6 ∨ khp (K0 g) c0 w.1 = some (zex w)) zws_4 := ⟨Or.inr rfl, Or.inr rfl, Or.inr rfl, Or.inr rfl, Or.inr rfl, Or.inr rfl, Or.inr rfl, Or.inr rfl, Or.inr rfl, Or.inr rfl, Or.inr rfl, Or.inr rfl, Or.inr rfl, Or.inr rfl, Or.inr rfl, Or.inr rfl, Or.inr rfl, Or.inr rfl, Or.inr rfl, Or.inr rfl, Or.inr rfl, Or.inr rfl, Or.inr rfl, Or.inr rfl, Or.inr rfl, Or.inr rfl, Or.inr rfl, Or.inr rfl, Or.inr rfl, Or.inr rfl, Or.inr rfl, Or.inr rfl, Or.inr rfl, Or.inr rfl, Or.inr rfl, Or.inr rfl, Or.inr rfl, Or.inr rfl, Or.inr rfl, Or.inr rfl, Or.inr rfl, Or.inr rfl, Or.inr rfl, Or.inr rfl, Or.inr rfl, Or.inr rfl, Or.inr rfl, Or.inr rfl, Or.inr rfl, Or.inr rfl, Or.inr rfl, Or.inr rfl, Or.inr rfl, Or.inr rfl, Or.inr rfl, Or.inr rfl, Or.inr rfl, Or.inr rfl, Or.inr rfl, Or.inr rfl, trivial⟩
set_option maxRecDepth 100000 in
set_option maxHeartbeats 4000000 in
theorem zt_5 (g : Nat → Int64) : zfa (fun w => w.2.1 = 6 ∨ khp (K0 g) c0 w.1 = some (zex w)) zws_5 := ⟨Or.inr rfl, Or.inr rfl, Or.inr rfl, Or.inr rfl, Or.inr rfl, Or.inr rfl, Or.inr rfl, Or.inr rfl, Or.inr rfl, Or.inr rfl, Or.inr rfl, Or.inr rfl, Or.inr rfl, Or.inr rfl, Or.inr rfl, Or.inr rfl, Or.inr rfl, Or.inr rfl, Or.inr rfl, Or.inr rfl, Or.inr rfl, Or.inr rfl, Or.inr rfl, Or.inr rfl, Or.inr rfl, Or.inr rfl, Or.inr rfl, trivial⟩
theorem zt (g : Nat → Int64) : ∀ w ∈ zws, w.2.1 = 6 ∨ khp (K0 g) c0 w.1 = some (zex w) := by
  intro w hw
  unfold zws at hw
  simp only [List.mem_append] at hw
  rcases hw with ((((h | h) | h) | h) | h) | h
  · exact zfa_m (zt_0 g) w h
  · exact zfa_m (zt_1 g) w h
  · exact zfa_m (zt_2 g) w h
  · exact zfa_m (zt_3 g) w h
  · exact zfa_m (zt_4 g) w h
  · exact zfa_m (zt_5 g) w h
