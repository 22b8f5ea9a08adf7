/-! ===== THE CLASS'S CELLS: fixed objects by a table, tables by their number, operations by their row ===== -/
def kdt (q : Nat) : Nat × Nat × List Nat := ([(0, 0, [6, 10, 800, 14, 18, 22, 26, 50, 714, 742, 804, 808]), (1, 5, [0]), (3, 4000, [1]), (2, 4, [2]), (2, 4, [3]), (2, 4, [4]), (0, 11, [10, 30, 34, 38, 42, 46, 812, 816, 820, 824, 828, 833, 837, 841, 844, 848, 852]), (2, 31, [5]), (2, 90, [6]), (2, 90, [7]), (1, 90, [8]), (1, 90, [9]), (0, 6, [54, 58, 62, 66, 70, 74, 78, 82, 86, 90, 126, 182, 238, 856, 860, 864, 868, 872, 876]), (1, 192, [10]), (2, 192, [11]), (2, 192, [12]), (1, 12, [13]), (1, 16, [14]), (1, 8, [15]), (1, 8, [16]), (1, 12, [17]), (5, 8, []), (0, 3, [94, 98, 102, 106, 110, 114, 118, 122, 880]), (1, 1090, [18]), (1, 1090, [19]), (1, 1090, [20]), (1, 1090, [21]), (1, 1090, [22]), (1, 1090, [23]), (2, 1090, [24]), (2, 1090, [25]), (0, 8, [130, 134, 138, 142, 146, 150, 154, 158, 162, 166, 170, 174, 178, 884, 888]), (1, 16, [26]), (1, 96, [27]), (1, 16, [28]), (1, 16, [29]), (1, 16, [30]), (2, 128, [31]), (2, 128, [32]), (1, 128, [33]), (1, 16, [34]), (1, 16, [35]), (1, 16, [36]), (1, 16, [37]), (1, 16, [38]), (0, 1, [186, 190, 194, 198, 202, 206, 210, 214, 218, 222, 226, 230, 234, 892, 896]), (1, 16, [39]), (1, 64, [40]), (2, 64, [41]), (2, 64, [42]), (1, 16, [43]), (1, 16, [44]), (1, 240, [45]), (1, 240, [46]), (1, 240, [47]), (1, 240, [48]), (1, 240, [49]), (1, 240, [50]), (1, 240, [51]), (0, 9, [242, 246, 250, 254, 258, 262, 266, 270, 274, 278, 282, 286, 290, 294, 900, 904]), (1, 48, [52]), (1, 48, [53]), (1, 48, [54]), (1, 48, [55]), (1, 48, [56]), (1, 48, [57]), (1, 48, [58]), (1, 48, [59]), (2, 192, [60]), (2, 192, [61]), (1, 48, [62]), (1, 12, [63]), (1, 12, [64]), (1, 12, [65]), (99, 0, []), (99, 0, []), (99, 0, []), (99, 0, []), (99, 0, []), (99, 0, []), (99, 0, []), (99, 0, []), (99, 0, []), (99, 0, []), (99, 0, []), (99, 0, []), (99, 0, []), (99, 0, []), (99, 0, []), (99, 0, []), (99, 0, []), (99, 0, []), (99, 0, []), (99, 0, []), (99, 0, []), (99, 0, []), (99, 0, []), (99, 0, []), (99, 0, []), (99, 0, []), (99, 0, []), (99, 0, []), (99, 0, []), (99, 0, []), (99, 0, []), (99, 0, []), (99, 0, []), (99, 0, []), (99, 0, []), (99, 0, []), (99, 0, []), (99, 0, []), (99, 0, []), (99, 0, []), (99, 0, []), (99, 0, []), (99, 0, []), (99, 0, []), (99, 0, []), (99, 0, []), (99, 0, []), (99, 0, []), (99, 0, []), (99, 0, []), (99, 0, []), (99, 0, []), (99, 0, []), (99, 0, []), (99, 0, []), (99, 0, []), (99, 0, []), (99, 0, []), (99, 0, []), (99, 0, []), (99, 0, []), (99, 0, []), (99, 0, []), (99, 0, []), (99, 0, []), (99, 0, []), (99, 0, []), (99, 0, []), (99, 0, []), (99, 0, []), (99, 0, []), (99, 0, []), (99, 0, []), (99, 0, []), (99, 0, []), (99, 0, []), (99, 0, []), (99, 0, []), (99, 0, []), (99, 0, []), (99, 0, []), (99, 0, []), (99, 0, []), (99, 0, []), (99, 0, []), (99, 0, []), (99, 0, []), (99, 0, []), (99, 0, []), (99, 0, []), (99, 0, []), (99, 0, []), (99, 0, []), (99, 0, []), (99, 0, []), (99, 0, []), (99, 0, []), (99, 0, []), (99, 0, []), (99, 0, []), (99, 0, []), (99, 0, []), (99, 0, []), (99, 0, []), (0, 7, [26, 50, 726, 126, 182, 238, 718, 722, 908]), (1, 9, [66]), (1, 9, [67]), (0, 2, [26, 50, 90, 730, 734, 738, 912, 916, 920, 924]), (1, 288, [68]), (1, 288, [69]), (1, 576, [70]), (0, 5, [50, 746, 750, 754, 928, 932, 936, 940]), (6, 128, []), (7, 12, []), (2, 512, [71])] : List (Nat × Nat × List Nat)).getD q (99, 0, [])
def kow (k : Nat) : Nat := ([0, 0, 0, 6, 6, 6, 6, 6, 6, 6, 6, 6, 6, 6, 12, 12, 12, 12, 12, 12, 22, 31, 31, 45, 45, 59, 59, 178, 181, 181, 181, 181, 185, 185, 185, 185] : List Nat).getD (k - 200) 0
def koj (k : Nat) : Nat := ([2, 10, 11, 6, 7, 8, 9, 10, 11, 12, 13, 14, 15, 16, 13, 14, 15, 16, 17, 18, 8, 13, 14, 13, 14, 14, 15, 8, 6, 7, 8, 9, 4, 5, 6, 7] : List Nat).getD (k - 200) 0
def kac (k : Nat) : Nat := ([1, 2, 3, 4, 5, 7, 8, 9, 10, 11, 13, 14, 15, 16, 17, 18, 19, 20, 23, 24, 25, 26, 27, 28, 29, 30, 32, 33, 34, 35, 36, 37, 38, 39, 40, 41, 42, 43, 44, 46, 47, 48, 49, 50, 51, 52, 53, 54, 55, 56, 57, 58, 60, 61, 62, 63, 64, 65, 66, 67, 68, 69, 70, 71, 72, 73, 179, 180, 182, 183, 184, 188] : List Nat).getD k 0
def kaL (k : Nat) : Nat := ([5, 4000, 4, 4, 4, 31, 90, 90, 90, 90, 192, 192, 192, 12, 16, 8, 8, 12, 1090, 1090, 1090, 1090, 1090, 1090, 1090, 1090, 16, 96, 16, 16, 16, 128, 128, 128, 16, 16, 16, 16, 16, 16, 64, 64, 64, 16, 16, 240, 240, 240, 240, 240, 240, 240, 48, 48, 48, 48, 48, 48, 48, 48, 192, 192, 48, 12, 12, 12, 9, 9, 288, 288, 576, 512] : List Nat).getD k 0
def kaT (k : Nat) : Nat := ([0, 2, 1, 1, 1, 1, 1, 1, 0, 0, 0, 1, 1, 0, 0, 0, 0, 0, 0, 0, 0, 0, 0, 0, 1, 1, 0, 0, 0, 0, 0, 1, 1, 0, 0, 0, 0, 0, 0, 0, 0, 1, 1, 0, 0, 0, 0, 0, 0, 0, 0, 0, 0, 0, 0, 0, 0, 0, 0, 0, 1, 1, 0, 0, 0, 0, 0, 0, 0, 0, 0, 1] : List Nat).getD k 0
def tty (i : Nat) : Nat := ([0, 0, 0, 0, 0, 1, 1, 1, 1, 0, 0, 0] : List Nat).getD i 0
def tln (i : Nat) : Nat := ([4, 4, 4, 4, 8, 4, 288, 288, 288, 72, 72, 16] : List Nat).getD i 0
def oty (i : Nat) : Nat := ([2, 1, 0, 1, 1, 1] : List Nat).getD i 0
def oln (i : Nat) : Nat := ([896, 221, 48, 4, 4, 4] : List Nat).getD i 0
def kval (K : mR) (x : Nat) : Value := match x % 4 with
  | 0 => .int (i32 (K.1 (x / 4)))
  | 1 => .long (i64 (K.1 (x / 4)))
  | 2 => .ref (x / 4)
  | _ => .null
def kor (K : mR) (r : Int) : Option Nat := if K.2 107 r ≤ 0 then none else some (K.2 107 r).toNat
def kar (K : mR) (y n k : Nat) : am_C := match y with
  | 1 => .inl (1, n, .inr (.inl (fun j => i64 (K.2 k j))))
  | y => .inl (y, n, .inl (fun j => i32 (K.2 k j)))
def kfx (K : mR) (d : Nat × Nat × List Nat) : am_C := match d with
  | (0, ci, xs) => .inr (ci, xs.map (kval K))
  | (1, n, k :: _) => kar K 0 n k
  | (2, n, k :: _) => kar K 1 n k
  | (3, n, k :: _) => kar K 2 n k
  | (5, _, _) => .inl (4, 8, .inr (.inr (.inr (.inr (fun j => if j < 8 then some (74 + 13 * j) else none)))))
  | (6, _, _) => .inl (5, 128, .inr (.inr (.inr (.inr (fun j => kor K j)))))
  | (7, _, _) => .inl (5, 12, .inr (.inr (.inr (.inr (fun j => if K.2 106 j < 0 then none else kor K (K.2 106 j))))))
  | _ => .inr (99, [])
def ka1 (K : mR) (k : Nat) (t : Int) (j : Nat) : Int := if j < 65536 then K.2 k (65536 * t + j) else 0
def kar1 (K : mR) (y n k : Nat) (t : Int) : am_C := match y with
  | 1 => .inl (1, n, .inr (.inl (fun j => i64 (ka1 K k t j))))
  | y => .inl (y, n, .inl (fun j => i32 (ka1 K k t j)))
def ktv (K : mR) (t n : Nat) : Value := if n < 12 then .ref (74 + 13 * t + 1 + n) else .int (i32 (K.2 (60 + n) t))
def ktf (K : mR) (t : Nat) : List Value := (List.range 19).map (ktv K t)
def ktb (K : mR) (t j : Nat) : am_C := match j with
  | 0 => .inr (10, ktf K t)
  | i + 1 => kar1 K (tty i) (tln i) (79 + i) t
def kov (K : mR) (r : Int) (n : Nat) : Value := if n < 6 then .ref ((K.2 107 r).toNat + 1 + n) else .int (i32 (K.2 (85 + n) r))
def kof (K : mR) (r : Int) : List Value := (List.range 15).map (kov K r)
def kob (K : mR) (r : Int) (j : Nat) : am_C := match j with
  | 0 => .inr (4, kof K r)
  | i + 1 => kar1 K (oty i) (oln i) (100 + i) r
def klo (K : mR) (q : Nat) : am_C := if 74 ≤ q ∧ q < 178 then ktb K ((q - 74) / 13) ((q - 74) % 13) else kfx K (kdt q)
def khp (K : mR) (c : Nat → Option am_C) : Nat → Option am_C := fun q => if q < 189 then some (klo K q) else if 0 < K.2 108 q then some (kob K ((K.2 108 q - 1) / 8) ((K.2 108 q - 1) % 8).toNat) else c q
theorem khp_lo (K : mR) (c : Nat → Option am_C) {q : Nat} (h : q < 189) : khp K c q = some (klo K q) := if_pos h
theorem klo_fx (K : mR) {q : Nat} (h : (decide (q < 74) || decide (178 ≤ q)) = true) : klo K q = kfx K (kdt q) := by
  unfold klo
  rw [if_neg]
  intro h1
  simp only [Bool.or_eq_true, decide_eq_true_eq] at h
  omega
theorem klo_tb (K : mR) {t j : Nat} (ht : t < 8) (hj : j < 13) : klo K (74 + 13 * t + j) = ktb K t j := by
  unfold klo
  rw [if_pos (by omega), show (74 + 13 * t + j - 74) / 13 = t by omega, show (74 + 13 * t + j - 74) % 13 = j by omega]
theorem khp_ob (K : mR) (c : Nat → Option am_C) {r : Int} {j : Nat} (h0 : 0 ≤ r) (hb : 327 ≤ K.2 107 r) (hj : j < 7) (ho : K.2 108 (K.2 107 r + j) = 1 + 8 * r + j) : khp K c ((K.2 107 r).toNat + j) = some (kob K r j) := by
  unfold khp
  have e : (((K.2 107 r).toNat + j : Nat) : Int) = K.2 107 r + j := by omega
  rw [if_neg (by omega), e, ho, if_pos (by omega), show (1 + 8 * r + (j : Int) - 1) / 8 = r by omega, show ((1 + 8 * r + (j : Int) - 1) % 8).toNat = j by omega]
/-- what a list of fields shows, if but one number of K.1 has changed -/
def kchk : Bool := (List.range 189).all (fun p => (kdt p).1 != 0 || (List.range (kdt p).2.2.length).all (fun i => match (kdt p).2.2[i]? with
  | some x => decide (2 ≤ x % 4) || (Nat.beq (kow (x / 4)) p && Nat.beq (koj (x / 4)) i)
  | none => true))
theorem kchk_ok : kchk = true := by decide +kernel
theorem kown {p ci : Nat} {xs : List Nat} {i x : Nat} (hp : p < 189) (hd : kdt p = (0, ci, xs)) (hx : xs[i]? = some x) (h2 : x % 4 < 2) : kow (x / 4) = p ∧ koj (x / 4) = i := by
  have h := List.all_eq_true.mp kchk_ok p (List.mem_range.mpr hp)
  rw [hd] at h
  have hi : i < xs.length := (List.getElem?_eq_some_iff.mp hx).1
  rcases Bool.or_eq_true_iff.mp h with h1 | h1
  · exact absurd (show ((0 : Nat) != 0) = true from h1) (by decide)
  · have h3 := List.all_eq_true.mp h1 i (List.mem_range.mpr hi)
    dsimp only at h3
    rw [hx] at h3
    dsimp only at h3
    rcases Bool.or_eq_true_iff.mp h3 with h4 | h4
    · exact absurd (of_decide_eq_true h4) (by omega)
    · obtain ⟨h5, h6⟩ := Bool.and_eq_true_iff.mp h4
      exact ⟨Nat.eq_of_beq_eq_true h5, Nat.eq_of_beq_eq_true h6⟩
theorem kval_ne {K : mR} {k x : Nat} {y : Int} (h : x % 4 < 2 → x / 4 ≠ k) : kval (mO K [(k, y)] []) x = kval K x := by
  have e : x % 4 < 2 → (mO K [(k, y)] []).1 (x / 4) = K.1 (x / 4) := fun h9 => by
    show (if k = x / 4 then y else K.1 (x / 4)) = _
    rw [if_neg (fun e => h h9 e.symm)]
  unfold kval
  split
  · next h9 => rw [e (by omega)]
  · next h9 => rw [e (by omega)]
  · rfl
  · rfl
theorem kfx_f {K : mR} {k p : Nat} {y : Int} (hp : p < 189) (hn : kow k ≠ p) : kfx (mO K [(k, y)] []) (kdt p) = kfx K (kdt p) := by
  rcases hd : kdt p with ⟨d, ci, xs⟩
  unfold kfx
  split <;> try rfl
  next c2 xs2 he =>
    obtain ⟨rfl, rfl, rfl⟩ : d = 0 ∧ ci = c2 ∧ xs = xs2 := by simpa using he
    congr 2
    apply List.map_congr_left
    intro x hx
    obtain ⟨i, hi⟩ := List.getElem?_of_mem hx
    refine kval_ne (fun h9 e => hn ?_)
    rw [← e]
    exact (kown hp hd hi h9).1
theorem klo_f {K : mR} {k p : Nat} {y : Int} (hp : p < 189) (hn : kow k ≠ p) : klo (mO K [(k, y)] []) p = klo K p := by
  unfold klo
  split
  · rfl
  · exact kfx_f hp hn
theorem khp_setf (K : mR) (c : Nat → Option am_C) {k q j ci x : Nat} {xs : List Nat} {y : Int} {v : Value} (hq : (decide (q < 74) || (decide (178 ≤ q) && decide (q < 189))) = true) (hd : kdt q = (0, ci, xs)) (hx : xs[j]? = some x) (hk : x / 4 = k) (h2 : x % 4 < 2) (hv : kval (mO K [(k, y)] []) x = v) : up1 (khp K c) q (.inr (ci, (xs.map (kval K)).set j v)) = khp (mO K [(k, y)] []) c := by
  simp only [Bool.or_eq_true, Bool.and_eq_true, decide_eq_true_eq] at hq
  have ho := kown (by omega) hd hx h2
  rw [hk] at ho
  funext p
  unfold up1
  by_cases e : p = q
  · subst e
    rw [if_pos rfl, khp_lo _ c (by omega), klo_fx _ (by simp only [Bool.or_eq_true, decide_eq_true_eq]; omega), hd]
    show _ = some (Sum.inr (ci, xs.map (kval (mO K [(k, y)] []))))
    congr 3
    apply List.ext_getElem?
    intro i
    by_cases hi : i = j
    · subst hi
      have hl := (List.getElem?_eq_some_iff.mp hx).1
      rw [List.getElem?_set_self (by rw [List.length_map]; exact hl), List.getElem?_map, hx, ← hv]
      rfl
    · rw [List.getElem?_set_ne (fun e => hi e.symm), List.getElem?_map, List.getElem?_map]
      cases hxi : xs[i]? with
      | none => rfl
      | some z =>
        show some _ = some _
        rw [kval_ne (fun h9 e9 => hi ?_)]
        have := kown (by omega) hd hxi h9
        rw [e9] at this
        omega
  · rw [if_neg e]
    by_cases hp : p < 189
    · rw [khp_lo _ c hp, khp_lo _ c hp, klo_f hp (by omega)]
    · unfold khp
      rw [if_neg hp, if_neg hp]
      rfl

