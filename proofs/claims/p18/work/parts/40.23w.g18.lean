def Q_below (m : mR) (c : Nat → Option am_C) (N : Nat) (a : Int) (b : Int) : ag_Re af_T → Prop := fun R => ∃ (r : Int), (0 ≤ r ∧ r ≤ 1) ∧ R = (.inl (some (.int (i32 r))), (mhp m c, N), 0, 0)
set_option maxHeartbeats 3000000 in
theorem c_below (w : wX) (m : mR) (c : Nat → Option am_C) (N D : Nat) (hD : 1 ≤ D) (hT : Ty m) (a : Int) (b : Int) (qa : R64 a) (qb : R64 b) : TC w D 330 [.long (i64 a), .long (i64 b)] (mhp m c, N) (Q_below m c N a b) := by
  obtain ⟨D, rfl⟩ : ∃ k, D = k + 1 := ⟨D - 1, by omega⟩
  obtain ⟨qaa, qab⟩ := id qa
  obtain ⟨qba, qbb⟩ := id qb
  refine Tc_of rfl ?_
  show TT w D pm_330 (0, [(0, .long (i64 a)), (2, .long (i64 b))], [], (mhp (mO m [] []) c, N), 0, 0) (Q_below m c N a b)
  refine T_ld 1 (.long (i64 a)) rfl (fun _ => rfl) ?_
  refine T_ld 4 (.long (i64 (-9223372036854775808))) rfl (fun _ => rfl) ?_
  refine T_ladd 5 rfl rfl ?_
  refine T_lnm (fun z1 h2 => ?_)
  obtain ⟨h2a, h2b⟩ := h2
  refine T_ld 6 (.long (i64 b)) rfl (fun _ => rfl) ?_
  refine T_ld 9 (.long (i64 (-9223372036854775808))) rfl (fun _ => rfl) ?_
  refine T_ladd 10 rfl rfl ?_
  refine T_lnm (fun z3 h4 => ?_)
  obtain ⟨h4a, h4b⟩ := h4
  refine T_lcmp 11 rfl rfl (r64 (by omega) (by omega)) (r64 (by omega) (by omega)) (fun z5 h6 => ?_)
  obtain ⟨h6a, h6b, h6c, h6d, h6e⟩ := h6
  refine T_if 18 14 rfl rfl rfl (r32 (by omega) (by omega)) (fun (h7 : (0 : Int) ≤ z5) => ?_) (fun (h7 : ¬ ((0 : Int) ≤ z5)) => ?_)
  · skip
    have hl8 : z1 ≥ z3 := by omega
    refine T_ld 19 (.int (i32 0)) rfl (fun _ => rfl) ?_
    refine T_ret rfl (fun _ => rfl) ?_
    exact ⟨0, ⟨by omega, by omega⟩, rfl⟩
  · skip
    have hl9 : z1 < z3 := by omega
    refine T_ld 15 (.int (i32 1)) rfl (fun _ => rfl) ?_
    refine T_goto 19 rfl (fun _ => rfl) ?_
    refine T_ret rfl (fun _ => rfl) ?_
    exact ⟨1, ⟨by omega, by omega⟩, rfl⟩
def Q_one (m : mR) (c : Nat → Option am_C) (N : Nat) (z : Int) : ag_Re af_T → Prop := fun R => ∃ (r : Int), (0 ≤ r ∧ r ≤ 1) ∧ R = (.inl (some (.long (i64 r))), (mhp m c, N), 0, 0)
set_option maxHeartbeats 3000000 in
theorem c_one (w : wX) (m : mR) (c : Nat → Option am_C) (N D : Nat) (hD : 1 ≤ D) (hT : Ty m) (z : Int) (qz : R32 z) : TC w D 328 [.int (i32 z)] (mhp m c, N) (Q_one m c N z) := by
  obtain ⟨D, rfl⟩ : ∃ k, D = k + 1 := ⟨D - 1, by omega⟩
  obtain ⟨qza, qzb⟩ := id qz
  refine Tc_of rfl ?_
  show TT w D pm_328 (0, [(0, .int (i32 z))], [], (mhp (mO m [] []) c, N), 0, 0) (Q_one m c N z)
  refine T_ld 1 (.int (i32 z)) rfl (fun _ => rfl) ?_
  refine T_if 8 4 rfl rfl rfl (r32 (by omega) (by omega)) (fun (h1 : z = 0) => ?_) (fun (h1 : ¬ (z = 0)) => ?_)
  · skip
    refine T_ld 9 (.long (i64 0)) rfl (fun _ => rfl) ?_
    refine T_ret rfl (fun _ => rfl) ?_
    exact ⟨0, ⟨by omega, by omega⟩, rfl⟩
  · skip
    refine T_ld 5 (.long (i64 1)) rfl (fun _ => rfl) ?_
    refine T_goto 9 rfl (fun _ => rfl) ?_
    refine T_ret rfl (fun _ => rfl) ?_
    exact ⟨1, ⟨by omega, by omega⟩, rfl⟩
def Q_twoOf (m : mR) (c : Nat → Option am_C) (N : Nat) (s : Int) (b : Int) (n : Int) (x : Int) (y : Int) : ag_Re af_T → Prop := fun R => ∃ (r : Int), ((-9223372036854775808) ≤ r ∧ r ≤ 9223372036854775807) ∧ R = (.inl (some (.long (i64 r))), (mhp m c, N), 0, 0)
set_option maxHeartbeats 3000000 in
theorem c_twoOf (w : wX) (m : mR) (c : Nat → Option am_C) (N D : Nat) (hD : 2 ≤ D) (hT : Ty m) (s : Int) (b : Int) (n : Int) (x : Int) (y : Int) (qs : R32 s) (qb : R32 b) (qn : R32 n) (qx : R64 x) (qy : R64 y) (p0 : 0 ≤ b ∧ b ≤ 64) : TC w D 329 [.int (i32 s), .int (i32 b), .int (i32 n), .long (i64 x), .long (i64 y)] (mhp m c, N) (Q_twoOf m c N s b n x y) := by
  obtain ⟨D, rfl⟩ : ∃ k, D = k + 1 := ⟨D - 1, by omega⟩
  obtain ⟨qsa, qsb⟩ := id qs
  obtain ⟨qba, qbb⟩ := id qb
  obtain ⟨qna, qnb⟩ := id qn
  obtain ⟨qxa, qxb⟩ := id qx
  obtain ⟨qya, qyb⟩ := id qy
  refine Tc_of rfl ?_
  show TT w D pm_329 (0, [(0, .int (i32 s)), (1, .int (i32 b)), (2, .int (i32 n)), (3, .long (i64 x)), (5, .long (i64 y))], [], (mhp (mO m [] []) c, N), 0, 0) (Q_twoOf m c N s b n x y)
  refine T_ld 1 (.int (i32 s)) rfl (fun _ => rfl) ?_
  by_cases h1 : s = 4
  · skip
    refine T_cast 4 h1 ?_
    refine T_pop 142 rfl (fun _ => rfl) ?_
    refine T_ld 143 (.long (i64 x)) rfl (fun _ => rfl) ?_
    refine T_ld 145 (.long (i64 y)) rfl (fun _ => rfl) ?_
    refine T_lcmp 146 rfl rfl (r64 (by omega) (by omega)) (r64 (by omega) (by omega)) (fun z2 h3 => ?_)
    obtain ⟨h3a, h3b, h3c, h3d, h3e⟩ := h3
    refine T_if 153 149 rfl rfl rfl (r32 (by omega) (by omega)) (fun (h4 : z2 ≠ 0) => ?_) (fun (h4 : ¬ (z2 ≠ 0)) => ?_)
    · skip
      have hl5 : x ≠ y := by omega
      refine T_ld 154 (.int (i32 0)) rfl (fun _ => rfl) ?_
      refine T_call 157 328 [.int (i32 0)] [] rfl (fun _ => rfl) rfl (c_one w (mO m [] []) c N D (by omega) hT 0 ⟨by decide, by decide⟩) (fun rr6 k7 => ?_)
      obtain ⟨x8, g9, rfl⟩ := k7
      refine ⟨_, _, rfl, ?_⟩
      refine T_ns (st' := [.long (i64 x8)]) rfl ?_
      obtain ⟨g9a, g9b⟩ := g9
      clear h3a h3b h3c h3d h3e h4
      refine T_ret rfl (fun _ => rfl) ?_
      exact ⟨x8, ⟨by omega, by omega⟩, rfl⟩
    · skip
      have hl10 : x = y := by omega
      refine T_ld 150 (.int (i32 1)) rfl (fun _ => rfl) ?_
      refine T_goto 154 rfl (fun _ => rfl) ?_
      refine T_call 157 328 [.int (i32 1)] [] rfl (fun _ => rfl) rfl (c_one w (mO m [] []) c N D (by omega) hT 1 ⟨by decide, by decide⟩) (fun rr11 k12 => ?_)
      obtain ⟨x13, g14, rfl⟩ := k12
      refine ⟨_, _, rfl, ?_⟩
      refine T_ns (st' := [.long (i64 x13)]) rfl ?_
      obtain ⟨g14a, g14b⟩ := g14
      clear h3a h3b h3c h3d h3e h4
      refine T_ret rfl (fun _ => rfl) ?_
      exact ⟨x13, ⟨by omega, by omega⟩, rfl⟩
  by_cases h15 : s = 5
  · skip
    refine T_cast 5 h15 ?_
    refine T_pop 158 rfl (fun _ => rfl) ?_
    refine T_ld 159 (.long (i64 x)) rfl (fun _ => rfl) ?_
    refine T_ld 161 (.long (i64 y)) rfl (fun _ => rfl) ?_
    refine T_lcmp 162 rfl rfl (r64 (by omega) (by omega)) (r64 (by omega) (by omega)) (fun z16 h17 => ?_)
    obtain ⟨h17a, h17b, h17c, h17d, h17e⟩ := h17
    refine T_if 169 165 rfl rfl rfl (r32 (by omega) (by omega)) (fun (h18 : z16 = 0) => ?_) (fun (h18 : ¬ (z16 = 0)) => ?_)
    · skip
      have hl19 : x = y := by omega
      refine T_ld 170 (.int (i32 0)) rfl (fun _ => rfl) ?_
      refine T_call 173 328 [.int (i32 0)] [] rfl (fun _ => rfl) rfl (c_one w (mO m [] []) c N D (by omega) hT 0 ⟨by decide, by decide⟩) (fun rr20 k21 => ?_)
      obtain ⟨x22, g23, rfl⟩ := k21
      refine ⟨_, _, rfl, ?_⟩
      refine T_ns (st' := [.long (i64 x22)]) rfl ?_
      obtain ⟨g23a, g23b⟩ := g23
      clear h17a h17b h17c h17d h17e h18
      refine T_ret rfl (fun _ => rfl) ?_
      exact ⟨x22, ⟨by omega, by omega⟩, rfl⟩
    · skip
      have hl24 : x ≠ y := by omega
      refine T_ld 166 (.int (i32 1)) rfl (fun _ => rfl) ?_
      refine T_goto 170 rfl (fun _ => rfl) ?_
      refine T_call 173 328 [.int (i32 1)] [] rfl (fun _ => rfl) rfl (c_one w (mO m [] []) c N D (by omega) hT 1 ⟨by decide, by decide⟩) (fun rr25 k26 => ?_)
      obtain ⟨x27, g28, rfl⟩ := k26
      refine ⟨_, _, rfl, ?_⟩
      refine T_ns (st' := [.long (i64 x27)]) rfl ?_
      obtain ⟨g28a, g28b⟩ := g28
      clear h17a h17b h17c h17d h17e h18
      refine T_ret rfl (fun _ => rfl) ?_
      exact ⟨x27, ⟨by omega, by omega⟩, rfl⟩
  by_cases h29 : s = 6
  · skip
    refine T_cast 6 h29 ?_
    refine T_pop 194 rfl (fun _ => rfl) ?_
    refine T_ld 196 (.long (i64 y)) rfl (fun _ => rfl) ?_
    refine T_ld 197 (.long (i64 x)) rfl (fun _ => rfl) ?_
    refine T_call 200 330 [.long (i64 y), .long (i64 x)] [] rfl (fun _ => rfl) rfl (c_below w (mO m [] []) c N D (by omega) hT y x (r64 (by omega) (by omega)) (r64 (by omega) (by omega))) (fun rr30 k31 => ?_)
    obtain ⟨x32, g33, rfl⟩ := k31
    refine ⟨_, _, rfl, ?_⟩
    refine T_ns (st' := [.int (i32 x32)]) rfl ?_
    obtain ⟨g33a, g33b⟩ := g33
    refine T_if 207 203 rfl rfl rfl (r32 (by omega) (by omega)) (fun (h34 : x32 ≠ 0) => ?_) (fun (h34 : ¬ (x32 ≠ 0)) => ?_)
    · skip
      refine T_ld 208 (.int (i32 0)) rfl (fun _ => rfl) ?_
      refine T_call 211 328 [.int (i32 0)] [] rfl (fun _ => rfl) rfl (c_one w (mO m [] []) c N D (by omega) hT 0 ⟨by decide, by decide⟩) (fun rr35 k36 => ?_)
      obtain ⟨x37, g38, rfl⟩ := k36
      refine ⟨_, _, rfl, ?_⟩
      refine T_ns (st' := [.long (i64 x37)]) rfl ?_
      obtain ⟨g38a, g38b⟩ := g38
      clear g33a g33b h34
      refine T_ret rfl (fun _ => rfl) ?_
      exact ⟨x37, ⟨by omega, by omega⟩, rfl⟩
    · skip
      refine T_ld 204 (.int (i32 1)) rfl (fun _ => rfl) ?_
      refine T_goto 208 rfl (fun _ => rfl) ?_
      refine T_call 211 328 [.int (i32 1)] [] rfl (fun _ => rfl) rfl (c_one w (mO m [] []) c N D (by omega) hT 1 ⟨by decide, by decide⟩) (fun rr39 k40 => ?_)
      obtain ⟨x41, g42, rfl⟩ := k40
      refine ⟨_, _, rfl, ?_⟩
      refine T_ns (st' := [.long (i64 x41)]) rfl ?_
      obtain ⟨g42a, g42b⟩ := g42
      clear g33a g33b h34
      refine T_ret rfl (fun _ => rfl) ?_
      exact ⟨x41, ⟨by omega, by omega⟩, rfl⟩
  by_cases h43 : s = 7
  · skip
    refine T_cast 7 h43 ?_
    refine T_pop 212 rfl (fun _ => rfl) ?_
    refine T_ld 213 (.long (i64 x)) rfl (fun _ => rfl) ?_
    refine T_ld 215 (.long (i64 y)) rfl (fun _ => rfl) ?_
    refine T_call 218 330 [.long (i64 x), .long (i64 y)] [] rfl (fun _ => rfl) rfl (c_below w (mO m [] []) c N D (by omega) hT x y (r64 (by omega) (by omega)) (r64 (by omega) (by omega))) (fun rr44 k45 => ?_)
    obtain ⟨x46, g47, rfl⟩ := k45
    refine ⟨_, _, rfl, ?_⟩
    refine T_ns (st' := [.int (i32 x46)]) rfl ?_
    obtain ⟨g47a, g47b⟩ := g47
    refine T_if 225 221 rfl rfl rfl (r32 (by omega) (by omega)) (fun (h48 : x46 ≠ 0) => ?_) (fun (h48 : ¬ (x46 ≠ 0)) => ?_)
    · skip
      refine T_ld 226 (.int (i32 0)) rfl (fun _ => rfl) ?_
      refine T_call 229 328 [.int (i32 0)] [] rfl (fun _ => rfl) rfl (c_one w (mO m [] []) c N D (by omega) hT 0 ⟨by decide, by decide⟩) (fun rr49 k50 => ?_)
      obtain ⟨x51, g52, rfl⟩ := k50
      refine ⟨_, _, rfl, ?_⟩
      refine T_ns (st' := [.long (i64 x51)]) rfl ?_
      obtain ⟨g52a, g52b⟩ := g52
      clear g47a g47b h48
      refine T_ret rfl (fun _ => rfl) ?_
      exact ⟨x51, ⟨by omega, by omega⟩, rfl⟩
    · skip
      refine T_ld 222 (.int (i32 1)) rfl (fun _ => rfl) ?_
      refine T_goto 226 rfl (fun _ => rfl) ?_
      refine T_call 229 328 [.int (i32 1)] [] rfl (fun _ => rfl) rfl (c_one w (mO m [] []) c N D (by omega) hT 1 ⟨by decide, by decide⟩) (fun rr53 k54 => ?_)
      obtain ⟨x55, g56, rfl⟩ := k54
      refine ⟨_, _, rfl, ?_⟩
      refine T_ns (st' := [.long (i64 x55)]) rfl ?_
      obtain ⟨g56a, g56b⟩ := g56
      clear g47a g47b h48
      refine T_ret rfl (fun _ => rfl) ?_
      exact ⟨x55, ⟨by omega, by omega⟩, rfl⟩
  by_cases h57 : s = 9
  · skip
    refine T_cast 9 h57 ?_
    refine T_pop 137 rfl (fun _ => rfl) ?_
    refine T_ld 138 (.long (i64 x)) rfl (fun _ => rfl) ?_
    refine T_ld 140 (.long (i64 y)) rfl (fun _ => rfl) ?_
    refine T_lhv 141 _ rfl (fun _ => rfl) (fun z58 h59 => ?_)
    obtain ⟨h59a, h59b⟩ := h59
    refine T_ret rfl (fun _ => rfl) ?_
    exact ⟨z58, ⟨by omega, by omega⟩, rfl⟩
  by_cases h60 : s = 10
  · skip
    refine T_cast 10 h60 ?_
    refine T_pop 132 rfl (fun _ => rfl) ?_
    refine T_ld 133 (.long (i64 x)) rfl (fun _ => rfl) ?_
    refine T_ld 135 (.long (i64 y)) rfl (fun _ => rfl) ?_
    refine T_lhv 136 _ rfl (fun _ => rfl) (fun z61 h62 => ?_)
    obtain ⟨h62a, h62b⟩ := h62
    refine T_ret rfl (fun _ => rfl) ?_
    exact ⟨z61, ⟨by omega, by omega⟩, rfl⟩
  by_cases h63 : s = 11
  · skip
    refine T_cast 11 h63 ?_
    refine T_pop 245 rfl (fun _ => rfl) ?_
    refine T_ld 247 (.long (i64 y)) rfl (fun _ => rfl) ?_
    refine T_ld 248 (.long (i64 0)) rfl (fun _ => rfl) ?_
    refine T_lcmp 249 rfl rfl (r64 (by omega) (by omega)) ⟨by decide, by decide⟩ (fun z64 h65 => ?_)
    obtain ⟨h65a, h65b, h65c, h65d, h65e⟩ := h65
    refine T_if 260 252 rfl rfl rfl (r32 (by omega) (by omega)) (fun (h66 : z64 < 0) => ?_) (fun (h66 : ¬ (z64 < 0)) => ?_)
    · skip
      have hl67 : y < 0 := by omega
      refine T_ld 261 (.long (i64 0)) rfl (fun _ => rfl) ?_
      refine T_goto 273 rfl (fun _ => rfl) ?_
      refine T_ret rfl (fun _ => rfl) ?_
      exact ⟨0, ⟨by omega, by omega⟩, rfl⟩
    · skip
      have hl68 : y ≥ 0 := by omega
      refine T_ld 254 (.long (i64 y)) rfl (fun _ => rfl) ?_
      refine T_ld 255 (.int (i32 b)) rfl (fun _ => rfl) ?_
      refine T_i2l 256 rfl rfl (r32 (by omega) (by omega)) ?_
      refine T_lcmp 257 rfl rfl (r64 (by omega) (by omega)) (r64 (by omega) (by omega)) (fun z69 h70 => ?_)
      obtain ⟨h70a, h70b, h70c, h70d, h70e⟩ := h70
      refine T_if 264 260 rfl rfl rfl (r32 (by omega) (by omega)) (fun (h71 : z69 < 0) => ?_) (fun (h71 : ¬ (z69 < 0)) => ?_)
      · skip
        have hl72 : y < b := by omega
        refine T_ld 265 (.long (i64 x)) rfl (fun _ => rfl) ?_
        refine T_ld 267 (.long (i64 y)) rfl (fun _ => rfl) ?_
        refine T_l2i 268 rfl rfl ?_
        refine T_lhv 269 _ rfl (fun _ => rfl) (fun z73 h74 => ?_)
        obtain ⟨h74a, h74b⟩ := h74
        refine T_ld 270 (.int (i32 b)) rfl (fun _ => rfl) ?_
        refine T_call 273 315 [.long (i64 z73), .int (i32 b)] [] rfl (fun _ => rfl) rfl (c_cut w (mO m [] []) c N D (by omega) hT z73 b (r64 (by omega) (by omega)) (r32 (by omega) (by omega))) (fun rr75 k76 => ?_)
        obtain ⟨x77, g78, rfl⟩ := k76
        refine ⟨_, _, rfl, ?_⟩
        refine T_ns (st' := [.long (i64 x77)]) rfl ?_
        obtain ⟨g78a, g78b⟩ := g78
        clear h65a h65b h65c h65d h65e h66 h70a h70b h70c h70d h70e h71 h74a h74b
        refine T_ret rfl (fun _ => rfl) ?_
        exact ⟨x77, ⟨by omega, by omega⟩, rfl⟩
      · skip
        have hl79 : y ≥ b := by omega
        refine T_ld 261 (.long (i64 0)) rfl (fun _ => rfl) ?_
        refine T_goto 273 rfl (fun _ => rfl) ?_
        refine T_ret rfl (fun _ => rfl) ?_
        exact ⟨0, ⟨by omega, by omega⟩, rfl⟩
  by_cases h80 : s = 12
  · skip
    refine T_cast 12 h80 ?_
    refine T_pop 274 rfl (fun _ => rfl) ?_
    refine T_ld 276 (.long (i64 y)) rfl (fun _ => rfl) ?_
    refine T_ld 277 (.long (i64 0)) rfl (fun _ => rfl) ?_
    refine T_lcmp 278 rfl rfl (r64 (by omega) (by omega)) ⟨by decide, by decide⟩ (fun z81 h82 => ?_)
    obtain ⟨h82a, h82b, h82c, h82d, h82e⟩ := h82
    refine T_if 289 281 rfl rfl rfl (r32 (by omega) (by omega)) (fun (h83 : z81 < 0) => ?_) (fun (h83 : ¬ (z81 < 0)) => ?_)
    · skip
      have hl84 : y < 0 := by omega
      refine T_ld 290 (.long (i64 0)) rfl (fun _ => rfl) ?_
      refine T_goto 298 rfl (fun _ => rfl) ?_
      refine T_ret rfl (fun _ => rfl) ?_
      exact ⟨0, ⟨by omega, by omega⟩, rfl⟩
    · skip
      have hl85 : y ≥ 0 := by omega
      refine T_ld 283 (.long (i64 y)) rfl (fun _ => rfl) ?_
      refine T_ld 284 (.int (i32 b)) rfl (fun _ => rfl) ?_
      refine T_i2l 285 rfl rfl (r32 (by omega) (by omega)) ?_
      refine T_lcmp 286 rfl rfl (r64 (by omega) (by omega)) (r64 (by omega) (by omega)) (fun z86 h87 => ?_)
      obtain ⟨h87a, h87b, h87c, h87d, h87e⟩ := h87
      refine T_if 293 289 rfl rfl rfl (r32 (by omega) (by omega)) (fun (h88 : z86 < 0) => ?_) (fun (h88 : ¬ (z86 < 0)) => ?_)
      · skip
        have hl89 : y < b := by omega
        refine T_ld 294 (.long (i64 x)) rfl (fun _ => rfl) ?_
        refine T_ld 296 (.long (i64 y)) rfl (fun _ => rfl) ?_
        refine T_l2i 297 rfl rfl ?_
        refine T_lhv 298 _ rfl (fun _ => rfl) (fun z90 h91 => ?_)
        obtain ⟨h91a, h91b⟩ := h91
        refine T_ret rfl (fun _ => rfl) ?_
        exact ⟨z90, ⟨by omega, by omega⟩, rfl⟩
      · skip
        have hl92 : y ≥ b := by omega
        refine T_ld 290 (.long (i64 0)) rfl (fun _ => rfl) ?_
        refine T_goto 298 rfl (fun _ => rfl) ?_
        refine T_ret rfl (fun _ => rfl) ?_
        exact ⟨0, ⟨by omega, by omega⟩, rfl⟩
  by_cases h93 : s = 38
  · skip
    refine T_cast 38 h93 ?_
    refine T_pop 240 rfl (fun _ => rfl) ?_
    refine T_ld 241 (.long (i64 x)) rfl (fun _ => rfl) ?_
    refine T_ld 243 (.long (i64 y)) rfl (fun _ => rfl) ?_
    refine T_lhv 244 _ rfl (fun _ => rfl) (fun z94 h95 => ?_)
    obtain ⟨h95a, h95b⟩ := h95
    refine T_ret rfl (fun _ => rfl) ?_
    exact ⟨z94, ⟨by omega, by omega⟩, rfl⟩
  by_cases h96 : s = 43
  · skip
    refine T_cast 43 h96 ?_
    refine T_pop 299 rfl (fun _ => rfl) ?_
    refine T_ld 300 (.long (i64 x)) rfl (fun _ => rfl) ?_
    refine T_ld 302 (.long (i64 y)) rfl (fun _ => rfl) ?_
    refine T_ladd 303 rfl rfl ?_
    refine T_lnm (fun z97 h98 => ?_)
    obtain ⟨h98a, h98b⟩ := h98
    refine T_ld 304 (.int (i32 b)) rfl (fun _ => rfl) ?_
    refine T_call 307 315 [.long (i64 z97), .int (i32 b)] [] rfl (fun _ => rfl) rfl (c_cut w (mO m [] []) c N D (by omega) hT z97 b (r64 (by omega) (by omega)) (r32 (by omega) (by omega))) (fun rr99 k100 => ?_)
    obtain ⟨x101, g102, rfl⟩ := k100
    refine ⟨_, _, rfl, ?_⟩
    refine T_ns (st' := [.long (i64 x101)]) rfl ?_
    obtain ⟨g102a, g102b⟩ := g102
    clear h98a h98b
    refine T_ret rfl (fun _ => rfl) ?_
    exact ⟨x101, ⟨by omega, by omega⟩, rfl⟩
  by_cases h103 : s = 45
  · skip
    refine T_cast 45 h103 ?_
    refine T_pop 308 rfl (fun _ => rfl) ?_
    refine T_ld 309 (.long (i64 x)) rfl (fun _ => rfl) ?_
    refine T_ld 311 (.long (i64 y)) rfl (fun _ => rfl) ?_
    refine T_lsub 312 rfl rfl ?_
    refine T_lnm (fun z104 h105 => ?_)
    obtain ⟨h105a, h105b⟩ := h105
    refine T_ld 313 (.int (i32 b)) rfl (fun _ => rfl) ?_
    refine T_call 316 315 [.long (i64 z104), .int (i32 b)] [] rfl (fun _ => rfl) rfl (c_cut w (mO m [] []) c N D (by omega) hT z104 b (r64 (by omega) (by omega)) (r32 (by omega) (by omega))) (fun rr106 k107 => ?_)
    obtain ⟨x108, g109, rfl⟩ := k107
    refine ⟨_, _, rfl, ?_⟩
    refine T_ns (st' := [.long (i64 x108)]) rfl ?_
    obtain ⟨g109a, g109b⟩ := g109
    clear h105a h105b
    refine T_ret rfl (fun _ => rfl) ?_
    exact ⟨x108, ⟨by omega, by omega⟩, rfl⟩
  by_cases h110 : s = 60
  · skip
    refine T_cast 60 h110 ?_
    refine T_pop 174 rfl (fun _ => rfl) ?_
    refine T_ld 175 (.long (i64 x)) rfl (fun _ => rfl) ?_
    refine T_ld 177 (.long (i64 y)) rfl (fun _ => rfl) ?_
    refine T_call 180 330 [.long (i64 x), .long (i64 y)] [] rfl (fun _ => rfl) rfl (c_below w (mO m [] []) c N D (by omega) hT x y (r64 (by omega) (by omega)) (r64 (by omega) (by omega))) (fun rr111 k112 => ?_)
    obtain ⟨x113, g114, rfl⟩ := k112
    refine ⟨_, _, rfl, ?_⟩
    refine T_ns (st' := [.int (i32 x113)]) rfl ?_
    obtain ⟨g114a, g114b⟩ := g114
    refine T_call 183 328 [.int (i32 x113)] [] rfl (fun _ => rfl) rfl (c_one w (mO m [] []) c N D (by omega) hT x113 (r32 (by omega) (by omega))) (fun rr115 k116 => ?_)
    obtain ⟨x117, g118, rfl⟩ := k116
    refine ⟨_, _, rfl, ?_⟩
    refine T_ns (st' := [.long (i64 x117)]) rfl ?_
    obtain ⟨g118a, g118b⟩ := g118
    clear g114a g114b
    refine T_ret rfl (fun _ => rfl) ?_
    exact ⟨x117, ⟨by omega, by omega⟩, rfl⟩
  by_cases h119 : s = 62
  · skip
    refine T_cast 62 h119 ?_
    refine T_pop 184 rfl (fun _ => rfl) ?_
    refine T_ld 186 (.long (i64 y)) rfl (fun _ => rfl) ?_
    refine T_ld 187 (.long (i64 x)) rfl (fun _ => rfl) ?_
    refine T_call 190 330 [.long (i64 y), .long (i64 x)] [] rfl (fun _ => rfl) rfl (c_below w (mO m [] []) c N D (by omega) hT y x (r64 (by omega) (by omega)) (r64 (by omega) (by omega))) (fun rr120 k121 => ?_)
    obtain ⟨x122, g123, rfl⟩ := k121
    refine ⟨_, _, rfl, ?_⟩
    refine T_ns (st' := [.int (i32 x122)]) rfl ?_
    obtain ⟨g123a, g123b⟩ := g123
    refine T_call 193 328 [.int (i32 x122)] [] rfl (fun _ => rfl) rfl (c_one w (mO m [] []) c N D (by omega) hT x122 (r32 (by omega) (by omega))) (fun rr124 k125 => ?_)
    obtain ⟨x126, g127, rfl⟩ := k125
    refine ⟨_, _, rfl, ?_⟩
    refine T_ns (st' := [.long (i64 x126)]) rfl ?_
    obtain ⟨g127a, g127b⟩ := g127
    clear g123a g123b
    refine T_ret rfl (fun _ => rfl) ?_
    exact ⟨x126, ⟨by omega, by omega⟩, rfl⟩
  by_cases h128 : s = 94
  · skip
    refine T_cast 94 h128 ?_
    refine T_pop 235 rfl (fun _ => rfl) ?_
    refine T_ld 236 (.long (i64 x)) rfl (fun _ => rfl) ?_
    refine T_ld 238 (.long (i64 y)) rfl (fun _ => rfl) ?_
    refine T_lhv 239 _ rfl (fun _ => rfl) (fun z129 h130 => ?_)
    obtain ⟨h130a, h130b⟩ := h130
    refine T_ret rfl (fun _ => rfl) ?_
    exact ⟨z129, ⟨by omega, by omega⟩, rfl⟩
  by_cases h131 : s = 124
  · skip
    refine T_cast 124 h131 ?_
    refine T_pop 230 rfl (fun _ => rfl) ?_
    refine T_ld 231 (.long (i64 x)) rfl (fun _ => rfl) ?_
    refine T_ld 233 (.long (i64 y)) rfl (fun _ => rfl) ?_
    refine T_lhv 234 _ rfl (fun _ => rfl) (fun z132 h133 => ?_)
    obtain ⟨h133a, h133b⟩ := h133
    refine T_ret rfl (fun _ => rfl) ?_
    exact ⟨z132, ⟨by omega, by omega⟩, rfl⟩
  refine T_lkd 317 rfl rfl (r32 (by omega) (by omega)) (by simp [Op.lookupswitch.offset, show ¬ ((4 : Int) = s) by omega, show ¬ ((5 : Int) = s) by omega, show ¬ ((6 : Int) = s) by omega, show ¬ ((7 : Int) = s) by omega, show ¬ ((9 : Int) = s) by omega, show ¬ ((10 : Int) = s) by omega, show ¬ ((11 : Int) = s) by omega, show ¬ ((12 : Int) = s) by omega, show ¬ ((38 : Int) = s) by omega, show ¬ ((43 : Int) = s) by omega, show ¬ ((45 : Int) = s) by omega, show ¬ ((60 : Int) = s) by omega, show ¬ ((62 : Int) = s) by omega, show ¬ ((94 : Int) = s) by omega, show ¬ ((124 : Int) = s) by omega]) ?_
  refine T_ld 318 (.long (i64 x)) rfl (fun _ => rfl) ?_
  refine T_ld 319 (.int (i32 n)) rfl (fun _ => rfl) ?_
  refine T_lhv 320 _ rfl (fun _ => rfl) (fun z134 h135 => ?_)
  obtain ⟨h135a, h135b⟩ := h135
  refine T_ld 322 (.long (i64 y)) rfl (fun _ => rfl) ?_
  refine T_lhv 323 _ rfl (fun _ => rfl) (fun z136 h137 => ?_)
  obtain ⟨h137a, h137b⟩ := h137
  refine T_ret rfl (fun _ => rfl) ?_
  exact ⟨z136, ⟨by omega, by omega⟩, rfl⟩
def fF_worth : List Nat := []
def fA_worth : List Nat := [173]
def Q_worth (m : mR) (c : Nat → Option am_C) (N : Nat) (f : Int) (t : Int) : ag_Re af_T → Prop := fun R => ∃ (M : mR) (r : Int), Ty M ∧ fr fF_worth fA_worth m M ∧ ((-9223372036854775808) ≤ r ∧ r ≤ 9223372036854775807) ∧ R = (.inl (some (.long (i64 r))), (mhp M c, N), 0, 0)
set_option maxHeartbeats 3000000 in
theorem c_worth (w : wX) (m : mR) (c : Nat → Option am_C) (N D : Nat) (hD : 3 ≤ D) (hT : Ty m) (f : Int) (t : Int) (qf : R32 f) (qt : R32 t) (p0 : 0 ≤ f ∧ f ≤ 800) (p1 : 0 ≤ t ∧ t ≤ 800) (hcd : cdr (m.2 65) (m.1 28) f t) (hCN : CN (m.2 65) (m.2 67) (m.1 28)) : TC w D 327 [.ref 189, .int (i32 f), .int (i32 t)] (mhp m c, N) (Q_worth m c N f t) := by
  obtain ⟨D, rfl⟩ : ∃ k, D = k + 1 := ⟨D - 1, by omega⟩
  obtain ⟨qfa, qfb⟩ := id qf
  obtain ⟨qta, qtb⟩ := id qt
  have f28 : 0 ≤ m.1 28 ∧ m.1 28 ≤ 800 := hT.1 28
  refine Tc_of rfl ?_
  show TT w D pm_327 (0, [(0, .ref 189), (1, .int (i32 f)), (2, .int (i32 t))], [], (mhp (mO m [] []) c, N), 0, 0) (Q_worth m c N f t)
  have hab := hcd.1.2.1
  have hh0 : (0 : Int) = hg (m.2 65) f (f - f) := by rw [Int.sub_self]; rfl
  have hnn := hcd.2
  refine T_ld 1 (.int (i32 0)) rfl (fun _ => rfl) ?_
  refine T_sto 2 [(3, .int (i32 0)), (0, .ref 189), (1, .int (i32 f)), (2, .int (i32 t))] rfl (fun _ => rfl) ?_
  refine T_ld 3 (.int (i32 f)) rfl (fun _ => rfl) ?_
  refine T_sto 5 [(4, .int (i32 f)), (3, .int (i32 0)), (0, .ref 189), (1, .int (i32 f)), (2, .int (i32 t))] rfl (fun _ => rfl) ?_
  have L5_4 : ∀ (n15 : Nat) (v1 : Int) (v2 : Int) (m3 : mR), (R32 v1) → (R32 v2) → Ty m3 → fr [] [173] (mO m [] []) m3 → (0 ≤ v2) → (v2 ≤ 800) → (v2 ≤ t) → (f ≤ v2) → (0 ≤ v1 ∧ v1 ≤ v2 - f) → (v1 = hg (m.2 65) f (v2 - f)) → t - v2 < (n15 : Int) → TT w D pm_327 (5, [(0, .ref 189), (1, .int (i32 f)), (2, .int (i32 t)), (3, .int (i32 v1)), (4, .int (i32 v2))], [], (mhp (mO m3 [] []) c, N), 0, 0) (Q_worth m c N f t) := by
    intro n15
    induction n15 with
    | zero =>
      intro v1 v2 m3 q11 q12 Tm3 Fm3 ic5 ic6 ic7 ic8 ic9 ic10 hmu
      obtain ⟨q11a, q11b⟩ := id q11
      obtain ⟨q12a, q12b⟩ := id q12
      have hhg := ic10
      exfalso
      omega
    | succ n15 ih =>
      intro v1 v2 m3 q11 q12 Tm3 Fm3 ic5 ic6 ic7 ic8 ic9 ic10 hmu
      obtain ⟨q11a, q11b⟩ := id q11
      obtain ⟨q12a, q12b⟩ := id q12
      have hhg := ic10
      have ih16 := ih
      refine T_ld 7 (.int (i32 v2)) rfl (fun _ => rfl) ?_
      refine T_ld 8 (.int (i32 t)) rfl (fun _ => rfl) ?_
      refine T_icmp 448 11 rfl rfl rfl (r32 (by omega) (by omega)) (r32 (by omega) (by omega)) (fun (h17 : t ≤ v2) => ?_) (fun (h17 : ¬ (t ≤ v2)) => ?_)
      · skip
        refine T_gf 452 (.ref 322) rfl rfl rfl rfl rfl rfl ?_
        refine T_ld 453 (.int (i32 0)) rfl (fun _ => rfl) ?_
        refine T_lald 454 173 (m3.2 173) rfl rfl rfl (by omega) (show 0 < (800 : Int) by omega) rfl ?_
        have e18 : (-9223372036854775808) ≤ (m3.2 173) 0 ∧ (m3.2 173) 0 ≤ 9223372036854775807 := (Tm3.2.1 173) 0
        refine T_ret rfl (fun _ => rfl) ?_
        exact ⟨(mO m3 [] []), (m3.2 173) 0, Tm3, (fr_m (fr_s Fm3 (fr_m fr_0 rfl rfl) rfl rfl) rfl rfl), ⟨by omega, by omega⟩, rfl⟩
      · skip
        obtain ⟨hk2, hk3, hk4, hk5⟩ := hCN v2 (by omega) (by omega)
        have hah := hcd.1.2.2 v2 (by omega) (by omega)
        have hst := hg_s (m.2 65) f (v2 - f) (by omega)
        rw [show f + (v2 - f) = v2 by omega] at hst
        refine T_gf 15 (.ref 236) rfl rfl rfl rfl rfl rfl ?_
        refine T_ld 17 (.int (i32 v2)) rfl (fun _ => rfl) ?_
        refine T_iald 18 67 (m.2 67) rfl rfl rfl (by omega) (show v2 < (800 : Int) by omega) (show (m3.2 67) = (m.2 67) from (fr2 Fm3 67 rfl)) ?_
        have e19 : 0 ≤ m.2 67 v2 ∧ m.2 67 v2 ≤ 191 := hT.2.1 67 v2
        refine T_sto 20 [(5, .int (i32 ((m.2 67) v2))), (0, .ref 189), (1, .int (i32 f)), (2, .int (i32 t)), (3, .int (i32 v1)), (4, .int (i32 v2))] rfl (fun _ => rfl) ?_
        refine T_gf 24 (.ref 235) rfl rfl rfl rfl rfl rfl ?_
        refine T_ld 26 (.int (i32 v2)) rfl (fun _ => rfl) ?_
        refine T_iald 27 66 (m.2 66) rfl rfl rfl (by omega) (show v2 < (800 : Int) by omega) (show (m3.2 66) = (m.2 66) from (fr2 Fm3 66 rfl)) ?_
        have e20 : 0 ≤ m.2 66 v2 ∧ m.2 66 v2 ≤ 64 := hT.2.1 66 v2
        refine T_sto 29 [(6, .int (i32 ((m.2 66) v2))), (5, .int (i32 ((m.2 67) v2))), (0, .ref 189), (1, .int (i32 f)), (2, .int (i32 t)), (3, .int (i32 v1)), (4, .int (i32 v2))] rfl (fun _ => rfl) ?_
        refine T_gf 33 (.ref 234) rfl rfl rfl rfl rfl rfl ?_
        refine T_ld 35 (.int (i32 v2)) rfl (fun _ => rfl) ?_
        refine T_iald 36 65 (m.2 65) rfl rfl rfl (by omega) (show v2 < (800 : Int) by omega) (show (m3.2 65) = (m.2 65) from (fr2 Fm3 65 rfl)) ?_
        have e21 : 0 ≤ m.2 65 v2 ∧ m.2 65 v2 ≤ 408 := hT.2.1 65 v2
        by_cases h22 : (m.2 65) v2 = 33
        · skip
          refine T_cast 33 h22 ?_
          refine T_pop 338 rfl (fun _ => rfl) ?_
          have har : ar ((m.2 65) v2) = 1 := ar_1b (by omega)
          refine T_gf 342 (.ref 322) rfl rfl rfl rfl rfl rfl ?_
          refine T_ld 343 (.int (i32 v1)) rfl (fun _ => rfl) ?_
          refine T_ld 344 (.int (i32 1)) rfl (fun _ => rfl) ?_
          refine T_isub 345 rfl rfl ?_
          refine T_ld 346 (.long (i64 1)) rfl (fun _ => rfl) ?_
          refine T_gf 350 (.ref 322) rfl rfl rfl rfl rfl rfl ?_
          refine T_ld 351 (.int (i32 v1)) rfl (fun _ => rfl) ?_
          refine T_ld 352 (.int (i32 1)) rfl (fun _ => rfl) ?_
          refine T_isub 353 rfl rfl ?_
          refine T_lald 354 173 (m3.2 173) rfl rfl rfl (by omega) (show (v1 - 1) < (800 : Int) by omega) rfl ?_
          have e23 : (-9223372036854775808) ≤ (m3.2 173) (v1 - 1) ∧ (m3.2 173) (v1 - 1) ≤ 9223372036854775807 := (Tm3.2.1 173) (v1 - 1)
          refine T_lsub 355 rfl rfl ?_
          refine T_lnm (fun z24 h25 => ?_)
          obtain ⟨h25a, h25b⟩ := h25
          have G26 : ∀ j, (-9223372036854775808) ≤ (upI (m3.2 173) (v1 - 1) z24) j ∧ (upI (m3.2 173) (v1 - 1) z24) j ≤ 9223372036854775807 := upI_rg (Tm3.2.1 173) ⟨by omega, by omega⟩
          refine T_last (a' := [(173, upI (m3.2 173) (v1 - 1) z24)]) 356 173 (m3.2 173) rfl rfl rfl (by omega) (show (v1 - 1) < (800 : Int) by omega) rfl rfl ?_
          refine T_goto 442 rfl (fun _ => rfl) ?_
          refine T_iinc 445 [(4, .int (i32 (v2 + 1))), (6, .int (i32 ((m.2 66) v2))), (5, .int (i32 ((m.2 67) v2))), (0, .ref 189), (1, .int (i32 f)), (2, .int (i32 t)), (3, .int (i32 v1))] rfl rfl (by decide) rfl rfl ?_
          refine T_goto 5 rfl (fun _ => rfl) ?_
          refine Tm_lv (a := [(0, .ref 189), (1, .int (i32 f)), (2, .int (i32 t)), (3, .int (i32 v1)), (4, .int (i32 (v2 + 1)))]) rfl rfl ⟨rfl, rfl, rfl, rfl, rfl, trivial⟩ ?_
          exact ih16 v1 (v2 + 1) (mO m3 [] [(173, upI (m3.2 173) (v1 - 1) z24)]) (r32 (by omega) (by omega)) (r32 (by omega) (by omega)) (Ty_mO Tm3 rfl rfl trivial ⟨G26, trivial⟩) (fr_m (fr_s Fm3 (fr_m fr_0 rfl rfl) rfl rfl) rfl rfl) (show 0 ≤ (v2 + 1) by omega) (show (v2 + 1) ≤ 800 by omega) (show (v2 + 1) ≤ t by omega) (show f ≤ (v2 + 1) by omega) (show 0 ≤ v1 ∧ v1 ≤ (v2 + 1) - f by omega) (show v1 = hg (m.2 65) f ((v2 + 1) - f) by first | exact hh0 | (rw [show (v2 + 1) - f = v2 - f + 1 by omega, hst]; omega)) (show t - (v2 + 1) < (n15 : Int) by omega)
        by_cases h27 : (m.2 65) v2 = 126
        · skip
          refine T_cast 126 h27 ?_
          refine T_pop 285 rfl (fun _ => rfl) ?_
          have har : ar ((m.2 65) v2) = 1 := ar_1b (by omega)
          refine T_gf 289 (.ref 322) rfl rfl rfl rfl rfl rfl ?_
          refine T_ld 290 (.int (i32 v1)) rfl (fun _ => rfl) ?_
          refine T_ld 291 (.int (i32 1)) rfl (fun _ => rfl) ?_
          refine T_isub 292 rfl rfl ?_
          refine T_gf 296 (.ref 322) rfl rfl rfl rfl rfl rfl ?_
          refine T_ld 297 (.int (i32 v1)) rfl (fun _ => rfl) ?_
          refine T_ld 298 (.int (i32 1)) rfl (fun _ => rfl) ?_
          refine T_isub 299 rfl rfl ?_
          refine T_lald 300 173 (m3.2 173) rfl rfl rfl (by omega) (show (v1 - 1) < (800 : Int) by omega) rfl ?_
          have e28 : (-9223372036854775808) ≤ (m3.2 173) (v1 - 1) ∧ (m3.2 173) (v1 - 1) ≤ 9223372036854775807 := (Tm3.2.1 173) (v1 - 1)
          refine T_ld 303 (.long (i64 (-1))) rfl (fun _ => rfl) ?_
          refine T_lhv 304 _ rfl (fun _ => rfl) (fun z29 h30 => ?_)
          obtain ⟨h30a, h30b⟩ := h30
          refine T_ld 306 (.int (i32 ((m.2 66) v2))) rfl (fun _ => rfl) ?_
          refine T_call 309 315 [.long (i64 z29), .int (i32 ((m.2 66) v2))] [.int (i32 (v1 - 1)), .ref 322] rfl (fun _ => rfl) rfl (c_cut w (mO m3 [] []) c N D (by omega) Tm3 z29 ((m.2 66) v2) (r64 (by omega) (by omega)) (r32 (by omega) (by omega))) (fun rr31 k32 => ?_)
          obtain ⟨x33, g34, rfl⟩ := k32
          refine ⟨_, _, rfl, ?_⟩
          refine T_ns (st' := [.long (i64 x33), .int (i32 (v1 - 1)), .ref 322]) rfl ?_
          obtain ⟨g34a, g34b⟩ := g34
          have G35 : ∀ j, (-9223372036854775808) ≤ (upI (m3.2 173) (v1 - 1) x33) j ∧ (upI (m3.2 173) (v1 - 1) x33) j ≤ 9223372036854775807 := upI_rg (Tm3.2.1 173) ⟨by omega, by omega⟩
          refine T_last (a' := [(173, upI (m3.2 173) (v1 - 1) x33)]) 310 173 (m3.2 173) rfl rfl rfl (by omega) (show (v1 - 1) < (800 : Int) by omega) rfl rfl ?_
          refine T_goto 442 rfl (fun _ => rfl) ?_
          refine T_iinc 445 [(4, .int (i32 (v2 + 1))), (6, .int (i32 ((m.2 66) v2))), (5, .int (i32 ((m.2 67) v2))), (0, .ref 189), (1, .int (i32 f)), (2, .int (i32 t)), (3, .int (i32 v1))] rfl rfl (by decide) rfl rfl ?_
          refine T_goto 5 rfl (fun _ => rfl) ?_
          refine Tm_lv (a := [(0, .ref 189), (1, .int (i32 f)), (2, .int (i32 t)), (3, .int (i32 v1)), (4, .int (i32 (v2 + 1)))]) rfl rfl ⟨rfl, rfl, rfl, rfl, rfl, trivial⟩ ?_
          exact ih16 v1 (v2 + 1) (mO m3 [] [(173, upI (m3.2 173) (v1 - 1) x33)]) (r32 (by omega) (by omega)) (r32 (by omega) (by omega)) (Ty_mO Tm3 rfl rfl trivial ⟨G35, trivial⟩) (fr_m (fr_s Fm3 (fr_m fr_0 rfl rfl) rfl rfl) rfl rfl) (show 0 ≤ (v2 + 1) by omega) (show (v2 + 1) ≤ 800 by omega) (show (v2 + 1) ≤ t by omega) (show f ≤ (v2 + 1) by omega) (show 0 ≤ v1 ∧ v1 ≤ (v2 + 1) - f by omega) (show v1 = hg (m.2 65) f ((v2 + 1) - f) by first | exact hh0 | (rw [show (v2 + 1) - f = v2 - f + 1 by omega, hst]; omega)) (show t - (v2 + 1) < (n15 : Int) by omega)
        by_cases h36 : (m.2 65) v2 = 400
        · skip
          refine T_cast 400 h36 ?_
          refine T_pop 136 rfl (fun _ => rfl) ?_
          have har : ar ((m.2 65) v2) = 0 := ar_0 (by omega)
          refine T_gf 140 (.ref 322) rfl rfl rfl rfl rfl rfl ?_
          refine T_ld 141 (.int (i32 v1)) rfl (fun _ => rfl) ?_
          refine T_gf 145 (.ref 237) rfl rfl rfl rfl rfl rfl ?_
          refine T_ld 147 (.int (i32 v2)) rfl (fun _ => rfl) ?_
          refine T_lald 148 68 (m.2 68) rfl rfl rfl (by omega) (show v2 < (800 : Int) by omega) (show (m3.2 68) = (m.2 68) from (fr2 Fm3 68 rfl)) ?_
          have e37 : (-9223372036854775808) ≤ m.2 68 v2 ∧ m.2 68 v2 ≤ 9223372036854775807 := hT.2.1 68 v2
          have G38 : ∀ j, (-9223372036854775808) ≤ (upI (m3.2 173) v1 ((m.2 68) v2)) j ∧ (upI (m3.2 173) v1 ((m.2 68) v2)) j ≤ 9223372036854775807 := upI_rg (Tm3.2.1 173) ⟨by omega, by omega⟩
          refine T_last (a' := [(173, upI (m3.2 173) v1 ((m.2 68) v2))]) 149 173 (m3.2 173) rfl rfl rfl (by omega) (show v1 < (800 : Int) by omega) rfl rfl ?_
          refine T_iinc 152 [(3, .int (i32 (v1 + 1))), (6, .int (i32 ((m.2 66) v2))), (5, .int (i32 ((m.2 67) v2))), (0, .ref 189), (1, .int (i32 f)), (2, .int (i32 t)), (4, .int (i32 v2))] rfl rfl (by decide) rfl rfl ?_
          refine T_goto 442 rfl (fun _ => rfl) ?_
          refine T_iinc 445 [(4, .int (i32 (v2 + 1))), (3, .int (i32 (v1 + 1))), (6, .int (i32 ((m.2 66) v2))), (5, .int (i32 ((m.2 67) v2))), (0, .ref 189), (1, .int (i32 f)), (2, .int (i32 t))] rfl rfl (by decide) rfl rfl ?_
          refine T_goto 5 rfl (fun _ => rfl) ?_
          refine Tm_lv (a := [(0, .ref 189), (1, .int (i32 f)), (2, .int (i32 t)), (3, .int (i32 (v1 + 1))), (4, .int (i32 (v2 + 1)))]) rfl rfl ⟨rfl, rfl, rfl, rfl, rfl, trivial⟩ ?_
          exact ih16 (v1 + 1) (v2 + 1) (mO m3 [] [(173, upI (m3.2 173) v1 ((m.2 68) v2))]) (r32 (by omega) (by omega)) (r32 (by omega) (by omega)) (Ty_mO Tm3 rfl rfl trivial ⟨G38, trivial⟩) (fr_m (fr_s Fm3 (fr_m fr_0 rfl rfl) rfl rfl) rfl rfl) (show 0 ≤ (v2 + 1) by omega) (show (v2 + 1) ≤ 800 by omega) (show (v2 + 1) ≤ t by omega) (show f ≤ (v2 + 1) by omega) (show 0 ≤ (v1 + 1) ∧ (v1 + 1) ≤ (v2 + 1) - f by omega) (show (v1 + 1) = hg (m.2 65) f ((v2 + 1) - f) by first | exact hh0 | (rw [show (v2 + 1) - f = v2 - f + 1 by omega, hst]; omega)) (show t - (v2 + 1) < (n15 : Int) by omega)
        by_cases h39 : (m.2 65) v2 = 401
        · skip
          refine T_cast 401 h39 ?_
          refine T_pop 155 rfl (fun _ => rfl) ?_
          have har : ar ((m.2 65) v2) = 0 := ar_0 (by omega)
          refine T_gf 159 (.ref 322) rfl rfl rfl rfl rfl rfl ?_
          refine T_ld 160 (.int (i32 v1)) rfl (fun _ => rfl) ?_
          refine T_gf 164 (.ref 320) rfl rfl rfl rfl rfl rfl ?_
          refine T_ld 166 (.int (i32 ((m.2 67) v2))) rfl (fun _ => rfl) ?_
          refine T_lald 167 171 (m.2 171) rfl rfl rfl (by omega) (show ((m.2 67) v2) < (192 : Int) by omega) (show (m3.2 171) = (m.2 171) from (fr2 Fm3 171 rfl)) ?_
          have e40 : (-9223372036854775808) ≤ m.2 171 ((m.2 67) v2) ∧ m.2 171 ((m.2 67) v2) ≤ 9223372036854775807 := hT.2.1 171 ((m.2 67) v2)
          have G41 : ∀ j, (-9223372036854775808) ≤ (upI (m3.2 173) v1 ((m.2 171) ((m.2 67) v2))) j ∧ (upI (m3.2 173) v1 ((m.2 171) ((m.2 67) v2))) j ≤ 9223372036854775807 := upI_rg (Tm3.2.1 173) ⟨by omega, by omega⟩
          refine T_last (a' := [(173, upI (m3.2 173) v1 ((m.2 171) ((m.2 67) v2)))]) 168 173 (m3.2 173) rfl rfl rfl (by omega) (show v1 < (800 : Int) by omega) rfl rfl ?_
          refine T_iinc 171 [(3, .int (i32 (v1 + 1))), (6, .int (i32 ((m.2 66) v2))), (5, .int (i32 ((m.2 67) v2))), (0, .ref 189), (1, .int (i32 f)), (2, .int (i32 t)), (4, .int (i32 v2))] rfl rfl (by decide) rfl rfl ?_
          refine T_goto 442 rfl (fun _ => rfl) ?_
          refine T_iinc 445 [(4, .int (i32 (v2 + 1))), (3, .int (i32 (v1 + 1))), (6, .int (i32 ((m.2 66) v2))), (5, .int (i32 ((m.2 67) v2))), (0, .ref 189), (1, .int (i32 f)), (2, .int (i32 t))] rfl rfl (by decide) rfl rfl ?_
          refine T_goto 5 rfl (fun _ => rfl) ?_
          refine Tm_lv (a := [(0, .ref 189), (1, .int (i32 f)), (2, .int (i32 t)), (3, .int (i32 (v1 + 1))), (4, .int (i32 (v2 + 1)))]) rfl rfl ⟨rfl, rfl, rfl, rfl, rfl, trivial⟩ ?_
          exact ih16 (v1 + 1) (v2 + 1) (mO m3 [] [(173, upI (m3.2 173) v1 ((m.2 171) ((m.2 67) v2)))]) (r32 (by omega) (by omega)) (r32 (by omega) (by omega)) (Ty_mO Tm3 rfl rfl trivial ⟨G41, trivial⟩) (fr_m (fr_s Fm3 (fr_m fr_0 rfl rfl) rfl rfl) rfl rfl) (show 0 ≤ (v2 + 1) by omega) (show (v2 + 1) ≤ 800 by omega) (show (v2 + 1) ≤ t by omega) (show f ≤ (v2 + 1) by omega) (show 0 ≤ (v1 + 1) ∧ (v1 + 1) ≤ (v2 + 1) - f by omega) (show (v1 + 1) = hg (m.2 65) f ((v2 + 1) - f) by first | exact hh0 | (rw [show (v2 + 1) - f = v2 - f + 1 by omega, hst]; omega)) (show t - (v2 + 1) < (n15 : Int) by omega)
        by_cases h42 : (m.2 65) v2 = 402
        · skip
          refine T_cast 402 h42 ?_
          refine T_pop 174 rfl (fun _ => rfl) ?_
          have har : ar ((m.2 65) v2) = 0 := ar_0 (by omega)
          refine T_gf 178 (.ref 322) rfl rfl rfl rfl rfl rfl ?_
          refine T_ld 179 (.int (i32 v1)) rfl (fun _ => rfl) ?_
          refine T_gf 183 (.ref 321) rfl rfl rfl rfl rfl rfl ?_
          refine T_ld 185 (.int (i32 ((m.2 67) v2))) rfl (fun _ => rfl) ?_
          refine T_lald 186 172 (m.2 172) rfl rfl rfl (by omega) (show ((m.2 67) v2) < (16 : Int) by omega) (show (m3.2 172) = (m.2 172) from (fr2 Fm3 172 rfl)) ?_
          have e43 : (-9223372036854775808) ≤ m.2 172 ((m.2 67) v2) ∧ m.2 172 ((m.2 67) v2) ≤ 9223372036854775807 := hT.2.1 172 ((m.2 67) v2)
          have G44 : ∀ j, (-9223372036854775808) ≤ (upI (m3.2 173) v1 ((m.2 172) ((m.2 67) v2))) j ∧ (upI (m3.2 173) v1 ((m.2 172) ((m.2 67) v2))) j ≤ 9223372036854775807 := upI_rg (Tm3.2.1 173) ⟨by omega, by omega⟩
          refine T_last (a' := [(173, upI (m3.2 173) v1 ((m.2 172) ((m.2 67) v2)))]) 187 173 (m3.2 173) rfl rfl rfl (by omega) (show v1 < (800 : Int) by omega) rfl rfl ?_
          refine T_iinc 190 [(3, .int (i32 (v1 + 1))), (6, .int (i32 ((m.2 66) v2))), (5, .int (i32 ((m.2 67) v2))), (0, .ref 189), (1, .int (i32 f)), (2, .int (i32 t)), (4, .int (i32 v2))] rfl rfl (by decide) rfl rfl ?_
          refine T_goto 442 rfl (fun _ => rfl) ?_
          refine T_iinc 445 [(4, .int (i32 (v2 + 1))), (3, .int (i32 (v1 + 1))), (6, .int (i32 ((m.2 66) v2))), (5, .int (i32 ((m.2 67) v2))), (0, .ref 189), (1, .int (i32 f)), (2, .int (i32 t))] rfl rfl (by decide) rfl rfl ?_
          refine T_goto 5 rfl (fun _ => rfl) ?_
          refine Tm_lv (a := [(0, .ref 189), (1, .int (i32 f)), (2, .int (i32 t)), (3, .int (i32 (v1 + 1))), (4, .int (i32 (v2 + 1)))]) rfl rfl ⟨rfl, rfl, rfl, rfl, rfl, trivial⟩ ?_
          exact ih16 (v1 + 1) (v2 + 1) (mO m3 [] [(173, upI (m3.2 173) v1 ((m.2 172) ((m.2 67) v2)))]) (r32 (by omega) (by omega)) (r32 (by omega) (by omega)) (Ty_mO Tm3 rfl rfl trivial ⟨G44, trivial⟩) (fr_m (fr_s Fm3 (fr_m fr_0 rfl rfl) rfl rfl) rfl rfl) (show 0 ≤ (v2 + 1) by omega) (show (v2 + 1) ≤ 800 by omega) (show (v2 + 1) ≤ t by omega) (show f ≤ (v2 + 1) by omega) (show 0 ≤ (v1 + 1) ∧ (v1 + 1) ≤ (v2 + 1) - f by omega) (show (v1 + 1) = hg (m.2 65) f ((v2 + 1) - f) by first | exact hh0 | (rw [show (v2 + 1) - f = v2 - f + 1 by omega, hst]; omega)) (show t - (v2 + 1) < (n15 : Int) by omega)
        by_cases h45 : (m.2 65) v2 = 403
        · skip
          refine T_cast 403 h45 ?_
          refine T_pop 193 rfl (fun _ => rfl) ?_
          have har : ar ((m.2 65) v2) = 0 := ar_0 (by omega)
          refine T_gf 197 (.ref 322) rfl rfl rfl rfl rfl rfl ?_
          refine T_ld 198 (.int (i32 v1)) rfl (fun _ => rfl) ?_
          refine T_gf 202 (.ref 323) rfl rfl rfl rfl rfl rfl ?_
          refine T_ld 204 (.int (i32 ((m.2 67) v2))) rfl (fun _ => rfl) ?_
          refine T_lald 205 174 (m.2 174) rfl rfl rfl (by omega) (show ((m.2 67) v2) < (4 : Int) by omega) (show (m3.2 174) = (m.2 174) from (fr2 Fm3 174 rfl)) ?_
          have e46 : (-9223372036854775808) ≤ m.2 174 ((m.2 67) v2) ∧ m.2 174 ((m.2 67) v2) ≤ 9223372036854775807 := hT.2.1 174 ((m.2 67) v2)
          have G47 : ∀ j, (-9223372036854775808) ≤ (upI (m3.2 173) v1 ((m.2 174) ((m.2 67) v2))) j ∧ (upI (m3.2 173) v1 ((m.2 174) ((m.2 67) v2))) j ≤ 9223372036854775807 := upI_rg (Tm3.2.1 173) ⟨by omega, by omega⟩
          refine T_last (a' := [(173, upI (m3.2 173) v1 ((m.2 174) ((m.2 67) v2)))]) 206 173 (m3.2 173) rfl rfl rfl (by omega) (show v1 < (800 : Int) by omega) rfl rfl ?_
          refine T_iinc 209 [(3, .int (i32 (v1 + 1))), (6, .int (i32 ((m.2 66) v2))), (5, .int (i32 ((m.2 67) v2))), (0, .ref 189), (1, .int (i32 f)), (2, .int (i32 t)), (4, .int (i32 v2))] rfl rfl (by decide) rfl rfl ?_
          refine T_goto 442 rfl (fun _ => rfl) ?_
          refine T_iinc 445 [(4, .int (i32 (v2 + 1))), (3, .int (i32 (v1 + 1))), (6, .int (i32 ((m.2 66) v2))), (5, .int (i32 ((m.2 67) v2))), (0, .ref 189), (1, .int (i32 f)), (2, .int (i32 t))] rfl rfl (by decide) rfl rfl ?_
          refine T_goto 5 rfl (fun _ => rfl) ?_
          refine Tm_lv (a := [(0, .ref 189), (1, .int (i32 f)), (2, .int (i32 t)), (3, .int (i32 (v1 + 1))), (4, .int (i32 (v2 + 1)))]) rfl rfl ⟨rfl, rfl, rfl, rfl, rfl, trivial⟩ ?_
          exact ih16 (v1 + 1) (v2 + 1) (mO m3 [] [(173, upI (m3.2 173) v1 ((m.2 174) ((m.2 67) v2)))]) (r32 (by omega) (by omega)) (r32 (by omega) (by omega)) (Ty_mO Tm3 rfl rfl trivial ⟨G47, trivial⟩) (fr_m (fr_s Fm3 (fr_m fr_0 rfl rfl) rfl rfl) rfl rfl) (show 0 ≤ (v2 + 1) by omega) (show (v2 + 1) ≤ 800 by omega) (show (v2 + 1) ≤ t by omega) (show f ≤ (v2 + 1) by omega) (show 0 ≤ (v1 + 1) ∧ (v1 + 1) ≤ (v2 + 1) - f by omega) (show (v1 + 1) = hg (m.2 65) f ((v2 + 1) - f) by first | exact hh0 | (rw [show (v2 + 1) - f = v2 - f + 1 by omega, hst]; omega)) (show t - (v2 + 1) < (n15 : Int) by omega)
        by_cases h48 : (m.2 65) v2 = 404
        · skip
          refine T_cast 404 h48 ?_
          refine T_pop 212 rfl (fun _ => rfl) ?_
          have har : ar ((m.2 65) v2) = 0 := ar_0 (by omega)
          refine T_gf 216 (.ref 322) rfl rfl rfl rfl rfl rfl ?_
          refine T_ld 217 (.int (i32 v1)) rfl (fun _ => rfl) ?_
          refine T_gf 221 (.ref 324) rfl rfl rfl rfl rfl rfl ?_
          refine T_ld 223 (.int (i32 ((m.2 67) v2))) rfl (fun _ => rfl) ?_
          refine T_bald 224 175 (m.2 175) rfl rfl rfl (by omega) (show ((m.2 67) v2) < (12 : Int) by omega) (show (m3.2 175) = (m.2 175) from (fr2 Fm3 175 rfl)) ?_
          have e49 : 0 ≤ m.2 175 ((m.2 67) v2) ∧ m.2 175 ((m.2 67) v2) ≤ 1 := hT.2.1 175 ((m.2 67) v2)
          refine T_call 227 328 [.int (i32 ((m.2 175) ((m.2 67) v2)))] [.int (i32 v1), .ref 322] rfl (fun _ => rfl) rfl (c_one w (mO m3 [] []) c N D (by omega) Tm3 ((m.2 175) ((m.2 67) v2)) (r32 (by omega) (by omega))) (fun rr50 k51 => ?_)
          obtain ⟨x52, g53, rfl⟩ := k51
          refine ⟨_, _, rfl, ?_⟩
          refine T_ns (st' := [.long (i64 x52), .int (i32 v1), .ref 322]) rfl ?_
          obtain ⟨g53a, g53b⟩ := g53
          have G54 : ∀ j, (-9223372036854775808) ≤ (upI (m3.2 173) v1 x52) j ∧ (upI (m3.2 173) v1 x52) j ≤ 9223372036854775807 := upI_rg (Tm3.2.1 173) ⟨by omega, by omega⟩
          refine T_last (a' := [(173, upI (m3.2 173) v1 x52)]) 228 173 (m3.2 173) rfl rfl rfl (by omega) (show v1 < (800 : Int) by omega) rfl rfl ?_
          refine T_iinc 231 [(3, .int (i32 (v1 + 1))), (6, .int (i32 ((m.2 66) v2))), (5, .int (i32 ((m.2 67) v2))), (0, .ref 189), (1, .int (i32 f)), (2, .int (i32 t)), (4, .int (i32 v2))] rfl rfl (by decide) rfl rfl ?_
          refine T_goto 442 rfl (fun _ => rfl) ?_
          refine T_iinc 445 [(4, .int (i32 (v2 + 1))), (3, .int (i32 (v1 + 1))), (6, .int (i32 ((m.2 66) v2))), (5, .int (i32 ((m.2 67) v2))), (0, .ref 189), (1, .int (i32 f)), (2, .int (i32 t))] rfl rfl (by decide) rfl rfl ?_
          refine T_goto 5 rfl (fun _ => rfl) ?_
          refine Tm_lv (a := [(0, .ref 189), (1, .int (i32 f)), (2, .int (i32 t)), (3, .int (i32 (v1 + 1))), (4, .int (i32 (v2 + 1)))]) rfl rfl ⟨rfl, rfl, rfl, rfl, rfl, trivial⟩ ?_
          exact ih16 (v1 + 1) (v2 + 1) (mO m3 [] [(173, upI (m3.2 173) v1 x52)]) (r32 (by omega) (by omega)) (r32 (by omega) (by omega)) (Ty_mO Tm3 rfl rfl trivial ⟨G54, trivial⟩) (fr_m (fr_s Fm3 (fr_m fr_0 rfl rfl) rfl rfl) rfl rfl) (show 0 ≤ (v2 + 1) by omega) (show (v2 + 1) ≤ 800 by omega) (show (v2 + 1) ≤ t by omega) (show f ≤ (v2 + 1) by omega) (show 0 ≤ (v1 + 1) ∧ (v1 + 1) ≤ (v2 + 1) - f by omega) (show (v1 + 1) = hg (m.2 65) f ((v2 + 1) - f) by first | exact hh0 | (rw [show (v2 + 1) - f = v2 - f + 1 by omega, hst]; omega)) (show t - (v2 + 1) < (n15 : Int) by omega)
        by_cases h55 : (m.2 65) v2 = 405
        · skip
          refine T_cast 405 h55 ?_
          refine T_pop 234 rfl (fun _ => rfl) ?_
          have har : ar ((m.2 65) v2) = 1 := ar_1b (by omega)
          refine T_gf 238 (.ref 322) rfl rfl rfl rfl rfl rfl ?_
          refine T_ld 239 (.int (i32 v1)) rfl (fun _ => rfl) ?_
          refine T_ld 240 (.int (i32 1)) rfl (fun _ => rfl) ?_
          refine T_isub 241 rfl rfl ?_
          refine T_gf 245 (.ref 322) rfl rfl rfl rfl rfl rfl ?_
          refine T_ld 246 (.int (i32 v1)) rfl (fun _ => rfl) ?_
          refine T_ld 247 (.int (i32 1)) rfl (fun _ => rfl) ?_
          refine T_isub 248 rfl rfl ?_
          refine T_lald 249 173 (m3.2 173) rfl rfl rfl (by omega) (show (v1 - 1) < (800 : Int) by omega) rfl ?_
          have e56 : (-9223372036854775808) ≤ (m3.2 173) (v1 - 1) ∧ (m3.2 173) (v1 - 1) ≤ 9223372036854775807 := (Tm3.2.1 173) (v1 - 1)
          refine T_ld 251 (.int (i32 ((m.2 67) v2))) rfl (fun _ => rfl) ?_
          refine T_lhv 252 _ rfl (fun _ => rfl) (fun z57 h58 => ?_)
          obtain ⟨h58a, h58b⟩ := h58
          refine T_ld 254 (.int (i32 ((m.2 66) v2))) rfl (fun _ => rfl) ?_
          refine T_call 257 315 [.long (i64 z57), .int (i32 ((m.2 66) v2))] [.int (i32 (v1 - 1)), .ref 322] rfl (fun _ => rfl) rfl (c_cut w (mO m3 [] []) c N D (by omega) Tm3 z57 ((m.2 66) v2) (r64 (by omega) (by omega)) (r32 (by omega) (by omega))) (fun rr59 k60 => ?_)
          obtain ⟨x61, g62, rfl⟩ := k60
          refine ⟨_, _, rfl, ?_⟩
          refine T_ns (st' := [.long (i64 x61), .int (i32 (v1 - 1)), .ref 322]) rfl ?_
          obtain ⟨g62a, g62b⟩ := g62
          have G63 : ∀ j, (-9223372036854775808) ≤ (upI (m3.2 173) (v1 - 1) x61) j ∧ (upI (m3.2 173) (v1 - 1) x61) j ≤ 9223372036854775807 := upI_rg (Tm3.2.1 173) ⟨by omega, by omega⟩
          refine T_last (a' := [(173, upI (m3.2 173) (v1 - 1) x61)]) 258 173 (m3.2 173) rfl rfl rfl (by omega) (show (v1 - 1) < (800 : Int) by omega) rfl rfl ?_
          refine T_goto 442 rfl (fun _ => rfl) ?_
          refine T_iinc 445 [(4, .int (i32 (v2 + 1))), (6, .int (i32 ((m.2 66) v2))), (5, .int (i32 ((m.2 67) v2))), (0, .ref 189), (1, .int (i32 f)), (2, .int (i32 t)), (3, .int (i32 v1))] rfl rfl (by decide) rfl rfl ?_
          refine T_goto 5 rfl (fun _ => rfl) ?_
          refine Tm_lv (a := [(0, .ref 189), (1, .int (i32 f)), (2, .int (i32 t)), (3, .int (i32 v1)), (4, .int (i32 (v2 + 1)))]) rfl rfl ⟨rfl, rfl, rfl, rfl, rfl, trivial⟩ ?_
          exact ih16 v1 (v2 + 1) (mO m3 [] [(173, upI (m3.2 173) (v1 - 1) x61)]) (r32 (by omega) (by omega)) (r32 (by omega) (by omega)) (Ty_mO Tm3 rfl rfl trivial ⟨G63, trivial⟩) (fr_m (fr_s Fm3 (fr_m fr_0 rfl rfl) rfl rfl) rfl rfl) (show 0 ≤ (v2 + 1) by omega) (show (v2 + 1) ≤ 800 by omega) (show (v2 + 1) ≤ t by omega) (show f ≤ (v2 + 1) by omega) (show 0 ≤ v1 ∧ v1 ≤ (v2 + 1) - f by omega) (show v1 = hg (m.2 65) f ((v2 + 1) - f) by first | exact hh0 | (rw [show (v2 + 1) - f = v2 - f + 1 by omega, hst]; omega)) (show t - (v2 + 1) < (n15 : Int) by omega)
        by_cases h64 : (m.2 65) v2 = 406
        · skip
          refine T_cast 406 h64 ?_
          refine T_pop 261 rfl (fun _ => rfl) ?_
          have har : ar ((m.2 65) v2) = 1 := ar_1b (by omega)
          refine T_gf 265 (.ref 322) rfl rfl rfl rfl rfl rfl ?_
          refine T_ld 266 (.int (i32 v1)) rfl (fun _ => rfl) ?_
          refine T_ld 267 (.int (i32 1)) rfl (fun _ => rfl) ?_
          refine T_isub 268 rfl rfl ?_
          refine T_gf 272 (.ref 322) rfl rfl rfl rfl rfl rfl ?_
          refine T_ld 273 (.int (i32 v1)) rfl (fun _ => rfl) ?_
          refine T_ld 274 (.int (i32 1)) rfl (fun _ => rfl) ?_
          refine T_isub 275 rfl rfl ?_
          refine T_lald 276 173 (m3.2 173) rfl rfl rfl (by omega) (show (v1 - 1) < (800 : Int) by omega) rfl ?_
          have e65 : (-9223372036854775808) ≤ (m3.2 173) (v1 - 1) ∧ (m3.2 173) (v1 - 1) ≤ 9223372036854775807 := (Tm3.2.1 173) (v1 - 1)
          refine T_ld 278 (.int (i32 ((m.2 66) v2))) rfl (fun _ => rfl) ?_
          refine T_call 281 315 [.long (i64 ((m3.2 173) (v1 - 1))), .int (i32 ((m.2 66) v2))] [.int (i32 (v1 - 1)), .ref 322] rfl (fun _ => rfl) rfl (c_cut w (mO m3 [] []) c N D (by omega) Tm3 ((m3.2 173) (v1 - 1)) ((m.2 66) v2) (r64 (by omega) (by omega)) (r32 (by omega) (by omega))) (fun rr66 k67 => ?_)
          obtain ⟨x68, g69, rfl⟩ := k67
          refine ⟨_, _, rfl, ?_⟩
          refine T_ns (st' := [.long (i64 x68), .int (i32 (v1 - 1)), .ref 322]) rfl ?_
          obtain ⟨g69a, g69b⟩ := g69
          have G70 : ∀ j, (-9223372036854775808) ≤ (upI (m3.2 173) (v1 - 1) x68) j ∧ (upI (m3.2 173) (v1 - 1) x68) j ≤ 9223372036854775807 := upI_rg (Tm3.2.1 173) ⟨by omega, by omega⟩
          refine T_last (a' := [(173, upI (m3.2 173) (v1 - 1) x68)]) 282 173 (m3.2 173) rfl rfl rfl (by omega) (show (v1 - 1) < (800 : Int) by omega) rfl rfl ?_
          refine T_goto 442 rfl (fun _ => rfl) ?_
          refine T_iinc 445 [(4, .int (i32 (v2 + 1))), (6, .int (i32 ((m.2 66) v2))), (5, .int (i32 ((m.2 67) v2))), (0, .ref 189), (1, .int (i32 f)), (2, .int (i32 t)), (3, .int (i32 v1))] rfl rfl (by decide) rfl rfl ?_
          refine T_goto 5 rfl (fun _ => rfl) ?_
          refine Tm_lv (a := [(0, .ref 189), (1, .int (i32 f)), (2, .int (i32 t)), (3, .int (i32 v1)), (4, .int (i32 (v2 + 1)))]) rfl rfl ⟨rfl, rfl, rfl, rfl, rfl, trivial⟩ ?_
          exact ih16 v1 (v2 + 1) (mO m3 [] [(173, upI (m3.2 173) (v1 - 1) x68)]) (r32 (by omega) (by omega)) (r32 (by omega) (by omega)) (Ty_mO Tm3 rfl rfl trivial ⟨G70, trivial⟩) (fr_m (fr_s Fm3 (fr_m fr_0 rfl rfl) rfl rfl) rfl rfl) (show 0 ≤ (v2 + 1) by omega) (show (v2 + 1) ≤ 800 by omega) (show (v2 + 1) ≤ t by omega) (show f ≤ (v2 + 1) by omega) (show 0 ≤ v1 ∧ v1 ≤ (v2 + 1) - f by omega) (show v1 = hg (m.2 65) f ((v2 + 1) - f) by first | exact hh0 | (rw [show (v2 + 1) - f = v2 - f + 1 by omega, hst]; omega)) (show t - (v2 + 1) < (n15 : Int) by omega)
        by_cases h71 : (m.2 65) v2 = 407
        · skip
          refine T_cast 407 h71 ?_
          refine T_pop 359 rfl (fun _ => rfl) ?_
          have har : ar ((m.2 65) v2) = 3 := ar_3 (by omega)
          refine T_iinc 362 [(3, .int (i32 (v1 + (-2)))), (6, .int (i32 ((m.2 66) v2))), (5, .int (i32 ((m.2 67) v2))), (0, .ref 189), (1, .int (i32 f)), (2, .int (i32 t)), (4, .int (i32 v2))] rfl rfl (by decide) rfl rfl ?_
          refine T_gf 366 (.ref 322) rfl rfl rfl rfl rfl rfl ?_
          refine T_ld 367 (.int (i32 (v1 + (-2)))) rfl (fun _ => rfl) ?_
          refine T_ld 368 (.int (i32 1)) rfl (fun _ => rfl) ?_
          refine T_isub 369 rfl rfl ?_
          refine T_gf 373 (.ref 322) rfl rfl rfl rfl rfl rfl ?_
          refine T_ld 374 (.int (i32 (v1 + (-2)))) rfl (fun _ => rfl) ?_
          refine T_ld 375 (.int (i32 1)) rfl (fun _ => rfl) ?_
          refine T_isub 376 rfl rfl ?_
          refine T_lald 377 173 (m3.2 173) rfl rfl rfl (by omega) (show ((v1 + (-2)) - 1) < (800 : Int) by omega) rfl ?_
          have e72 : (-9223372036854775808) ≤ (m3.2 173) ((v1 + (-2)) - 1) ∧ (m3.2 173) ((v1 + (-2)) - 1) ≤ 9223372036854775807 := (Tm3.2.1 173) ((v1 + (-2)) - 1)
          refine T_ld 378 (.long (i64 1)) rfl (fun _ => rfl) ?_
          refine T_lcmp 379 rfl rfl (r64 (by omega) (by omega)) ⟨by decide, by decide⟩ (fun z73 h74 => ?_)
          obtain ⟨h74a, h74b, h74c, h74d, h74e⟩ := h74
          refine T_if 391 382 rfl rfl rfl (r32 (by omega) (by omega)) (fun (h75 : z73 ≠ 0) => ?_) (fun (h75 : ¬ (z73 ≠ 0)) => ?_)
          · skip
            have hl76 : (m3.2 173) ((v1 + (-2)) - 1) ≠ 1 := by omega
            refine T_gf 395 (.ref 322) rfl rfl rfl rfl rfl rfl ?_
            refine T_ld 396 (.int (i32 (v1 + (-2)))) rfl (fun _ => rfl) ?_
            refine T_ld 397 (.int (i32 1)) rfl (fun _ => rfl) ?_
            refine T_iadd 398 rfl rfl ?_
            refine T_lald 399 173 (m3.2 173) rfl rfl rfl (by omega) (show ((v1 + (-2)) + 1) < (800 : Int) by omega) rfl ?_
            have e77 : (-9223372036854775808) ≤ (m3.2 173) ((v1 + (-2)) + 1) ∧ (m3.2 173) ((v1 + (-2)) + 1) ≤ 9223372036854775807 := (Tm3.2.1 173) ((v1 + (-2)) + 1)
            have G78 : ∀ j, (-9223372036854775808) ≤ (upI (m3.2 173) ((v1 + (-2)) - 1) ((m3.2 173) ((v1 + (-2)) + 1))) j ∧ (upI (m3.2 173) ((v1 + (-2)) - 1) ((m3.2 173) ((v1 + (-2)) + 1))) j ≤ 9223372036854775807 := upI_rg (Tm3.2.1 173) ⟨by omega, by omega⟩
            refine T_last (a' := [(173, upI (m3.2 173) ((v1 + (-2)) - 1) ((m3.2 173) ((v1 + (-2)) + 1)))]) 400 173 (m3.2 173) rfl rfl rfl (by omega) (show ((v1 + (-2)) - 1) < (800 : Int) by omega) rfl rfl ?_
            refine T_goto 442 rfl (fun _ => rfl) ?_
            refine T_iinc 445 [(4, .int (i32 (v2 + 1))), (3, .int (i32 (v1 + (-2)))), (6, .int (i32 ((m.2 66) v2))), (5, .int (i32 ((m.2 67) v2))), (0, .ref 189), (1, .int (i32 f)), (2, .int (i32 t))] rfl rfl (by decide) rfl rfl ?_
            refine T_goto 5 rfl (fun _ => rfl) ?_
            refine Tm_lv (a := [(0, .ref 189), (1, .int (i32 f)), (2, .int (i32 t)), (3, .int (i32 (v1 + (-2)))), (4, .int (i32 (v2 + 1)))]) rfl rfl ⟨rfl, rfl, rfl, rfl, rfl, trivial⟩ ?_
            exact ih16 (v1 + (-2)) (v2 + 1) (mO m3 [] [(173, upI (m3.2 173) ((v1 + (-2)) - 1) ((m3.2 173) ((v1 + (-2)) + 1)))]) (r32 (by omega) (by omega)) (r32 (by omega) (by omega)) (Ty_mO Tm3 rfl rfl trivial ⟨G78, trivial⟩) (fr_m (fr_s Fm3 (fr_m fr_0 rfl rfl) rfl rfl) rfl rfl) (show 0 ≤ (v2 + 1) by omega) (show (v2 + 1) ≤ 800 by omega) (show (v2 + 1) ≤ t by omega) (show f ≤ (v2 + 1) by omega) (show 0 ≤ (v1 + (-2)) ∧ (v1 + (-2)) ≤ (v2 + 1) - f by omega) (show (v1 + (-2)) = hg (m.2 65) f ((v2 + 1) - f) by first | exact hh0 | (rw [show (v2 + 1) - f = v2 - f + 1 by omega, hst]; omega)) (show t - (v2 + 1) < (n15 : Int) by omega)
          · skip
            have hl79 : (m3.2 173) ((v1 + (-2)) - 1) = 1 := by omega
            refine T_gf 386 (.ref 322) rfl rfl rfl rfl rfl rfl ?_
            refine T_ld 387 (.int (i32 (v1 + (-2)))) rfl (fun _ => rfl) ?_
            refine T_lald 388 173 (m3.2 173) rfl rfl rfl (by omega) (show (v1 + (-2)) < (800 : Int) by omega) rfl ?_
            have e80 : (-9223372036854775808) ≤ (m3.2 173) (v1 + (-2)) ∧ (m3.2 173) (v1 + (-2)) ≤ 9223372036854775807 := (Tm3.2.1 173) (v1 + (-2))
            refine T_goto 399 rfl (fun _ => rfl) ?_
            have G81 : ∀ j, (-9223372036854775808) ≤ (upI (m3.2 173) ((v1 + (-2)) - 1) ((m3.2 173) (v1 + (-2)))) j ∧ (upI (m3.2 173) ((v1 + (-2)) - 1) ((m3.2 173) (v1 + (-2)))) j ≤ 9223372036854775807 := upI_rg (Tm3.2.1 173) ⟨by omega, by omega⟩
            refine T_last (a' := [(173, upI (m3.2 173) ((v1 + (-2)) - 1) ((m3.2 173) (v1 + (-2))))]) 400 173 (m3.2 173) rfl rfl rfl (by omega) (show ((v1 + (-2)) - 1) < (800 : Int) by omega) rfl rfl ?_
            refine T_goto 442 rfl (fun _ => rfl) ?_
            refine T_iinc 445 [(4, .int (i32 (v2 + 1))), (3, .int (i32 (v1 + (-2)))), (6, .int (i32 ((m.2 66) v2))), (5, .int (i32 ((m.2 67) v2))), (0, .ref 189), (1, .int (i32 f)), (2, .int (i32 t))] rfl rfl (by decide) rfl rfl ?_
            refine T_goto 5 rfl (fun _ => rfl) ?_
            refine Tm_lv (a := [(0, .ref 189), (1, .int (i32 f)), (2, .int (i32 t)), (3, .int (i32 (v1 + (-2)))), (4, .int (i32 (v2 + 1)))]) rfl rfl ⟨rfl, rfl, rfl, rfl, rfl, trivial⟩ ?_
            exact ih16 (v1 + (-2)) (v2 + 1) (mO m3 [] [(173, upI (m3.2 173) ((v1 + (-2)) - 1) ((m3.2 173) (v1 + (-2))))]) (r32 (by omega) (by omega)) (r32 (by omega) (by omega)) (Ty_mO Tm3 rfl rfl trivial ⟨G81, trivial⟩) (fr_m (fr_s Fm3 (fr_m fr_0 rfl rfl) rfl rfl) rfl rfl) (show 0 ≤ (v2 + 1) by omega) (show (v2 + 1) ≤ 800 by omega) (show (v2 + 1) ≤ t by omega) (show f ≤ (v2 + 1) by omega) (show 0 ≤ (v1 + (-2)) ∧ (v1 + (-2)) ≤ (v2 + 1) - f by omega) (show (v1 + (-2)) = hg (m.2 65) f ((v2 + 1) - f) by first | exact hh0 | (rw [show (v2 + 1) - f = v2 - f + 1 by omega, hst]; omega)) (show t - (v2 + 1) < (n15 : Int) by omega)
        by_cases h82 : (m.2 65) v2 = 408
        · skip
          refine T_cast 408 h82 ?_
          refine T_pop 313 rfl (fun _ => rfl) ?_
          have har : ar ((m.2 65) v2) = 1 := ar_1b (by omega)
          refine T_gf 317 (.ref 322) rfl rfl rfl rfl rfl rfl ?_
          refine T_ld 318 (.int (i32 v1)) rfl (fun _ => rfl) ?_
          refine T_ld 319 (.int (i32 1)) rfl (fun _ => rfl) ?_
          refine T_isub 320 rfl rfl ?_
          refine T_gf 324 (.ref 322) rfl rfl rfl rfl rfl rfl ?_
          refine T_ld 325 (.int (i32 v1)) rfl (fun _ => rfl) ?_
          refine T_ld 326 (.int (i32 1)) rfl (fun _ => rfl) ?_
          refine T_isub 327 rfl rfl ?_
          refine T_lald 328 173 (m3.2 173) rfl rfl rfl (by omega) (show (v1 - 1) < (800 : Int) by omega) rfl ?_
          have e83 : (-9223372036854775808) ≤ (m3.2 173) (v1 - 1) ∧ (m3.2 173) (v1 - 1) ≤ 9223372036854775807 := (Tm3.2.1 173) (v1 - 1)
          refine T_lhv 329 _ rfl (fun _ => rfl) (fun z84 h85 => ?_)
          obtain ⟨h85a, h85b⟩ := h85
          refine T_ld 331 (.int (i32 ((m.2 66) v2))) rfl (fun _ => rfl) ?_
          refine T_call 334 315 [.long (i64 z84), .int (i32 ((m.2 66) v2))] [.int (i32 (v1 - 1)), .ref 322] rfl (fun _ => rfl) rfl (c_cut w (mO m3 [] []) c N D (by omega) Tm3 z84 ((m.2 66) v2) (r64 (by omega) (by omega)) (r32 (by omega) (by omega))) (fun rr86 k87 => ?_)
          obtain ⟨x88, g89, rfl⟩ := k87
          refine ⟨_, _, rfl, ?_⟩
          refine T_ns (st' := [.long (i64 x88), .int (i32 (v1 - 1)), .ref 322]) rfl ?_
          obtain ⟨g89a, g89b⟩ := g89
          have G90 : ∀ j, (-9223372036854775808) ≤ (upI (m3.2 173) (v1 - 1) x88) j ∧ (upI (m3.2 173) (v1 - 1) x88) j ≤ 9223372036854775807 := upI_rg (Tm3.2.1 173) ⟨by omega, by omega⟩
          refine T_last (a' := [(173, upI (m3.2 173) (v1 - 1) x88)]) 335 173 (m3.2 173) rfl rfl rfl (by omega) (show (v1 - 1) < (800 : Int) by omega) rfl rfl ?_
          refine T_goto 442 rfl (fun _ => rfl) ?_
          refine T_iinc 445 [(4, .int (i32 (v2 + 1))), (6, .int (i32 ((m.2 66) v2))), (5, .int (i32 ((m.2 67) v2))), (0, .ref 189), (1, .int (i32 f)), (2, .int (i32 t)), (3, .int (i32 v1))] rfl rfl (by decide) rfl rfl ?_
          refine T_goto 5 rfl (fun _ => rfl) ?_
          refine Tm_lv (a := [(0, .ref 189), (1, .int (i32 f)), (2, .int (i32 t)), (3, .int (i32 v1)), (4, .int (i32 (v2 + 1)))]) rfl rfl ⟨rfl, rfl, rfl, rfl, rfl, trivial⟩ ?_
          exact ih16 v1 (v2 + 1) (mO m3 [] [(173, upI (m3.2 173) (v1 - 1) x88)]) (r32 (by omega) (by omega)) (r32 (by omega) (by omega)) (Ty_mO Tm3 rfl rfl trivial ⟨G90, trivial⟩) (fr_m (fr_s Fm3 (fr_m fr_0 rfl rfl) rfl rfl) rfl rfl) (show 0 ≤ (v2 + 1) by omega) (show (v2 + 1) ≤ 800 by omega) (show (v2 + 1) ≤ t by omega) (show f ≤ (v2 + 1) by omega) (show 0 ≤ v1 ∧ v1 ≤ (v2 + 1) - f by omega) (show v1 = hg (m.2 65) f ((v2 + 1) - f) by first | exact hh0 | (rw [show (v2 + 1) - f = v2 - f + 1 by omega, hst]; omega)) (show t - (v2 + 1) < (n15 : Int) by omega)
        refine T_lkd 403 rfl rfl (r32 (by omega) (by omega)) (by simp [Op.lookupswitch.offset, show ¬ ((33 : Int) = (m.2 65) v2) by omega, show ¬ ((126 : Int) = (m.2 65) v2) by omega, show ¬ ((400 : Int) = (m.2 65) v2) by omega, show ¬ ((401 : Int) = (m.2 65) v2) by omega, show ¬ ((402 : Int) = (m.2 65) v2) by omega, show ¬ ((403 : Int) = (m.2 65) v2) by omega, show ¬ ((404 : Int) = (m.2 65) v2) by omega, show ¬ ((405 : Int) = (m.2 65) v2) by omega, show ¬ ((406 : Int) = (m.2 65) v2) by omega, show ¬ ((407 : Int) = (m.2 65) v2) by omega, show ¬ ((408 : Int) = (m.2 65) v2) by omega]) ?_
        have har : ar ((m.2 65) v2) = 2 := ar_2b (by omega)
        refine T_iinc 406 [(3, .int (i32 (v1 + (-1)))), (6, .int (i32 ((m.2 66) v2))), (5, .int (i32 ((m.2 67) v2))), (0, .ref 189), (1, .int (i32 f)), (2, .int (i32 t)), (4, .int (i32 v2))] rfl rfl (by decide) rfl rfl ?_
        refine T_gf 410 (.ref 322) rfl rfl rfl rfl rfl rfl ?_
        refine T_ld 411 (.int (i32 (v1 + (-1)))) rfl (fun _ => rfl) ?_
        refine T_ld 412 (.int (i32 1)) rfl (fun _ => rfl) ?_
        refine T_isub 413 rfl rfl ?_
        refine T_gf 417 (.ref 234) rfl rfl rfl rfl rfl rfl ?_
        refine T_ld 419 (.int (i32 v2)) rfl (fun _ => rfl) ?_
        refine T_iald 420 65 (m.2 65) rfl rfl rfl (by omega) (show v2 < (800 : Int) by omega) (show (m3.2 65) = (m.2 65) from (fr2 Fm3 65 rfl)) ?_
        have e91 : 0 ≤ m.2 65 v2 ∧ m.2 65 v2 ≤ 408 := hT.2.1 65 v2
        refine T_ld 422 (.int (i32 ((m.2 66) v2))) rfl (fun _ => rfl) ?_
        refine T_ld 424 (.int (i32 ((m.2 67) v2))) rfl (fun _ => rfl) ?_
        refine T_gf 428 (.ref 322) rfl rfl rfl rfl rfl rfl ?_
        refine T_ld 429 (.int (i32 (v1 + (-1)))) rfl (fun _ => rfl) ?_
        refine T_ld 430 (.int (i32 1)) rfl (fun _ => rfl) ?_
        refine T_isub 431 rfl rfl ?_
        refine T_lald 432 173 (m3.2 173) rfl rfl rfl (by omega) (show ((v1 + (-1)) - 1) < (800 : Int) by omega) rfl ?_
        have e92 : (-9223372036854775808) ≤ (m3.2 173) ((v1 + (-1)) - 1) ∧ (m3.2 173) ((v1 + (-1)) - 1) ≤ 9223372036854775807 := (Tm3.2.1 173) ((v1 + (-1)) - 1)
        refine T_gf 436 (.ref 322) rfl rfl rfl rfl rfl rfl ?_
        refine T_ld 437 (.int (i32 (v1 + (-1)))) rfl (fun _ => rfl) ?_
        refine T_lald 438 173 (m3.2 173) rfl rfl rfl (by omega) (show (v1 + (-1)) < (800 : Int) by omega) rfl ?_
        have e93 : (-9223372036854775808) ≤ (m3.2 173) (v1 + (-1)) ∧ (m3.2 173) (v1 + (-1)) ≤ 9223372036854775807 := (Tm3.2.1 173) (v1 + (-1))
        refine T_call 441 329 [.int (i32 ((m.2 65) v2)), .int (i32 ((m.2 66) v2)), .int (i32 ((m.2 67) v2)), .long (i64 ((m3.2 173) ((v1 + (-1)) - 1))), .long (i64 ((m3.2 173) (v1 + (-1))))] [.int (i32 ((v1 + (-1)) - 1)), .ref 322] rfl (fun _ => rfl) rfl (c_twoOf w (mO m3 [] []) c N D (by omega) Tm3 ((m.2 65) v2) ((m.2 66) v2) ((m.2 67) v2) ((m3.2 173) ((v1 + (-1)) - 1)) ((m3.2 173) (v1 + (-1))) (r32 (by omega) (by omega)) (r32 (by omega) (by omega)) (r32 (by omega) (by omega)) (r64 (by omega) (by omega)) (r64 (by omega) (by omega)) (show 0 ≤ ((m.2 66) v2) ∧ ((m.2 66) v2) ≤ 64 by omega)) (fun rr94 k95 => ?_)
        obtain ⟨x96, g97, rfl⟩ := k95
        refine ⟨_, _, rfl, ?_⟩
        refine T_ns (st' := [.long (i64 x96), .int (i32 ((v1 + (-1)) - 1)), .ref 322]) rfl ?_
        obtain ⟨g97a, g97b⟩ := g97
        have G98 : ∀ j, (-9223372036854775808) ≤ (upI (m3.2 173) ((v1 + (-1)) - 1) x96) j ∧ (upI (m3.2 173) ((v1 + (-1)) - 1) x96) j ≤ 9223372036854775807 := upI_rg (Tm3.2.1 173) ⟨by omega, by omega⟩
        refine T_last (a' := [(173, upI (m3.2 173) ((v1 + (-1)) - 1) x96)]) 442 173 (m3.2 173) rfl rfl rfl (by omega) (show ((v1 + (-1)) - 1) < (800 : Int) by omega) rfl rfl ?_
        refine T_iinc 445 [(4, .int (i32 (v2 + 1))), (3, .int (i32 (v1 + (-1)))), (6, .int (i32 ((m.2 66) v2))), (5, .int (i32 ((m.2 67) v2))), (0, .ref 189), (1, .int (i32 f)), (2, .int (i32 t))] rfl rfl (by decide) rfl rfl ?_
        refine T_goto 5 rfl (fun _ => rfl) ?_
        refine Tm_lv (a := [(0, .ref 189), (1, .int (i32 f)), (2, .int (i32 t)), (3, .int (i32 (v1 + (-1)))), (4, .int (i32 (v2 + 1)))]) rfl rfl ⟨rfl, rfl, rfl, rfl, rfl, trivial⟩ ?_
        exact ih16 (v1 + (-1)) (v2 + 1) (mO m3 [] [(173, upI (m3.2 173) ((v1 + (-1)) - 1) x96)]) (r32 (by omega) (by omega)) (r32 (by omega) (by omega)) (Ty_mO Tm3 rfl rfl trivial ⟨G98, trivial⟩) (fr_m (fr_s Fm3 (fr_m fr_0 rfl rfl) rfl rfl) rfl rfl) (show 0 ≤ (v2 + 1) by omega) (show (v2 + 1) ≤ 800 by omega) (show (v2 + 1) ≤ t by omega) (show f ≤ (v2 + 1) by omega) (show 0 ≤ (v1 + (-1)) ∧ (v1 + (-1)) ≤ (v2 + 1) - f by omega) (show (v1 + (-1)) = hg (m.2 65) f ((v2 + 1) - f) by first | exact hh0 | (rw [show (v2 + 1) - f = v2 - f + 1 by omega, hst]; omega)) (show t - (v2 + 1) < (n15 : Int) by omega)
  refine Tm_lv (a := [(0, .ref 189), (1, .int (i32 f)), (2, .int (i32 t)), (3, .int (i32 0)), (4, .int (i32 f))]) rfl rfl ⟨rfl, rfl, rfl, rfl, rfl, trivial⟩ ?_
  exact L5_4 ((t - f : Int) + 1).toNat 0 f (mO m [] []) ⟨by decide, by decide⟩ (r32 (by omega) (by omega)) hT (fr_m fr_0 rfl rfl) (show 0 ≤ f by omega) (show f ≤ 800 by omega) (show f ≤ t by omega) (show f ≤ f by omega) (show 0 ≤ (0 : Int) ∧ (0 : Int) ≤ f - f by omega) (show (0 : Int) = hg (m.2 65) f (f - f) by first | exact hh0 | (rw [show f - f = v2 - f + 1 by omega, hst]; omega)) (show t - f < ((((t - f : Int) + 1).toNat : Nat) : Int) by omega)
def fF_extract : List Nat := [176]
def fA_extract : List Nat := [171, 175]
def Q_extract (m : mR) (c : Nat → Option am_C) (N : Nat) (i : Int) : ag_Re af_T → Prop := fun R => ∃ (M : mR) (r : Int), Ty M ∧ fr fF_extract fA_extract m M ∧ (0 ≤ r ∧ r ≤ 1) ∧ (r = 1 → (M.2 175) = upI (m.2 175) i 1 ∧ (m.2 175) i = 0) ∧ R = (.inl (some (.int (i32 r))), (mhp M c, N), 0, 0)
set_option maxHeartbeats 3000000 in
theorem c_extract (w : wX) (m : mR) (c : Nat → Option am_C) (N D : Nat) (hD : 1 ≤ D) (hT : Ty m) (i : Int) (qi : R32 i) (p0 : 0 ≤ i ∧ i ≤ 11) : TC w D 326 [.ref 189, .int (i32 i)] (mhp m c, N) (Q_extract m c N i) := by
  obtain ⟨D, rfl⟩ : ∃ k, D = k + 1 := ⟨D - 1, by omega⟩
  obtain ⟨qia, qib⟩ := id qi
  have f176 : 0 ≤ m.1 176 ∧ m.1 176 ≤ 128 := hT.1 176
  refine Tc_of rfl ?_
  show TT w D pm_326 (0, [(0, .ref 189), (1, .int (i32 i))], [], (mhp (mO m [] []) c, N), 0, 0) (Q_extract m c N i)
  refine T_gf 4 (.ref 204) rfl rfl rfl rfl rfl rfl ?_
  refine T_ld 5 (.int (i32 i)) rfl (fun _ => rfl) ?_
  refine T_iald 6 34 (m.2 34) rfl rfl rfl (by omega) (show i < (12 : Int) by omega) rfl ?_
  have e1 : 0 ≤ m.2 34 i ∧ m.2 34 i ≤ 11 := hT.2.1 34 i
  refine T_sto 7 [(2, .int (i32 ((m.2 34) i))), (0, .ref 189), (1, .int (i32 i))] rfl (fun _ => rfl) ?_
  refine T_gf 11 (.ref 324) rfl rfl rfl rfl rfl rfl ?_
  refine T_ld 12 (.int (i32 i)) rfl (fun _ => rfl) ?_
  refine T_bald 13 175 (m.2 175) rfl rfl rfl (by omega) (show i < (12 : Int) by omega) rfl ?_
  have e2 : 0 ≤ (m.2 175) i ∧ (m.2 175) i ≤ 1 := (hT.2.1 175) i
  refine T_if 42 16 rfl rfl rfl (r32 (by omega) (by omega)) (fun (h3 : (m.2 175) i ≠ 0) => ?_) (fun (h3 : ¬ ((m.2 175) i ≠ 0)) => ?_)
  · skip
    refine T_ld 43 (.int (i32 0)) rfl (fun _ => rfl) ?_
    refine T_ret rfl (fun _ => rfl) ?_
    exact ⟨(mO m [] []), 0, hT, (fr_m fr_0 rfl rfl), ⟨by omega, by omega⟩, (show (0 : Int) = 1 → (m.2 175) = upI (m.2 175) i 1 ∧ (m.2 175) i = 0 by first | (first | (intro h; exfalso; omega) | exact fun _ => ⟨rfl, by omega⟩) | (exfalso; omega)), rfl⟩
  · skip
    refine T_ld 18 (.int (i32 8)) rfl (fun _ => rfl) ?_
    refine T_gf 22 (.int (i32 (m.1 176))) rfl rfl rfl rfl rfl rfl ?_
    refine T_imul 23 rfl rfl ?_
    refine T_gf 27 (.ref 200) rfl rfl rfl rfl rfl rfl ?_
    refine T_ld 28 (.int (i32 ((m.2 34) i))) rfl (fun _ => rfl) ?_
    refine T_iald 29 30 (m.2 30) rfl rfl rfl (by omega) (show ((m.2 34) i) < (12 : Int) by omega) rfl ?_
    have e4 : 0 ≤ m.2 30 ((m.2 34) i) ∧ m.2 30 ((m.2 34) i) ≤ 1024 := hT.2.1 30 ((m.2 34) i)
    refine T_iadd 30 rfl rfl ?_
    refine T_ld 32 (.int (i32 8)) rfl (fun _ => rfl) ?_
    refine T_gf 36 (.ref 303) rfl rfl rfl rfl rfl rfl ?_
    refine T_ld 37 (.int (i32 0)) rfl (fun _ => rfl) ?_
    refine T_iald 38 154 (m.2 154) rfl rfl rfl (by omega) (show 0 < (41 : Int) by omega) rfl ?_
    have e5 : 0 ≤ m.2 154 0 ∧ m.2 154 0 ≤ 128 := hT.2.1 154 0
    refine T_imul 39 rfl rfl ?_
    refine T_icmp 44 42 rfl rfl rfl (r32 (by omega) (by omega)) (r32 (by omega) (by omega)) (fun (h6 : (8 * (m.1 176)) + ((m.2 30) ((m.2 34) i)) ≤ 8 * ((m.2 154) 0)) => ?_) (fun (h6 : ¬ ((8 * (m.1 176)) + ((m.2 30) ((m.2 34) i)) ≤ 8 * ((m.2 154) 0))) => ?_)
    · skip
      refine T_ld 46 (.int (i32 8)) rfl (fun _ => rfl) ?_
      refine T_gf 50 (.int (i32 (m.1 176))) rfl rfl rfl rfl rfl rfl ?_
      refine T_imul 51 rfl rfl ?_
      refine T_sto 52 [(3, .int (i32 (8 * (m.1 176)))), (2, .int (i32 ((m.2 34) i))), (0, .ref 189), (1, .int (i32 i))] rfl (fun _ => rfl) ?_
      refine T_ld 53 (.int (i32 0)) rfl (fun _ => rfl) ?_
      refine T_sto 55 [(4, .int (i32 0)), (3, .int (i32 (8 * (m.1 176)))), (2, .int (i32 ((m.2 34) i))), (0, .ref 189), (1, .int (i32 i))] rfl (fun _ => rfl) ?_
      have e20 : 0 ≤ m.2 29 ((m.2 34) i) ∧ m.2 29 ((m.2 34) i) ≤ 16 := hT.2.1 29 ((m.2 34) i)
      have L55_10 : ∀ (n19 : Nat) (v7 : Int) (v8 : Int) (m9 : mR), (R32 v7) → (R32 v8) → Ty m9 → fr [] [171] (mO m [] []) m9 → (0 ≤ v7) → (0 ≤ v8) → (v8 ≤ (m.2 29) ((m.2 34) i)) → (0 ≤ v7 ∧ v7 ≤ 1024 + 64 * v8) → ((m.2 29) ((m.2 34) i)) - v8 < (n19 : Int) → TT w D pm_326 (55, [(0, .ref 189), (1, .int (i32 i)), (2, .int (i32 ((m.2 34) i))), (3, .int (i32 v7)), (4, .int (i32 v8))], [], (mhp (mO m9 [] []) c, N), 0, 0) (Q_extract m c N i) := by
        intro n19
        induction n19 with
        | zero =>
          intro v7 v8 m9 q15 q16 Tm9 Fm9 ic11 ic12 ic13 ic14 hmu
          obtain ⟨q15a, q15b⟩ := id q15
          obtain ⟨q16a, q16b⟩ := id q16
          exfalso
          omega
        | succ n19 ih =>
          intro v7 v8 m9 q15 q16 Tm9 Fm9 ic11 ic12 ic13 ic14 hmu
          obtain ⟨q15a, q15b⟩ := id q15
          obtain ⟨q16a, q16b⟩ := id q16
          have ih21 := ih
          refine T_ld 57 (.int (i32 v8)) rfl (fun _ => rfl) ?_
          refine T_gf 61 (.ref 199) rfl rfl rfl rfl rfl rfl ?_
          refine T_ld 62 (.int (i32 ((m.2 34) i))) rfl (fun _ => rfl) ?_
          refine T_iald 63 29 (m.2 29) rfl rfl rfl (by omega) (show ((m.2 34) i) < (12 : Int) by omega) (show (m9.2 29) = (m.2 29) from (fr2 Fm9 29 rfl)) ?_
          have e22 : 0 ≤ m.2 29 ((m.2 34) i) ∧ m.2 29 ((m.2 34) i) ≤ 16 := hT.2.1 29 ((m.2 34) i)
          refine T_icmp 145 66 rfl rfl rfl (r32 (by omega) (by omega)) (r32 (by omega) (by omega)) (fun (h23 : (m.2 29) ((m.2 34) i) ≤ v8) => ?_) (fun (h23 : ¬ ((m.2 29) ((m.2 34) i) ≤ v8)) => ?_)
          · skip
            refine T_gf 149 (.ref 324) rfl rfl rfl rfl rfl rfl ?_
            refine T_ld 150 (.int (i32 i)) rfl (fun _ => rfl) ?_
            refine T_ld 151 (.int (i32 1)) rfl (fun _ => rfl) ?_
            have G24 : ∀ j, 0 ≤ (upI (m.2 175) i 1) j ∧ (upI (m.2 175) i 1) j ≤ 1 := upI_rg (hT.2.1 175) ⟨by omega, by omega⟩
            refine T_bast (a' := [(175, upI (m.2 175) i 1)]) 152 175 (m.2 175) rfl rfl rfl (by omega) (show i < (12 : Int) by omega) (by omega) (show (m9.2 175) = (m.2 175) from (fr2 Fm9 175 rfl)) rfl ?_
            refine T_ld 153 (.ref 189) rfl (fun _ => rfl) ?_
            refine T_ld 154 (.ref 189) rfl (fun _ => rfl) ?_
            refine T_gf1 157 (.int (i32 (m.1 176))) rfl rfl (mfv_c (F := fun x => .int (i32 x)) rfl (show (m9.1 176) = (m.1 176) from (fr1 Fm9 176 rfl))) rfl ?_
            refine T_gf 161 (.ref 200) rfl rfl rfl rfl rfl rfl ?_
            refine T_ld 162 (.int (i32 ((m.2 34) i))) rfl (fun _ => rfl) ?_
            refine T_iald 163 30 (m.2 30) rfl rfl rfl (by omega) (show ((m.2 34) i) < (12 : Int) by omega) (show (m9.2 30) = (m.2 30) from (fr2 Fm9 30 rfl)) ?_
            have e25 : 0 ≤ m.2 30 ((m.2 34) i) ∧ m.2 30 ((m.2 34) i) ≤ 1024 := hT.2.1 30 ((m.2 34) i)
            refine T_ld 165 (.int (i32 8)) rfl (fun _ => rfl) ?_
            refine T_idiv 166 rfl rfl (by omega) (by omega) (by omega) (by omega) ?_
            refine T_iadd 167 rfl rfl ?_
            refine T_pf (l' := [(176, (m.1 176) + (((m.2 30) ((m.2 34) i)) / 8))]) 170 ((m.1 176) + (((m.2 30) ((m.2 34) i)) / 8)) rfl rfl rfl rfl rfl rfl ?_
            have g26 : 0 ≤ (m.1 176) + (((m.2 30) ((m.2 34) i)) / 8) ∧ (m.1 176) + (((m.2 30) ((m.2 34) i)) / 8) ≤ 128 := ⟨by omega, by omega⟩
            refine T_ld 171 (.int (i32 1)) rfl (fun _ => rfl) ?_
            refine T_ret rfl (fun _ => rfl) ?_
            exact ⟨(mO m9 [(176, (m.1 176) + (((m.2 30) ((m.2 34) i)) / 8))] [(175, upI (m.2 175) i 1)]), 1, (Ty_mO Tm9 rfl rfl ⟨g26, trivial⟩ ⟨G24, trivial⟩), (fr_m (fr_s Fm9 (fr_m fr_0 rfl rfl) rfl rfl) rfl rfl), ⟨by omega, by omega⟩, (show (1 : Int) = 1 → (upI (m.2 175) i 1) = upI (m.2 175) i 1 ∧ (m.2 175) i = 0 by first | (first | (intro h; exfalso; omega) | exact fun _ => ⟨rfl, by omega⟩) | (exfalso; omega)), rfl⟩
          · skip
            refine T_ld 67 (.long (i64 0)) rfl (fun _ => rfl) ?_
            refine T_sto 69 [(5, .long (i64 0)), (0, .ref 189), (1, .int (i32 i)), (2, .int (i32 ((m.2 34) i))), (3, .int (i32 v7)), (4, .int (i32 v8))] rfl (fun _ => rfl) ?_
            refine T_ld 70 (.int (i32 0)) rfl (fun _ => rfl) ?_
            refine T_sto 72 [(7, .int (i32 0)), (5, .long (i64 0)), (0, .ref 189), (1, .int (i32 i)), (2, .int (i32 ((m.2 34) i))), (3, .int (i32 v7)), (4, .int (i32 v8))] rfl (fun _ => rfl) ?_
            have e40 : 0 ≤ m.2 33 ((16 * ((m.2 34) i)) + v8) ∧ m.2 33 ((16 * ((m.2 34) i)) + v8) ≤ 64 := hT.2.1 33 ((16 * ((m.2 34) i)) + v8)
            have L72_30 : ∀ (n39 : Nat) (v27 : Int) (v28 : Int) (v29 : Int), (R32 v27) → (R64 v28) → (R32 v29) → (0 ≤ v27) → (0 ≤ v29) → (v29 ≤ (m.2 33) ((16 * ((m.2 34) i)) + v8)) → (0 ≤ v27 ∧ v27 ≤ 1024 + 64 * v8 + v29) → ((m.2 33) ((16 * ((m.2 34) i)) + v8)) - v29 < (n39 : Int) → TT w D pm_326 (72, [(0, .ref 189), (1, .int (i32 i)), (2, .int (i32 ((m.2 34) i))), (3, .int (i32 v27)), (4, .int (i32 v8)), (5, .long (i64 v28)), (7, .int (i32 v29))], [], (mhp (mO m9 [] []) c, N), 0, 0) (Q_extract m c N i) := by
              intro n39
              induction n39 with
              | zero =>
                intro v27 v28 v29 q35 q36 q37 ic31 ic32 ic33 ic34 hmu
                obtain ⟨q35a, q35b⟩ := id q35
                obtain ⟨q36a, q36b⟩ := id q36
                obtain ⟨q37a, q37b⟩ := id q37
                exfalso
                omega
              | succ n39 ih =>
                intro v27 v28 v29 q35 q36 q37 ic31 ic32 ic33 ic34 hmu
                obtain ⟨q35a, q35b⟩ := id q35
                obtain ⟨q36a, q36b⟩ := id q36
                obtain ⟨q37a, q37b⟩ := id q37
                have ih41 := ih
                refine T_ld 74 (.int (i32 v29)) rfl (fun _ => rfl) ?_
                refine T_gf 78 (.ref 203) rfl rfl rfl rfl rfl rfl ?_
                refine T_ld 80 (.int (i32 16)) rfl (fun _ => rfl) ?_
                refine T_ld 81 (.int (i32 ((m.2 34) i))) rfl (fun _ => rfl) ?_
                refine T_imul 82 rfl rfl ?_
                refine T_ld 84 (.int (i32 v8)) rfl (fun _ => rfl) ?_
                refine T_iadd 85 rfl rfl ?_
                refine T_iald 86 33 (m.2 33) rfl rfl rfl (by omega) (show ((16 * ((m.2 34) i)) + v8) < (192 : Int) by omega) (show (m9.2 33) = (m.2 33) from (fr2 Fm9 33 rfl)) ?_
                have e42 : 0 ≤ m.2 33 ((16 * ((m.2 34) i)) + v8) ∧ m.2 33 ((16 * ((m.2 34) i)) + v8) ≤ 64 := hT.2.1 33 ((16 * ((m.2 34) i)) + v8)
                refine T_icmp 125 89 rfl rfl rfl (r32 (by omega) (by omega)) (r32 (by omega) (by omega)) (fun (h43 : (m.2 33) ((16 * ((m.2 34) i)) + v8) ≤ v29) => ?_) (fun (h43 : ¬ ((m.2 33) ((16 * ((m.2 34) i)) + v8) ≤ v29)) => ?_)
                · skip
                  refine T_gf 129 (.ref 320) rfl rfl rfl rfl rfl rfl ?_
                  refine T_ld 131 (.int (i32 16)) rfl (fun _ => rfl) ?_
                  refine T_ld 132 (.int (i32 i)) rfl (fun _ => rfl) ?_
                  refine T_imul 133 rfl rfl ?_
                  refine T_ld 135 (.int (i32 v8)) rfl (fun _ => rfl) ?_
                  refine T_iadd 136 rfl rfl ?_
                  refine T_ld 138 (.long (i64 v28)) rfl (fun _ => rfl) ?_
                  have G44 : ∀ j, (-9223372036854775808) ≤ (upI (m9.2 171) ((16 * i) + v8) v28) j ∧ (upI (m9.2 171) ((16 * i) + v8) v28) j ≤ 9223372036854775807 := upI_rg (Tm9.2.1 171) ⟨by omega, by omega⟩
                  refine T_last (a' := [(171, upI (m9.2 171) ((16 * i) + v8) v28)]) 139 171 (m9.2 171) rfl rfl rfl (by omega) (show ((16 * i) + v8) < (192 : Int) by omega) rfl rfl ?_
                  refine T_iinc 142 [(4, .int (i32 (v8 + 1))), (0, .ref 189), (1, .int (i32 i)), (2, .int (i32 ((m.2 34) i))), (3, .int (i32 v27)), (5, .long (i64 v28)), (7, .int (i32 v29))] rfl rfl (by decide) rfl rfl ?_
                  refine T_goto 55 rfl (fun _ => rfl) ?_
                  refine Tm_lv (a := [(0, .ref 189), (1, .int (i32 i)), (2, .int (i32 ((m.2 34) i))), (3, .int (i32 v27)), (4, .int (i32 (v8 + 1)))]) rfl rfl ⟨rfl, rfl, rfl, rfl, rfl, trivial⟩ ?_
                  exact ih21 v27 (v8 + 1) (mO m9 [] [(171, upI (m9.2 171) ((16 * i) + v8) v28)]) (r32 (by omega) (by omega)) (r32 (by omega) (by omega)) (Ty_mO Tm9 rfl rfl trivial ⟨G44, trivial⟩) (fr_m (fr_s Fm9 (fr_m fr_0 rfl rfl) rfl rfl) rfl rfl) (show 0 ≤ v27 by omega) (show 0 ≤ (v8 + 1) by omega) (show (v8 + 1) ≤ (m.2 29) ((m.2 34) i) by omega) (show 0 ≤ v27 ∧ v27 ≤ 1024 + 64 * (v8 + 1) by omega) (show ((m.2 29) ((m.2 34) i)) - (v8 + 1) < (n19 : Int) by omega)
                · skip
                  refine T_ld 91 (.long (i64 v28)) rfl (fun _ => rfl) ?_
                  refine T_ld 92 (.int (i32 1)) rfl (fun _ => rfl) ?_
                  refine T_lhv 93 _ rfl (fun _ => rfl) (fun z45 h46 => ?_)
                  obtain ⟨h46a, h46b⟩ := h46
                  refine T_gf 97 (.ref 308) rfl rfl rfl rfl rfl rfl ?_
                  refine T_ld 98 (.int (i32 v27)) rfl (fun _ => rfl) ?_
                  refine T_ld 100 (.int (i32 8)) rfl (fun _ => rfl) ?_
                  refine T_idiv 101 rfl rfl (by omega) (by omega) (by omega) (by omega) ?_
                  refine T_iald 102 159 (m.2 159) rfl rfl rfl (by omega) (show (v27 / 8) < (5248 : Int) by omega) (show (m9.2 159) = (m.2 159) from (fr2 Fm9 159 rfl)) ?_
                  have e47 : 0 ≤ m.2 159 (v27 / 8) ∧ m.2 159 (v27 / 8) ≤ 255 := hT.2.1 159 (v27 / 8)
                  refine T_ld 104 (.int (i32 7)) rfl (fun _ => rfl) ?_
                  refine T_ld 105 (.int (i32 v27)) rfl (fun _ => rfl) ?_
                  refine T_ld 107 (.int (i32 8)) rfl (fun _ => rfl) ?_
                  refine T_irem 108 rfl rfl (by omega) (by omega) (by omega) (by omega) ?_
                  refine T_isub 109 rfl rfl ?_
                  refine T_hv 110 _ rfl (fun _ => rfl) (fun z48 h49 => ?_)
                  obtain ⟨h49a, h49b⟩ := h49
                  refine T_ld 111 (.int (i32 1)) rfl (fun _ => rfl) ?_
                  refine T_iand 112 rfl rfl (by decide) (by decide) (fun z50 h51 => ?_)
                  refine T_i2l 113 rfl rfl (r32 (by omega) (by omega)) ?_
                  refine T_lhv 114 _ rfl (fun _ => rfl) (fun z52 h53 => ?_)
                  obtain ⟨h53a, h53b⟩ := h53
                  refine T_sto 116 [(5, .long (i64 z52)), (0, .ref 189), (1, .int (i32 i)), (2, .int (i32 ((m.2 34) i))), (3, .int (i32 v27)), (4, .int (i32 v8)), (7, .int (i32 v29))] rfl (fun _ => rfl) ?_
                  refine T_iinc 119 [(3, .int (i32 (v27 + 1))), (5, .long (i64 z52)), (0, .ref 189), (1, .int (i32 i)), (2, .int (i32 ((m.2 34) i))), (4, .int (i32 v8)), (7, .int (i32 v29))] rfl rfl (by decide) rfl rfl ?_
                  refine T_iinc 122 [(7, .int (i32 (v29 + 1))), (3, .int (i32 (v27 + 1))), (5, .long (i64 z52)), (0, .ref 189), (1, .int (i32 i)), (2, .int (i32 ((m.2 34) i))), (4, .int (i32 v8))] rfl rfl (by decide) rfl rfl ?_
                  refine T_goto 72 rfl (fun _ => rfl) ?_
                  refine Tm_lv (a := [(0, .ref 189), (1, .int (i32 i)), (2, .int (i32 ((m.2 34) i))), (3, .int (i32 (v27 + 1))), (4, .int (i32 v8)), (5, .long (i64 z52)), (7, .int (i32 (v29 + 1)))]) rfl rfl ⟨rfl, rfl, rfl, rfl, rfl, rfl, rfl, trivial⟩ ?_
                  exact ih41 (v27 + 1) z52 (v29 + 1) (r32 (by omega) (by omega)) (r64 (by omega) (by omega)) (r32 (by omega) (by omega)) (show 0 ≤ (v27 + 1) by omega) (show 0 ≤ (v29 + 1) by omega) (show (v29 + 1) ≤ (m.2 33) ((16 * ((m.2 34) i)) + v8) by omega) (show 0 ≤ (v27 + 1) ∧ (v27 + 1) ≤ 1024 + 64 * v8 + (v29 + 1) by omega) (show ((m.2 33) ((16 * ((m.2 34) i)) + v8)) - (v29 + 1) < (n39 : Int) by omega)
            refine Tm_lv (a := [(0, .ref 189), (1, .int (i32 i)), (2, .int (i32 ((m.2 34) i))), (3, .int (i32 v7)), (4, .int (i32 v8)), (5, .long (i64 0)), (7, .int (i32 0))]) rfl rfl ⟨rfl, rfl, rfl, rfl, rfl, rfl, rfl, trivial⟩ ?_
            exact L72_30 ((((m.2 33) ((16 * ((m.2 34) i)) + v8)) - (0 : Int) : Int) + 1).toNat v7 0 0 (r32 (by omega) (by omega)) ⟨by decide, by decide⟩ ⟨by decide, by decide⟩ (show 0 ≤ v7 by omega) (show 0 ≤ (0 : Int) by omega) (show (0 : Int) ≤ (m.2 33) ((16 * ((m.2 34) i)) + v8) by omega) (show 0 ≤ v7 ∧ v7 ≤ 1024 + 64 * v8 + (0 : Int) by omega) (show ((m.2 33) ((16 * ((m.2 34) i)) + v8)) - (0 : Int) < ((((((m.2 33) ((16 * ((m.2 34) i)) + v8)) - (0 : Int) : Int) + 1).toNat : Nat) : Int) by omega)
      refine Tm_lv (a := [(0, .ref 189), (1, .int (i32 i)), (2, .int (i32 ((m.2 34) i))), (3, .int (i32 (8 * (m.1 176)))), (4, .int (i32 0))]) rfl rfl ⟨rfl, rfl, rfl, rfl, rfl, trivial⟩ ?_
      exact L55_10 ((((m.2 29) ((m.2 34) i)) - (0 : Int) : Int) + 1).toNat (8 * (m.1 176)) 0 (mO m [] []) (r32 (by omega) (by omega)) ⟨by decide, by decide⟩ hT (fr_m fr_0 rfl rfl) (show 0 ≤ (8 * (m.1 176)) by omega) (show 0 ≤ (0 : Int) by omega) (show (0 : Int) ≤ (m.2 29) ((m.2 34) i) by omega) (show 0 ≤ (8 * (m.1 176)) ∧ (8 * (m.1 176)) ≤ 1024 + 64 * (0 : Int) by omega) (show ((m.2 29) ((m.2 34) i)) - (0 : Int) < ((((((m.2 29) ((m.2 34) i)) - (0 : Int) : Int) + 1).toNat : Nat) : Int) by omega)
    · skip
      refine T_ld 43 (.int (i32 0)) rfl (fun _ => rfl) ?_
      refine T_ret rfl (fun _ => rfl) ?_
      exact ⟨(mO m [] []), 0, hT, (fr_m fr_0 rfl rfl), ⟨by omega, by omega⟩, (show (0 : Int) = 1 → (m.2 175) = upI (m.2 175) i 1 ∧ (m.2 175) i = 0 by first | (first | (intro h; exfalso; omega) | exact fun _ => ⟨rfl, by omega⟩) | (exfalso; omega)), rfl⟩
def fF_readPacket : List Nat := [176, 177]
def fA_readPacket : List Nat := [171, 172, 173, 175]
def Q_readPacket (m : mR) (c : Nat → Option am_C) (N : Nat) : ag_Re af_T → Prop := fun R => ∃ (M : mR) (r : Int), Ty M ∧ fr fF_readPacket fA_readPacket m M ∧ (0 ≤ r ∧ r ≤ 1) ∧ R = (.inl (some (.int (i32 r))), (mhp M c, N), 0, 0)
set_option maxHeartbeats 3000000 in
theorem c_readPacket (w : wX) (m : mR) (c : Nat → Option am_C) (N D : Nat) (hD : 4 ≤ D) (hT : Ty m) (hCN : CN (m.2 65) (m.2 67) (m.1 28)) (pSt : StP (m.2 65) (m.1 28) (m.1 23) (m.1 24) (m.2 42) (m.2 95) (m.2 96) (m.2 44) (m.2 45)) (pSO : SOp (m.2 38) (m.1 23) (m.1 24)) (hNA : ∀ q, 0 ≤ q → q < (m.1 24) → 0 < (m.2 41) q ∨ NR (m.2 44) (m.2 38) (m.2 42) (m.2 45) (m.2 41) (m.1 24) q) : TC w D 325 [.ref 189] (mhp m c, N) (Q_readPacket m c N) := by
  obtain ⟨D, rfl⟩ : ∃ k, D = k + 1 := ⟨D - 1, by omega⟩
  have f24 : 0 ≤ m.1 24 ∧ m.1 24 ≤ 16 := hT.1 24
  have f28 : 0 ≤ m.1 28 ∧ m.1 28 ≤ 800 := hT.1 28
  have f23 : 0 ≤ m.1 23 ∧ m.1 23 ≤ 16 := hT.1 23
  refine Tc_of rfl ?_
  show TT w D pm_325 (0, [(0, .ref 189)], [], (mhp (mO m [] []) c, N), 0, 0) (Q_readPacket m c N)
  obtain ⟨rk, hr1, hr2, hr3, hr4⟩ := rk_ex (by omega) hNA
  refine T_ld 1 (.int (i32 0)) rfl (fun _ => rfl) ?_
  refine T_sto 2 [(1, .int (i32 0)), (0, .ref 189)] rfl (fun _ => rfl) ?_
  have L2_3 : ∀ (n9 : Nat) (v1 : Int) (m2 : mR), (R32 v1) → Ty m2 → fr [] [171] (mO m [] []) m2 → (0 ≤ v1) → (v1 ≤ 192) → 192 - v1 < (n9 : Int) → TT w D pm_325 (2, [(0, .ref 189), (1, .int (i32 v1))], [], (mhp (mO m2 [] []) c, N), 0, 0) (Q_readPacket m c N) := by
    intro n9
    induction n9 with
    | zero =>
      intro v1 m2 q6 Tm2 Fm2 ic4 ic5 hmu
      obtain ⟨q6a, q6b⟩ := id q6
      exfalso
      omega
    | succ n9 ih =>
      intro v1 m2 q6 Tm2 Fm2 ic4 ic5 hmu
      obtain ⟨q6a, q6b⟩ := id q6
      have ih10 := ih
      refine T_ld 3 (.int (i32 v1)) rfl (fun _ => rfl) ?_
      refine T_ld 6 (.int (i32 192)) rfl (fun _ => rfl) ?_
      refine T_icmp 22 9 rfl rfl rfl (r32 (by omega) (by omega)) ⟨by decide, by decide⟩ (fun (h11 : (192 : Int) ≤ v1) => ?_) (fun (h11 : ¬ ((192 : Int) ≤ v1)) => ?_)
      · skip
        refine T_ld 23 (.int (i32 0)) rfl (fun _ => rfl) ?_
        refine T_sto 24 [(1, .int (i32 0)), (0, .ref 189)] rfl (fun _ => rfl) ?_
        have L24_14 : ∀ (n20 : Nat) (v12 : Int) (m13 : mR), (R32 v12) → Ty m13 → fr [] [175] (mO m2 [] []) m13 → (0 ≤ v12) → (v12 ≤ 12) → 12 - v12 < (n20 : Int) → TT w D pm_325 (24, [(0, .ref 189), (1, .int (i32 v12))], [], (mhp (mO m13 [] []) c, N), 0, 0) (Q_readPacket m c N) := by
          intro n20
          induction n20 with
          | zero =>
            intro v12 m13 q17 Tm13 Fm13 ic15 ic16 hmu
            obtain ⟨q17a, q17b⟩ := id q17
            exfalso
            omega
          | succ n20 ih =>
            intro v12 m13 q17 Tm13 Fm13 ic15 ic16 hmu
            obtain ⟨q17a, q17b⟩ := id q17
            have ih21 := ih
            refine T_ld 25 (.int (i32 v12)) rfl (fun _ => rfl) ?_
            refine T_ld 27 (.int (i32 12)) rfl (fun _ => rfl) ?_
            refine T_icmp 43 30 rfl rfl rfl (r32 (by omega) (by omega)) ⟨by decide, by decide⟩ (fun (h22 : (12 : Int) ≤ v12) => ?_) (fun (h22 : ¬ ((12 : Int) ≤ v12)) => ?_)
            · skip
              refine T_ld 44 (.int (i32 0)) rfl (fun _ => rfl) ?_
              refine T_sto 45 [(1, .int (i32 0)), (0, .ref 189)] rfl (fun _ => rfl) ?_
              have L45_25 : ∀ (n31 : Nat) (v23 : Int) (m24 : mR), (R32 v23) → Ty m24 → fr [] [172] (mO m13 [] []) m24 → (0 ≤ v23) → (v23 ≤ 16) → 16 - v23 < (n31 : Int) → TT w D pm_325 (45, [(0, .ref 189), (1, .int (i32 v23))], [], (mhp (mO m24 [] []) c, N), 0, 0) (Q_readPacket m c N) := by
                intro n31
                induction n31 with
                | zero =>
                  intro v23 m24 q28 Tm24 Fm24 ic26 ic27 hmu
                  obtain ⟨q28a, q28b⟩ := id q28
                  exfalso
                  omega
                | succ n31 ih =>
                  intro v23 m24 q28 Tm24 Fm24 ic26 ic27 hmu
                  obtain ⟨q28a, q28b⟩ := id q28
                  have ih32 := ih
                  refine T_ld 46 (.int (i32 v23)) rfl (fun _ => rfl) ?_
                  refine T_ld 48 (.int (i32 16)) rfl (fun _ => rfl) ?_
                  refine T_icmp 64 51 rfl rfl rfl (r32 (by omega) (by omega)) ⟨by decide, by decide⟩ (fun (h33 : (16 : Int) ≤ v23) => ?_) (fun (h33 : ¬ ((16 : Int) ≤ v23)) => ?_)
                  · skip
                    refine T_gf 68 (.ref 321) rfl rfl rfl rfl rfl rfl ?_
                    refine T_ld 69 (.int (i32 0)) rfl (fun _ => rfl) ?_
                    refine T_gf 73 (.ref 304) rfl rfl rfl rfl rfl rfl ?_
                    refine T_ld 74 (.int (i32 0)) rfl (fun _ => rfl) ?_
                    refine T_iald 75 155 (m.2 155) rfl rfl rfl (by omega) (show 0 < (41 : Int) by omega) (show (m24.2 155) = (m.2 155) from ((fr2 Fm24 155 rfl).trans ((fr2 Fm13 155 rfl).trans (fr2 Fm2 155 rfl)))) ?_
                    have e34 : (-2147483648) ≤ m.2 155 0 ∧ m.2 155 0 ≤ 2147483647 := hT.2.1 155 0
                    refine T_ld 78 (.int (i32 65535)) rfl (fun _ => rfl) ?_
                    refine T_iand 79 rfl rfl (by decide) (by decide) (fun z35 h36 => ?_)
                    refine T_i2l 80 rfl rfl (r32 (by omega) (by omega)) ?_
                    have G37 : ∀ j, (-9223372036854775808) ≤ (upI (m24.2 172) 0 z35) j ∧ (upI (m24.2 172) 0 z35) j ≤ 9223372036854775807 := upI_rg (Tm24.2.1 172) ⟨by omega, by omega⟩
                    refine T_last (a' := [(172, upI (m24.2 172) 0 z35)]) 81 172 (m24.2 172) rfl rfl rfl (by omega) (show 0 < (16 : Int) by omega) rfl rfl ?_
                    refine T_gf 85 (.ref 321) rfl rfl rfl rfl rfl rfl ?_
                    refine T_ld 86 (.int (i32 1)) rfl (fun _ => rfl) ?_
                    refine T_gf 90 (.ref 303) rfl rfl rfl rfl rfl rfl ?_
                    refine T_ld 91 (.int (i32 0)) rfl (fun _ => rfl) ?_
                    refine T_iald 92 154 (m.2 154) rfl rfl rfl (by omega) (show 0 < (41 : Int) by omega) (show (m24.2 154) = (m.2 154) from ((fr2 Fm24 154 rfl).trans ((fr2 Fm13 154 rfl).trans (fr2 Fm2 154 rfl)))) ?_
                    have e38 : 0 ≤ m.2 154 0 ∧ m.2 154 0 ≤ 128 := hT.2.1 154 0
                    refine T_i2l 93 rfl rfl (r32 (by omega) (by omega)) ?_
                    have G39 : ∀ j, (-9223372036854775808) ≤ (upI (upI (m24.2 172) 0 z35) 1 ((m.2 154) 0)) j ∧ (upI (upI (m24.2 172) 0 z35) 1 ((m.2 154) 0)) j ≤ 9223372036854775807 := upI_rg G37 ⟨by omega, by omega⟩
                    refine T_last (a' := [(172, upI (upI (m24.2 172) 0 z35) 1 ((m.2 154) 0))]) 94 172 (upI (m24.2 172) 0 z35) rfl rfl rfl (by omega) (show 1 < (16 : Int) by omega) rfl rfl ?_
                    refine T_ld 95 (.ref 189) rfl (fun _ => rfl) ?_
                    refine T_ld 96 (.int (i32 0)) rfl (fun _ => rfl) ?_
                    refine T_pf (l' := [(176, 0)]) 99 0 rfl rfl rfl rfl rfl rfl ?_
                    refine T_ld 100 (.ref 189) rfl (fun _ => rfl) ?_
                    refine T_ld 101 (.int (i32 0)) rfl (fun _ => rfl) ?_
                    refine T_pf (l' := [(176, 0), (177, 0)]) 104 0 rfl rfl rfl rfl rfl rfl ?_
                    refine T_gf 108 (.int (i32 (m.1 24))) rfl rfl rfl rfl (mfv_c (F := fun x => .int (i32 x)) rfl (show (m24.1 24) = (m.1 24) from ((fr1 Fm24 24 rfl).trans ((fr1 Fm13 24 rfl).trans (fr1 Fm2 24 rfl))))) rfl ?_
                    refine T_if 115 111 rfl rfl rfl (r32 (by omega) (by omega)) (fun (h40 : (m.1 24) ≤ 0) => ?_) (fun (h40 : ¬ ((m.1 24) ≤ 0)) => ?_)
                    · skip
                      refine T_ld 116 (.int (i32 (-1))) rfl (fun _ => rfl) ?_
                      refine T_sto 117 [(1, .int (i32 (-1))), (0, .ref 189)] rfl (fun _ => rfl) ?_
                      refine T_fl (Ty_mO Tm24 rfl rfl ⟨⟨(by omega : (0 : Int) ≤ 0), (by omega : (0 : Int) ≤ 128)⟩, ⟨(by omega : (0 : Int) ≤ 0), (by omega : (0 : Int) ≤ 1)⟩, trivial⟩ ⟨G39, trivial⟩) (fun m41 Tm41 Fm41 => ?_)
                      have L117_44 : ∀ (n51 : Nat) (v42 : Int) (m43 : mR), (R32 v42) → Ty m43 → fr [176] [171, 173, 175] (mO m41 [] []) m43 → ((-1) ≤ v42) → (v42 ≤ (-1)) → ((-2) ≤ v42 ∧ v42 < (m.1 24) ∧ v42 ≤ 15) → 18 * (12 - ct (m43.2 175) 12) + rk v42 + 1 < (n51 : Int) → TT w D pm_325 (117, [(0, .ref 189), (1, .int (i32 v42))], [], (mhp (mO m43 [] []) c, N), 0, 0) (Q_readPacket m c N) := by
                        intro n51
                        induction n51 with
                        | zero =>
                          intro v42 m43 q48 Tm43 Fm43 ic45 ic46 ic47 hmu
                          obtain ⟨q48a, q48b⟩ := id q48
                          have hc12 := ct_le (f := (m43.2 175)) (Tm43.2.1 175) (n := 12) (by decide)
                          have hrd := hr1 v42
                          exfalso
                          omega
                        | succ n51 ih =>
                          intro v42 m43 q48 Tm43 Fm43 ic45 ic46 ic47 hmu
                          obtain ⟨q48a, q48b⟩ := id q48
                          have ih52 := ih
                          have hc12 := ct_le (f := (m43.2 175)) (Tm43.2.1 175) (n := 12) (by decide)
                          have hrd := hr1 v42
                          refine T_ld 118 (.int (i32 v42)) rfl (fun _ => rfl) ?_
                          refine T_if 302 121 rfl rfl rfl (r32 (by omega) (by omega)) (fun (h53 : v42 < 0) => ?_) (fun (h53 : ¬ (v42 < 0)) => by exfalso; omega)
                          refine T_ld 303 (.int (i32 v42)) rfl (fun _ => rfl) ?_
                          refine T_ld 304 (.int (i32 (-1))) rfl (fun _ => rfl) ?_
                          refine T_icmp 311 307 rfl rfl rfl (r32 (by omega) (by omega)) ⟨by decide, by decide⟩ (fun (h54 : v42 ≠ (-1)) => by exfalso; omega) (fun (h54 : ¬ (v42 ≠ (-1))) => ?_)
                          refine T_ld 308 (.int (i32 1)) rfl (fun _ => rfl) ?_
                          refine T_goto 312 rfl (fun _ => rfl) ?_
                          refine T_ret rfl (fun _ => rfl) ?_
                          exact ⟨(mO m43 [] []), 1, Tm43, (fr_m (fr_s Fm43 (fr_m (fr_s Fm41 (fr_m (fr_s Fm24 (fr_m (fr_s Fm13 (fr_m (fr_s Fm2 (fr_m fr_0 rfl rfl) rfl rfl) rfl rfl) rfl rfl) rfl rfl) rfl rfl) rfl rfl) rfl rfl) rfl rfl) rfl rfl) rfl rfl), ⟨by omega, by omega⟩, rfl⟩
                      refine Tm_lv (a := [(0, .ref 189), (1, .int (i32 (-1)))]) rfl rfl ⟨rfl, rfl, trivial⟩ ?_
                      exact L117_44 ((18 * (12 - ct (m13.2 175) 12) + rk (-1 : Int) + 1 : Int) + 1).toNat (-1) (mO m41 [] []) ⟨by decide, by decide⟩ Tm41 (fr_m fr_0 rfl rfl) (show (-1) ≤ (-1 : Int) by omega) (show (-1 : Int) ≤ (-1) by omega) (show (-2) ≤ (-1 : Int) ∧ (-1 : Int) < (m.1 24) ∧ (-1 : Int) ≤ 15 by omega) (show 18 * (12 - ct (m41.2 175) 12) + rk (-1 : Int) + 1 < ((((18 * (12 - ct (m13.2 175) 12) + rk (-1 : Int) + 1 : Int) + 1).toNat : Nat) : Int) by rewrite [(show (m41.2 175) = (m13.2 175) from ((fr2 Fm41 175 rfl).trans (fr2 Fm24 175 rfl)))]; omega)
                    · skip
                      refine T_ld 112 (.int (i32 0)) rfl (fun _ => rfl) ?_
                      refine T_goto 116 rfl (fun _ => rfl) ?_
                      refine T_sto 117 [(1, .int (i32 0)), (0, .ref 189)] rfl (fun _ => rfl) ?_
                      refine T_fl (Ty_mO Tm24 rfl rfl ⟨⟨(by omega : (0 : Int) ≤ 0), (by omega : (0 : Int) ≤ 128)⟩, ⟨(by omega : (0 : Int) ≤ 0), (by omega : (0 : Int) ≤ 1)⟩, trivial⟩ ⟨G39, trivial⟩) (fun m55 Tm55 Fm55 => ?_)
                      have L117_58 : ∀ (n65 : Nat) (v56 : Int) (m57 : mR), (R32 v56) → Ty m57 → fr [176] [171, 173, 175] (mO m55 [] []) m57 → ((-2) ≤ v56) → (v56 ≤ 15) → ((-2) ≤ v56 ∧ v56 < (m.1 24) ∧ v56 ≤ 15) → 18 * (12 - ct (m57.2 175) 12) + rk v56 + 1 < (n65 : Int) → TT w D pm_325 (117, [(0, .ref 189), (1, .int (i32 v56))], [], (mhp (mO m57 [] []) c, N), 0, 0) (Q_readPacket m c N) := by
                        intro n65
                        induction n65 with
                        | zero =>
                          intro v56 m57 q62 Tm57 Fm57 ic59 ic60 ic61 hmu
                          obtain ⟨q62a, q62b⟩ := id q62
                          have hc12 := ct_le (f := (m57.2 175)) (Tm57.2.1 175) (n := 12) (by decide)
                          have hrd := hr1 v56
                          exfalso
                          omega
                        | succ n65 ih =>
                          intro v56 m57 q62 Tm57 Fm57 ic59 ic60 ic61 hmu
                          obtain ⟨q62a, q62b⟩ := id q62
                          have ih66 := ih
                          have hc12 := ct_le (f := (m57.2 175)) (Tm57.2.1 175) (n := 12) (by decide)
                          have hrd := hr1 v56
                          refine T_ld 118 (.int (i32 v56)) rfl (fun _ => rfl) ?_
                          refine T_if 302 121 rfl rfl rfl (r32 (by omega) (by omega)) (fun (h67 : v56 < 0) => ?_) (fun (h67 : ¬ (v56 < 0)) => ?_)
                          · skip
                            refine T_ld 303 (.int (i32 v56)) rfl (fun _ => rfl) ?_
                            refine T_ld 304 (.int (i32 (-1))) rfl (fun _ => rfl) ?_
                            refine T_icmp 311 307 rfl rfl rfl (r32 (by omega) (by omega)) ⟨by decide, by decide⟩ (fun (h68 : v56 ≠ (-1)) => ?_) (fun (h68 : ¬ (v56 ≠ (-1))) => ?_)
                            · skip
                              refine T_ld 312 (.int (i32 0)) rfl (fun _ => rfl) ?_
                              refine T_ret rfl (fun _ => rfl) ?_
                              exact ⟨(mO m57 [] []), 0, Tm57, (fr_m (fr_s Fm57 (fr_m (fr_s Fm55 (fr_m (fr_s Fm24 (fr_m (fr_s Fm13 (fr_m (fr_s Fm2 (fr_m fr_0 rfl rfl) rfl rfl) rfl rfl) rfl rfl) rfl rfl) rfl rfl) rfl rfl) rfl rfl) rfl rfl) rfl rfl) rfl rfl), ⟨by omega, by omega⟩, rfl⟩
                            · skip
                              refine T_ld 308 (.int (i32 1)) rfl (fun _ => rfl) ?_
                              refine T_goto 312 rfl (fun _ => rfl) ?_
                              refine T_ret rfl (fun _ => rfl) ?_
                              exact ⟨(mO m57 [] []), 1, Tm57, (fr_m (fr_s Fm57 (fr_m (fr_s Fm55 (fr_m (fr_s Fm24 (fr_m (fr_s Fm13 (fr_m (fr_s Fm2 (fr_m fr_0 rfl rfl) rfl rfl) rfl rfl) rfl rfl) rfl rfl) rfl rfl) rfl rfl) rfl rfl) rfl rfl) rfl rfl) rfl rfl), ⟨by omega, by omega⟩, rfl⟩
                          · skip
                            obtain ⟨C0, hC0⟩ : ∃ C0, C0 = ct (m57.2 175) 12 := ⟨_, rfl⟩
                            obtain ⟨hs1, hs2, hs3⟩ := pSt v56 (by omega) (by omega)
                            have hex : 0 ≤ (m.2 41) v56 ∧ (m.2 41) v56 ≤ 6 := hT.2.1 41 _
                            have hrp := hr3 v56 (by omega)
                            have hcs9 : 0 ≤ (m.2 42) v56 ∧ (m.2 42) v56 ≤ 8 := hT.2.1 42 _
                            refine T_ld 122 (.int (i32 0)) rfl (fun _ => rfl) ?_
                            refine T_sto 123 [(2, .int (i32 0)), (0, .ref 189), (1, .int (i32 v56))] rfl (fun _ => rfl) ?_
                            have e80 : 0 ≤ m.2 41 v56 ∧ m.2 41 v56 ≤ 6 := hT.2.1 41 v56
                            have L123_71 : ∀ (n79 : Nat) (v69 : Int) (m70 : mR), (R32 v69) → Ty m70 → fr [176] [171, 175] (mO m57 [] []) m70 → (0 ≤ v69) → (v69 ≤ (m.2 41) v56) → (0 ≤ v69) → (C0 + v69 ≤ ct (m70.2 175) 12) → ((m.2 41) v56) - v69 < (n79 : Int) → TT w D pm_325 (123, [(0, .ref 189), (1, .int (i32 v56)), (2, .int (i32 v69))], [], (mhp (mO m70 [] []) c, N), 0, 0) (Q_readPacket m c N) := by
                              intro n79
                              induction n79 with
                              | zero =>
                                intro v69 m70 q76 Tm70 Fm70 ic72 ic73 ic74 ic75 hmu
                                obtain ⟨q76a, q76b⟩ := id q76
                                exfalso
                                omega
                              | succ n79 ih =>
                                intro v69 m70 q76 Tm70 Fm70 ic72 ic73 ic74 ic75 hmu
                                obtain ⟨q76a, q76b⟩ := id q76
                                have ih81 := ih
                                refine T_ld 124 (.int (i32 v69)) rfl (fun _ => rfl) ?_
                                refine T_gf 128 (.ref 211) rfl rfl rfl rfl rfl rfl ?_
                                refine T_ld 129 (.int (i32 v56)) rfl (fun _ => rfl) ?_
                                refine T_iald 130 41 (m.2 41) rfl rfl rfl (by omega) (show v56 < (16 : Int) by omega) (show (m70.2 41) = (m.2 41) from ((fr2 Fm70 41 rfl).trans ((fr2 Fm57 41 rfl).trans ((fr2 Fm55 41 rfl).trans ((fr2 Fm24 41 rfl).trans ((fr2 Fm13 41 rfl).trans (fr2 Fm2 41 rfl))))))) ?_
                                have e82 : 0 ≤ m.2 41 v56 ∧ m.2 41 v56 ≤ 6 := hT.2.1 41 v56
                                refine T_icmp 159 133 rfl rfl rfl (r32 (by omega) (by omega)) (r32 (by omega) (by omega)) (fun (h83 : (m.2 41) v56 ≤ v69) => ?_) (fun (h83 : ¬ ((m.2 41) v56 ≤ v69)) => ?_)
                                · skip
                                  refine T_gf 163 (.ref 214) rfl rfl rfl rfl rfl rfl ?_
                                  refine T_ld 164 (.int (i32 v56)) rfl (fun _ => rfl) ?_
                                  refine T_iald 165 44 (m.2 44) rfl rfl rfl (by omega) (show v56 < (16 : Int) by omega) (show (m70.2 44) = (m.2 44) from ((fr2 Fm70 44 rfl).trans ((fr2 Fm57 44 rfl).trans ((fr2 Fm55 44 rfl).trans ((fr2 Fm24 44 rfl).trans ((fr2 Fm13 44 rfl).trans (fr2 Fm2 44 rfl))))))) ?_
                                  have e84 : (-2) ≤ m.2 44 v56 ∧ m.2 44 v56 ≤ 15 := hT.2.1 44 v56
                                  refine T_sto 166 [(2, .int (i32 ((m.2 44) v56))), (0, .ref 189), (1, .int (i32 v56))] rfl (fun _ => rfl) ?_
                                  refine T_gf 170 (.ref 212) rfl rfl rfl rfl rfl rfl ?_
                                  refine T_ld 171 (.int (i32 v56)) rfl (fun _ => rfl) ?_
                                  refine T_iald 172 42 (m.2 42) rfl rfl rfl (by omega) (show v56 < (16 : Int) by omega) (show (m70.2 42) = (m.2 42) from ((fr2 Fm70 42 rfl).trans ((fr2 Fm57 42 rfl).trans ((fr2 Fm55 42 rfl).trans ((fr2 Fm24 42 rfl).trans ((fr2 Fm13 42 rfl).trans (fr2 Fm2 42 rfl))))))) ?_
                                  have e85 : 0 ≤ m.2 42 v56 ∧ m.2 42 v56 ≤ 8 := hT.2.1 42 v56
                                  refine T_if 179 175 rfl rfl rfl (r32 (by omega) (by omega)) (fun (h86 : (m.2 42) v56 ≠ 0) => ?_) (fun (h86 : ¬ ((m.2 42) v56 ≠ 0)) => ?_)
                                  · skip
                                    refine T_ld 180 (.int (i32 0)) rfl (fun _ => rfl) ?_
                                    refine T_sto 181 [(3, .int (i32 0)), (2, .int (i32 ((m.2 44) v56))), (0, .ref 189), (1, .int (i32 v56))] rfl (fun _ => rfl) ?_
                                    refine T_ld 182 (.int (i32 0)) rfl (fun _ => rfl) ?_
                                    refine T_if 189 185 rfl rfl rfl ⟨by decide, by decide⟩ (fun _ => ?_) (fun h87 => absurd (show (0 : Int) = 0 by decide) h87)
                                    have hcd : cdr (m.2 65) (m.1 28) ((m.2 95) v56) ((m.2 96) v56) := hs1 (by omega)
                                    refine T_ld 190 (.ref 189) rfl (fun _ => rfl) ?_
                                    refine T_gf 194 (.ref 257) rfl rfl rfl rfl rfl rfl ?_
                                    refine T_ld 195 (.int (i32 v56)) rfl (fun _ => rfl) ?_
                                    refine T_iald 196 95 (m.2 95) rfl rfl rfl (by omega) (show v56 < (16 : Int) by omega) (show (m70.2 95) = (m.2 95) from ((fr2 Fm70 95 rfl).trans ((fr2 Fm57 95 rfl).trans ((fr2 Fm55 95 rfl).trans ((fr2 Fm24 95 rfl).trans ((fr2 Fm13 95 rfl).trans (fr2 Fm2 95 rfl))))))) ?_
                                    have e88 : 0 ≤ m.2 95 v56 ∧ m.2 95 v56 ≤ 800 := hT.2.1 95 v56
                                    refine T_gf 200 (.ref 258) rfl rfl rfl rfl rfl rfl ?_
                                    refine T_ld 201 (.int (i32 v56)) rfl (fun _ => rfl) ?_
                                    refine T_iald 202 96 (m.2 96) rfl rfl rfl (by omega) (show v56 < (16 : Int) by omega) (show (m70.2 96) = (m.2 96) from ((fr2 Fm70 96 rfl).trans ((fr2 Fm57 96 rfl).trans ((fr2 Fm55 96 rfl).trans ((fr2 Fm24 96 rfl).trans ((fr2 Fm13 96 rfl).trans (fr2 Fm2 96 rfl))))))) ?_
                                    have e89 : 0 ≤ m.2 96 v56 ∧ m.2 96 v56 ≤ 800 := hT.2.1 96 v56
                                    refine T_call 205 327 [.ref 189, .int (i32 ((m.2 95) v56)), .int (i32 ((m.2 96) v56))] [] rfl (fun _ => rfl) rfl (c_worth w (mO m70 [] []) c N D (by omega) Tm70 ((m.2 95) v56) ((m.2 96) v56) (r32 (by omega) (by omega)) (r32 (by omega) (by omega)) (show 0 ≤ ((m.2 95) v56) ∧ ((m.2 95) v56) ≤ 800 by omega) (show 0 ≤ ((m.2 96) v56) ∧ ((m.2 96) v56) ≤ 800 by omega) (show cdr (m70.2 65) (m70.1 28) ((m.2 95) v56) ((m.2 96) v56) by rewrite [(show (m70.2 65) = (m.2 65) from ((fr2 Fm70 65 rfl).trans ((fr2 Fm57 65 rfl).trans ((fr2 Fm55 65 rfl).trans ((fr2 Fm24 65 rfl).trans ((fr2 Fm13 65 rfl).trans (fr2 Fm2 65 rfl))))))), (show (m70.1 28) = (m.1 28) from ((fr1 Fm70 28 rfl).trans ((fr1 Fm57 28 rfl).trans ((fr1 Fm55 28 rfl).trans ((fr1 Fm24 28 rfl).trans ((fr1 Fm13 28 rfl).trans (fr1 Fm2 28 rfl)))))))]; exact hcd) (show CN (m70.2 65) (m70.2 67) (m70.1 28) by rewrite [(show (m70.2 65) = (m.2 65) from ((fr2 Fm70 65 rfl).trans ((fr2 Fm57 65 rfl).trans ((fr2 Fm55 65 rfl).trans ((fr2 Fm24 65 rfl).trans ((fr2 Fm13 65 rfl).trans (fr2 Fm2 65 rfl))))))), (show (m70.2 67) = (m.2 67) from ((fr2 Fm70 67 rfl).trans ((fr2 Fm57 67 rfl).trans ((fr2 Fm55 67 rfl).trans ((fr2 Fm24 67 rfl).trans ((fr2 Fm13 67 rfl).trans (fr2 Fm2 67 rfl))))))), (show (m70.1 28) = (m.1 28) from ((fr1 Fm70 28 rfl).trans ((fr1 Fm57 28 rfl).trans ((fr1 Fm55 28 rfl).trans ((fr1 Fm24 28 rfl).trans ((fr1 Fm13 28 rfl).trans (fr1 Fm2 28 rfl)))))))]; exact hCN)) (fun rr90 k91 => ?_)
                                    obtain ⟨m92, wo, Tm92, Fm92, g93, rfl⟩ := k91
                                    refine ⟨_, _, rfl, ?_⟩
                                    refine T_nb (st' := [.long (i64 wo)]) rfl ?_
                                    obtain ⟨g93a, g93b⟩ := g93
                                    refine T_sto 207 [(4, .long (i64 wo)), (3, .int (i32 0)), (2, .int (i32 ((m.2 44) v56))), (0, .ref 189), (1, .int (i32 v56))] rfl (fun _ => rfl) ?_
                                    refine T_ld 209 (.int (i32 8)) rfl (fun _ => rfl) ?_
                                    refine T_ld 210 (.int (i32 v56)) rfl (fun _ => rfl) ?_
                                    refine T_imul 211 rfl rfl ?_
                                    refine T_sto 213 [(6, .int (i32 (8 * v56))), (4, .long (i64 wo)), (3, .int (i32 0)), (2, .int (i32 ((m.2 44) v56))), (0, .ref 189), (1, .int (i32 v56))] rfl (fun _ => rfl) ?_
                                    have e112 : 0 ≤ m.2 42 v56 ∧ m.2 42 v56 ≤ 8 := hT.2.1 42 v56
                                    have L213_97 : ∀ (n111 : Nat) (v94 : Int) (v95 : Int) (v96 : Int), (R32 v94) → (R32 v95) → (R32 v96) → ((-2) ≤ v94) → (v94 ≤ 15) → (0 ≤ v95) → (v95 ≤ 1) → (0 ≤ v96) → (v96 ≤ (8 * v56) + ((m.2 42) v56)) → (8 * v56 ≤ v96) → ((-2) ≤ v94 ∧ v94 < (m.1 23) ∧ v94 ≤ 15) → (0 ≤ v94 → Ld (m.2 44) (m.2 38) (m.2 42) (m.2 45) v56 ((m.2 38) v94)) → ((8 * v56) + ((m.2 42) v56)) - v96 < (n111 : Int) → TT w D pm_325 (213, [(0, .ref 189), (1, .int (i32 v56)), (2, .int (i32 v94)), (3, .int (i32 v95)), (4, .long (i64 wo)), (6, .int (i32 v96))], [], (mhp (mO m92 [] []) c, N), 0, 0) (Q_readPacket m c N) := by
                                      intro n111
                                      induction n111 with
                                      | zero =>
                                        intro v94 v95 v96 q107 q108 q109 ic98 ic99 ic100 ic101 ic102 ic103 ic104 ic105 ic106 hmu
                                        obtain ⟨q107a, q107b⟩ := id q107
                                        obtain ⟨q108a, q108b⟩ := id q108
                                        obtain ⟨q109a, q109b⟩ := id q109
                                        have hLdd := ic106
                                        exfalso
                                        omega
                                      | succ n111 ih =>
                                        intro v94 v95 v96 q107 q108 q109 ic98 ic99 ic100 ic101 ic102 ic103 ic104 ic105 ic106 hmu
                                        obtain ⟨q107a, q107b⟩ := id q107
                                        obtain ⟨q108a, q108b⟩ := id q108
                                        obtain ⟨q109a, q109b⟩ := id q109
                                        have hLdd := ic106
                                        have ih113 := ih
                                        refine T_ld 215 (.int (i32 v96)) rfl (fun _ => rfl) ?_
                                        refine T_ld 217 (.int (i32 8)) rfl (fun _ => rfl) ?_
                                        refine T_ld 218 (.int (i32 v56)) rfl (fun _ => rfl) ?_
                                        refine T_imul 219 rfl rfl ?_
                                        refine T_gf 223 (.ref 212) rfl rfl rfl rfl rfl rfl ?_
                                        refine T_ld 224 (.int (i32 v56)) rfl (fun _ => rfl) ?_
                                        refine T_iald 225 42 (m.2 42) rfl rfl rfl (by omega) (show v56 < (16 : Int) by omega) (show (m92.2 42) = (m.2 42) from ((fr2 Fm92 42 rfl).trans ((fr2 Fm70 42 rfl).trans ((fr2 Fm57 42 rfl).trans ((fr2 Fm55 42 rfl).trans ((fr2 Fm24 42 rfl).trans ((fr2 Fm13 42 rfl).trans (fr2 Fm2 42 rfl)))))))) ?_
                                        have e114 : 0 ≤ m.2 42 v56 ∧ m.2 42 v56 ≤ 8 := hT.2.1 42 v56
                                        refine T_iadd 226 rfl rfl ?_
                                        refine T_icmp 284 229 rfl rfl rfl (r32 (by omega) (by omega)) (r32 (by omega) (by omega)) (fun (h115 : (8 * v56) + ((m.2 42) v56) ≤ v96) => ?_) (fun (h115 : ¬ ((8 * v56) + ((m.2 42) v56) ≤ v96)) => ?_)
                                        · skip
                                          refine T_ld 285 (.int (i32 v94)) rfl (fun _ => rfl) ?_
                                          refine T_if 292 288 rfl rfl rfl (r32 (by omega) (by omega)) (fun (h116 : (0 : Int) ≤ v94) => ?_) (fun (h116 : ¬ ((0 : Int) ≤ v94)) => ?_)
                                          · skip
                                            have hso := pSO.1 v94 (by omega) (by omega)
                                            have hld := hLdd (by omega)
                                            have hrk : (m.2 41) v56 ≤ 0 → 0 ≤ (m.2 38) v94 → rk ((m.2 38) v94) < rk v56 := fun a b => hr4 v56 _ (by omega) (by omega) a b hso hld
                                            have hrx := hr1 ((m.2 38) v94)
                                            have hrm := hr2 ((m.2 38) v94)
                                            refine T_gf 296 (.ref 208) rfl rfl rfl rfl rfl rfl ?_
                                            refine T_ld 297 (.int (i32 v94)) rfl (fun _ => rfl) ?_
                                            refine T_iald 298 38 (m.2 38) rfl rfl rfl (by omega) (show v94 < (16 : Int) by omega) (show (m92.2 38) = (m.2 38) from ((fr2 Fm92 38 rfl).trans ((fr2 Fm70 38 rfl).trans ((fr2 Fm57 38 rfl).trans ((fr2 Fm55 38 rfl).trans ((fr2 Fm24 38 rfl).trans ((fr2 Fm13 38 rfl).trans (fr2 Fm2 38 rfl)))))))) ?_
                                            have e117 : (-1) ≤ m.2 38 v94 ∧ m.2 38 v94 ≤ 15 := hT.2.1 38 v94
                                            refine T_sto 299 [(1, .int (i32 ((m.2 38) v94))), (0, .ref 189), (2, .int (i32 v94)), (3, .int (i32 v95)), (4, .long (i64 wo)), (6, .int (i32 v96))] rfl (fun _ => rfl) ?_
                                            have hr9 := hr2 ((m.2 38) v94)
                                            refine T_goto 117 rfl (fun _ => rfl) ?_
                                            refine Tm_lv (a := [(0, .ref 189), (1, .int (i32 ((m.2 38) v94)))]) rfl rfl ⟨rfl, rfl, trivial⟩ ?_
                                            exact ih66 ((m.2 38) v94) (mO m92 [] []) (r32 (by omega) (by omega)) Tm92 (fr_m (fr_s Fm92 (fr_m (fr_s Fm70 (fr_m (fr_s Fm57 (fr_m fr_0 rfl rfl) rfl rfl) rfl rfl) rfl rfl) rfl rfl) rfl rfl) rfl rfl) (show (-2) ≤ ((m.2 38) v94) by omega) (show ((m.2 38) v94) ≤ 15 by omega) (show (-2) ≤ ((m.2 38) v94) ∧ ((m.2 38) v94) < (m.1 24) ∧ ((m.2 38) v94) ≤ 15 by omega) (show 18 * (12 - ct (m92.2 175) 12) + rk ((m.2 38) v94) + 1 < (n65 : Int) by rewrite [(show (m92.2 175) = (m70.2 175) from (fr2 Fm92 175 rfl))]; omega)
                                          · skip
                                            have hrn := hr2 v94 (by omega)
                                            refine T_ld 289 (.int (i32 v94)) rfl (fun _ => rfl) ?_
                                            refine T_goto 298 rfl (fun _ => rfl) ?_
                                            refine T_sto 299 [(1, .int (i32 v94)), (0, .ref 189), (2, .int (i32 v94)), (3, .int (i32 v95)), (4, .long (i64 wo)), (6, .int (i32 v96))] rfl (fun _ => rfl) ?_
                                            have hr9 := hr2 v94
                                            refine T_goto 117 rfl (fun _ => rfl) ?_
                                            refine Tm_lv (a := [(0, .ref 189), (1, .int (i32 v94))]) rfl rfl ⟨rfl, rfl, trivial⟩ ?_
                                            exact ih66 v94 (mO m92 [] []) (r32 (by omega) (by omega)) Tm92 (fr_m (fr_s Fm92 (fr_m (fr_s Fm70 (fr_m (fr_s Fm57 (fr_m fr_0 rfl rfl) rfl rfl) rfl rfl) rfl rfl) rfl rfl) rfl rfl) rfl rfl) (show (-2) ≤ v94 by omega) (show v94 ≤ 15 by omega) (show (-2) ≤ v94 ∧ v94 < (m.1 24) ∧ v94 ≤ 15 by omega) (show 18 * (12 - ct (m92.2 175) 12) + rk v94 + 1 < (n65 : Int) by rewrite [(show (m92.2 175) = (m70.2 175) from (fr2 Fm92 175 rfl))]; omega)
                                        · skip
                                          refine T_ld 230 (.int (i32 v95)) rfl (fun _ => rfl) ?_
                                          refine T_if 284 233 rfl rfl rfl (r32 (by omega) (by omega)) (fun (h118 : v95 ≠ 0) => ?_) (fun (h118 : ¬ (v95 ≠ 0)) => ?_)
                                          · skip
                                            refine T_ld 285 (.int (i32 v94)) rfl (fun _ => rfl) ?_
                                            refine T_if 292 288 rfl rfl rfl (r32 (by omega) (by omega)) (fun (h119 : (0 : Int) ≤ v94) => ?_) (fun (h119 : ¬ ((0 : Int) ≤ v94)) => ?_)
                                            · skip
                                              have hso := pSO.1 v94 (by omega) (by omega)
                                              have hld := hLdd (by omega)
                                              have hrk : (m.2 41) v56 ≤ 0 → 0 ≤ (m.2 38) v94 → rk ((m.2 38) v94) < rk v56 := fun a b => hr4 v56 _ (by omega) (by omega) a b hso hld
                                              have hrx := hr1 ((m.2 38) v94)
                                              have hrm := hr2 ((m.2 38) v94)
                                              refine T_gf 296 (.ref 208) rfl rfl rfl rfl rfl rfl ?_
                                              refine T_ld 297 (.int (i32 v94)) rfl (fun _ => rfl) ?_
                                              refine T_iald 298 38 (m.2 38) rfl rfl rfl (by omega) (show v94 < (16 : Int) by omega) (show (m92.2 38) = (m.2 38) from ((fr2 Fm92 38 rfl).trans ((fr2 Fm70 38 rfl).trans ((fr2 Fm57 38 rfl).trans ((fr2 Fm55 38 rfl).trans ((fr2 Fm24 38 rfl).trans ((fr2 Fm13 38 rfl).trans (fr2 Fm2 38 rfl)))))))) ?_
                                              have e120 : (-1) ≤ m.2 38 v94 ∧ m.2 38 v94 ≤ 15 := hT.2.1 38 v94
                                              refine T_sto 299 [(1, .int (i32 ((m.2 38) v94))), (0, .ref 189), (2, .int (i32 v94)), (3, .int (i32 v95)), (4, .long (i64 wo)), (6, .int (i32 v96))] rfl (fun _ => rfl) ?_
                                              have hr9 := hr2 ((m.2 38) v94)
                                              refine T_goto 117 rfl (fun _ => rfl) ?_
                                              refine Tm_lv (a := [(0, .ref 189), (1, .int (i32 ((m.2 38) v94)))]) rfl rfl ⟨rfl, rfl, trivial⟩ ?_
                                              exact ih66 ((m.2 38) v94) (mO m92 [] []) (r32 (by omega) (by omega)) Tm92 (fr_m (fr_s Fm92 (fr_m (fr_s Fm70 (fr_m (fr_s Fm57 (fr_m fr_0 rfl rfl) rfl rfl) rfl rfl) rfl rfl) rfl rfl) rfl rfl) rfl rfl) (show (-2) ≤ ((m.2 38) v94) by omega) (show ((m.2 38) v94) ≤ 15 by omega) (show (-2) ≤ ((m.2 38) v94) ∧ ((m.2 38) v94) < (m.1 24) ∧ ((m.2 38) v94) ≤ 15 by omega) (show 18 * (12 - ct (m92.2 175) 12) + rk ((m.2 38) v94) + 1 < (n65 : Int) by rewrite [(show (m92.2 175) = (m70.2 175) from (fr2 Fm92 175 rfl))]; omega)
                                            · skip
                                              have hrn := hr2 v94 (by omega)
                                              refine T_ld 289 (.int (i32 v94)) rfl (fun _ => rfl) ?_
                                              refine T_goto 298 rfl (fun _ => rfl) ?_
                                              refine T_sto 299 [(1, .int (i32 v94)), (0, .ref 189), (2, .int (i32 v94)), (3, .int (i32 v95)), (4, .long (i64 wo)), (6, .int (i32 v96))] rfl (fun _ => rfl) ?_
                                              have hr9 := hr2 v94
                                              refine T_goto 117 rfl (fun _ => rfl) ?_
                                              refine Tm_lv (a := [(0, .ref 189), (1, .int (i32 v94))]) rfl rfl ⟨rfl, rfl, trivial⟩ ?_
                                              exact ih66 v94 (mO m92 [] []) (r32 (by omega) (by omega)) Tm92 (fr_m (fr_s Fm92 (fr_m (fr_s Fm70 (fr_m (fr_s Fm57 (fr_m fr_0 rfl rfl) rfl rfl) rfl rfl) rfl rfl) rfl rfl) rfl rfl) rfl rfl) (show (-2) ≤ v94 by omega) (show v94 ≤ 15 by omega) (show (-2) ≤ v94 ∧ v94 < (m.1 24) ∧ v94 ≤ 15 by omega) (show 18 * (12 - ct (m92.2 175) 12) + rk v94 + 1 < (n65 : Int) by rewrite [(show (m92.2 175) = (m70.2 175) from (fr2 Fm92 175 rfl))]; omega)
                                          · skip
                                            refine T_ld 235 (.long (i64 wo)) rfl (fun _ => rfl) ?_
                                            refine T_gf 239 (.ref 259) rfl rfl rfl rfl rfl rfl ?_
                                            refine T_ld 241 (.int (i32 v96)) rfl (fun _ => rfl) ?_
                                            refine T_lald 242 97 (m.2 97) rfl rfl rfl (by omega) (show v96 < (128 : Int) by omega) (show (m92.2 97) = (m.2 97) from ((fr2 Fm92 97 rfl).trans ((fr2 Fm70 97 rfl).trans ((fr2 Fm57 97 rfl).trans ((fr2 Fm55 97 rfl).trans ((fr2 Fm24 97 rfl).trans ((fr2 Fm13 97 rfl).trans (fr2 Fm2 97 rfl)))))))) ?_
                                            have e121 : (-9223372036854775808) ≤ m.2 97 v96 ∧ m.2 97 v96 ≤ 9223372036854775807 := hT.2.1 97 v96
                                            refine T_lhv 243 _ rfl (fun _ => rfl) (fun z122 h123 => ?_)
                                            obtain ⟨h123a, h123b⟩ := h123
                                            refine T_gf 247 (.ref 260) rfl rfl rfl rfl rfl rfl ?_
                                            refine T_ld 249 (.int (i32 v96)) rfl (fun _ => rfl) ?_
                                            refine T_lald 250 98 (m.2 98) rfl rfl rfl (by omega) (show v96 < (128 : Int) by omega) (show (m92.2 98) = (m.2 98) from ((fr2 Fm92 98 rfl).trans ((fr2 Fm70 98 rfl).trans ((fr2 Fm57 98 rfl).trans ((fr2 Fm55 98 rfl).trans ((fr2 Fm24 98 rfl).trans ((fr2 Fm13 98 rfl).trans (fr2 Fm2 98 rfl)))))))) ?_
                                            have e124 : (-9223372036854775808) ≤ m.2 98 v96 ∧ m.2 98 v96 ≤ 9223372036854775807 := hT.2.1 98 v96
                                            refine T_lhv 251 _ rfl (fun _ => rfl) (fun z125 h126 => ?_)
                                            obtain ⟨h126a, h126b⟩ := h126
                                            refine T_ld 252 (.long (i64 0)) rfl (fun _ => rfl) ?_
                                            refine T_lcmp 253 rfl rfl (r64 (by omega) (by omega)) ⟨by decide, by decide⟩ (fun z127 h128 => ?_)
                                            obtain ⟨h128a, h128b, h128c, h128d, h128e⟩ := h128
                                            refine T_if 260 256 rfl rfl rfl (r32 (by omega) (by omega)) (fun (h129 : z127 ≠ 0) => ?_) (fun (h129 : ¬ (z127 ≠ 0)) => ?_)
                                            · skip
                                              have hl130 : z125 ≠ 0 := by omega
                                              refine T_ld 261 (.int (i32 0)) rfl (fun _ => rfl) ?_
                                              refine T_sto 262 [(3, .int (i32 0)), (0, .ref 189), (1, .int (i32 v56)), (2, .int (i32 v94)), (4, .long (i64 wo)), (6, .int (i32 v96))] rfl (fun _ => rfl) ?_
                                              refine T_ld 263 (.int (i32 0)) rfl (fun _ => rfl) ?_
                                              refine T_if 276 266 rfl rfl rfl ⟨by decide, by decide⟩ (fun _ => ?_) (fun h131 => absurd (show (0 : Int) = 0 by decide) h131)
                                              refine T_ld 277 (.int (i32 v94)) rfl (fun _ => rfl) ?_
                                              refine T_sto 278 [(2, .int (i32 v94)), (3, .int (i32 0)), (0, .ref 189), (1, .int (i32 v56)), (4, .long (i64 wo)), (6, .int (i32 v96))] rfl (fun _ => rfl) ?_
                                              refine T_iinc 281 [(6, .int (i32 (v96 + 1))), (2, .int (i32 v94)), (3, .int (i32 0)), (0, .ref 189), (1, .int (i32 v56)), (4, .long (i64 wo))] rfl rfl (by decide) rfl rfl ?_
                                              refine T_goto 213 rfl (fun _ => rfl) ?_
                                              refine Tm_lv (a := [(0, .ref 189), (1, .int (i32 v56)), (2, .int (i32 v94)), (3, .int (i32 0)), (4, .long (i64 wo)), (6, .int (i32 (v96 + 1)))]) rfl rfl ⟨rfl, rfl, rfl, rfl, rfl, rfl, trivial⟩ ?_
                                              exact ih113 v94 0 (v96 + 1) (r32 (by omega) (by omega)) ⟨by decide, by decide⟩ (r32 (by omega) (by omega)) (show (-2) ≤ v94 by omega) (show v94 ≤ 15 by omega) (show 0 ≤ (0 : Int) by omega) (show (0 : Int) ≤ 1 by omega) (show 0 ≤ (v96 + 1) by omega) (show (v96 + 1) ≤ (8 * v56) + ((m.2 42) v56) by omega) (show 8 * v56 ≤ (v96 + 1) by omega) (show (-2) ≤ v94 ∧ v94 < (m.1 23) ∧ v94 ≤ 15 by omega) (show 0 ≤ v94 → Ld (m.2 44) (m.2 38) (m.2 42) (m.2 45) v56 ((m.2 38) v94) by first | exact hLdd | exact fun h => Or.inl ⟨h, rfl⟩ | exact fun h => Or.inr ⟨v96, by omega, by omega, h, rfl⟩) (show ((8 * v56) + ((m.2 42) v56)) - (v96 + 1) < (n111 : Int) by omega)
                                            · skip
                                              have hl132 : z125 = 0 := by omega
                                              refine T_ld 257 (.int (i32 1)) rfl (fun _ => rfl) ?_
                                              refine T_goto 261 rfl (fun _ => rfl) ?_
                                              refine T_sto 262 [(3, .int (i32 1)), (0, .ref 189), (1, .int (i32 v56)), (2, .int (i32 v94)), (4, .long (i64 wo)), (6, .int (i32 v96))] rfl (fun _ => rfl) ?_
                                              refine T_ld 263 (.int (i32 1)) rfl (fun _ => rfl) ?_
                                              refine T_if 276 266 rfl rfl rfl ⟨by decide, by decide⟩ (fun h133 => absurd (show (1 : Int) = 0 from h133) (by decide)) (fun _ => ?_)
                                              have hct := hs3 v96 (by omega) (by omega)
                                              refine T_gf 270 (.ref 215) rfl rfl rfl rfl rfl rfl ?_
                                              refine T_ld 272 (.int (i32 v96)) rfl (fun _ => rfl) ?_
                                              refine T_iald 273 45 (m.2 45) rfl rfl rfl (by omega) (show v96 < (128 : Int) by omega) (show (m92.2 45) = (m.2 45) from ((fr2 Fm92 45 rfl).trans ((fr2 Fm70 45 rfl).trans ((fr2 Fm57 45 rfl).trans ((fr2 Fm55 45 rfl).trans ((fr2 Fm24 45 rfl).trans ((fr2 Fm13 45 rfl).trans (fr2 Fm2 45 rfl)))))))) ?_
                                              have e134 : (-2) ≤ m.2 45 v96 ∧ m.2 45 v96 ≤ 15 := hT.2.1 45 v96
                                              refine T_goto 277 rfl (fun _ => rfl) ?_
                                              refine T_sto 278 [(2, .int (i32 ((m.2 45) v96))), (3, .int (i32 1)), (0, .ref 189), (1, .int (i32 v56)), (4, .long (i64 wo)), (6, .int (i32 v96))] rfl (fun _ => rfl) ?_
                                              refine T_iinc 281 [(6, .int (i32 (v96 + 1))), (2, .int (i32 ((m.2 45) v96))), (3, .int (i32 1)), (0, .ref 189), (1, .int (i32 v56)), (4, .long (i64 wo))] rfl rfl (by decide) rfl rfl ?_
                                              refine T_goto 213 rfl (fun _ => rfl) ?_
                                              refine Tm_lv (a := [(0, .ref 189), (1, .int (i32 v56)), (2, .int (i32 ((m.2 45) v96))), (3, .int (i32 1)), (4, .long (i64 wo)), (6, .int (i32 (v96 + 1)))]) rfl rfl ⟨rfl, rfl, rfl, rfl, rfl, rfl, trivial⟩ ?_
                                              exact ih113 ((m.2 45) v96) 1 (v96 + 1) (r32 (by omega) (by omega)) ⟨by decide, by decide⟩ (r32 (by omega) (by omega)) (show (-2) ≤ ((m.2 45) v96) by omega) (show ((m.2 45) v96) ≤ 15 by omega) (show 0 ≤ (1 : Int) by omega) (show (1 : Int) ≤ 1 by omega) (show 0 ≤ (v96 + 1) by omega) (show (v96 + 1) ≤ (8 * v56) + ((m.2 42) v56) by omega) (show 8 * v56 ≤ (v96 + 1) by omega) (show (-2) ≤ ((m.2 45) v96) ∧ ((m.2 45) v96) < (m.1 23) ∧ ((m.2 45) v96) ≤ 15 by omega) (show 0 ≤ ((m.2 45) v96) → Ld (m.2 44) (m.2 38) (m.2 42) (m.2 45) v56 ((m.2 38) ((m.2 45) v96)) by first | exact hLdd | exact fun h => Or.inl ⟨h, rfl⟩ | exact fun h => Or.inr ⟨v96, by omega, by omega, h, rfl⟩) (show ((8 * v56) + ((m.2 42) v56)) - (v96 + 1) < (n111 : Int) by omega)
                                    refine Tm_lv (a := [(0, .ref 189), (1, .int (i32 v56)), (2, .int (i32 ((m.2 44) v56))), (3, .int (i32 0)), (4, .long (i64 wo)), (6, .int (i32 (8 * v56)))]) rfl rfl ⟨rfl, rfl, rfl, rfl, rfl, rfl, trivial⟩ ?_
                                    exact L213_97 ((((8 * v56) + ((m.2 42) v56)) - (8 * v56) : Int) + 1).toNat ((m.2 44) v56) 0 (8 * v56) (r32 (by omega) (by omega)) ⟨by decide, by decide⟩ (r32 (by omega) (by omega)) (show (-2) ≤ ((m.2 44) v56) by omega) (show ((m.2 44) v56) ≤ 15 by omega) (show 0 ≤ (0 : Int) by omega) (show (0 : Int) ≤ 1 by omega) (show 0 ≤ (8 * v56) by omega) (show (8 * v56) ≤ (8 * v56) + ((m.2 42) v56) by omega) (show 8 * v56 ≤ (8 * v56) by omega) (show (-2) ≤ ((m.2 44) v56) ∧ ((m.2 44) v56) < (m.1 23) ∧ ((m.2 44) v56) ≤ 15 by omega) (show 0 ≤ ((m.2 44) v56) → Ld (m.2 44) (m.2 38) (m.2 42) (m.2 45) v56 ((m.2 38) ((m.2 44) v56)) by first | exact hLdd | exact fun h => Or.inl ⟨h, rfl⟩ | exact fun h => Or.inr ⟨v96, by omega, by omega, h, rfl⟩) (show ((8 * v56) + ((m.2 42) v56)) - (8 * v56) < ((((((8 * v56) + ((m.2 42) v56)) - (8 * v56) : Int) + 1).toNat : Nat) : Int) by omega)
                                  · skip
                                    refine T_ld 176 (.int (i32 1)) rfl (fun _ => rfl) ?_
                                    refine T_goto 180 rfl (fun _ => rfl) ?_
                                    refine T_sto 181 [(3, .int (i32 1)), (2, .int (i32 ((m.2 44) v56))), (0, .ref 189), (1, .int (i32 v56))] rfl (fun _ => rfl) ?_
                                    refine T_ld 182 (.int (i32 1)) rfl (fun _ => rfl) ?_
                                    refine T_if 189 185 rfl rfl rfl ⟨by decide, by decide⟩ (fun h135 => absurd (show (1 : Int) = 0 from h135) (by decide)) (fun _ => ?_)
                                    refine T_ld 186 (.long (i64 0)) rfl (fun _ => rfl) ?_
                                    refine T_goto 205 rfl (fun _ => rfl) ?_
                                    refine T_sto 207 [(4, .long (i64 0)), (3, .int (i32 1)), (2, .int (i32 ((m.2 44) v56))), (0, .ref 189), (1, .int (i32 v56))] rfl (fun _ => rfl) ?_
                                    refine T_ld 209 (.int (i32 8)) rfl (fun _ => rfl) ?_
                                    refine T_ld 210 (.int (i32 v56)) rfl (fun _ => rfl) ?_
                                    refine T_imul 211 rfl rfl ?_
                                    refine T_sto 213 [(6, .int (i32 (8 * v56))), (4, .long (i64 0)), (3, .int (i32 1)), (2, .int (i32 ((m.2 44) v56))), (0, .ref 189), (1, .int (i32 v56))] rfl (fun _ => rfl) ?_
                                    have e155 : 0 ≤ m.2 42 v56 ∧ m.2 42 v56 ≤ 8 := hT.2.1 42 v56
                                    have L213_139 : ∀ (n154 : Nat) (v136 : Int) (v137 : Int) (v138 : Int), (R32 v136) → (R32 v137) → (R32 v138) → ((-2) ≤ v136) → (v136 ≤ 15) → (1 ≤ v137) → (v137 ≤ 1) → (0 ≤ v138) → (v138 ≤ 120) → (v138 ≤ (8 * v56) + ((m.2 42) v56)) → (8 * v56 ≤ v138) → ((-2) ≤ v136 ∧ v136 < (m.1 23) ∧ v136 ≤ 15) → (0 ≤ v136 → Ld (m.2 44) (m.2 38) (m.2 42) (m.2 45) v56 ((m.2 38) v136)) → ((8 * v56) + ((m.2 42) v56)) - v138 < (n154 : Int) → TT w D pm_325 (213, [(0, .ref 189), (1, .int (i32 v56)), (2, .int (i32 v136)), (3, .int (i32 v137)), (4, .long (i64 0)), (6, .int (i32 v138))], [], (mhp (mO m70 [] []) c, N), 0, 0) (Q_readPacket m c N) := by
                                      intro n154
                                      induction n154 with
                                      | zero =>
                                        intro v136 v137 v138 q150 q151 q152 ic140 ic141 ic142 ic143 ic144 ic145 ic146 ic147 ic148 ic149 hmu
                                        obtain ⟨q150a, q150b⟩ := id q150
                                        obtain ⟨q151a, q151b⟩ := id q151
                                        obtain ⟨q152a, q152b⟩ := id q152
                                        have hLdd := ic149
                                        exfalso
                                        omega
                                      | succ n154 ih =>
                                        intro v136 v137 v138 q150 q151 q152 ic140 ic141 ic142 ic143 ic144 ic145 ic146 ic147 ic148 ic149 hmu
                                        obtain ⟨q150a, q150b⟩ := id q150
                                        obtain ⟨q151a, q151b⟩ := id q151
                                        obtain ⟨q152a, q152b⟩ := id q152
                                        have hLdd := ic149
                                        have ih156 := ih
                                        refine T_ld 215 (.int (i32 v138)) rfl (fun _ => rfl) ?_
                                        refine T_ld 217 (.int (i32 8)) rfl (fun _ => rfl) ?_
                                        refine T_ld 218 (.int (i32 v56)) rfl (fun _ => rfl) ?_
                                        refine T_imul 219 rfl rfl ?_
                                        refine T_gf 223 (.ref 212) rfl rfl rfl rfl rfl rfl ?_
                                        refine T_ld 224 (.int (i32 v56)) rfl (fun _ => rfl) ?_
                                        refine T_iald 225 42 (m.2 42) rfl rfl rfl (by omega) (show v56 < (16 : Int) by omega) (show (m70.2 42) = (m.2 42) from ((fr2 Fm70 42 rfl).trans ((fr2 Fm57 42 rfl).trans ((fr2 Fm55 42 rfl).trans ((fr2 Fm24 42 rfl).trans ((fr2 Fm13 42 rfl).trans (fr2 Fm2 42 rfl))))))) ?_
                                        have e157 : 0 ≤ m.2 42 v56 ∧ m.2 42 v56 ≤ 8 := hT.2.1 42 v56
                                        refine T_iadd 226 rfl rfl ?_
                                        refine T_icmp 284 229 rfl rfl rfl (r32 (by omega) (by omega)) (r32 (by omega) (by omega)) (fun (h158 : (8 * v56) + ((m.2 42) v56) ≤ v138) => ?_) (fun (h158 : ¬ ((8 * v56) + ((m.2 42) v56) ≤ v138)) => ?_)
                                        · skip
                                          refine T_ld 285 (.int (i32 v136)) rfl (fun _ => rfl) ?_
                                          refine T_if 292 288 rfl rfl rfl (r32 (by omega) (by omega)) (fun (h159 : (0 : Int) ≤ v136) => ?_) (fun (h159 : ¬ ((0 : Int) ≤ v136)) => ?_)
                                          · skip
                                            have hso := pSO.1 v136 (by omega) (by omega)
                                            have hld := hLdd (by omega)
                                            have hrk : (m.2 41) v56 ≤ 0 → 0 ≤ (m.2 38) v136 → rk ((m.2 38) v136) < rk v56 := fun a b => hr4 v56 _ (by omega) (by omega) a b hso hld
                                            have hrx := hr1 ((m.2 38) v136)
                                            have hrm := hr2 ((m.2 38) v136)
                                            refine T_gf 296 (.ref 208) rfl rfl rfl rfl rfl rfl ?_
                                            refine T_ld 297 (.int (i32 v136)) rfl (fun _ => rfl) ?_
                                            refine T_iald 298 38 (m.2 38) rfl rfl rfl (by omega) (show v136 < (16 : Int) by omega) (show (m70.2 38) = (m.2 38) from ((fr2 Fm70 38 rfl).trans ((fr2 Fm57 38 rfl).trans ((fr2 Fm55 38 rfl).trans ((fr2 Fm24 38 rfl).trans ((fr2 Fm13 38 rfl).trans (fr2 Fm2 38 rfl))))))) ?_
                                            have e160 : (-1) ≤ m.2 38 v136 ∧ m.2 38 v136 ≤ 15 := hT.2.1 38 v136
                                            refine T_sto 299 [(1, .int (i32 ((m.2 38) v136))), (0, .ref 189), (2, .int (i32 v136)), (3, .int (i32 v137)), (4, .long (i64 0)), (6, .int (i32 v138))] rfl (fun _ => rfl) ?_
                                            have hr9 := hr2 ((m.2 38) v136)
                                            refine T_goto 117 rfl (fun _ => rfl) ?_
                                            refine Tm_lv (a := [(0, .ref 189), (1, .int (i32 ((m.2 38) v136)))]) rfl rfl ⟨rfl, rfl, trivial⟩ ?_
                                            exact ih66 ((m.2 38) v136) (mO m70 [] []) (r32 (by omega) (by omega)) Tm70 (fr_m (fr_s Fm70 (fr_m (fr_s Fm57 (fr_m fr_0 rfl rfl) rfl rfl) rfl rfl) rfl rfl) rfl rfl) (show (-2) ≤ ((m.2 38) v136) by omega) (show ((m.2 38) v136) ≤ 15 by omega) (show (-2) ≤ ((m.2 38) v136) ∧ ((m.2 38) v136) < (m.1 24) ∧ ((m.2 38) v136) ≤ 15 by omega) (show 18 * (12 - ct (m70.2 175) 12) + rk ((m.2 38) v136) + 1 < (n65 : Int) by omega)
                                          · skip
                                            have hrn := hr2 v136 (by omega)
                                            refine T_ld 289 (.int (i32 v136)) rfl (fun _ => rfl) ?_
                                            refine T_goto 298 rfl (fun _ => rfl) ?_
                                            refine T_sto 299 [(1, .int (i32 v136)), (0, .ref 189), (2, .int (i32 v136)), (3, .int (i32 v137)), (4, .long (i64 0)), (6, .int (i32 v138))] rfl (fun _ => rfl) ?_
                                            have hr9 := hr2 v136
                                            refine T_goto 117 rfl (fun _ => rfl) ?_
                                            refine Tm_lv (a := [(0, .ref 189), (1, .int (i32 v136))]) rfl rfl ⟨rfl, rfl, trivial⟩ ?_
                                            exact ih66 v136 (mO m70 [] []) (r32 (by omega) (by omega)) Tm70 (fr_m (fr_s Fm70 (fr_m (fr_s Fm57 (fr_m fr_0 rfl rfl) rfl rfl) rfl rfl) rfl rfl) rfl rfl) (show (-2) ≤ v136 by omega) (show v136 ≤ 15 by omega) (show (-2) ≤ v136 ∧ v136 < (m.1 24) ∧ v136 ≤ 15 by omega) (show 18 * (12 - ct (m70.2 175) 12) + rk v136 + 1 < (n65 : Int) by omega)
                                        · skip
                                          refine T_ld 230 (.int (i32 v137)) rfl (fun _ => rfl) ?_
                                          refine T_if 284 233 rfl rfl rfl (r32 (by omega) (by omega)) (fun (h161 : v137 ≠ 0) => ?_) (fun (h161 : ¬ (v137 ≠ 0)) => by exfalso; omega)
                                          refine T_ld 285 (.int (i32 v136)) rfl (fun _ => rfl) ?_
                                          refine T_if 292 288 rfl rfl rfl (r32 (by omega) (by omega)) (fun (h162 : (0 : Int) ≤ v136) => ?_) (fun (h162 : ¬ ((0 : Int) ≤ v136)) => ?_)
                                          · skip
                                            have hso := pSO.1 v136 (by omega) (by omega)
                                            have hld := hLdd (by omega)
                                            have hrk : (m.2 41) v56 ≤ 0 → 0 ≤ (m.2 38) v136 → rk ((m.2 38) v136) < rk v56 := fun a b => hr4 v56 _ (by omega) (by omega) a b hso hld
                                            have hrx := hr1 ((m.2 38) v136)
                                            have hrm := hr2 ((m.2 38) v136)
                                            refine T_gf 296 (.ref 208) rfl rfl rfl rfl rfl rfl ?_
                                            refine T_ld 297 (.int (i32 v136)) rfl (fun _ => rfl) ?_
                                            refine T_iald 298 38 (m.2 38) rfl rfl rfl (by omega) (show v136 < (16 : Int) by omega) (show (m70.2 38) = (m.2 38) from ((fr2 Fm70 38 rfl).trans ((fr2 Fm57 38 rfl).trans ((fr2 Fm55 38 rfl).trans ((fr2 Fm24 38 rfl).trans ((fr2 Fm13 38 rfl).trans (fr2 Fm2 38 rfl))))))) ?_
                                            have e163 : (-1) ≤ m.2 38 v136 ∧ m.2 38 v136 ≤ 15 := hT.2.1 38 v136
                                            refine T_sto 299 [(1, .int (i32 ((m.2 38) v136))), (0, .ref 189), (2, .int (i32 v136)), (3, .int (i32 v137)), (4, .long (i64 0)), (6, .int (i32 v138))] rfl (fun _ => rfl) ?_
                                            have hr9 := hr2 ((m.2 38) v136)
                                            refine T_goto 117 rfl (fun _ => rfl) ?_
                                            refine Tm_lv (a := [(0, .ref 189), (1, .int (i32 ((m.2 38) v136)))]) rfl rfl ⟨rfl, rfl, trivial⟩ ?_
                                            exact ih66 ((m.2 38) v136) (mO m70 [] []) (r32 (by omega) (by omega)) Tm70 (fr_m (fr_s Fm70 (fr_m (fr_s Fm57 (fr_m fr_0 rfl rfl) rfl rfl) rfl rfl) rfl rfl) rfl rfl) (show (-2) ≤ ((m.2 38) v136) by omega) (show ((m.2 38) v136) ≤ 15 by omega) (show (-2) ≤ ((m.2 38) v136) ∧ ((m.2 38) v136) < (m.1 24) ∧ ((m.2 38) v136) ≤ 15 by omega) (show 18 * (12 - ct (m70.2 175) 12) + rk ((m.2 38) v136) + 1 < (n65 : Int) by omega)
                                          · skip
                                            have hrn := hr2 v136 (by omega)
                                            refine T_ld 289 (.int (i32 v136)) rfl (fun _ => rfl) ?_
                                            refine T_goto 298 rfl (fun _ => rfl) ?_
                                            refine T_sto 299 [(1, .int (i32 v136)), (0, .ref 189), (2, .int (i32 v136)), (3, .int (i32 v137)), (4, .long (i64 0)), (6, .int (i32 v138))] rfl (fun _ => rfl) ?_
                                            have hr9 := hr2 v136
                                            refine T_goto 117 rfl (fun _ => rfl) ?_
                                            refine Tm_lv (a := [(0, .ref 189), (1, .int (i32 v136))]) rfl rfl ⟨rfl, rfl, trivial⟩ ?_
                                            exact ih66 v136 (mO m70 [] []) (r32 (by omega) (by omega)) Tm70 (fr_m (fr_s Fm70 (fr_m (fr_s Fm57 (fr_m fr_0 rfl rfl) rfl rfl) rfl rfl) rfl rfl) rfl rfl) (show (-2) ≤ v136 by omega) (show v136 ≤ 15 by omega) (show (-2) ≤ v136 ∧ v136 < (m.1 24) ∧ v136 ≤ 15 by omega) (show 18 * (12 - ct (m70.2 175) 12) + rk v136 + 1 < (n65 : Int) by omega)
                                    refine Tm_lv (a := [(0, .ref 189), (1, .int (i32 v56)), (2, .int (i32 ((m.2 44) v56))), (3, .int (i32 1)), (4, .long (i64 0)), (6, .int (i32 (8 * v56)))]) rfl rfl ⟨rfl, rfl, rfl, rfl, rfl, rfl, trivial⟩ ?_
                                    exact L213_139 ((((8 * v56) + ((m.2 42) v56)) - (8 * v56) : Int) + 1).toNat ((m.2 44) v56) 1 (8 * v56) (r32 (by omega) (by omega)) ⟨by decide, by decide⟩ (r32 (by omega) (by omega)) (show (-2) ≤ ((m.2 44) v56) by omega) (show ((m.2 44) v56) ≤ 15 by omega) (show 1 ≤ (1 : Int) by omega) (show (1 : Int) ≤ 1 by omega) (show 0 ≤ (8 * v56) by omega) (show (8 * v56) ≤ 120 by omega) (show (8 * v56) ≤ (8 * v56) + ((m.2 42) v56) by omega) (show 8 * v56 ≤ (8 * v56) by omega) (show (-2) ≤ ((m.2 44) v56) ∧ ((m.2 44) v56) < (m.1 23) ∧ ((m.2 44) v56) ≤ 15 by omega) (show 0 ≤ ((m.2 44) v56) → Ld (m.2 44) (m.2 38) (m.2 42) (m.2 45) v56 ((m.2 38) ((m.2 44) v56)) by first | exact hLdd | exact fun h => Or.inl ⟨h, rfl⟩ | exact fun h => Or.inr ⟨v138, by omega, by omega, h, rfl⟩) (show ((8 * v56) + ((m.2 42) v56)) - (8 * v56) < ((((((8 * v56) + ((m.2 42) v56)) - (8 * v56) : Int) + 1).toNat : Nat) : Int) by omega)
                                · skip
                                  refine T_ld 134 (.ref 189) rfl (fun _ => rfl) ?_
                                  refine T_gf 138 (.ref 256) rfl rfl rfl rfl rfl rfl ?_
                                  refine T_ld 140 (.int (i32 6)) rfl (fun _ => rfl) ?_
                                  refine T_ld 141 (.int (i32 v56)) rfl (fun _ => rfl) ?_
                                  refine T_imul 142 rfl rfl ?_
                                  refine T_ld 143 (.int (i32 v69)) rfl (fun _ => rfl) ?_
                                  refine T_iadd 144 rfl rfl ?_
                                  refine T_iald 145 94 (m.2 94) rfl rfl rfl (by omega) (show ((6 * v56) + v69) < (96 : Int) by omega) (show (m70.2 94) = (m.2 94) from ((fr2 Fm70 94 rfl).trans ((fr2 Fm57 94 rfl).trans ((fr2 Fm55 94 rfl).trans ((fr2 Fm24 94 rfl).trans ((fr2 Fm13 94 rfl).trans (fr2 Fm2 94 rfl))))))) ?_
                                  have e164 : 0 ≤ m.2 94 ((6 * v56) + v69) ∧ m.2 94 ((6 * v56) + v69) ≤ 11 := hT.2.1 94 ((6 * v56) + v69)
                                  refine T_call 148 326 [.ref 189, .int (i32 ((m.2 94) ((6 * v56) + v69)))] [] rfl (fun _ => rfl) rfl (c_extract w (mO m70 [] []) c N D (by omega) Tm70 ((m.2 94) ((6 * v56) + v69)) (r32 (by omega) (by omega)) (show 0 ≤ ((m.2 94) ((6 * v56) + v69)) ∧ ((m.2 94) ((6 * v56) + v69)) ≤ 11 by omega)) (fun rr165 k166 => ?_)
                                  obtain ⟨m167, xt, Tm167, Fm167, g168, h169, rfl⟩ := k166
                                  refine ⟨_, _, rfl, ?_⟩
                                  refine T_nb (st' := [.int (i32 xt)]) rfl ?_
                                  obtain ⟨g168a, g168b⟩ := g168
                                  replace h169 : xt = 1 → (m167.2 175) = upI (m70.2 175) ((m.2 94) ((6 * v56) + v69)) 1 ∧ (m70.2 175) ((m.2 94) ((6 * v56) + v69)) = 0 := h169
                                  have hV1 := h169
                                  refine T_if 153 151 rfl rfl rfl (r32 (by omega) (by omega)) (fun (h170 : xt ≠ 0) => ?_) (fun (h170 : ¬ (xt ≠ 0)) => ?_)
                                  · skip
                                    have hv := hV1 (by omega)
                                    have hcs := ct_v hv.1 hv.2 (by omega) (by omega) (by assumption)
                                    refine T_iinc 156 [(2, .int (i32 (v69 + 1))), (0, .ref 189), (1, .int (i32 v56))] rfl rfl (by decide) rfl rfl ?_
                                    refine T_goto 123 rfl (fun _ => rfl) ?_
                                    refine Tm_lv (a := [(0, .ref 189), (1, .int (i32 v56)), (2, .int (i32 (v69 + 1)))]) rfl rfl ⟨rfl, rfl, rfl, trivial⟩ ?_
                                    exact ih81 (v69 + 1) (mO m167 [] []) (r32 (by omega) (by omega)) Tm167 (fr_m (fr_s Fm167 (fr_m (fr_s Fm70 (fr_m fr_0 rfl rfl) rfl rfl) rfl rfl) rfl rfl) rfl rfl) (show 0 ≤ (v69 + 1) by omega) (show (v69 + 1) ≤ (m.2 41) v56 by omega) (show 0 ≤ (v69 + 1) by omega) (show C0 + (v69 + 1) ≤ ct (m167.2 175) 12 by omega) (show ((m.2 41) v56) - (v69 + 1) < (n79 : Int) by omega)
                                  · skip
                                    refine T_ld 152 (.int (i32 0)) rfl (fun _ => rfl) ?_
                                    refine T_ret rfl (fun _ => rfl) ?_
                                    exact ⟨(mO m167 [] []), 0, Tm167, (fr_m (fr_s Fm167 (fr_m (fr_s Fm70 (fr_m (fr_s Fm57 (fr_m (fr_s Fm55 (fr_m (fr_s Fm24 (fr_m (fr_s Fm13 (fr_m (fr_s Fm2 (fr_m fr_0 rfl rfl) rfl rfl) rfl rfl) rfl rfl) rfl rfl) rfl rfl) rfl rfl) rfl rfl) rfl rfl) rfl rfl) rfl rfl) rfl rfl) rfl rfl) rfl rfl) rfl rfl), ⟨by omega, by omega⟩, rfl⟩
                            refine Tm_lv (a := [(0, .ref 189), (1, .int (i32 v56)), (2, .int (i32 0))]) rfl rfl ⟨rfl, rfl, rfl, trivial⟩ ?_
                            exact L123_71 ((((m.2 41) v56) - (0 : Int) : Int) + 1).toNat 0 (mO m57 [] []) ⟨by decide, by decide⟩ Tm57 (fr_m fr_0 rfl rfl) (show 0 ≤ (0 : Int) by omega) (show (0 : Int) ≤ (m.2 41) v56 by omega) (show 0 ≤ (0 : Int) by omega) (show C0 + (0 : Int) ≤ ct (m57.2 175) 12 by omega) (show ((m.2 41) v56) - (0 : Int) < ((((((m.2 41) v56) - (0 : Int) : Int) + 1).toNat : Nat) : Int) by omega)
                      refine Tm_lv (a := [(0, .ref 189), (1, .int (i32 0))]) rfl rfl ⟨rfl, rfl, trivial⟩ ?_
                      exact L117_58 ((18 * (12 - ct (m13.2 175) 12) + rk (0 : Int) + 1 : Int) + 1).toNat 0 (mO m55 [] []) ⟨by decide, by decide⟩ Tm55 (fr_m fr_0 rfl rfl) (show (-2) ≤ (0 : Int) by omega) (show (0 : Int) ≤ 15 by omega) (show (-2) ≤ (0 : Int) ∧ (0 : Int) < (m.1 24) ∧ (0 : Int) ≤ 15 by omega) (show 18 * (12 - ct (m55.2 175) 12) + rk (0 : Int) + 1 < ((((18 * (12 - ct (m13.2 175) 12) + rk (0 : Int) + 1 : Int) + 1).toNat : Nat) : Int) by rewrite [(show (m55.2 175) = (m13.2 175) from ((fr2 Fm55 175 rfl).trans (fr2 Fm24 175 rfl)))]; omega)
                  · skip
                    refine T_gf 55 (.ref 321) rfl rfl rfl rfl rfl rfl ?_
                    refine T_ld 56 (.int (i32 v23)) rfl (fun _ => rfl) ?_
                    refine T_ld 57 (.long (i64 0)) rfl (fun _ => rfl) ?_
                    have G171 : ∀ j, (-9223372036854775808) ≤ (upI (m24.2 172) v23 0) j ∧ (upI (m24.2 172) v23 0) j ≤ 9223372036854775807 := upI_rg (Tm24.2.1 172) ⟨by omega, by omega⟩
                    refine T_last (a' := [(172, upI (m24.2 172) v23 0)]) 58 172 (m24.2 172) rfl rfl rfl (by omega) (show v23 < (16 : Int) by omega) rfl rfl ?_
                    refine T_iinc 61 [(1, .int (i32 (v23 + 1))), (0, .ref 189)] rfl rfl (by decide) rfl rfl ?_
                    refine T_goto 45 rfl (fun _ => rfl) ?_
                    refine Tm_lv (a := [(0, .ref 189), (1, .int (i32 (v23 + 1)))]) rfl rfl ⟨rfl, rfl, trivial⟩ ?_
                    exact ih32 (v23 + 1) (mO m24 [] [(172, upI (m24.2 172) v23 0)]) (r32 (by omega) (by omega)) (Ty_mO Tm24 rfl rfl trivial ⟨G171, trivial⟩) (fr_m (fr_s Fm24 (fr_m fr_0 rfl rfl) rfl rfl) rfl rfl) (show 0 ≤ (v23 + 1) by omega) (show (v23 + 1) ≤ 16 by omega) (show 16 - (v23 + 1) < (n31 : Int) by omega)
              refine Tm_lv (a := [(0, .ref 189), (1, .int (i32 0))]) rfl rfl ⟨rfl, rfl, trivial⟩ ?_
              exact L45_25 ((16 - (0 : Int) : Int) + 1).toNat 0 (mO m13 [] []) ⟨by decide, by decide⟩ Tm13 (fr_m fr_0 rfl rfl) (show 0 ≤ (0 : Int) by omega) (show (0 : Int) ≤ 16 by omega) (show 16 - (0 : Int) < ((((16 - (0 : Int) : Int) + 1).toNat : Nat) : Int) by omega)
            · skip
              refine T_gf 34 (.ref 324) rfl rfl rfl rfl rfl rfl ?_
              refine T_ld 35 (.int (i32 v12)) rfl (fun _ => rfl) ?_
              refine T_ld 36 (.int (i32 0)) rfl (fun _ => rfl) ?_
              have G172 : ∀ j, 0 ≤ (upI (m13.2 175) v12 0) j ∧ (upI (m13.2 175) v12 0) j ≤ 1 := upI_rg (Tm13.2.1 175) ⟨by omega, by omega⟩
              refine T_bast (a' := [(175, upI (m13.2 175) v12 0)]) 37 175 (m13.2 175) rfl rfl rfl (by omega) (show v12 < (12 : Int) by omega) (by omega) rfl rfl ?_
              refine T_iinc 40 [(1, .int (i32 (v12 + 1))), (0, .ref 189)] rfl rfl (by decide) rfl rfl ?_
              refine T_goto 24 rfl (fun _ => rfl) ?_
              refine Tm_lv (a := [(0, .ref 189), (1, .int (i32 (v12 + 1)))]) rfl rfl ⟨rfl, rfl, trivial⟩ ?_
              exact ih21 (v12 + 1) (mO m13 [] [(175, upI (m13.2 175) v12 0)]) (r32 (by omega) (by omega)) (Ty_mO Tm13 rfl rfl trivial ⟨G172, trivial⟩) (fr_m (fr_s Fm13 (fr_m fr_0 rfl rfl) rfl rfl) rfl rfl) (show 0 ≤ (v12 + 1) by omega) (show (v12 + 1) ≤ 12 by omega) (show 12 - (v12 + 1) < (n20 : Int) by omega)
        refine Tm_lv (a := [(0, .ref 189), (1, .int (i32 0))]) rfl rfl ⟨rfl, rfl, trivial⟩ ?_
        exact L24_14 ((12 - (0 : Int) : Int) + 1).toNat 0 (mO m2 [] []) ⟨by decide, by decide⟩ Tm2 (fr_m fr_0 rfl rfl) (show 0 ≤ (0 : Int) by omega) (show (0 : Int) ≤ 12 by omega) (show 12 - (0 : Int) < ((((12 - (0 : Int) : Int) + 1).toNat : Nat) : Int) by omega)
      · skip
        refine T_gf 13 (.ref 320) rfl rfl rfl rfl rfl rfl ?_
        refine T_ld 14 (.int (i32 v1)) rfl (fun _ => rfl) ?_
        refine T_ld 15 (.long (i64 0)) rfl (fun _ => rfl) ?_
        have G173 : ∀ j, (-9223372036854775808) ≤ (upI (m2.2 171) v1 0) j ∧ (upI (m2.2 171) v1 0) j ≤ 9223372036854775807 := upI_rg (Tm2.2.1 171) ⟨by omega, by omega⟩
        refine T_last (a' := [(171, upI (m2.2 171) v1 0)]) 16 171 (m2.2 171) rfl rfl rfl (by omega) (show v1 < (192 : Int) by omega) rfl rfl ?_
        refine T_iinc 19 [(1, .int (i32 (v1 + 1))), (0, .ref 189)] rfl rfl (by decide) rfl rfl ?_
        refine T_goto 2 rfl (fun _ => rfl) ?_
        refine Tm_lv (a := [(0, .ref 189), (1, .int (i32 (v1 + 1)))]) rfl rfl ⟨rfl, rfl, trivial⟩ ?_
        exact ih10 (v1 + 1) (mO m2 [] [(171, upI (m2.2 171) v1 0)]) (r32 (by omega) (by omega)) (Ty_mO Tm2 rfl rfl trivial ⟨G173, trivial⟩) (fr_m (fr_s Fm2 (fr_m fr_0 rfl rfl) rfl rfl) rfl rfl) (show 0 ≤ (v1 + 1) by omega) (show (v1 + 1) ≤ 192 by omega) (show 192 - (v1 + 1) < (n9 : Int) by omega)
  refine Tm_lv (a := [(0, .ref 189), (1, .int (i32 0))]) rfl rfl ⟨rfl, rfl, trivial⟩ ?_
  exact L2_3 ((192 - (0 : Int) : Int) + 1).toNat 0 (mO m [] []) ⟨by decide, by decide⟩ hT (fr_m fr_0 rfl rfl) (show 0 ≤ (0 : Int) by omega) (show (0 : Int) ≤ 192 by omega) (show 192 - (0 : Int) < ((((192 - (0 : Int) : Int) + 1).toNat : Nat) : Int) by omega)
def fF_put : List Nat := []
def fA_put : List Nat := [171, 172]
def Q_put (m : mR) (c : Nat → Option am_C) (N : Nat) (p : Int) (v : Int) : ag_Re af_T → Prop := fun R => ∃ (M : mR), Ty M ∧ fr fF_put fA_put m M ∧ R = (.inl (none), (mhp M c, N), 0, 0)
set_option maxHeartbeats 3000000 in
theorem c_put (w : wX) (m : mR) (c : Nat → Option am_C) (N D : Nat) (hD : 1 ≤ D) (hT : Ty m) (p : Int) (v : Int) (qp : R32 p) (qv : R64 v) (p0 : 0 ≤ p ∧ p ≤ 207) : TC w D 333 [.ref 189, .int (i32 p), .long (i64 v)] (mhp m c, N) (Q_put m c N p v) := by
  obtain ⟨D, rfl⟩ : ∃ k, D = k + 1 := ⟨D - 1, by omega⟩
  obtain ⟨qpa, qpb⟩ := id qp
  obtain ⟨qva, qvb⟩ := id qv
  refine Tc_of rfl ?_
  show TT w D pm_333 (0, [(0, .ref 189), (1, .int (i32 p)), (2, .long (i64 v))], [], (mhp (mO m [] []) c, N), 0, 0) (Q_put m c N p v)
  refine T_ld 1 (.int (i32 p)) rfl (fun _ => rfl) ?_
  refine T_ld 3 (.int (i32 16)) rfl (fun _ => rfl) ?_
  refine T_icmp 16 6 rfl rfl rfl (r32 (by omega) (by omega)) ⟨by decide, by decide⟩ (fun (h1 : (16 : Int) ≤ p) => ?_) (fun (h1 : ¬ ((16 : Int) ≤ p)) => ?_)
  · skip
    refine T_gf 20 (.ref 324) rfl rfl rfl rfl rfl rfl ?_
    refine T_ld 21 (.int (i32 p)) rfl (fun _ => rfl) ?_
    refine T_ld 23 (.int (i32 16)) rfl (fun _ => rfl) ?_
    refine T_isub 24 rfl rfl ?_
    refine T_ld 26 (.int (i32 16)) rfl (fun _ => rfl) ?_
    refine T_idiv 27 rfl rfl (by omega) (by omega) (by omega) (by omega) ?_
    refine T_bald 28 175 (m.2 175) rfl rfl rfl (by omega) (show ((p - 16) / 16) < (12 : Int) by omega) rfl ?_
    have e2 : 0 ≤ m.2 175 ((p - 16) / 16) ∧ m.2 175 ((p - 16) / 16) ≤ 1 := hT.2.1 175 ((p - 16) / 16)
    refine T_if 41 31 rfl rfl rfl (r32 (by omega) (by omega)) (fun (h3 : (m.2 175) ((p - 16) / 16) = 0) => ?_) (fun (h3 : ¬ ((m.2 175) ((p - 16) / 16) = 0)) => ?_)
    · skip
      refine T_ret rfl (fun _ => rfl) ?_
      exact ⟨(mO m [] []), hT, (fr_m fr_0 rfl rfl), rfl⟩
    · skip
      refine T_gf 35 (.ref 320) rfl rfl rfl rfl rfl rfl ?_
      refine T_ld 36 (.int (i32 p)) rfl (fun _ => rfl) ?_
      refine T_ld 38 (.int (i32 16)) rfl (fun _ => rfl) ?_
      refine T_isub 39 rfl rfl ?_
      refine T_ld 40 (.long (i64 v)) rfl (fun _ => rfl) ?_
      have G4 : ∀ j, (-9223372036854775808) ≤ (upI (m.2 171) (p - 16) v) j ∧ (upI (m.2 171) (p - 16) v) j ≤ 9223372036854775807 := upI_rg (hT.2.1 171) ⟨by omega, by omega⟩
      refine T_last (a' := [(171, upI (m.2 171) (p - 16) v)]) 41 171 (m.2 171) rfl rfl rfl (by omega) (show (p - 16) < (192 : Int) by omega) rfl rfl ?_
      refine T_ret rfl (fun _ => rfl) ?_
      exact ⟨(mO m [] [(171, upI (m.2 171) (p - 16) v)]), (Ty_mO hT rfl rfl trivial ⟨G4, trivial⟩), (fr_m fr_0 rfl rfl), rfl⟩
  · skip
    refine T_gf 10 (.ref 321) rfl rfl rfl rfl rfl rfl ?_
    refine T_ld 11 (.int (i32 p)) rfl (fun _ => rfl) ?_
    refine T_ld 12 (.long (i64 v)) rfl (fun _ => rfl) ?_
    have G5 : ∀ j, (-9223372036854775808) ≤ (upI (m.2 172) p v) j ∧ (upI (m.2 172) p v) j ≤ 9223372036854775807 := upI_rg (hT.2.1 172) ⟨by omega, by omega⟩
    refine T_last (a' := [(172, upI (m.2 172) p v)]) 13 172 (m.2 172) rfl rfl rfl (by omega) (show p < (16 : Int) by omega) rfl rfl ?_
    refine T_goto 41 rfl (fun _ => rfl) ?_
    refine T_ret rfl (fun _ => rfl) ?_
    exact ⟨(mO m [] [(172, upI (m.2 172) p v)]), (Ty_mO hT rfl rfl trivial ⟨G5, trivial⟩), (fr_m fr_0 rfl rfl), rfl⟩
def Q_remainder (m : mR) (c : Nat → Option am_C) (N : Nat) (v : Int) (n : Int) : ag_Re af_T → Prop := fun R => ∃ (r : Int), (0 ≤ r ∧ r ≤ 63) ∧ (r < n) ∧ R = (.inl (some (.long (i64 r))), (mhp m c, N), 0, 0)
set_option maxHeartbeats 3000000 in
theorem c_remainder (w : wX) (m : mR) (c : Nat → Option am_C) (N D : Nat) (hD : 1 ≤ D) (hT : Ty m) (v : Int) (n : Int) (qv : R64 v) (qn : R32 n) (p0 : 1 ≤ n ∧ n ≤ 64) : TC w D 335 [.long (i64 v), .int (i32 n)] (mhp m c, N) (Q_remainder m c N v n) := by
  obtain ⟨D, rfl⟩ : ∃ k, D = k + 1 := ⟨D - 1, by omega⟩
  obtain ⟨qva, qvb⟩ := id qv
  obtain ⟨qna, qnb⟩ := id qn
  refine Tc_of rfl ?_
  show TT w D pm_335 (0, [(0, .long (i64 v)), (2, .int (i32 n))], [], (mhp (mO m [] []) c, N), 0, 0) (Q_remainder m c N v n)
  refine T_ld 1 (.long (i64 v)) rfl (fun _ => rfl) ?_
  refine T_ld 2 (.long (i64 0)) rfl (fun _ => rfl) ?_
  refine T_lcmp 3 rfl rfl (r64 (by omega) (by omega)) ⟨by decide, by decide⟩ (fun z1 h2 => ?_)
  obtain ⟨h2a, h2b, h2c, h2d, h2e⟩ := h2
  refine T_if 13 6 rfl rfl rfl (r32 (by omega) (by omega)) (fun (h3 : z1 < 0) => ?_) (fun (h3 : ¬ (z1 < 0)) => ?_)
  · skip
    have hl4 : v < 0 := by omega
    refine T_ld 14 (.long (i64 v)) rfl (fun _ => rfl) ?_
    refine T_ld 15 (.int (i32 1)) rfl (fun _ => rfl) ?_
    refine T_lushr1 16 rfl rfl (fun z5 h6 => ?_)
    obtain ⟨h6a, h6b⟩ := h6
    refine T_ld 17 (.int (i32 n)) rfl (fun _ => rfl) ?_
    refine T_i2l 18 rfl rfl (r32 (by omega) (by omega)) ?_
    refine T_lrem 19 rfl rfl (by omega) (by omega) (by omega) (by omega) ?_
    have hm1 : 0 ≤ (z5 % n) ∧ (z5 % n) < n := ⟨Int.emod_nonneg _ (by omega), Int.emod_lt_of_pos _ (by omega)⟩
    refine T_ld 22 (.long (i64 2)) rfl (fun _ => rfl) ?_
    refine T_lmul 23 rfl rfl ?_
    refine T_ld 24 (.long (i64 v)) rfl (fun _ => rfl) ?_
    refine T_ld 25 (.long (i64 1)) rfl (fun _ => rfl) ?_
    refine T_land 26 rfl rfl (by decide) (by decide) (fun z7 h8 => ?_)
    refine T_ladd 27 rfl rfl ?_
    refine T_ld 28 (.int (i32 n)) rfl (fun _ => rfl) ?_
    refine T_i2l 29 rfl rfl (r32 (by omega) (by omega)) ?_
    refine T_lrem 30 rfl rfl (by omega) (by omega) (by omega) (by omega) ?_
    have hm1 : 0 ≤ ((((z5 % n) * 2) + z7) % n) ∧ ((((z5 % n) * 2) + z7) % n) < n := ⟨Int.emod_nonneg _ (by omega), Int.emod_lt_of_pos _ (by omega)⟩
    refine T_ret rfl (fun _ => rfl) ?_
    exact ⟨(((z5 % n) * 2) + z7) % n, ⟨by omega, by omega⟩, (show ((((z5 % n) * 2) + z7) % n) < n by omega), rfl⟩
  · skip
    have hl9 : v ≥ 0 := by omega
    refine T_ld 7 (.long (i64 v)) rfl (fun _ => rfl) ?_
    refine T_ld 8 (.int (i32 n)) rfl (fun _ => rfl) ?_
    refine T_i2l 9 rfl rfl (r32 (by omega) (by omega)) ?_
    refine T_lrem 10 rfl rfl (by omega) (by omega) (by omega) (by omega) ?_
    refine T_goto 30 rfl (fun _ => rfl) ?_
    have hm1 : 0 ≤ (v % n) ∧ (v % n) < n := ⟨Int.emod_nonneg _ (by omega), Int.emod_lt_of_pos _ (by omega)⟩
    refine T_ret rfl (fun _ => rfl) ?_
    exact ⟨v % n, ⟨by omega, by omega⟩, (show (v % n) < n by omega), rfl⟩
def fF_wordAt : List Nat := []
def fA_wordAt : List Nat := [173]
def Q_wordAt (m : mR) (c : Nat → Option am_C) (N : Nat) (s : Int) : ag_Re af_T → Prop := fun R => ∃ (M : mR) (r : Int), Ty M ∧ fr fF_wordAt fA_wordAt m M ∧ (0 ≤ r ∧ r ≤ 511) ∧ R = (.inl (some (.int (i32 r))), (mhp M c, N), 0, 0)
set_option maxHeartbeats 3000000 in
theorem c_wordAt (w : wX) (m : mR) (c : Nat → Option am_C) (N D : Nat) (hD : 4 ≤ D) (hT : Ty m) (s : Int) (qs : R32 s) (p0 : 0 ≤ s ∧ s ≤ 239) (p1 : s < (m.1 99)) (p2 : (m.2 101) s = 327 ∨ (m.2 101) s = 328) (hCN : CN (m.2 65) (m.2 67) (m.1 28)) (pTd : TdP (m.2 65) (m.1 28) (m.1 22) (m.1 99) (m.2 101) (m.2 103) (m.2 105) (m.2 106) (m.2 107) (m.2 108)) (pAR : ∀ k, 0 ≤ k → k < (m.1 22) → 1 ≤ (m.2 93) k ∧ 1 ≤ (m.2 36) k) : TC w D 334 [.ref 189, .int (i32 s)] (mhp m c, N) (Q_wordAt m c N s) := by
  obtain ⟨D, rfl⟩ : ∃ k, D = k + 1 := ⟨D - 1, by omega⟩
  obtain ⟨qsa, qsb⟩ := id qs
  have f22 : 0 ≤ m.1 22 ∧ m.1 22 ≤ 8 := hT.1 22
  have f28 : 0 ≤ m.1 28 ∧ m.1 28 ≤ 800 := hT.1 28
  have f99 : 0 ≤ m.1 99 ∧ m.1 99 ≤ 240 := hT.1 99
  refine Tc_of rfl ?_
  show TT w D pm_334 (0, [(0, .ref 189), (1, .int (i32 s))], [], (mhp (mO m [] []) c, N), 0, 0) (Q_wordAt m c N s)
  have hta : 0 ≤ (m.2 103) s ∧ (m.2 103) s ≤ 7 := hT.2.1 103 s
  obtain ⟨hcd, hal⟩ := (pTd s (by omega) (by omega)).2 (by omega)
  have har := pAR ((m.2 103) s) (by omega) hal
  refine T_ld 2 (.int (i32 64)) rfl (fun _ => rfl) ?_
  refine T_gf 6 (.ref 263) rfl rfl rfl rfl rfl rfl ?_
  refine T_ld 7 (.int (i32 s)) rfl (fun _ => rfl) ?_
  refine T_iald 8 103 (m.2 103) rfl rfl rfl (by omega) (show s < (240 : Int) by omega) rfl ?_
  have e1 : 0 ≤ m.2 103 s ∧ m.2 103 s ≤ 7 := hT.2.1 103 s
  refine T_imul 9 rfl rfl ?_
  refine T_ld 10 (.ref 189) rfl (fun _ => rfl) ?_
  refine T_gf 14 (.ref 265) rfl rfl rfl rfl rfl rfl ?_
  refine T_ld 15 (.int (i32 s)) rfl (fun _ => rfl) ?_
  refine T_iald 16 105 (m.2 105) rfl rfl rfl (by omega) (show s < (240 : Int) by omega) rfl ?_
  have e2 : 0 ≤ m.2 105 s ∧ m.2 105 s ≤ 800 := hT.2.1 105 s
  refine T_gf 20 (.ref 266) rfl rfl rfl rfl rfl rfl ?_
  refine T_ld 21 (.int (i32 s)) rfl (fun _ => rfl) ?_
  refine T_iald 22 106 (m.2 106) rfl rfl rfl (by omega) (show s < (240 : Int) by omega) rfl ?_
  have e3 : 0 ≤ m.2 106 s ∧ m.2 106 s ≤ 800 := hT.2.1 106 s
  refine T_call 25 327 [.ref 189, .int (i32 ((m.2 105) s)), .int (i32 ((m.2 106) s))] [.int (i32 (64 * ((m.2 103) s)))] rfl (fun _ => rfl) rfl (c_worth w (mO m [] []) c N D (by omega) hT ((m.2 105) s) ((m.2 106) s) (r32 (by omega) (by omega)) (r32 (by omega) (by omega)) (show 0 ≤ ((m.2 105) s) ∧ ((m.2 105) s) ≤ 800 by omega) (show 0 ≤ ((m.2 106) s) ∧ ((m.2 106) s) ≤ 800 by omega) (show cdr (m.2 65) (m.1 28) ((m.2 105) s) ((m.2 106) s) by exact hcd) (show CN (m.2 65) (m.2 67) (m.1 28) by exact hCN)) (fun rr4 k5 => ?_)
  obtain ⟨m6, wo, Tm6, Fm6, g7, rfl⟩ := k5
  refine ⟨_, _, rfl, ?_⟩
  refine T_nb (st' := [.long (i64 wo), .int (i32 (64 * ((m.2 103) s)))]) rfl ?_
  obtain ⟨g7a, g7b⟩ := g7
  refine T_gf 29 (.ref 255) rfl rfl rfl rfl rfl rfl ?_
  refine T_gf 33 (.ref 263) rfl rfl rfl rfl rfl rfl ?_
  refine T_ld 34 (.int (i32 s)) rfl (fun _ => rfl) ?_
  refine T_iald 35 103 (m.2 103) rfl rfl rfl (by omega) (show s < (240 : Int) by omega) (show (m6.2 103) = (m.2 103) from (fr2 Fm6 103 rfl)) ?_
  have e8 : 0 ≤ m.2 103 s ∧ m.2 103 s ≤ 7 := hT.2.1 103 s
  refine T_iald 36 93 (m.2 93) rfl rfl rfl (by omega) (show ((m.2 103) s) < (8 : Int) by omega) (show (m6.2 93) = (m.2 93) from (fr2 Fm6 93 rfl)) ?_
  have e9 : 0 ≤ m.2 93 ((m.2 103) s) ∧ m.2 93 ((m.2 103) s) ≤ 64 := hT.2.1 93 ((m.2 103) s)
  refine T_call 39 335 [.long (i64 wo), .int (i32 ((m.2 93) ((m.2 103) s)))] [.int (i32 (64 * ((m.2 103) s)))] rfl (fun _ => rfl) rfl (c_remainder w (mO m6 [] []) c N D (by omega) Tm6 wo ((m.2 93) ((m.2 103) s)) (r64 (by omega) (by omega)) (r32 (by omega) (by omega)) (show 1 ≤ ((m.2 93) ((m.2 103) s)) ∧ ((m.2 93) ((m.2 103) s)) ≤ 64 by omega)) (fun rr10 k11 => ?_)
  obtain ⟨re, g12, h13, rfl⟩ := k11
  refine ⟨_, _, rfl, ?_⟩
  refine T_ns (st' := [.long (i64 re), .int (i32 (64 * ((m.2 103) s)))]) rfl ?_
  obtain ⟨g12a, g12b⟩ := g12
  replace h13 : re < ((m.2 93) ((m.2 103) s)) := h13
  refine T_l2i 40 rfl rfl ?_
  refine T_iadd 41 rfl rfl ?_
  refine T_ret rfl (fun _ => rfl) ?_
  exact ⟨(mO m6 [] []), (64 * ((m.2 103) s)) + re, Tm6, (fr_m (fr_s Fm6 (fr_m fr_0 rfl rfl) rfl rfl) rfl rfl), ⟨by omega, by omega⟩, rfl⟩
def fF_doStatement : List Nat := [177]
def fA_doStatement : List Nat := [138, 171, 172, 173, 175]
def Q_doStatement (m : mR) (c : Nat → Option am_C) (N : Nat) (s : Int) : ag_Re af_T → Prop := fun R => ∃ (M : mR), Ty M ∧ fr fF_doStatement fA_doStatement m M ∧ R = (.inl (none), (mhp M c, N), 0, 0)
set_option maxHeartbeats 3000000 in
theorem c_doStatement (w : wX) (m : mR) (c : Nat → Option am_C) (N D : Nat) (hD : 5 ≤ D) (hT : Ty m) (s : Int) (qs : R32 s) (p0 : 0 ≤ s ∧ s ≤ 239) (p1 : s < (m.1 99)) (hCN : CN (m.2 65) (m.2 67) (m.1 28)) (pTd : TdP (m.2 65) (m.1 28) (m.1 22) (m.1 99) (m.2 101) (m.2 103) (m.2 105) (m.2 106) (m.2 107) (m.2 108)) (pAR : ∀ k, 0 ≤ k → k < (m.1 22) → 1 ≤ (m.2 93) k ∧ 1 ≤ (m.2 36) k) : TC w D 332 [.ref 189, .int (i32 s)] (mhp m c, N) (Q_doStatement m c N s) := by
  obtain ⟨D, rfl⟩ : ∃ k, D = k + 1 := ⟨D - 1, by omega⟩
  obtain ⟨qsa, qsb⟩ := id qs
  have f22 : 0 ≤ m.1 22 ∧ m.1 22 ≤ 8 := hT.1 22
  have f28 : 0 ≤ m.1 28 ∧ m.1 28 ≤ 800 := hT.1 28
  have f99 : 0 ≤ m.1 99 ∧ m.1 99 ≤ 240 := hT.1 99
  refine Tc_of rfl ?_
  show TT w D pm_332 (0, [(0, .ref 189), (1, .int (i32 s))], [], (mhp (mO m [] []) c, N), 0, 0) (Q_doStatement m c N s)
  refine T_gf 4 (.ref 261) rfl rfl rfl rfl rfl rfl ?_
  refine T_ld 5 (.int (i32 s)) rfl (fun _ => rfl) ?_
  refine T_iald 6 101 (m.2 101) rfl rfl rfl (by omega) (show s < (240 : Int) by omega) rfl ?_
  have e1 : 0 ≤ m.2 101 s ∧ m.2 101 s ≤ 330 := hT.2.1 101 s
  by_cases h2 : (m.2 101) s = 1
  · skip
    refine T_cast 1 h2 ?_
    refine T_pop 48 rfl (fun _ => rfl) ?_
    have hcd := (pTd s (by omega) (by omega)).1 (by omega)
    refine T_ld 49 (.ref 189) rfl (fun _ => rfl) ?_
    refine T_gf 53 (.ref 262) rfl rfl rfl rfl rfl rfl ?_
    refine T_ld 54 (.int (i32 s)) rfl (fun _ => rfl) ?_
    refine T_iald 55 102 (m.2 102) rfl rfl rfl (by omega) (show s < (240 : Int) by omega) rfl ?_
    have e3 : 0 ≤ m.2 102 s ∧ m.2 102 s ≤ 207 := hT.2.1 102 s
    refine T_ld 56 (.ref 189) rfl (fun _ => rfl) ?_
    refine T_gf 60 (.ref 267) rfl rfl rfl rfl rfl rfl ?_
    refine T_ld 61 (.int (i32 s)) rfl (fun _ => rfl) ?_
    refine T_iald 62 107 (m.2 107) rfl rfl rfl (by omega) (show s < (240 : Int) by omega) rfl ?_
    have e4 : 0 ≤ m.2 107 s ∧ m.2 107 s ≤ 800 := hT.2.1 107 s
    refine T_gf 66 (.ref 268) rfl rfl rfl rfl rfl rfl ?_
    refine T_ld 67 (.int (i32 s)) rfl (fun _ => rfl) ?_
    refine T_iald 68 108 (m.2 108) rfl rfl rfl (by omega) (show s < (240 : Int) by omega) rfl ?_
    have e5 : 0 ≤ m.2 108 s ∧ m.2 108 s ≤ 800 := hT.2.1 108 s
    refine T_call 71 327 [.ref 189, .int (i32 ((m.2 107) s)), .int (i32 ((m.2 108) s))] [.int (i32 ((m.2 102) s)), .ref 189] rfl (fun _ => rfl) rfl (c_worth w (mO m [] []) c N D (by omega) hT ((m.2 107) s) ((m.2 108) s) (r32 (by omega) (by omega)) (r32 (by omega) (by omega)) (show 0 ≤ ((m.2 107) s) ∧ ((m.2 107) s) ≤ 800 by omega) (show 0 ≤ ((m.2 108) s) ∧ ((m.2 108) s) ≤ 800 by omega) (show cdr (m.2 65) (m.1 28) ((m.2 107) s) ((m.2 108) s) by exact hcd) (show CN (m.2 65) (m.2 67) (m.1 28) by exact hCN)) (fun rr6 k7 => ?_)
    obtain ⟨m8, wo, Tm8, Fm8, g9, rfl⟩ := k7
    refine ⟨_, _, rfl, ?_⟩
    refine T_nb (st' := [.long (i64 wo), .int (i32 ((m.2 102) s)), .ref 189]) rfl ?_
    obtain ⟨g9a, g9b⟩ := g9
    refine T_call 74 333 [.ref 189, .int (i32 ((m.2 102) s)), .long (i64 wo)] [] rfl (fun _ => rfl) rfl (c_put w (mO m8 [] []) c N D (by omega) Tm8 ((m.2 102) s) wo (r32 (by omega) (by omega)) (r64 (by omega) (by omega)) (show 0 ≤ ((m.2 102) s) ∧ ((m.2 102) s) ≤ 207 by omega)) (fun rr10 k11 => ?_)
    obtain ⟨m12, Tm12, Fm12, rfl⟩ := k11
    refine ⟨_, _, rfl, ?_⟩
    refine T_nb (st' := []) rfl ?_
    refine T_goto 219 rfl (fun _ => rfl) ?_
    refine T_ret rfl (fun _ => rfl) ?_
    exact ⟨(mO m12 [] []), Tm12, (fr_m (fr_s Fm12 (fr_m (fr_s Fm8 (fr_m fr_0 rfl rfl) rfl rfl) rfl rfl) rfl rfl) rfl rfl), rfl⟩
  by_cases h13 : (m.2 101) s = 326
  · skip
    refine T_cast 326 h13 ?_
    refine T_pop 131 rfl (fun _ => rfl) ?_
    refine T_ld 132 (.ref 189) rfl (fun _ => rfl) ?_
    refine T_ld 133 (.int (i32 1)) rfl (fun _ => rfl) ?_
    refine T_pf (l' := [(177, 1)]) 136 1 rfl rfl rfl rfl rfl rfl ?_
    refine T_goto 219 rfl (fun _ => rfl) ?_
    refine T_ret rfl (fun _ => rfl) ?_
    exact ⟨(mO m [(177, 1)] []), (Ty_mO hT rfl rfl ⟨⟨(by omega : (0 : Int) ≤ 1), (by omega : (1 : Int) ≤ 1)⟩, trivial⟩ trivial), (fr_m fr_0 rfl rfl), rfl⟩
  by_cases h14 : (m.2 101) s = 327
  · skip
    refine T_cast 327 h14 ?_
    refine T_pop 77 rfl (fun _ => rfl) ?_
    refine T_ld 78 (.ref 189) rfl (fun _ => rfl) ?_
    refine T_gf 82 (.ref 262) rfl rfl rfl rfl rfl rfl ?_
    refine T_ld 83 (.int (i32 s)) rfl (fun _ => rfl) ?_
    refine T_iald 84 102 (m.2 102) rfl rfl rfl (by omega) (show s < (240 : Int) by omega) rfl ?_
    have e15 : 0 ≤ m.2 102 s ∧ m.2 102 s ≤ 207 := hT.2.1 102 s
    refine T_gf 88 (.ref 292) rfl rfl rfl rfl rfl rfl ?_
    refine T_ld 89 (.ref 189) rfl (fun _ => rfl) ?_
    refine T_ld 90 (.int (i32 s)) rfl (fun _ => rfl) ?_
    refine T_call 93 334 [.ref 189, .int (i32 s)] [.ref 292, .int (i32 ((m.2 102) s)), .ref 189] rfl (fun _ => rfl) rfl (c_wordAt w (mO m [] []) c N D (by omega) hT s (r32 (by omega) (by omega)) (show 0 ≤ s ∧ s ≤ 239 by omega) (show s < (m.1 99) by omega) (show (m.2 101) s = 327 ∨ (m.2 101) s = 328 by omega) (show CN (m.2 65) (m.2 67) (m.1 28) by exact hCN) (show TdP (m.2 65) (m.1 28) (m.1 22) (m.1 99) (m.2 101) (m.2 103) (m.2 105) (m.2 106) (m.2 107) (m.2 108) by exact pTd) (show ∀ k, 0 ≤ k → k < (m.1 22) → 1 ≤ (m.2 93) k ∧ 1 ≤ (m.2 36) k by exact pAR)) (fun rr16 k17 => ?_)
    obtain ⟨m18, wa, Tm18, Fm18, g19, rfl⟩ := k17
    refine ⟨_, _, rfl, ?_⟩
    refine T_nb (st' := [.int (i32 wa), .ref 292, .int (i32 ((m.2 102) s)), .ref 189]) rfl ?_
    obtain ⟨g19a, g19b⟩ := g19
    refine T_lald 94 138 (m.2 138) rfl rfl rfl (by omega) (show wa < (512 : Int) by omega) (show (m18.2 138) = (m.2 138) from (fr2 Fm18 138 rfl)) ?_
    have e20 : (-9223372036854775808) ≤ (m.2 138) wa ∧ (m.2 138) wa ≤ 9223372036854775807 := (hT.2.1 138) wa
    refine T_call 97 333 [.ref 189, .int (i32 ((m.2 102) s)), .long (i64 ((m.2 138) wa))] [] rfl (fun _ => rfl) rfl (c_put w (mO m18 [] []) c N D (by omega) Tm18 ((m.2 102) s) ((m.2 138) wa) (r32 (by omega) (by omega)) (r64 (by omega) (by omega)) (show 0 ≤ ((m.2 102) s) ∧ ((m.2 102) s) ≤ 207 by omega)) (fun rr21 k22 => ?_)
    obtain ⟨m23, Tm23, Fm23, rfl⟩ := k22
    refine ⟨_, _, rfl, ?_⟩
    refine T_nb (st' := []) rfl ?_
    refine T_goto 219 rfl (fun _ => rfl) ?_
    refine T_ret rfl (fun _ => rfl) ?_
    exact ⟨(mO m23 [] []), Tm23, (fr_m (fr_s Fm23 (fr_m (fr_s Fm18 (fr_m fr_0 rfl rfl) rfl rfl) rfl rfl) rfl rfl) rfl rfl), rfl⟩
  by_cases h24 : (m.2 101) s = 328
  · skip
    refine T_cast 328 h24 ?_
    refine T_pop 100 rfl (fun _ => rfl) ?_
    refine T_ld 101 (.ref 189) rfl (fun _ => rfl) ?_
    refine T_ld 102 (.int (i32 s)) rfl (fun _ => rfl) ?_
    refine T_call 105 334 [.ref 189, .int (i32 s)] [] rfl (fun _ => rfl) rfl (c_wordAt w (mO m [] []) c N D (by omega) hT s (r32 (by omega) (by omega)) (show 0 ≤ s ∧ s ≤ 239 by omega) (show s < (m.1 99) by omega) (show (m.2 101) s = 327 ∨ (m.2 101) s = 328 by omega) (show CN (m.2 65) (m.2 67) (m.1 28) by exact hCN) (show TdP (m.2 65) (m.1 28) (m.1 22) (m.1 99) (m.2 101) (m.2 103) (m.2 105) (m.2 106) (m.2 107) (m.2 108) by exact pTd) (show ∀ k, 0 ≤ k → k < (m.1 22) → 1 ≤ (m.2 93) k ∧ 1 ≤ (m.2 36) k by exact pAR)) (fun rr25 k26 => ?_)
    obtain ⟨m27, wa, Tm27, Fm27, g28, rfl⟩ := k26
    refine ⟨_, _, rfl, ?_⟩
    refine T_nb (st' := [.int (i32 wa)]) rfl ?_
    obtain ⟨g28a, g28b⟩ := g28
    have hcd := (pTd s (by omega) (by omega)).1 (by omega)
    refine T_sto 106 [(2, .int (i32 wa)), (0, .ref 189), (1, .int (i32 s))] rfl (fun _ => rfl) ?_
    refine T_gf 110 (.ref 292) rfl rfl rfl rfl rfl rfl ?_
    refine T_ld 111 (.int (i32 wa)) rfl (fun _ => rfl) ?_
    refine T_ld 112 (.ref 189) rfl (fun _ => rfl) ?_
    refine T_gf 116 (.ref 267) rfl rfl rfl rfl rfl rfl ?_
    refine T_ld 117 (.int (i32 s)) rfl (fun _ => rfl) ?_
    refine T_iald 118 107 (m.2 107) rfl rfl rfl (by omega) (show s < (240 : Int) by omega) (show (m27.2 107) = (m.2 107) from (fr2 Fm27 107 rfl)) ?_
    have e29 : 0 ≤ m.2 107 s ∧ m.2 107 s ≤ 800 := hT.2.1 107 s
    refine T_gf 122 (.ref 268) rfl rfl rfl rfl rfl rfl ?_
    refine T_ld 123 (.int (i32 s)) rfl (fun _ => rfl) ?_
    refine T_iald 124 108 (m.2 108) rfl rfl rfl (by omega) (show s < (240 : Int) by omega) (show (m27.2 108) = (m.2 108) from (fr2 Fm27 108 rfl)) ?_
    have e30 : 0 ≤ m.2 108 s ∧ m.2 108 s ≤ 800 := hT.2.1 108 s
    refine T_call 127 327 [.ref 189, .int (i32 ((m.2 107) s)), .int (i32 ((m.2 108) s))] [.int (i32 wa), .ref 292] rfl (fun _ => rfl) rfl (c_worth w (mO m27 [] []) c N D (by omega) Tm27 ((m.2 107) s) ((m.2 108) s) (r32 (by omega) (by omega)) (r32 (by omega) (by omega)) (show 0 ≤ ((m.2 107) s) ∧ ((m.2 107) s) ≤ 800 by omega) (show 0 ≤ ((m.2 108) s) ∧ ((m.2 108) s) ≤ 800 by omega) (show cdr (m27.2 65) (m27.1 28) ((m.2 107) s) ((m.2 108) s) by rewrite [(show (m27.2 65) = (m.2 65) from (fr2 Fm27 65 rfl)), (show (m27.1 28) = (m.1 28) from (fr1 Fm27 28 rfl))]; exact hcd) (show CN (m27.2 65) (m27.2 67) (m27.1 28) by rewrite [(show (m27.2 65) = (m.2 65) from (fr2 Fm27 65 rfl)), (show (m27.2 67) = (m.2 67) from (fr2 Fm27 67 rfl)), (show (m27.1 28) = (m.1 28) from (fr1 Fm27 28 rfl))]; exact hCN)) (fun rr31 k32 => ?_)
    obtain ⟨m33, wo, Tm33, Fm33, g34, rfl⟩ := k32
    refine ⟨_, _, rfl, ?_⟩
    refine T_nb (st' := [.long (i64 wo), .int (i32 wa), .ref 292]) rfl ?_
    obtain ⟨g34a, g34b⟩ := g34
    have G35 : ∀ j, (-9223372036854775808) ≤ (upI (m.2 138) wa wo) j ∧ (upI (m.2 138) wa wo) j ≤ 9223372036854775807 := upI_rg (hT.2.1 138) ⟨by omega, by omega⟩
    refine T_last (a' := [(138, upI (m.2 138) wa wo)]) 128 138 (m.2 138) rfl rfl rfl (by omega) (show wa < (512 : Int) by omega) (show (m33.2 138) = (m.2 138) from ((fr2 Fm33 138 rfl).trans (fr2 Fm27 138 rfl))) rfl ?_
    refine T_goto 219 rfl (fun _ => rfl) ?_
    refine T_ret rfl (fun _ => rfl) ?_
    exact ⟨(mO m33 [] [(138, upI (m.2 138) wa wo)]), (Ty_mO Tm33 rfl rfl trivial ⟨G35, trivial⟩), (fr_m (fr_s Fm33 (fr_m (fr_s Fm27 (fr_m fr_0 rfl rfl) rfl rfl) rfl rfl) rfl rfl) rfl rfl), rfl⟩
  refine T_lkd 139 rfl rfl (r32 (by omega) (by omega)) (by simp [Op.lookupswitch.offset, show ¬ ((1 : Int) = (m.2 101) s) by omega, show ¬ ((326 : Int) = (m.2 101) s) by omega, show ¬ ((327 : Int) = (m.2 101) s) by omega, show ¬ ((328 : Int) = (m.2 101) s) by omega]) ?_
  refine T_gf 143 (.ref 264) rfl rfl rfl rfl rfl rfl ?_
  refine T_ld 144 (.int (i32 s)) rfl (fun _ => rfl) ?_
  refine T_iald 145 104 (m.2 104) rfl rfl rfl (by omega) (show s < (240 : Int) by omega) rfl ?_
  have e36 : 0 ≤ m.2 104 s ∧ m.2 104 s ≤ 11 := hT.2.1 104 s
  refine T_sto 146 [(3, .int (i32 ((m.2 104) s))), (0, .ref 189), (1, .int (i32 s))] rfl (fun _ => rfl) ?_
  refine T_gf 150 (.ref 261) rfl rfl rfl rfl rfl rfl ?_
  refine T_ld 151 (.int (i32 s)) rfl (fun _ => rfl) ?_
  refine T_iald 152 101 (m.2 101) rfl rfl rfl (by omega) (show s < (240 : Int) by omega) rfl ?_
  have e37 : 0 ≤ m.2 101 s ∧ m.2 101 s ≤ 330 := hT.2.1 101 s
  refine T_ld 155 (.int (i32 324)) rfl (fun _ => rfl) ?_
  refine T_icmp 162 158 rfl rfl rfl (r32 (by omega) (by omega)) ⟨by decide, by decide⟩ (fun (h38 : (m.2 101) s ≠ 324) => ?_) (fun (h38 : ¬ ((m.2 101) s ≠ 324)) => ?_)
  · skip
    refine T_ld 163 (.int (i32 0)) rfl (fun _ => rfl) ?_
    refine T_sto 165 [(4, .int (i32 0)), (3, .int (i32 ((m.2 104) s))), (0, .ref 189), (1, .int (i32 s))] rfl (fun _ => rfl) ?_
    refine T_ld 167 (.int (i32 16)) rfl (fun _ => rfl) ?_
    refine T_ld 168 (.int (i32 ((m.2 104) s))) rfl (fun _ => rfl) ?_
    refine T_imul 169 rfl rfl ?_
    refine T_sto 171 [(5, .int (i32 (16 * ((m.2 104) s)))), (4, .int (i32 0)), (3, .int (i32 ((m.2 104) s))), (0, .ref 189), (1, .int (i32 s))] rfl (fun _ => rfl) ?_
    have L171_41 : ∀ (n47 : Nat) (v39 : Int) (m40 : mR), (R32 v39) → Ty m40 → fr [] [171] (mO m [] []) m40 → (0 ≤ v39) → (16 * ((m.2 104) s) ≤ v39 ∧ v39 ≤ 192) → 200 - v39 < (n47 : Int) → TT w D pm_332 (171, [(0, .ref 189), (1, .int (i32 s)), (3, .int (i32 ((m.2 104) s))), (4, .int (i32 0)), (5, .int (i32 v39))], [], (mhp (mO m40 [] []) c, N), 0, 0) (Q_doStatement m c N s) := by
      intro n47
      induction n47 with
      | zero =>
        intro v39 m40 q44 Tm40 Fm40 ic42 ic43 hmu
        obtain ⟨q44a, q44b⟩ := id q44
        exfalso
        omega
      | succ n47 ih =>
        intro v39 m40 q44 Tm40 Fm40 ic42 ic43 hmu
        obtain ⟨q44a, q44b⟩ := id q44
        have ih48 := ih
        refine T_ld 173 (.int (i32 v39)) rfl (fun _ => rfl) ?_
        refine T_ld 175 (.int (i32 16)) rfl (fun _ => rfl) ?_
        refine T_ld 176 (.int (i32 ((m.2 104) s))) rfl (fun _ => rfl) ?_
        refine T_imul 177 rfl rfl ?_
        refine T_ld 179 (.int (i32 16)) rfl (fun _ => rfl) ?_
        refine T_iadd 180 rfl rfl ?_
        refine T_icmp 211 183 rfl rfl rfl (r32 (by omega) (by omega)) (r32 (by omega) (by omega)) (fun (h49 : (16 * ((m.2 104) s)) + 16 ≤ v39) => ?_) (fun (h49 : ¬ ((16 * ((m.2 104) s)) + 16 ≤ v39)) => ?_)
        · skip
          refine T_gf 215 (.ref 324) rfl rfl rfl rfl rfl rfl ?_
          refine T_ld 216 (.int (i32 ((m.2 104) s))) rfl (fun _ => rfl) ?_
          refine T_ld 218 (.int (i32 0)) rfl (fun _ => rfl) ?_
          have G50 : ∀ j, 0 ≤ (upI (m.2 175) ((m.2 104) s) 0) j ∧ (upI (m.2 175) ((m.2 104) s) 0) j ≤ 1 := upI_rg (hT.2.1 175) ⟨by omega, by omega⟩
          refine T_bast (a' := [(175, upI (m.2 175) ((m.2 104) s) 0)]) 219 175 (m.2 175) rfl rfl rfl (by omega) (show ((m.2 104) s) < (12 : Int) by omega) (by omega) (show (m40.2 175) = (m.2 175) from (fr2 Fm40 175 rfl)) rfl ?_
          refine T_ret rfl (fun _ => rfl) ?_
          exact ⟨(mO m40 [] [(175, upI (m.2 175) ((m.2 104) s) 0)]), (Ty_mO Tm40 rfl rfl trivial ⟨G50, trivial⟩), (fr_m (fr_s Fm40 (fr_m fr_0 rfl rfl) rfl rfl) rfl rfl), rfl⟩
        · skip
          refine T_ld 185 (.int (i32 0)) rfl (fun _ => rfl) ?_
          refine T_if 197 188 rfl rfl rfl ⟨by decide, by decide⟩ (fun _ => ?_) (fun h51 => absurd (show (0 : Int) = 0 by decide) h51)
          refine T_gf 201 (.ref 320) rfl rfl rfl rfl rfl rfl ?_
          refine T_ld 203 (.int (i32 v39)) rfl (fun _ => rfl) ?_
          refine T_ld 204 (.long (i64 0)) rfl (fun _ => rfl) ?_
          have G52 : ∀ j, (-9223372036854775808) ≤ (upI (m40.2 171) v39 0) j ∧ (upI (m40.2 171) v39 0) j ≤ 9223372036854775807 := upI_rg (Tm40.2.1 171) ⟨by omega, by omega⟩
          refine T_last (a' := [(171, upI (m40.2 171) v39 0)]) 205 171 (m40.2 171) rfl rfl rfl (by omega) (show v39 < (192 : Int) by omega) rfl rfl ?_
          refine T_iinc 208 [(5, .int (i32 (v39 + 1))), (0, .ref 189), (1, .int (i32 s)), (3, .int (i32 ((m.2 104) s))), (4, .int (i32 0))] rfl rfl (by decide) rfl rfl ?_
          refine T_goto 171 rfl (fun _ => rfl) ?_
          refine Tm_lv (a := [(0, .ref 189), (1, .int (i32 s)), (3, .int (i32 ((m.2 104) s))), (4, .int (i32 0)), (5, .int (i32 (v39 + 1)))]) rfl rfl ⟨rfl, rfl, rfl, rfl, rfl, trivial⟩ ?_
          exact ih48 (v39 + 1) (mO m40 [] [(171, upI (m40.2 171) v39 0)]) (r32 (by omega) (by omega)) (Ty_mO Tm40 rfl rfl trivial ⟨G52, trivial⟩) (fr_m (fr_s Fm40 (fr_m fr_0 rfl rfl) rfl rfl) rfl rfl) (show 0 ≤ (v39 + 1) by omega) (show 16 * ((m.2 104) s) ≤ (v39 + 1) ∧ (v39 + 1) ≤ 192 by omega) (show 200 - (v39 + 1) < (n47 : Int) by omega)
    refine Tm_lv (a := [(0, .ref 189), (1, .int (i32 s)), (3, .int (i32 ((m.2 104) s))), (4, .int (i32 0)), (5, .int (i32 (16 * ((m.2 104) s))))]) rfl rfl ⟨rfl, rfl, rfl, rfl, rfl, trivial⟩ ?_
    exact L171_41 ((200 - (16 * ((m.2 104) s)) : Int) + 1).toNat (16 * ((m.2 104) s)) (mO m [] []) (r32 (by omega) (by omega)) hT (fr_m fr_0 rfl rfl) (show 0 ≤ (16 * ((m.2 104) s)) by omega) (show 16 * ((m.2 104) s) ≤ (16 * ((m.2 104) s)) ∧ (16 * ((m.2 104) s)) ≤ 192 by omega) (show 200 - (16 * ((m.2 104) s)) < ((((200 - (16 * ((m.2 104) s)) : Int) + 1).toNat : Nat) : Int) by omega)
  · skip
    refine T_ld 159 (.int (i32 1)) rfl (fun _ => rfl) ?_
    refine T_goto 163 rfl (fun _ => rfl) ?_
    refine T_sto 165 [(4, .int (i32 1)), (3, .int (i32 ((m.2 104) s))), (0, .ref 189), (1, .int (i32 s))] rfl (fun _ => rfl) ?_
    refine T_ld 167 (.int (i32 16)) rfl (fun _ => rfl) ?_
    refine T_ld 168 (.int (i32 ((m.2 104) s))) rfl (fun _ => rfl) ?_
    refine T_imul 169 rfl rfl ?_
    refine T_sto 171 [(5, .int (i32 (16 * ((m.2 104) s)))), (4, .int (i32 1)), (3, .int (i32 ((m.2 104) s))), (0, .ref 189), (1, .int (i32 s))] rfl (fun _ => rfl) ?_
    have L171_55 : ∀ (n61 : Nat) (v53 : Int) (m54 : mR), (R32 v53) → Ty m54 → fr [] [171] (mO m [] []) m54 → (0 ≤ v53) → (16 * ((m.2 104) s) ≤ v53 ∧ v53 ≤ 192) → 200 - v53 < (n61 : Int) → TT w D pm_332 (171, [(0, .ref 189), (1, .int (i32 s)), (3, .int (i32 ((m.2 104) s))), (4, .int (i32 1)), (5, .int (i32 v53))], [], (mhp (mO m54 [] []) c, N), 0, 0) (Q_doStatement m c N s) := by
      intro n61
      induction n61 with
      | zero =>
        intro v53 m54 q58 Tm54 Fm54 ic56 ic57 hmu
        obtain ⟨q58a, q58b⟩ := id q58
        exfalso
        omega
      | succ n61 ih =>
        intro v53 m54 q58 Tm54 Fm54 ic56 ic57 hmu
        obtain ⟨q58a, q58b⟩ := id q58
        have ih62 := ih
        refine T_ld 173 (.int (i32 v53)) rfl (fun _ => rfl) ?_
        refine T_ld 175 (.int (i32 16)) rfl (fun _ => rfl) ?_
        refine T_ld 176 (.int (i32 ((m.2 104) s))) rfl (fun _ => rfl) ?_
        refine T_imul 177 rfl rfl ?_
        refine T_ld 179 (.int (i32 16)) rfl (fun _ => rfl) ?_
        refine T_iadd 180 rfl rfl ?_
        refine T_icmp 211 183 rfl rfl rfl (r32 (by omega) (by omega)) (r32 (by omega) (by omega)) (fun (h63 : (16 * ((m.2 104) s)) + 16 ≤ v53) => ?_) (fun (h63 : ¬ ((16 * ((m.2 104) s)) + 16 ≤ v53)) => ?_)
        · skip
          refine T_gf 215 (.ref 324) rfl rfl rfl rfl rfl rfl ?_
          refine T_ld 216 (.int (i32 ((m.2 104) s))) rfl (fun _ => rfl) ?_
          refine T_ld 218 (.int (i32 1)) rfl (fun _ => rfl) ?_
          have G64 : ∀ j, 0 ≤ (upI (m.2 175) ((m.2 104) s) 1) j ∧ (upI (m.2 175) ((m.2 104) s) 1) j ≤ 1 := upI_rg (hT.2.1 175) ⟨by omega, by omega⟩
          refine T_bast (a' := [(175, upI (m.2 175) ((m.2 104) s) 1)]) 219 175 (m.2 175) rfl rfl rfl (by omega) (show ((m.2 104) s) < (12 : Int) by omega) (by omega) (show (m54.2 175) = (m.2 175) from (fr2 Fm54 175 rfl)) rfl ?_
          refine T_ret rfl (fun _ => rfl) ?_
          exact ⟨(mO m54 [] [(175, upI (m.2 175) ((m.2 104) s) 1)]), (Ty_mO Tm54 rfl rfl trivial ⟨G64, trivial⟩), (fr_m (fr_s Fm54 (fr_m fr_0 rfl rfl) rfl rfl) rfl rfl), rfl⟩
        · skip
          refine T_ld 185 (.int (i32 1)) rfl (fun _ => rfl) ?_
          refine T_if 197 188 rfl rfl rfl ⟨by decide, by decide⟩ (fun h65 => absurd (show (1 : Int) = 0 from h65) (by decide)) (fun _ => ?_)
          refine T_gf 192 (.ref 324) rfl rfl rfl rfl rfl rfl ?_
          refine T_ld 193 (.int (i32 ((m.2 104) s))) rfl (fun _ => rfl) ?_
          refine T_bald 194 175 (m.2 175) rfl rfl rfl (by omega) (show ((m.2 104) s) < (12 : Int) by omega) (show (m54.2 175) = (m.2 175) from (fr2 Fm54 175 rfl)) ?_
          have e66 : 0 ≤ (m.2 175) ((m.2 104) s) ∧ (m.2 175) ((m.2 104) s) ≤ 1 := (hT.2.1 175) ((m.2 104) s)
          refine T_if 211 197 rfl rfl rfl (r32 (by omega) (by omega)) (fun (h67 : (m.2 175) ((m.2 104) s) ≠ 0) => ?_) (fun (h67 : ¬ ((m.2 175) ((m.2 104) s) ≠ 0)) => ?_)
          · skip
            refine T_gf 215 (.ref 324) rfl rfl rfl rfl rfl rfl ?_
            refine T_ld 216 (.int (i32 ((m.2 104) s))) rfl (fun _ => rfl) ?_
            refine T_ld 218 (.int (i32 1)) rfl (fun _ => rfl) ?_
            have G68 : ∀ j, 0 ≤ (upI (m.2 175) ((m.2 104) s) 1) j ∧ (upI (m.2 175) ((m.2 104) s) 1) j ≤ 1 := upI_rg (hT.2.1 175) ⟨by omega, by omega⟩
            refine T_bast (a' := [(175, upI (m.2 175) ((m.2 104) s) 1)]) 219 175 (m.2 175) rfl rfl rfl (by omega) (show ((m.2 104) s) < (12 : Int) by omega) (by omega) (show (m54.2 175) = (m.2 175) from (fr2 Fm54 175 rfl)) rfl ?_
            refine T_ret rfl (fun _ => rfl) ?_
            exact ⟨(mO m54 [] [(175, upI (m.2 175) ((m.2 104) s) 1)]), (Ty_mO Tm54 rfl rfl trivial ⟨G68, trivial⟩), (fr_m (fr_s Fm54 (fr_m fr_0 rfl rfl) rfl rfl) rfl rfl), rfl⟩
          · skip
            refine T_gf 201 (.ref 320) rfl rfl rfl rfl rfl rfl ?_
            refine T_ld 203 (.int (i32 v53)) rfl (fun _ => rfl) ?_
            refine T_ld 204 (.long (i64 0)) rfl (fun _ => rfl) ?_
            have G69 : ∀ j, (-9223372036854775808) ≤ (upI (m54.2 171) v53 0) j ∧ (upI (m54.2 171) v53 0) j ≤ 9223372036854775807 := upI_rg (Tm54.2.1 171) ⟨by omega, by omega⟩
            refine T_last (a' := [(171, upI (m54.2 171) v53 0)]) 205 171 (m54.2 171) rfl rfl rfl (by omega) (show v53 < (192 : Int) by omega) rfl rfl ?_
            refine T_iinc 208 [(5, .int (i32 (v53 + 1))), (0, .ref 189), (1, .int (i32 s)), (3, .int (i32 ((m.2 104) s))), (4, .int (i32 1))] rfl rfl (by decide) rfl rfl ?_
            refine T_goto 171 rfl (fun _ => rfl) ?_
            refine Tm_lv (a := [(0, .ref 189), (1, .int (i32 s)), (3, .int (i32 ((m.2 104) s))), (4, .int (i32 1)), (5, .int (i32 (v53 + 1)))]) rfl rfl ⟨rfl, rfl, rfl, rfl, rfl, trivial⟩ ?_
            exact ih62 (v53 + 1) (mO m54 [] [(171, upI (m54.2 171) v53 0)]) (r32 (by omega) (by omega)) (Ty_mO Tm54 rfl rfl trivial ⟨G69, trivial⟩) (fr_m (fr_s Fm54 (fr_m fr_0 rfl rfl) rfl rfl) rfl rfl) (show 0 ≤ (v53 + 1) by omega) (show 16 * ((m.2 104) s) ≤ (v53 + 1) ∧ (v53 + 1) ≤ 192 by omega) (show 200 - (v53 + 1) < (n61 : Int) by omega)
    refine Tm_lv (a := [(0, .ref 189), (1, .int (i32 s)), (3, .int (i32 ((m.2 104) s))), (4, .int (i32 1)), (5, .int (i32 (16 * ((m.2 104) s))))]) rfl rfl ⟨rfl, rfl, rfl, rfl, rfl, trivial⟩ ?_
    exact L171_55 ((200 - (16 * ((m.2 104) s)) : Int) + 1).toNat (16 * ((m.2 104) s)) (mO m [] []) (r32 (by omega) (by omega)) hT (fr_m fr_0 rfl rfl) (show 0 ≤ (16 * ((m.2 104) s)) by omega) (show 16 * ((m.2 104) s) ≤ (16 * ((m.2 104) s)) ∧ (16 * ((m.2 104) s)) ≤ 192 by omega) (show 200 - (16 * ((m.2 104) s)) < ((((200 - (16 * ((m.2 104) s)) : Int) + 1).toNat : Nat) : Int) by omega)
def Q_ones (m : mR) (c : Nat → Option am_C) (N : Nat) (v : Int) : ag_Re af_T → Prop := fun R => ∃ (r : Int), (0 ≤ r ∧ r ≤ 64) ∧ R = (.inl (some (.int (i32 r))), (mhp m c, N), 0, 0)
set_option maxHeartbeats 3000000 in
theorem c_ones (w : wX) (m : mR) (c : Nat → Option am_C) (N D : Nat) (hD : 1 ≤ D) (hT : Ty m) (v : Int) (qv : R64 v) : TC w D 339 [.long (i64 v)] (mhp m c, N) (Q_ones m c N v) := by
  obtain ⟨D, rfl⟩ : ∃ k, D = k + 1 := ⟨D - 1, by omega⟩
  obtain ⟨qva, qvb⟩ := id qv
  refine Tc_of rfl ?_
  show TT w D pm_339 (0, [(0, .long (i64 v))], [], (mhp (mO m [] []) c, N), 0, 0) (Q_ones m c N v)
  refine T_ld 1 (.int (i32 0)) rfl (fun _ => rfl) ?_
  refine T_sto 2 [(2, .int (i32 0)), (0, .long (i64 v))] rfl (fun _ => rfl) ?_
  refine T_ld 3 (.int (i32 0)) rfl (fun _ => rfl) ?_
  refine T_sto 4 [(3, .int (i32 0)), (2, .int (i32 0)), (0, .long (i64 v))] rfl (fun _ => rfl) ?_
  have L4_3 : ∀ (n11 : Nat) (v1 : Int) (v2 : Int), (R32 v1) → (R32 v2) → (0 ≤ v1) → (0 ≤ v2) → (v2 ≤ 64) → (0 ≤ v1 ∧ v1 ≤ v2) → 64 - v2 < (n11 : Int) → TT w D pm_339 (4, [(0, .long (i64 v)), (2, .int (i32 v1)), (3, .int (i32 v2))], [], (mhp (mO m [] []) c, N), 0, 0) (Q_ones m c N v) := by
    intro n11
    induction n11 with
    | zero =>
      intro v1 v2 q8 q9 ic4 ic5 ic6 ic7 hmu
      obtain ⟨q8a, q8b⟩ := id q8
      obtain ⟨q9a, q9b⟩ := id q9
      exfalso
      omega
    | succ n11 ih =>
      intro v1 v2 q8 q9 ic4 ic5 ic6 ic7 hmu
      obtain ⟨q8a, q8b⟩ := id q8
      obtain ⟨q9a, q9b⟩ := id q9
      have ih12 := ih
      refine T_ld 5 (.int (i32 v2)) rfl (fun _ => rfl) ?_
      refine T_ld 7 (.int (i32 64)) rfl (fun _ => rfl) ?_
      refine T_icmp 25 10 rfl rfl rfl (r32 (by omega) (by omega)) ⟨by decide, by decide⟩ (fun (h13 : (64 : Int) ≤ v2) => ?_) (fun (h13 : ¬ ((64 : Int) ≤ v2)) => ?_)
      · skip
        refine T_ld 26 (.int (i32 v1)) rfl (fun _ => rfl) ?_
        refine T_ret rfl (fun _ => rfl) ?_
        exact ⟨v1, ⟨by omega, by omega⟩, rfl⟩
      · skip
        refine T_ld 11 (.int (i32 v1)) rfl (fun _ => rfl) ?_
        refine T_ld 12 (.long (i64 v)) rfl (fun _ => rfl) ?_
        refine T_ld 13 (.int (i32 v2)) rfl (fun _ => rfl) ?_
        refine T_lhv 14 _ rfl (fun _ => rfl) (fun z14 h15 => ?_)
        obtain ⟨h15a, h15b⟩ := h15
        refine T_ld 15 (.long (i64 1)) rfl (fun _ => rfl) ?_
        refine T_land 16 rfl rfl (by decide) (by decide) (fun z16 h17 => ?_)
        refine T_l2i 17 rfl rfl ?_
        refine T_iadd 18 rfl rfl ?_
        refine T_sto 19 [(2, .int (i32 (v1 + z16))), (0, .long (i64 v)), (3, .int (i32 v2))] rfl (fun _ => rfl) ?_
        refine T_iinc 22 [(3, .int (i32 (v2 + 1))), (2, .int (i32 (v1 + z16))), (0, .long (i64 v))] rfl rfl (by decide) rfl rfl ?_
        refine T_goto 4 rfl (fun _ => rfl) ?_
        refine Tm_lv (a := [(0, .long (i64 v)), (2, .int (i32 (v1 + z16))), (3, .int (i32 (v2 + 1)))]) rfl rfl ⟨rfl, rfl, rfl, trivial⟩ ?_
        exact ih12 (v1 + z16) (v2 + 1) (r32 (by omega) (by omega)) (r32 (by omega) (by omega)) (show 0 ≤ (v1 + z16) by omega) (show 0 ≤ (v2 + 1) by omega) (show (v2 + 1) ≤ 64 by omega) (show 0 ≤ (v1 + z16) ∧ (v1 + z16) ≤ (v2 + 1) by omega) (show 64 - (v2 + 1) < (n11 : Int) by omega)
  refine Tm_lv (a := [(0, .long (i64 v)), (2, .int (i32 0)), (3, .int (i32 0))]) rfl rfl ⟨rfl, rfl, rfl, trivial⟩ ?_
  exact L4_3 ((64 - (0 : Int) : Int) + 1).toNat 0 0 ⟨by decide, by decide⟩ ⟨by decide, by decide⟩ (show 0 ≤ (0 : Int) by omega) (show 0 ≤ (0 : Int) by omega) (show (0 : Int) ≤ 64 by omega) (show 0 ≤ (0 : Int) ∧ (0 : Int) ≤ (0 : Int) by omega) (show 64 - (0 : Int) < ((((64 - (0 : Int) : Int) + 1).toNat : Nat) : Int) by omega)
def Q_prefixOf (m : mR) (c : Nat → Option am_C) (N : Nat) (t : Int) (e : Int) : ag_Re af_T → Prop := fun R => ∃ (r : Int), (0 ≤ r ∧ r ≤ 64) ∧ R = (.inl (some (.int (i32 r))), (mhp m c, N), 0, 0)
set_option maxHeartbeats 3000000 in
theorem c_prefixOf (w : wX) (m : mR) (c : Nat → Option am_C) (N D : Nat) (hD : 2 ≤ D) (hT : Ty m) (t : Int) (e : Int) (qt : R32 t) (qe : R32 e) (p0 : 0 ≤ t ∧ t ≤ 7) (p1 : 0 ≤ e ∧ e ≤ 95) : TC w D 338 [.ref 189, .int (i32 t), .int (i32 e)] (mhp m c, N) (Q_prefixOf m c N t e) := by
  obtain ⟨D, rfl⟩ : ∃ k, D = k + 1 := ⟨D - 1, by omega⟩
  obtain ⟨qta, qtb⟩ := id qt
  obtain ⟨qea, qeb⟩ := id qe
  refine Tc_of rfl ?_
  show TT w D pm_338 (0, [(0, .ref 189), (1, .int (i32 t)), (2, .int (i32 e))], [], (mhp (mO m [] []) c, N), 0, 0) (Q_prefixOf m c N t e)
  refine T_ld 1 (.int (i32 0)) rfl (fun _ => rfl) ?_
  refine T_sto 2 [(3, .int (i32 0)), (0, .ref 189), (1, .int (i32 t)), (2, .int (i32 e))] rfl (fun _ => rfl) ?_
  refine T_ld 3 (.int (i32 0)) rfl (fun _ => rfl) ?_
  refine T_sto 5 [(4, .int (i32 0)), (3, .int (i32 0)), (0, .ref 189), (1, .int (i32 t)), (2, .int (i32 e))] rfl (fun _ => rfl) ?_
  have e13 : 0 ≤ m.2 51 t ∧ m.2 51 t ≤ 4 := hT.2.1 51 t
  have L5_3 : ∀ (n12 : Nat) (v1 : Int) (v2 : Int), (R32 v1) → (R32 v2) → (0 ≤ v1) → (v1 ≤ 64) → (0 ≤ v2) → (v2 ≤ (m.2 51) t) → (0 ≤ v1 ∧ v1 ≤ 64) → ((m.2 51) t) - v2 < (n12 : Int) → TT w D pm_338 (5, [(0, .ref 189), (1, .int (i32 t)), (2, .int (i32 e)), (3, .int (i32 v1)), (4, .int (i32 v2))], [], (mhp (mO m [] []) c, N), 0, 0) (Q_prefixOf m c N t e) := by
    intro n12
    induction n12 with
    | zero =>
      intro v1 v2 q9 q10 ic4 ic5 ic6 ic7 ic8 hmu
      obtain ⟨q9a, q9b⟩ := id q9
      obtain ⟨q10a, q10b⟩ := id q10
      exfalso
      omega
    | succ n12 ih =>
      intro v1 v2 q9 q10 ic4 ic5 ic6 ic7 ic8 hmu
      obtain ⟨q9a, q9b⟩ := id q9
      obtain ⟨q10a, q10b⟩ := id q10
      have ih14 := ih
      refine T_ld 7 (.int (i32 v2)) rfl (fun _ => rfl) ?_
      refine T_gf 11 (.ref 221) rfl rfl rfl rfl rfl rfl ?_
      refine T_ld 12 (.int (i32 t)) rfl (fun _ => rfl) ?_
      refine T_iald 13 51 (m.2 51) rfl rfl rfl (by omega) (show t < (8 : Int) by omega) rfl ?_
      have e15 : 0 ≤ m.2 51 t ∧ m.2 51 t ≤ 4 := hT.2.1 51 t
      refine T_icmp 59 16 rfl rfl rfl (r32 (by omega) (by omega)) (r32 (by omega) (by omega)) (fun (h16 : (m.2 51) t ≤ v2) => ?_) (fun (h16 : ¬ ((m.2 51) t ≤ v2)) => ?_)
      · skip
        refine T_ld 60 (.int (i32 v1)) rfl (fun _ => rfl) ?_
        refine T_ret rfl (fun _ => rfl) ?_
        exact ⟨v1, ⟨by omega, by omega⟩, rfl⟩
      · skip
        refine T_gf 20 (.ref 273) rfl rfl rfl rfl rfl rfl ?_
        refine T_ld 21 (.int (i32 4)) rfl (fun _ => rfl) ?_
        refine T_ld 22 (.int (i32 t)) rfl (fun _ => rfl) ?_
        refine T_imul 23 rfl rfl ?_
        refine T_ld 25 (.int (i32 v2)) rfl (fun _ => rfl) ?_
        refine T_iadd 26 rfl rfl ?_
        refine T_iald 27 113 (m.2 113) rfl rfl rfl (by omega) (show ((4 * t) + v2) < (32 : Int) by omega) rfl ?_
        have e17 : 0 ≤ m.2 113 ((4 * t) + v2) ∧ m.2 113 ((4 * t) + v2) ≤ 330 := hT.2.1 113 ((4 * t) + v2)
        refine T_ld 30 (.int (i32 313)) rfl (fun _ => rfl) ?_
        refine T_icmp 53 33 rfl rfl rfl (r32 (by omega) (by omega)) ⟨by decide, by decide⟩ (fun (h18 : (m.2 113) ((4 * t) + v2) ≠ 313) => ?_) (fun (h18 : ¬ ((m.2 113) ((4 * t) + v2) ≠ 313)) => ?_)
        · skip
          refine T_iinc 56 [(4, .int (i32 (v2 + 1))), (0, .ref 189), (1, .int (i32 t)), (2, .int (i32 e)), (3, .int (i32 v1))] rfl rfl (by decide) rfl rfl ?_
          refine T_goto 5 rfl (fun _ => rfl) ?_
          refine Tm_lv (a := [(0, .ref 189), (1, .int (i32 t)), (2, .int (i32 e)), (3, .int (i32 v1)), (4, .int (i32 (v2 + 1)))]) rfl rfl ⟨rfl, rfl, rfl, rfl, rfl, trivial⟩ ?_
          exact ih14 v1 (v2 + 1) (r32 (by omega) (by omega)) (r32 (by omega) (by omega)) (show 0 ≤ v1 by omega) (show v1 ≤ 64 by omega) (show 0 ≤ (v2 + 1) by omega) (show (v2 + 1) ≤ (m.2 51) t by omega) (show 0 ≤ v1 ∧ v1 ≤ 64 by omega) (show ((m.2 51) t) - (v2 + 1) < (n12 : Int) by omega)
        · skip
          refine T_gf 37 (.ref 297) rfl rfl rfl rfl rfl rfl ?_
          refine T_ld 38 (.int (i32 4)) rfl (fun _ => rfl) ?_
          refine T_ld 39 (.ref 189) rfl (fun _ => rfl) ?_
          refine T_ld 40 (.int (i32 t)) rfl (fun _ => rfl) ?_
          refine T_ld 41 (.int (i32 e)) rfl (fun _ => rfl) ?_
          refine T_call 44 319 [.ref 189, .int (i32 t), .int (i32 e)] [.int (i32 4), .ref 297] rfl (fun _ => rfl) rfl (c_slot w (mO m [] []) c N D (by omega) hT t e (r32 (by omega) (by omega)) (r32 (by omega) (by omega)) (show 0 ≤ t ∧ t ≤ 7 by omega) (show 0 ≤ e ∧ e ≤ 96 by omega)) (fun rr19 k20 => ?_)
          obtain ⟨sl, g21, h22, rfl⟩ := k20
          refine ⟨_, _, rfl, ?_⟩
          refine T_ns (st' := [.int (i32 sl), .int (i32 4), .ref 297]) rfl ?_
          obtain ⟨g21a, g21b⟩ := g21
          replace h22 : sl = 96 * t + e := h22
          have hSl := h22
          refine T_imul 45 rfl rfl ?_
          refine T_ld 47 (.int (i32 v2)) rfl (fun _ => rfl) ?_
          refine T_iadd 48 rfl rfl ?_
          refine T_lald 49 143 (m.2 143) rfl rfl rfl (by omega) (show ((4 * sl) + v2) < (3072 : Int) by omega) rfl ?_
          have e23 : (-9223372036854775808) ≤ m.2 143 ((4 * sl) + v2) ∧ m.2 143 ((4 * sl) + v2) ≤ 9223372036854775807 := hT.2.1 143 ((4 * sl) + v2)
          refine T_call 52 339 [.long (i64 ((m.2 143) ((4 * sl) + v2)))] [] rfl (fun _ => rfl) rfl (c_ones w (mO m [] []) c N D (by omega) hT ((m.2 143) ((4 * sl) + v2)) (r64 (by omega) (by omega))) (fun rr24 k25 => ?_)
          obtain ⟨x26, g27, rfl⟩ := k25
          refine ⟨_, _, rfl, ?_⟩
          refine T_ns (st' := [.int (i32 x26)]) rfl ?_
          obtain ⟨g27a, g27b⟩ := g27
          clear g21a g21b h22
          refine T_sto 53 [(3, .int (i32 x26)), (0, .ref 189), (1, .int (i32 t)), (2, .int (i32 e)), (4, .int (i32 v2))] rfl (fun _ => rfl) ?_
          refine T_iinc 56 [(4, .int (i32 (v2 + 1))), (3, .int (i32 x26)), (0, .ref 189), (1, .int (i32 t)), (2, .int (i32 e))] rfl rfl (by decide) rfl rfl ?_
          refine T_goto 5 rfl (fun _ => rfl) ?_
          refine Tm_lv (a := [(0, .ref 189), (1, .int (i32 t)), (2, .int (i32 e)), (3, .int (i32 x26)), (4, .int (i32 (v2 + 1)))]) rfl rfl ⟨rfl, rfl, rfl, rfl, rfl, trivial⟩ ?_
          exact ih14 x26 (v2 + 1) (r32 (by omega) (by omega)) (r32 (by omega) (by omega)) (show 0 ≤ x26 by omega) (show x26 ≤ 64 by omega) (show 0 ≤ (v2 + 1) by omega) (show (v2 + 1) ≤ (m.2 51) t by omega) (show 0 ≤ x26 ∧ x26 ≤ 64 by omega) (show ((m.2 51) t) - (v2 + 1) < (n12 : Int) by omega)
  refine Tm_lv (a := [(0, .ref 189), (1, .int (i32 t)), (2, .int (i32 e)), (3, .int (i32 0)), (4, .int (i32 0))]) rfl rfl ⟨rfl, rfl, rfl, rfl, rfl, trivial⟩ ?_
  exact L5_3 ((((m.2 51) t) - (0 : Int) : Int) + 1).toNat 0 0 ⟨by decide, by decide⟩ ⟨by decide, by decide⟩ (show 0 ≤ (0 : Int) by omega) (show (0 : Int) ≤ 64 by omega) (show 0 ≤ (0 : Int) by omega) (show (0 : Int) ≤ (m.2 51) t by omega) (show 0 ≤ (0 : Int) ∧ (0 : Int) ≤ 64 by omega) (show ((m.2 51) t) - (0 : Int) < ((((((m.2 51) t) - (0 : Int) : Int) + 1).toNat : Nat) : Int) by omega)
def Q_matches (m : mR) (c : Nat → Option am_C) (N : Nat) (t : Int) (e : Int) : ag_Re af_T → Prop := fun R => ∃ (r : Int), (0 ≤ r ∧ r ≤ 1) ∧ R = (.inl (some (.int (i32 r))), (mhp m c, N), 0, 0)
set_option maxHeartbeats 3000000 in
theorem c_matches (w : wX) (m : mR) (c : Nat → Option am_C) (N D : Nat) (hD : 2 ≤ D) (hT : Ty m) (t : Int) (e : Int) (qt : R32 t) (qe : R32 e) (p0 : 0 ≤ t ∧ t ≤ 7) (p1 : 0 ≤ e ∧ e ≤ 95) : TC w D 337 [.ref 189, .int (i32 t), .int (i32 e)] (mhp m c, N) (Q_matches m c N t e) := by
  obtain ⟨D, rfl⟩ : ∃ k, D = k + 1 := ⟨D - 1, by omega⟩
  obtain ⟨qta, qtb⟩ := id qt
  obtain ⟨qea, qeb⟩ := id qe
  refine Tc_of rfl ?_
  show TT w D pm_337 (0, [(0, .ref 189), (1, .int (i32 t)), (2, .int (i32 e))], [], (mhp (mO m [] []) c, N), 0, 0) (Q_matches m c N t e)
  refine T_ld 1 (.int (i32 1)) rfl (fun _ => rfl) ?_
  refine T_sto 2 [(3, .int (i32 1)), (0, .ref 189), (1, .int (i32 t)), (2, .int (i32 e))] rfl (fun _ => rfl) ?_
  refine T_ld 3 (.int (i32 0)) rfl (fun _ => rfl) ?_
  refine T_sto 5 [(4, .int (i32 0)), (3, .int (i32 1)), (0, .ref 189), (1, .int (i32 t)), (2, .int (i32 e))] rfl (fun _ => rfl) ?_
  have e12 : 0 ≤ m.2 51 t ∧ m.2 51 t ≤ 4 := hT.2.1 51 t
  have L5_3 : ∀ (n11 : Nat) (v1 : Int) (v2 : Int), (R32 v1) → (R32 v2) → (0 ≤ v1) → (v1 ≤ 1) → (0 ≤ v2) → (v2 ≤ (m.2 51) t) → ((m.2 51) t) - v2 < (n11 : Int) → TT w D pm_337 (5, [(0, .ref 189), (1, .int (i32 t)), (2, .int (i32 e)), (3, .int (i32 v1)), (4, .int (i32 v2))], [], (mhp (mO m [] []) c, N), 0, 0) (Q_matches m c N t e) := by
    intro n11
    induction n11 with
    | zero =>
      intro v1 v2 q8 q9 ic4 ic5 ic6 ic7 hmu
      obtain ⟨q8a, q8b⟩ := id q8
      obtain ⟨q9a, q9b⟩ := id q9
      exfalso
      omega
    | succ n11 ih =>
      intro v1 v2 q8 q9 ic4 ic5 ic6 ic7 hmu
      obtain ⟨q8a, q8b⟩ := id q8
      obtain ⟨q9a, q9b⟩ := id q9
      have ih13 := ih
      refine T_ld 7 (.int (i32 v2)) rfl (fun _ => rfl) ?_
      refine T_gf 11 (.ref 221) rfl rfl rfl rfl rfl rfl ?_
      refine T_ld 12 (.int (i32 t)) rfl (fun _ => rfl) ?_
      refine T_iald 13 51 (m.2 51) rfl rfl rfl (by omega) (show t < (8 : Int) by omega) rfl ?_
      have e14 : 0 ≤ m.2 51 t ∧ m.2 51 t ≤ 4 := hT.2.1 51 t
      refine T_icmp 76 16 rfl rfl rfl (r32 (by omega) (by omega)) (r32 (by omega) (by omega)) (fun (h15 : (m.2 51) t ≤ v2) => ?_) (fun (h15 : ¬ ((m.2 51) t ≤ v2)) => ?_)
      · skip
        refine T_ld 77 (.int (i32 v1)) rfl (fun _ => rfl) ?_
        refine T_retb rfl rfl (by omega) ?_
        exact ⟨v1, ⟨by omega, by omega⟩, rfl⟩
      · skip
        refine T_ld 17 (.int (i32 v1)) rfl (fun _ => rfl) ?_
        refine T_if 68 20 rfl rfl rfl (r32 (by omega) (by omega)) (fun (h16 : v1 = 0) => ?_) (fun (h16 : ¬ (v1 = 0)) => ?_)
        · skip
          refine T_ld 69 (.int (i32 0)) rfl (fun _ => rfl) ?_
          refine T_sto 70 [(3, .int (i32 0)), (0, .ref 189), (1, .int (i32 t)), (2, .int (i32 e)), (4, .int (i32 v2))] rfl (fun _ => rfl) ?_
          refine T_iinc 73 [(4, .int (i32 (v2 + 1))), (3, .int (i32 0)), (0, .ref 189), (1, .int (i32 t)), (2, .int (i32 e))] rfl rfl (by decide) rfl rfl ?_
          refine T_goto 5 rfl (fun _ => rfl) ?_
          refine Tm_lv (a := [(0, .ref 189), (1, .int (i32 t)), (2, .int (i32 e)), (3, .int (i32 0)), (4, .int (i32 (v2 + 1)))]) rfl rfl ⟨rfl, rfl, rfl, rfl, rfl, trivial⟩ ?_
          exact ih13 0 (v2 + 1) ⟨by decide, by decide⟩ (r32 (by omega) (by omega)) (show 0 ≤ (0 : Int) by omega) (show (0 : Int) ≤ 1 by omega) (show 0 ≤ (v2 + 1) by omega) (show (v2 + 1) ≤ (m.2 51) t by omega) (show ((m.2 51) t) - (v2 + 1) < (n11 : Int) by omega)
        · skip
          refine T_gf 24 (.ref 325) rfl rfl rfl rfl rfl rfl ?_
          refine T_ld 26 (.int (i32 v2)) rfl (fun _ => rfl) ?_
          refine T_lald 27 178 (m.2 178) rfl rfl rfl (by omega) (show v2 < (4 : Int) by omega) rfl ?_
          have e17 : (-9223372036854775808) ≤ m.2 178 v2 ∧ m.2 178 v2 ≤ 9223372036854775807 := hT.2.1 178 v2
          refine T_gf 31 (.ref 297) rfl rfl rfl rfl rfl rfl ?_
          refine T_ld 32 (.int (i32 4)) rfl (fun _ => rfl) ?_
          refine T_ld 33 (.ref 189) rfl (fun _ => rfl) ?_
          refine T_ld 34 (.int (i32 t)) rfl (fun _ => rfl) ?_
          refine T_ld 35 (.int (i32 e)) rfl (fun _ => rfl) ?_
          refine T_call 38 319 [.ref 189, .int (i32 t), .int (i32 e)] [.int (i32 4), .ref 297, .long (i64 ((m.2 178) v2))] rfl (fun _ => rfl) rfl (c_slot w (mO m [] []) c N D (by omega) hT t e (r32 (by omega) (by omega)) (r32 (by omega) (by omega)) (show 0 ≤ t ∧ t ≤ 7 by omega) (show 0 ≤ e ∧ e ≤ 96 by omega)) (fun rr18 k19 => ?_)
          obtain ⟨sl, g20, h21, rfl⟩ := k19
          refine ⟨_, _, rfl, ?_⟩
          refine T_ns (st' := [.int (i32 sl), .int (i32 4), .ref 297, .long (i64 ((m.2 178) v2))]) rfl ?_
          obtain ⟨g20a, g20b⟩ := g20
          replace h21 : sl = 96 * t + e := h21
          have hSl := h21
          refine T_imul 39 rfl rfl ?_
          refine T_ld 41 (.int (i32 v2)) rfl (fun _ => rfl) ?_
          refine T_iadd 42 rfl rfl ?_
          refine T_lald 43 143 (m.2 143) rfl rfl rfl (by omega) (show ((4 * sl) + v2) < (3072 : Int) by omega) rfl ?_
          have e22 : (-9223372036854775808) ≤ m.2 143 ((4 * sl) + v2) ∧ m.2 143 ((4 * sl) + v2) ≤ 9223372036854775807 := hT.2.1 143 ((4 * sl) + v2)
          refine T_lhv 44 _ rfl (fun _ => rfl) (fun z23 h24 => ?_)
          obtain ⟨h24a, h24b⟩ := h24
          refine T_gf 48 (.ref 296) rfl rfl rfl rfl rfl rfl ?_
          refine T_ld 49 (.int (i32 4)) rfl (fun _ => rfl) ?_
          refine T_ld 50 (.ref 189) rfl (fun _ => rfl) ?_
          refine T_ld 51 (.int (i32 t)) rfl (fun _ => rfl) ?_
          refine T_ld 52 (.int (i32 e)) rfl (fun _ => rfl) ?_
          refine T_call 55 319 [.ref 189, .int (i32 t), .int (i32 e)] [.int (i32 4), .ref 296, .long (i64 z23)] rfl (fun _ => rfl) rfl (c_slot w (mO m [] []) c N D (by omega) hT t e (r32 (by omega) (by omega)) (r32 (by omega) (by omega)) (show 0 ≤ t ∧ t ≤ 7 by omega) (show 0 ≤ e ∧ e ≤ 96 by omega)) (fun rr25 k26 => ?_)
          obtain ⟨sl27, g28, h29, rfl⟩ := k26
          refine ⟨_, _, rfl, ?_⟩
          refine T_ns (st' := [.int (i32 sl27), .int (i32 4), .ref 296, .long (i64 z23)]) rfl ?_
          obtain ⟨g28a, g28b⟩ := g28
          replace h29 : sl27 = 96 * t + e := h29
          have hSl := h29
          clear g20a g20b h21
          refine T_imul 56 rfl rfl ?_
          refine T_ld 58 (.int (i32 v2)) rfl (fun _ => rfl) ?_
          refine T_iadd 59 rfl rfl ?_
          refine T_lald 60 142 (m.2 142) rfl rfl rfl (by omega) (show ((4 * sl27) + v2) < (3072 : Int) by omega) rfl ?_
          have e30 : (-9223372036854775808) ≤ m.2 142 ((4 * sl27) + v2) ∧ m.2 142 ((4 * sl27) + v2) ≤ 9223372036854775807 := hT.2.1 142 ((4 * sl27) + v2)
          refine T_lcmp 61 rfl rfl (r64 (by omega) (by omega)) (r64 (by omega) (by omega)) (fun z31 h32 => ?_)
          obtain ⟨h32a, h32b, h32c, h32d, h32e⟩ := h32
          refine T_if 68 64 rfl rfl rfl (r32 (by omega) (by omega)) (fun (h33 : z31 ≠ 0) => ?_) (fun (h33 : ¬ (z31 ≠ 0)) => ?_)
          · skip
            have hl34 : z23 ≠ (m.2 142) ((4 * sl27) + v2) := by omega
            refine T_ld 69 (.int (i32 0)) rfl (fun _ => rfl) ?_
            refine T_sto 70 [(3, .int (i32 0)), (0, .ref 189), (1, .int (i32 t)), (2, .int (i32 e)), (4, .int (i32 v2))] rfl (fun _ => rfl) ?_
            refine T_iinc 73 [(4, .int (i32 (v2 + 1))), (3, .int (i32 0)), (0, .ref 189), (1, .int (i32 t)), (2, .int (i32 e))] rfl rfl (by decide) rfl rfl ?_
            refine T_goto 5 rfl (fun _ => rfl) ?_
            refine Tm_lv (a := [(0, .ref 189), (1, .int (i32 t)), (2, .int (i32 e)), (3, .int (i32 0)), (4, .int (i32 (v2 + 1)))]) rfl rfl ⟨rfl, rfl, rfl, rfl, rfl, trivial⟩ ?_
            exact ih13 0 (v2 + 1) ⟨by decide, by decide⟩ (r32 (by omega) (by omega)) (show 0 ≤ (0 : Int) by omega) (show (0 : Int) ≤ 1 by omega) (show 0 ≤ (v2 + 1) by omega) (show (v2 + 1) ≤ (m.2 51) t by omega) (show ((m.2 51) t) - (v2 + 1) < (n11 : Int) by omega)
          · skip
            have hl35 : z23 = (m.2 142) ((4 * sl27) + v2) := by omega
            refine T_ld 65 (.int (i32 1)) rfl (fun _ => rfl) ?_
            refine T_goto 69 rfl (fun _ => rfl) ?_
            refine T_sto 70 [(3, .int (i32 1)), (0, .ref 189), (1, .int (i32 t)), (2, .int (i32 e)), (4, .int (i32 v2))] rfl (fun _ => rfl) ?_
            refine T_iinc 73 [(4, .int (i32 (v2 + 1))), (3, .int (i32 1)), (0, .ref 189), (1, .int (i32 t)), (2, .int (i32 e))] rfl rfl (by decide) rfl rfl ?_
            refine T_goto 5 rfl (fun _ => rfl) ?_
            refine Tm_lv (a := [(0, .ref 189), (1, .int (i32 t)), (2, .int (i32 e)), (3, .int (i32 1)), (4, .int (i32 (v2 + 1)))]) rfl rfl ⟨rfl, rfl, rfl, rfl, rfl, trivial⟩ ?_
            exact ih13 1 (v2 + 1) ⟨by decide, by decide⟩ (r32 (by omega) (by omega)) (show 0 ≤ (1 : Int) by omega) (show (1 : Int) ≤ 1 by omega) (show 0 ≤ (v2 + 1) by omega) (show (v2 + 1) ≤ (m.2 51) t by omega) (show ((m.2 51) t) - (v2 + 1) < (n11 : Int) by omega)
  refine Tm_lv (a := [(0, .ref 189), (1, .int (i32 t)), (2, .int (i32 e)), (3, .int (i32 1)), (4, .int (i32 0))]) rfl rfl ⟨rfl, rfl, rfl, rfl, rfl, trivial⟩ ?_
  exact L5_3 ((((m.2 51) t) - (0 : Int) : Int) + 1).toNat 1 0 ⟨by decide, by decide⟩ ⟨by decide, by decide⟩ (show 0 ≤ (1 : Int) by omega) (show (1 : Int) ≤ 1 by omega) (show 0 ≤ (0 : Int) by omega) (show (0 : Int) ≤ (m.2 51) t by omega) (show ((m.2 51) t) - (0 : Int) < ((((((m.2 51) t) - (0 : Int) : Int) + 1).toNat : Nat) : Int) by omega)
def fF_doTable : List Nat := [177]
def fA_doTable : List Nat := [138, 171, 172, 173, 174, 175, 178]
def Q_doTable (m : mR) (c : Nat → Option am_C) (N : Nat) (t : Int) : ag_Re af_T → Prop := fun R => ∃ (M : mR) (r : Int), Ty M ∧ fr fF_doTable fA_doTable m M ∧ (0 ≤ r ∧ r ≤ 15) ∧ R = (.inl (some (.int (i32 r))), (mhp M c, N), 0, 0)
set_option maxHeartbeats 3000000 in
theorem c_doTable (w : wX) (m : mR) (c : Nat → Option am_C) (N D : Nat) (hD : 6 ≤ D) (hT : Ty m) (t : Int) (qt : R32 t) (p0 : 0 ≤ t ∧ t ≤ 7) (p1 : t < (m.1 26)) (hCN : CN (m.2 65) (m.2 67) (m.1 28)) (pTd : TdP (m.2 65) (m.1 28) (m.1 22) (m.1 99) (m.2 101) (m.2 103) (m.2 105) (m.2 106) (m.2 107) (m.2 108)) (pAc : AcP (m.1 25) (m.1 99) (m.2 109) (m.2 50)) (pTb : TbP (m.2 65) (m.1 28) (m.1 25) (m.1 26) (m.2 51) (m.2 110) (m.2 111) (m.2 57) (m.2 53) (m.2 114) (m.2 58) (m.2 54)) (pAR : ∀ k, 0 ≤ k → k < (m.1 22) → 1 ≤ (m.2 93) k ∧ 1 ≤ (m.2 36) k) (hEAp : EAp (m.1 25) (m.2 139) (m.2 141)) : TC w D 336 [.ref 189, .int (i32 t)] (mhp m c, N) (Q_doTable m c N t) := by
  obtain ⟨D, rfl⟩ : ∃ k, D = k + 1 := ⟨D - 1, by omega⟩
  obtain ⟨qta, qtb⟩ := id qt
  have f25 : 0 ≤ m.1 25 ∧ m.1 25 ≤ 16 := hT.1 25
  have f22 : 0 ≤ m.1 22 ∧ m.1 22 ≤ 8 := hT.1 22
  have f28 : 0 ≤ m.1 28 ∧ m.1 28 ≤ 800 := hT.1 28
  have f26 : 0 ≤ m.1 26 ∧ m.1 26 ≤ 8 := hT.1 26
  have f99 : 0 ≤ m.1 99 ∧ m.1 99 ≤ 240 := hT.1 99
  refine Tc_of rfl ?_
  show TT w D pm_336 (0, [(0, .ref 189), (1, .int (i32 t))], [], (mhp (mO m [] []) c, N), 0, 0) (Q_doTable m c N t)
  obtain ⟨hb1, hb2, hb3, hb4, hb5⟩ := pTb t (by omega) (by omega)
  refine T_ld 1 (.int (i32 0)) rfl (fun _ => rfl) ?_
  refine T_sto 2 [(2, .int (i32 0)), (0, .ref 189), (1, .int (i32 t))] rfl (fun _ => rfl) ?_
  have e10 : 0 ≤ m.2 51 t ∧ m.2 51 t ≤ 4 := hT.2.1 51 t
  have L2_3 : ∀ (n9 : Nat) (v1 : Int) (m2 : mR), (R32 v1) → Ty m2 → fr [] [173, 178] (mO m [] []) m2 → (0 ≤ v1) → (v1 ≤ (m.2 51) t) → ((m.2 51) t) - v1 < (n9 : Int) → TT w D pm_336 (2, [(0, .ref 189), (1, .int (i32 t)), (2, .int (i32 v1))], [], (mhp (mO m2 [] []) c, N), 0, 0) (Q_doTable m c N t) := by
    intro n9
    induction n9 with
    | zero =>
      intro v1 m2 q6 Tm2 Fm2 ic4 ic5 hmu
      obtain ⟨q6a, q6b⟩ := id q6
      exfalso
      omega
    | succ n9 ih =>
      intro v1 m2 q6 Tm2 Fm2 ic4 ic5 hmu
      obtain ⟨q6a, q6b⟩ := id q6
      have ih11 := ih
      refine T_ld 3 (.int (i32 v1)) rfl (fun _ => rfl) ?_
      refine T_gf 7 (.ref 221) rfl rfl rfl rfl rfl rfl ?_
      refine T_ld 8 (.int (i32 t)) rfl (fun _ => rfl) ?_
      refine T_iald 9 51 (m.2 51) rfl rfl rfl (by omega) (show t < (8 : Int) by omega) (show (m2.2 51) = (m.2 51) from (fr2 Fm2 51 rfl)) ?_
      have e12 : 0 ≤ m.2 51 t ∧ m.2 51 t ≤ 4 := hT.2.1 51 t
      refine T_icmp 48 12 rfl rfl rfl (r32 (by omega) (by omega)) (r32 (by omega) (by omega)) (fun (h13 : (m.2 51) t ≤ v1) => ?_) (fun (h13 : ¬ ((m.2 51) t ≤ v1)) => ?_)
      · skip
        refine T_ld 49 (.int (i32 (-1))) rfl (fun _ => rfl) ?_
        refine T_sto 50 [(2, .int (i32 (-1))), (0, .ref 189), (1, .int (i32 t))] rfl (fun _ => rfl) ?_
        refine T_ld 51 (.int (i32 0)) rfl (fun _ => rfl) ?_
        refine T_sto 52 [(3, .int (i32 0)), (2, .int (i32 (-1))), (0, .ref 189), (1, .int (i32 t))] rfl (fun _ => rfl) ?_
        have e25 : 0 ≤ m.2 139 t ∧ m.2 139 t ≤ 96 := hT.2.1 139 t
        have L52_16 : ∀ (n24 : Nat) (v14 : Int) (v15 : Int), (R32 v14) → (R32 v15) → ((-1) ≤ v14) → (0 ≤ v15) → (v15 ≤ (m.2 139) t) → ((-1) ≤ v14 ∧ v14 < v15) → ((m.2 139) t) - v15 < (n24 : Int) → TT w D pm_336 (52, [(0, .ref 189), (1, .int (i32 t)), (2, .int (i32 v14)), (3, .int (i32 v15))], [], (mhp (mO m2 [] []) c, N), 0, 0) (Q_doTable m c N t) := by
          intro n24
          induction n24 with
          | zero =>
            intro v14 v15 q21 q22 ic17 ic18 ic19 ic20 hmu
            obtain ⟨q21a, q21b⟩ := id q21
            obtain ⟨q22a, q22b⟩ := id q22
            exfalso
            omega
          | succ n24 ih =>
            intro v14 v15 q21 q22 ic17 ic18 ic19 ic20 hmu
            obtain ⟨q21a, q21b⟩ := id q21
            obtain ⟨q22a, q22b⟩ := id q22
            have ih26 := ih
            refine T_ld 53 (.int (i32 v15)) rfl (fun _ => rfl) ?_
            refine T_gf 57 (.ref 293) rfl rfl rfl rfl rfl rfl ?_
            refine T_ld 58 (.int (i32 t)) rfl (fun _ => rfl) ?_
            refine T_iald 59 139 (m.2 139) rfl rfl rfl (by omega) (show t < (8 : Int) by omega) (show (m2.2 139) = (m.2 139) from (fr2 Fm2 139 rfl)) ?_
            have e27 : 0 ≤ m.2 139 t ∧ m.2 139 t ≤ 96 := hT.2.1 139 t
            refine T_icmp 157 62 rfl rfl rfl (r32 (by omega) (by omega)) (r32 (by omega) (by omega)) (fun (h28 : (m.2 139) t ≤ v15) => ?_) (fun (h28 : ¬ ((m.2 139) t ≤ v15)) => ?_)
            · skip
              refine T_ld 158 (.int (i32 v14)) rfl (fun _ => rfl) ?_
              refine T_if 170 161 rfl rfl rfl (r32 (by omega) (by omega)) (fun (h29 : (0 : Int) ≤ v14) => ?_) (fun (h29 : ¬ ((0 : Int) ≤ v14)) => ?_)
              · skip
                refine T_gf 174 (.ref 295) rfl rfl rfl rfl rfl rfl ?_
                refine T_ld 175 (.ref 189) rfl (fun _ => rfl) ?_
                refine T_ld 176 (.int (i32 t)) rfl (fun _ => rfl) ?_
                refine T_ld 177 (.int (i32 v14)) rfl (fun _ => rfl) ?_
                refine T_call 180 319 [.ref 189, .int (i32 t), .int (i32 v14)] [.ref 295] rfl (fun _ => rfl) rfl (c_slot w (mO m2 [] []) c N D (by omega) Tm2 t v14 (r32 (by omega) (by omega)) (r32 (by omega) (by omega)) (show 0 ≤ t ∧ t ≤ 7 by omega) (show 0 ≤ v14 ∧ v14 ≤ 96 by omega)) (fun rr30 k31 => ?_)
                obtain ⟨sl, g32, h33, rfl⟩ := k31
                refine ⟨_, _, rfl, ?_⟩
                refine T_ns (st' := [.int (i32 sl), .ref 295]) rfl ?_
                obtain ⟨g32a, g32b⟩ := g32
                replace h33 : sl = 96 * t + v14 := h33
                have hSl := h33
                have hea := hEAp t v14 (by omega) (by omega) (by omega) (by omega) (by omega)
                rw [← hSl] at hea
                refine T_iald 181 141 (m.2 141) rfl rfl rfl (by omega) (show sl < (768 : Int) by omega) (show (m2.2 141) = (m.2 141) from (fr2 Fm2 141 rfl)) ?_
                have e34 : 0 ≤ m.2 141 sl ∧ m.2 141 sl ≤ 15 := hT.2.1 141 sl
                refine T_sto 182 [(3, .int (i32 ((m.2 141) sl))), (0, .ref 189), (1, .int (i32 t)), (2, .int (i32 v14))] rfl (fun _ => rfl) ?_
                refine T_ld 183 (.int (i32 0)) rfl (fun _ => rfl) ?_
                refine T_sto 185 [(4, .int (i32 0)), (3, .int (i32 ((m.2 141) sl))), (0, .ref 189), (1, .int (i32 t)), (2, .int (i32 v14))] rfl (fun _ => rfl) ?_
                have L185_37 : ∀ (n43 : Nat) (v35 : Int) (m36 : mR), (R32 v35) → Ty m36 → fr [] [174] (mO m2 [] []) m36 → (0 ≤ v35) → (v35 ≤ 4) → 4 - v35 < (n43 : Int) → TT w D pm_336 (185, [(0, .ref 189), (1, .int (i32 t)), (2, .int (i32 v14)), (3, .int (i32 ((m.2 141) sl))), (4, .int (i32 v35))], [], (mhp (mO m36 [] []) c, N), 0, 0) (Q_doTable m c N t) := by
                  intro n43
                  induction n43 with
                  | zero =>
                    intro v35 m36 q40 Tm36 Fm36 ic38 ic39 hmu
                    obtain ⟨q40a, q40b⟩ := id q40
                    exfalso
                    omega
                  | succ n43 ih =>
                    intro v35 m36 q40 Tm36 Fm36 ic38 ic39 hmu
                    obtain ⟨q40a, q40b⟩ := id q40
                    have ih44 := ih
                    refine T_ld 187 (.int (i32 v35)) rfl (fun _ => rfl) ?_
                    refine T_ld 188 (.int (i32 4)) rfl (fun _ => rfl) ?_
                    refine T_icmp 238 191 rfl rfl rfl (r32 (by omega) (by omega)) ⟨by decide, by decide⟩ (fun (h45 : (4 : Int) ≤ v35) => ?_) (fun (h45 : ¬ ((4 : Int) ≤ v35)) => ?_)
                    · skip
                      have hac := pAc ((m.2 141) sl) (by omega) (by omega)
                      refine T_gf 242 (.ref 269) rfl rfl rfl rfl rfl rfl ?_
                      refine T_ld 243 (.int (i32 ((m.2 141) sl))) rfl (fun _ => rfl) ?_
                      refine T_iald 244 109 (m.2 109) rfl rfl rfl (by omega) (show ((m.2 141) sl) < (16 : Int) by omega) (show (m36.2 109) = (m.2 109) from ((fr2 Fm36 109 rfl).trans (fr2 Fm2 109 rfl))) ?_
                      have e46 : 0 ≤ m.2 109 ((m.2 141) sl) ∧ m.2 109 ((m.2 141) sl) ≤ 192 := hT.2.1 109 ((m.2 141) sl)
                      refine T_sto 246 [(4, .int (i32 ((m.2 109) ((m.2 141) sl)))), (0, .ref 189), (1, .int (i32 t)), (2, .int (i32 v14)), (3, .int (i32 ((m.2 141) sl)))] rfl (fun _ => rfl) ?_
                      have e57 : 0 ≤ m.2 109 ((m.2 141) sl) ∧ m.2 109 ((m.2 141) sl) ≤ 192 := hT.2.1 109 ((m.2 141) sl)
                      have e58 : 0 ≤ m.2 50 ((m.2 141) sl) ∧ m.2 50 ((m.2 141) sl) ≤ 13 := hT.2.1 50 ((m.2 141) sl)
                      have L246_49 : ∀ (n56 : Nat) (v47 : Int) (m48 : mR), (R32 v47) → Ty m48 → fr [177] [138, 171, 172, 173, 175] (mO m36 [] []) m48 → (0 ≤ v47) → (v47 ≤ ((m.2 109) ((m.2 141) sl)) + ((m.2 50) ((m.2 141) sl))) → (0 ≤ v47 ∧ v47 ≤ 240) → (((m.2 109) ((m.2 141) sl)) + ((m.2 50) ((m.2 141) sl))) - v47 < (n56 : Int) → TT w D pm_336 (246, [(0, .ref 189), (1, .int (i32 t)), (2, .int (i32 v14)), (3, .int (i32 ((m.2 141) sl))), (4, .int (i32 v47))], [], (mhp (mO m48 [] []) c, N), 0, 0) (Q_doTable m c N t) := by
                        intro n56
                        induction n56 with
                        | zero =>
                          intro v47 m48 q53 Tm48 Fm48 ic50 ic51 ic52 hmu
                          obtain ⟨q53a, q53b⟩ := id q53
                          exfalso
                          omega
                        | succ n56 ih =>
                          intro v47 m48 q53 Tm48 Fm48 ic50 ic51 ic52 hmu
                          obtain ⟨q53a, q53b⟩ := id q53
                          have ih59 := ih
                          refine T_ld 248 (.int (i32 v47)) rfl (fun _ => rfl) ?_
                          refine T_gf 252 (.ref 269) rfl rfl rfl rfl rfl rfl ?_
                          refine T_ld 253 (.int (i32 ((m.2 141) sl))) rfl (fun _ => rfl) ?_
                          refine T_iald 254 109 (m.2 109) rfl rfl rfl (by omega) (show ((m.2 141) sl) < (16 : Int) by omega) (show (m48.2 109) = (m.2 109) from ((fr2 Fm48 109 rfl).trans ((fr2 Fm36 109 rfl).trans (fr2 Fm2 109 rfl)))) ?_
                          have e60 : 0 ≤ m.2 109 ((m.2 141) sl) ∧ m.2 109 ((m.2 141) sl) ≤ 192 := hT.2.1 109 ((m.2 141) sl)
                          refine T_gf 258 (.ref 220) rfl rfl rfl rfl rfl rfl ?_
                          refine T_ld 259 (.int (i32 ((m.2 141) sl))) rfl (fun _ => rfl) ?_
                          refine T_iald 260 50 (m.2 50) rfl rfl rfl (by omega) (show ((m.2 141) sl) < (16 : Int) by omega) (show (m48.2 50) = (m.2 50) from ((fr2 Fm48 50 rfl).trans ((fr2 Fm36 50 rfl).trans (fr2 Fm2 50 rfl)))) ?_
                          have e61 : 0 ≤ m.2 50 ((m.2 141) sl) ∧ m.2 50 ((m.2 141) sl) ≤ 13 := hT.2.1 50 ((m.2 141) sl)
                          refine T_iadd 261 rfl rfl ?_
                          refine T_icmp 276 264 rfl rfl rfl (r32 (by omega) (by omega)) (r32 (by omega) (by omega)) (fun (h62 : ((m.2 109) ((m.2 141) sl)) + ((m.2 50) ((m.2 141) sl)) ≤ v47) => ?_) (fun (h62 : ¬ (((m.2 109) ((m.2 141) sl)) + ((m.2 50) ((m.2 141) sl)) ≤ v47)) => ?_)
                          · skip
                            refine T_ld 277 (.int (i32 ((m.2 141) sl))) rfl (fun _ => rfl) ?_
                            refine T_ret rfl (fun _ => rfl) ?_
                            exact ⟨(mO m48 [] []), (m.2 141) sl, Tm48, (fr_m (fr_s Fm48 (fr_m (fr_s Fm36 (fr_m (fr_s Fm2 (fr_m fr_0 rfl rfl) rfl rfl) rfl rfl) rfl rfl) rfl rfl) rfl rfl) rfl rfl), ⟨by omega, by omega⟩, rfl⟩
                          · skip
                            refine T_ld 265 (.ref 189) rfl (fun _ => rfl) ?_
                            refine T_ld 267 (.int (i32 v47)) rfl (fun _ => rfl) ?_
                            refine T_call 270 332 [.ref 189, .int (i32 v47)] [] rfl (fun _ => rfl) rfl (c_doStatement w (mO m48 [] []) c N D (by omega) Tm48 v47 (r32 (by omega) (by omega)) (show 0 ≤ v47 ∧ v47 ≤ 239 by omega) (show v47 < (m48.1 99) by rewrite [(show (m48.1 99) = (m.1 99) from ((fr1 Fm48 99 rfl).trans ((fr1 Fm36 99 rfl).trans (fr1 Fm2 99 rfl))))]; omega) (show CN (m48.2 65) (m48.2 67) (m48.1 28) by rewrite [(show (m48.2 65) = (m.2 65) from ((fr2 Fm48 65 rfl).trans ((fr2 Fm36 65 rfl).trans (fr2 Fm2 65 rfl)))), (show (m48.2 67) = (m.2 67) from ((fr2 Fm48 67 rfl).trans ((fr2 Fm36 67 rfl).trans (fr2 Fm2 67 rfl)))), (show (m48.1 28) = (m.1 28) from ((fr1 Fm48 28 rfl).trans ((fr1 Fm36 28 rfl).trans (fr1 Fm2 28 rfl))))]; exact hCN) (show TdP (m48.2 65) (m48.1 28) (m48.1 22) (m48.1 99) (m48.2 101) (m48.2 103) (m48.2 105) (m48.2 106) (m48.2 107) (m48.2 108) by rewrite [(show (m48.2 65) = (m.2 65) from ((fr2 Fm48 65 rfl).trans ((fr2 Fm36 65 rfl).trans (fr2 Fm2 65 rfl)))), (show (m48.1 28) = (m.1 28) from ((fr1 Fm48 28 rfl).trans ((fr1 Fm36 28 rfl).trans (fr1 Fm2 28 rfl)))), (show (m48.1 22) = (m.1 22) from ((fr1 Fm48 22 rfl).trans ((fr1 Fm36 22 rfl).trans (fr1 Fm2 22 rfl)))), (show (m48.1 99) = (m.1 99) from ((fr1 Fm48 99 rfl).trans ((fr1 Fm36 99 rfl).trans (fr1 Fm2 99 rfl)))), (show (m48.2 101) = (m.2 101) from ((fr2 Fm48 101 rfl).trans ((fr2 Fm36 101 rfl).trans (fr2 Fm2 101 rfl)))), (show (m48.2 103) = (m.2 103) from ((fr2 Fm48 103 rfl).trans ((fr2 Fm36 103 rfl).trans (fr2 Fm2 103 rfl)))), (show (m48.2 105) = (m.2 105) from ((fr2 Fm48 105 rfl).trans ((fr2 Fm36 105 rfl).trans (fr2 Fm2 105 rfl)))), (show (m48.2 106) = (m.2 106) from ((fr2 Fm48 106 rfl).trans ((fr2 Fm36 106 rfl).trans (fr2 Fm2 106 rfl)))), (show (m48.2 107) = (m.2 107) from ((fr2 Fm48 107 rfl).trans ((fr2 Fm36 107 rfl).trans (fr2 Fm2 107 rfl)))), (show (m48.2 108) = (m.2 108) from ((fr2 Fm48 108 rfl).trans ((fr2 Fm36 108 rfl).trans (fr2 Fm2 108 rfl))))]; exact pTd) (show ∀ k, 0 ≤ k → k < (m48.1 22) → 1 ≤ (m48.2 93) k ∧ 1 ≤ (m48.2 36) k by rewrite [(show (m48.1 22) = (m.1 22) from ((fr1 Fm48 22 rfl).trans ((fr1 Fm36 22 rfl).trans (fr1 Fm2 22 rfl)))), (show (m48.2 93) = (m.2 93) from ((fr2 Fm48 93 rfl).trans ((fr2 Fm36 93 rfl).trans (fr2 Fm2 93 rfl)))), (show (m48.2 36) = (m.2 36) from ((fr2 Fm48 36 rfl).trans ((fr2 Fm36 36 rfl).trans (fr2 Fm2 36 rfl))))]; exact pAR)) (fun rr63 k64 => ?_)
                            obtain ⟨m65, Tm65, Fm65, rfl⟩ := k64
                            refine ⟨_, _, rfl, ?_⟩
                            refine T_nb (st' := []) rfl ?_
                            refine T_iinc 273 [(4, .int (i32 (v47 + 1))), (0, .ref 189), (1, .int (i32 t)), (2, .int (i32 v14)), (3, .int (i32 ((m.2 141) sl)))] rfl rfl (by decide) rfl rfl ?_
                            refine T_goto 246 rfl (fun _ => rfl) ?_
                            refine Tm_lv (a := [(0, .ref 189), (1, .int (i32 t)), (2, .int (i32 v14)), (3, .int (i32 ((m.2 141) sl))), (4, .int (i32 (v47 + 1)))]) rfl rfl ⟨rfl, rfl, rfl, rfl, rfl, trivial⟩ ?_
                            exact ih59 (v47 + 1) (mO m65 [] []) (r32 (by omega) (by omega)) Tm65 (fr_m (fr_s Fm65 (fr_m (fr_s Fm48 (fr_m fr_0 rfl rfl) rfl rfl) rfl rfl) rfl rfl) rfl rfl) (show 0 ≤ (v47 + 1) by omega) (show (v47 + 1) ≤ ((m.2 109) ((m.2 141) sl)) + ((m.2 50) ((m.2 141) sl)) by omega) (show 0 ≤ (v47 + 1) ∧ (v47 + 1) ≤ 240 by omega) (show (((m.2 109) ((m.2 141) sl)) + ((m.2 50) ((m.2 141) sl))) - (v47 + 1) < (n56 : Int) by omega)
                      refine Tm_lv (a := [(0, .ref 189), (1, .int (i32 t)), (2, .int (i32 v14)), (3, .int (i32 ((m.2 141) sl))), (4, .int (i32 ((m.2 109) ((m.2 141) sl))))]) rfl rfl ⟨rfl, rfl, rfl, rfl, rfl, trivial⟩ ?_
                      exact L246_49 (((((m.2 109) ((m.2 141) sl)) + ((m.2 50) ((m.2 141) sl))) - ((m.2 109) ((m.2 141) sl)) : Int) + 1).toNat ((m.2 109) ((m.2 141) sl)) (mO m36 [] []) (r32 (by omega) (by omega)) Tm36 (fr_m fr_0 rfl rfl) (show 0 ≤ ((m.2 109) ((m.2 141) sl)) by omega) (show ((m.2 109) ((m.2 141) sl)) ≤ ((m.2 109) ((m.2 141) sl)) + ((m.2 50) ((m.2 141) sl)) by omega) (show 0 ≤ ((m.2 109) ((m.2 141) sl)) ∧ ((m.2 109) ((m.2 141) sl)) ≤ 240 by omega) (show (((m.2 109) ((m.2 141) sl)) + ((m.2 50) ((m.2 141) sl))) - ((m.2 109) ((m.2 141) sl)) < (((((((m.2 109) ((m.2 141) sl)) + ((m.2 50) ((m.2 141) sl))) - ((m.2 109) ((m.2 141) sl)) : Int) + 1).toNat : Nat) : Int) by omega)
                    · skip
                      refine T_gf 195 (.ref 323) rfl rfl rfl rfl rfl rfl ?_
                      refine T_ld 197 (.int (i32 v35)) rfl (fun _ => rfl) ?_
                      refine T_ld 198 (.int (i32 v14)) rfl (fun _ => rfl) ?_
                      refine T_if 215 201 rfl rfl rfl (r32 (by omega) (by omega)) (fun (h66 : (0 : Int) ≤ v14) => ?_) (fun (h66 : ¬ ((0 : Int) ≤ v14)) => by exfalso; omega)
                      refine T_gf 219 (.ref 298) rfl rfl rfl rfl rfl rfl ?_
                      refine T_ld 220 (.int (i32 4)) rfl (fun _ => rfl) ?_
                      refine T_ld 221 (.ref 189) rfl (fun _ => rfl) ?_
                      refine T_ld 222 (.int (i32 t)) rfl (fun _ => rfl) ?_
                      refine T_ld 223 (.int (i32 v14)) rfl (fun _ => rfl) ?_
                      refine T_call 226 319 [.ref 189, .int (i32 t), .int (i32 v14)] [.int (i32 4), .ref 298, .int (i32 v35), .ref 323] rfl (fun _ => rfl) rfl (c_slot w (mO m36 [] []) c N D (by omega) Tm36 t v14 (r32 (by omega) (by omega)) (r32 (by omega) (by omega)) (show 0 ≤ t ∧ t ≤ 7 by omega) (show 0 ≤ v14 ∧ v14 ≤ 96 by omega)) (fun rr67 k68 => ?_)
                      obtain ⟨sl69, g70, h71, rfl⟩ := k68
                      refine ⟨_, _, rfl, ?_⟩
                      refine T_ns (st' := [.int (i32 sl69), .int (i32 4), .ref 298, .int (i32 v35), .ref 323]) rfl ?_
                      obtain ⟨g70a, g70b⟩ := g70
                      replace h71 : sl69 = 96 * t + v14 := h71
                      have hSl := h71
                      refine T_imul 227 rfl rfl ?_
                      refine T_ld 229 (.int (i32 v35)) rfl (fun _ => rfl) ?_
                      refine T_iadd 230 rfl rfl ?_
                      refine T_lald 231 144 (m.2 144) rfl rfl rfl (by omega) (show ((4 * sl69) + v35) < (3072 : Int) by omega) (show (m36.2 144) = (m.2 144) from ((fr2 Fm36 144 rfl).trans (fr2 Fm2 144 rfl))) ?_
                      have e72 : (-9223372036854775808) ≤ m.2 144 ((4 * sl69) + v35) ∧ m.2 144 ((4 * sl69) + v35) ≤ 9223372036854775807 := hT.2.1 144 ((4 * sl69) + v35)
                      have G73 : ∀ j, (-9223372036854775808) ≤ (upI (m36.2 174) v35 ((m.2 144) ((4 * sl69) + v35))) j ∧ (upI (m36.2 174) v35 ((m.2 144) ((4 * sl69) + v35))) j ≤ 9223372036854775807 := upI_rg (Tm36.2.1 174) ⟨by omega, by omega⟩
                      refine T_last (a' := [(174, upI (m36.2 174) v35 ((m.2 144) ((4 * sl69) + v35)))]) 232 174 (m36.2 174) rfl rfl rfl (by omega) (show v35 < (4 : Int) by omega) rfl rfl ?_
                      refine T_iinc 235 [(4, .int (i32 (v35 + 1))), (0, .ref 189), (1, .int (i32 t)), (2, .int (i32 v14)), (3, .int (i32 ((m.2 141) sl)))] rfl rfl (by decide) rfl rfl ?_
                      refine T_goto 185 rfl (fun _ => rfl) ?_
                      refine Tm_lv (a := [(0, .ref 189), (1, .int (i32 t)), (2, .int (i32 v14)), (3, .int (i32 ((m.2 141) sl))), (4, .int (i32 (v35 + 1)))]) rfl rfl ⟨rfl, rfl, rfl, rfl, rfl, trivial⟩ ?_
                      exact ih44 (v35 + 1) (mO m36 [] [(174, upI (m36.2 174) v35 ((m.2 144) ((4 * sl69) + v35)))]) (r32 (by omega) (by omega)) (Ty_mO Tm36 rfl rfl trivial ⟨G73, trivial⟩) (fr_m (fr_s Fm36 (fr_m fr_0 rfl rfl) rfl rfl) rfl rfl) (show 0 ≤ (v35 + 1) by omega) (show (v35 + 1) ≤ 4 by omega) (show 4 - (v35 + 1) < (n43 : Int) by omega)
                refine Tm_lv (a := [(0, .ref 189), (1, .int (i32 t)), (2, .int (i32 v14)), (3, .int (i32 ((m.2 141) sl))), (4, .int (i32 0))]) rfl rfl ⟨rfl, rfl, rfl, rfl, rfl, trivial⟩ ?_
                exact L185_37 ((4 - (0 : Int) : Int) + 1).toNat 0 (mO m2 [] []) ⟨by decide, by decide⟩ Tm2 (fr_m fr_0 rfl rfl) (show 0 ≤ (0 : Int) by omega) (show (0 : Int) ≤ 4 by omega) (show 4 - (0 : Int) < ((((4 - (0 : Int) : Int) + 1).toNat : Nat) : Int) by omega)
              · skip
                refine T_gf 165 (.ref 227) rfl rfl rfl rfl rfl rfl ?_
                refine T_ld 166 (.int (i32 t)) rfl (fun _ => rfl) ?_
                refine T_iald 167 57 (m.2 57) rfl rfl rfl (by omega) (show t < (8 : Int) by omega) (show (m2.2 57) = (m.2 57) from (fr2 Fm2 57 rfl)) ?_
                have e74 : 0 ≤ m.2 57 t ∧ m.2 57 t ≤ 15 := hT.2.1 57 t
                refine T_goto 181 rfl (fun _ => rfl) ?_
                refine T_sto 182 [(3, .int (i32 ((m.2 57) t))), (0, .ref 189), (1, .int (i32 t)), (2, .int (i32 v14))] rfl (fun _ => rfl) ?_
                refine T_ld 183 (.int (i32 0)) rfl (fun _ => rfl) ?_
                refine T_sto 185 [(4, .int (i32 0)), (3, .int (i32 ((m.2 57) t))), (0, .ref 189), (1, .int (i32 t)), (2, .int (i32 v14))] rfl (fun _ => rfl) ?_
                have L185_77 : ∀ (n83 : Nat) (v75 : Int) (m76 : mR), (R32 v75) → Ty m76 → fr [] [174] (mO m2 [] []) m76 → (0 ≤ v75) → (v75 ≤ 4) → 4 - v75 < (n83 : Int) → TT w D pm_336 (185, [(0, .ref 189), (1, .int (i32 t)), (2, .int (i32 v14)), (3, .int (i32 ((m.2 57) t))), (4, .int (i32 v75))], [], (mhp (mO m76 [] []) c, N), 0, 0) (Q_doTable m c N t) := by
                  intro n83
                  induction n83 with
                  | zero =>
                    intro v75 m76 q80 Tm76 Fm76 ic78 ic79 hmu
                    obtain ⟨q80a, q80b⟩ := id q80
                    exfalso
                    omega
                  | succ n83 ih =>
                    intro v75 m76 q80 Tm76 Fm76 ic78 ic79 hmu
                    obtain ⟨q80a, q80b⟩ := id q80
                    have ih84 := ih
                    refine T_ld 187 (.int (i32 v75)) rfl (fun _ => rfl) ?_
                    refine T_ld 188 (.int (i32 4)) rfl (fun _ => rfl) ?_
                    refine T_icmp 238 191 rfl rfl rfl (r32 (by omega) (by omega)) ⟨by decide, by decide⟩ (fun (h85 : (4 : Int) ≤ v75) => ?_) (fun (h85 : ¬ ((4 : Int) ≤ v75)) => ?_)
                    · skip
                      have hac := pAc ((m.2 57) t) (by omega) (by omega)
                      refine T_gf 242 (.ref 269) rfl rfl rfl rfl rfl rfl ?_
                      refine T_ld 243 (.int (i32 ((m.2 57) t))) rfl (fun _ => rfl) ?_
                      refine T_iald 244 109 (m.2 109) rfl rfl rfl (by omega) (show ((m.2 57) t) < (16 : Int) by omega) (show (m76.2 109) = (m.2 109) from ((fr2 Fm76 109 rfl).trans (fr2 Fm2 109 rfl))) ?_
                      have e86 : 0 ≤ m.2 109 ((m.2 57) t) ∧ m.2 109 ((m.2 57) t) ≤ 192 := hT.2.1 109 ((m.2 57) t)
                      refine T_sto 246 [(4, .int (i32 ((m.2 109) ((m.2 57) t)))), (0, .ref 189), (1, .int (i32 t)), (2, .int (i32 v14)), (3, .int (i32 ((m.2 57) t)))] rfl (fun _ => rfl) ?_
                      have e97 : 0 ≤ m.2 109 ((m.2 57) t) ∧ m.2 109 ((m.2 57) t) ≤ 192 := hT.2.1 109 ((m.2 57) t)
                      have e98 : 0 ≤ m.2 50 ((m.2 57) t) ∧ m.2 50 ((m.2 57) t) ≤ 13 := hT.2.1 50 ((m.2 57) t)
                      have L246_89 : ∀ (n96 : Nat) (v87 : Int) (m88 : mR), (R32 v87) → Ty m88 → fr [177] [138, 171, 172, 173, 175] (mO m76 [] []) m88 → (0 ≤ v87) → (v87 ≤ ((m.2 109) ((m.2 57) t)) + ((m.2 50) ((m.2 57) t))) → (0 ≤ v87 ∧ v87 ≤ 240) → (((m.2 109) ((m.2 57) t)) + ((m.2 50) ((m.2 57) t))) - v87 < (n96 : Int) → TT w D pm_336 (246, [(0, .ref 189), (1, .int (i32 t)), (2, .int (i32 v14)), (3, .int (i32 ((m.2 57) t))), (4, .int (i32 v87))], [], (mhp (mO m88 [] []) c, N), 0, 0) (Q_doTable m c N t) := by
                        intro n96
                        induction n96 with
                        | zero =>
                          intro v87 m88 q93 Tm88 Fm88 ic90 ic91 ic92 hmu
                          obtain ⟨q93a, q93b⟩ := id q93
                          exfalso
                          omega
                        | succ n96 ih =>
                          intro v87 m88 q93 Tm88 Fm88 ic90 ic91 ic92 hmu
                          obtain ⟨q93a, q93b⟩ := id q93
                          have ih99 := ih
                          refine T_ld 248 (.int (i32 v87)) rfl (fun _ => rfl) ?_
                          refine T_gf 252 (.ref 269) rfl rfl rfl rfl rfl rfl ?_
                          refine T_ld 253 (.int (i32 ((m.2 57) t))) rfl (fun _ => rfl) ?_
                          refine T_iald 254 109 (m.2 109) rfl rfl rfl (by omega) (show ((m.2 57) t) < (16 : Int) by omega) (show (m88.2 109) = (m.2 109) from ((fr2 Fm88 109 rfl).trans ((fr2 Fm76 109 rfl).trans (fr2 Fm2 109 rfl)))) ?_
                          have e100 : 0 ≤ m.2 109 ((m.2 57) t) ∧ m.2 109 ((m.2 57) t) ≤ 192 := hT.2.1 109 ((m.2 57) t)
                          refine T_gf 258 (.ref 220) rfl rfl rfl rfl rfl rfl ?_
                          refine T_ld 259 (.int (i32 ((m.2 57) t))) rfl (fun _ => rfl) ?_
                          refine T_iald 260 50 (m.2 50) rfl rfl rfl (by omega) (show ((m.2 57) t) < (16 : Int) by omega) (show (m88.2 50) = (m.2 50) from ((fr2 Fm88 50 rfl).trans ((fr2 Fm76 50 rfl).trans (fr2 Fm2 50 rfl)))) ?_
                          have e101 : 0 ≤ m.2 50 ((m.2 57) t) ∧ m.2 50 ((m.2 57) t) ≤ 13 := hT.2.1 50 ((m.2 57) t)
                          refine T_iadd 261 rfl rfl ?_
                          refine T_icmp 276 264 rfl rfl rfl (r32 (by omega) (by omega)) (r32 (by omega) (by omega)) (fun (h102 : ((m.2 109) ((m.2 57) t)) + ((m.2 50) ((m.2 57) t)) ≤ v87) => ?_) (fun (h102 : ¬ (((m.2 109) ((m.2 57) t)) + ((m.2 50) ((m.2 57) t)) ≤ v87)) => ?_)
                          · skip
                            refine T_ld 277 (.int (i32 ((m.2 57) t))) rfl (fun _ => rfl) ?_
                            refine T_ret rfl (fun _ => rfl) ?_
                            exact ⟨(mO m88 [] []), (m.2 57) t, Tm88, (fr_m (fr_s Fm88 (fr_m (fr_s Fm76 (fr_m (fr_s Fm2 (fr_m fr_0 rfl rfl) rfl rfl) rfl rfl) rfl rfl) rfl rfl) rfl rfl) rfl rfl), ⟨by omega, by omega⟩, rfl⟩
                          · skip
                            refine T_ld 265 (.ref 189) rfl (fun _ => rfl) ?_
                            refine T_ld 267 (.int (i32 v87)) rfl (fun _ => rfl) ?_
                            refine T_call 270 332 [.ref 189, .int (i32 v87)] [] rfl (fun _ => rfl) rfl (c_doStatement w (mO m88 [] []) c N D (by omega) Tm88 v87 (r32 (by omega) (by omega)) (show 0 ≤ v87 ∧ v87 ≤ 239 by omega) (show v87 < (m88.1 99) by rewrite [(show (m88.1 99) = (m.1 99) from ((fr1 Fm88 99 rfl).trans ((fr1 Fm76 99 rfl).trans (fr1 Fm2 99 rfl))))]; omega) (show CN (m88.2 65) (m88.2 67) (m88.1 28) by rewrite [(show (m88.2 65) = (m.2 65) from ((fr2 Fm88 65 rfl).trans ((fr2 Fm76 65 rfl).trans (fr2 Fm2 65 rfl)))), (show (m88.2 67) = (m.2 67) from ((fr2 Fm88 67 rfl).trans ((fr2 Fm76 67 rfl).trans (fr2 Fm2 67 rfl)))), (show (m88.1 28) = (m.1 28) from ((fr1 Fm88 28 rfl).trans ((fr1 Fm76 28 rfl).trans (fr1 Fm2 28 rfl))))]; exact hCN) (show TdP (m88.2 65) (m88.1 28) (m88.1 22) (m88.1 99) (m88.2 101) (m88.2 103) (m88.2 105) (m88.2 106) (m88.2 107) (m88.2 108) by rewrite [(show (m88.2 65) = (m.2 65) from ((fr2 Fm88 65 rfl).trans ((fr2 Fm76 65 rfl).trans (fr2 Fm2 65 rfl)))), (show (m88.1 28) = (m.1 28) from ((fr1 Fm88 28 rfl).trans ((fr1 Fm76 28 rfl).trans (fr1 Fm2 28 rfl)))), (show (m88.1 22) = (m.1 22) from ((fr1 Fm88 22 rfl).trans ((fr1 Fm76 22 rfl).trans (fr1 Fm2 22 rfl)))), (show (m88.1 99) = (m.1 99) from ((fr1 Fm88 99 rfl).trans ((fr1 Fm76 99 rfl).trans (fr1 Fm2 99 rfl)))), (show (m88.2 101) = (m.2 101) from ((fr2 Fm88 101 rfl).trans ((fr2 Fm76 101 rfl).trans (fr2 Fm2 101 rfl)))), (show (m88.2 103) = (m.2 103) from ((fr2 Fm88 103 rfl).trans ((fr2 Fm76 103 rfl).trans (fr2 Fm2 103 rfl)))), (show (m88.2 105) = (m.2 105) from ((fr2 Fm88 105 rfl).trans ((fr2 Fm76 105 rfl).trans (fr2 Fm2 105 rfl)))), (show (m88.2 106) = (m.2 106) from ((fr2 Fm88 106 rfl).trans ((fr2 Fm76 106 rfl).trans (fr2 Fm2 106 rfl)))), (show (m88.2 107) = (m.2 107) from ((fr2 Fm88 107 rfl).trans ((fr2 Fm76 107 rfl).trans (fr2 Fm2 107 rfl)))), (show (m88.2 108) = (m.2 108) from ((fr2 Fm88 108 rfl).trans ((fr2 Fm76 108 rfl).trans (fr2 Fm2 108 rfl))))]; exact pTd) (show ∀ k, 0 ≤ k → k < (m88.1 22) → 1 ≤ (m88.2 93) k ∧ 1 ≤ (m88.2 36) k by rewrite [(show (m88.1 22) = (m.1 22) from ((fr1 Fm88 22 rfl).trans ((fr1 Fm76 22 rfl).trans (fr1 Fm2 22 rfl)))), (show (m88.2 93) = (m.2 93) from ((fr2 Fm88 93 rfl).trans ((fr2 Fm76 93 rfl).trans (fr2 Fm2 93 rfl)))), (show (m88.2 36) = (m.2 36) from ((fr2 Fm88 36 rfl).trans ((fr2 Fm76 36 rfl).trans (fr2 Fm2 36 rfl))))]; exact pAR)) (fun rr103 k104 => ?_)
                            obtain ⟨m105, Tm105, Fm105, rfl⟩ := k104
                            refine ⟨_, _, rfl, ?_⟩
                            refine T_nb (st' := []) rfl ?_
                            refine T_iinc 273 [(4, .int (i32 (v87 + 1))), (0, .ref 189), (1, .int (i32 t)), (2, .int (i32 v14)), (3, .int (i32 ((m.2 57) t)))] rfl rfl (by decide) rfl rfl ?_
                            refine T_goto 246 rfl (fun _ => rfl) ?_
                            refine Tm_lv (a := [(0, .ref 189), (1, .int (i32 t)), (2, .int (i32 v14)), (3, .int (i32 ((m.2 57) t))), (4, .int (i32 (v87 + 1)))]) rfl rfl ⟨rfl, rfl, rfl, rfl, rfl, trivial⟩ ?_
                            exact ih99 (v87 + 1) (mO m105 [] []) (r32 (by omega) (by omega)) Tm105 (fr_m (fr_s Fm105 (fr_m (fr_s Fm88 (fr_m fr_0 rfl rfl) rfl rfl) rfl rfl) rfl rfl) rfl rfl) (show 0 ≤ (v87 + 1) by omega) (show (v87 + 1) ≤ ((m.2 109) ((m.2 57) t)) + ((m.2 50) ((m.2 57) t)) by omega) (show 0 ≤ (v87 + 1) ∧ (v87 + 1) ≤ 240 by omega) (show (((m.2 109) ((m.2 57) t)) + ((m.2 50) ((m.2 57) t))) - (v87 + 1) < (n96 : Int) by omega)
                      refine Tm_lv (a := [(0, .ref 189), (1, .int (i32 t)), (2, .int (i32 v14)), (3, .int (i32 ((m.2 57) t))), (4, .int (i32 ((m.2 109) ((m.2 57) t))))]) rfl rfl ⟨rfl, rfl, rfl, rfl, rfl, trivial⟩ ?_
                      exact L246_89 (((((m.2 109) ((m.2 57) t)) + ((m.2 50) ((m.2 57) t))) - ((m.2 109) ((m.2 57) t)) : Int) + 1).toNat ((m.2 109) ((m.2 57) t)) (mO m76 [] []) (r32 (by omega) (by omega)) Tm76 (fr_m fr_0 rfl rfl) (show 0 ≤ ((m.2 109) ((m.2 57) t)) by omega) (show ((m.2 109) ((m.2 57) t)) ≤ ((m.2 109) ((m.2 57) t)) + ((m.2 50) ((m.2 57) t)) by omega) (show 0 ≤ ((m.2 109) ((m.2 57) t)) ∧ ((m.2 109) ((m.2 57) t)) ≤ 240 by omega) (show (((m.2 109) ((m.2 57) t)) + ((m.2 50) ((m.2 57) t))) - ((m.2 109) ((m.2 57) t)) < (((((((m.2 109) ((m.2 57) t)) + ((m.2 50) ((m.2 57) t))) - ((m.2 109) ((m.2 57) t)) : Int) + 1).toNat : Nat) : Int) by omega)
                    · skip
                      refine T_gf 195 (.ref 323) rfl rfl rfl rfl rfl rfl ?_
                      refine T_ld 197 (.int (i32 v75)) rfl (fun _ => rfl) ?_
                      refine T_ld 198 (.int (i32 v14)) rfl (fun _ => rfl) ?_
                      refine T_if 215 201 rfl rfl rfl (r32 (by omega) (by omega)) (fun (h106 : (0 : Int) ≤ v14) => by exfalso; omega) (fun (h106 : ¬ ((0 : Int) ≤ v14)) => ?_)
                      refine T_gf 205 (.ref 275) rfl rfl rfl rfl rfl rfl ?_
                      refine T_ld 206 (.int (i32 4)) rfl (fun _ => rfl) ?_
                      refine T_ld 207 (.int (i32 t)) rfl (fun _ => rfl) ?_
                      refine T_imul 208 rfl rfl ?_
                      refine T_ld 210 (.int (i32 v75)) rfl (fun _ => rfl) ?_
                      refine T_iadd 211 rfl rfl ?_
                      refine T_lald 212 115 (m.2 115) rfl rfl rfl (by omega) (show ((4 * t) + v75) < (32 : Int) by omega) (show (m76.2 115) = (m.2 115) from ((fr2 Fm76 115 rfl).trans (fr2 Fm2 115 rfl))) ?_
                      have e107 : (-9223372036854775808) ≤ m.2 115 ((4 * t) + v75) ∧ m.2 115 ((4 * t) + v75) ≤ 9223372036854775807 := hT.2.1 115 ((4 * t) + v75)
                      refine T_goto 231 rfl (fun _ => rfl) ?_
                      have G108 : ∀ j, (-9223372036854775808) ≤ (upI (m76.2 174) v75 ((m.2 115) ((4 * t) + v75))) j ∧ (upI (m76.2 174) v75 ((m.2 115) ((4 * t) + v75))) j ≤ 9223372036854775807 := upI_rg (Tm76.2.1 174) ⟨by omega, by omega⟩
                      refine T_last (a' := [(174, upI (m76.2 174) v75 ((m.2 115) ((4 * t) + v75)))]) 232 174 (m76.2 174) rfl rfl rfl (by omega) (show v75 < (4 : Int) by omega) rfl rfl ?_
                      refine T_iinc 235 [(4, .int (i32 (v75 + 1))), (0, .ref 189), (1, .int (i32 t)), (2, .int (i32 v14)), (3, .int (i32 ((m.2 57) t)))] rfl rfl (by decide) rfl rfl ?_
                      refine T_goto 185 rfl (fun _ => rfl) ?_
                      refine Tm_lv (a := [(0, .ref 189), (1, .int (i32 t)), (2, .int (i32 v14)), (3, .int (i32 ((m.2 57) t))), (4, .int (i32 (v75 + 1)))]) rfl rfl ⟨rfl, rfl, rfl, rfl, rfl, trivial⟩ ?_
                      exact ih84 (v75 + 1) (mO m76 [] [(174, upI (m76.2 174) v75 ((m.2 115) ((4 * t) + v75)))]) (r32 (by omega) (by omega)) (Ty_mO Tm76 rfl rfl trivial ⟨G108, trivial⟩) (fr_m (fr_s Fm76 (fr_m fr_0 rfl rfl) rfl rfl) rfl rfl) (show 0 ≤ (v75 + 1) by omega) (show (v75 + 1) ≤ 4 by omega) (show 4 - (v75 + 1) < (n83 : Int) by omega)
                refine Tm_lv (a := [(0, .ref 189), (1, .int (i32 t)), (2, .int (i32 v14)), (3, .int (i32 ((m.2 57) t))), (4, .int (i32 0))]) rfl rfl ⟨rfl, rfl, rfl, rfl, rfl, trivial⟩ ?_
                exact L185_77 ((4 - (0 : Int) : Int) + 1).toNat 0 (mO m2 [] []) ⟨by decide, by decide⟩ Tm2 (fr_m fr_0 rfl rfl) (show 0 ≤ (0 : Int) by omega) (show (0 : Int) ≤ 4 by omega) (show 4 - (0 : Int) < ((((4 - (0 : Int) : Int) + 1).toNat : Nat) : Int) by omega)
            · skip
              refine T_ld 63 (.ref 189) rfl (fun _ => rfl) ?_
              refine T_ld 64 (.int (i32 t)) rfl (fun _ => rfl) ?_
              refine T_ld 65 (.int (i32 v15)) rfl (fun _ => rfl) ?_
              refine T_call 68 337 [.ref 189, .int (i32 t), .int (i32 v15)] [] rfl (fun _ => rfl) rfl (c_matches w (mO m2 [] []) c N D (by omega) Tm2 t v15 (r32 (by omega) (by omega)) (r32 (by omega) (by omega)) (show 0 ≤ t ∧ t ≤ 7 by omega) (show 0 ≤ v15 ∧ v15 ≤ 95 by omega)) (fun rr109 k110 => ?_)
              obtain ⟨x111, g112, rfl⟩ := k110
              refine ⟨_, _, rfl, ?_⟩
              refine T_ns (st' := [.int (i32 x111)]) rfl ?_
              obtain ⟨g112a, g112b⟩ := g112
              refine T_if 74 71 rfl rfl rfl (r32 (by omega) (by omega)) (fun (h113 : x111 ≠ 0) => ?_) (fun (h113 : ¬ (x111 ≠ 0)) => ?_)
              · skip
                refine T_ld 75 (.int (i32 v14)) rfl (fun _ => rfl) ?_
                refine T_if 133 78 rfl rfl rfl (r32 (by omega) (by omega)) (fun (h114 : v14 < 0) => ?_) (fun (h114 : ¬ (v14 < 0)) => ?_)
                · skip
                  refine T_ld 134 (.int (i32 1)) rfl (fun _ => rfl) ?_
                  refine T_goto 138 rfl (fun _ => rfl) ?_
                  refine T_sto 140 [(4, .int (i32 1)), (0, .ref 189), (1, .int (i32 t)), (2, .int (i32 v14)), (3, .int (i32 v15))] rfl (fun _ => rfl) ?_
                  refine T_ld 142 (.int (i32 1)) rfl (fun _ => rfl) ?_
                  refine T_if 149 145 rfl rfl rfl ⟨by decide, by decide⟩ (fun h115 => absurd (show (1 : Int) = 0 from h115) (by decide)) (fun _ => ?_)
                  refine T_ld 146 (.int (i32 v15)) rfl (fun _ => rfl) ?_
                  refine T_goto 150 rfl (fun _ => rfl) ?_
                  refine T_sto 151 [(2, .int (i32 v15)), (4, .int (i32 1)), (0, .ref 189), (1, .int (i32 t)), (3, .int (i32 v15))] rfl (fun _ => rfl) ?_
                  refine T_iinc 154 [(3, .int (i32 (v15 + 1))), (2, .int (i32 v15)), (4, .int (i32 1)), (0, .ref 189), (1, .int (i32 t))] rfl rfl (by decide) rfl rfl ?_
                  refine T_goto 52 rfl (fun _ => rfl) ?_
                  refine Tm_lv (a := [(0, .ref 189), (1, .int (i32 t)), (2, .int (i32 v15)), (3, .int (i32 (v15 + 1)))]) rfl rfl ⟨rfl, rfl, rfl, rfl, trivial⟩ ?_
                  exact ih26 v15 (v15 + 1) (r32 (by omega) (by omega)) (r32 (by omega) (by omega)) (show (-1) ≤ v15 by omega) (show 0 ≤ (v15 + 1) by omega) (show (v15 + 1) ≤ (m.2 139) t by omega) (show (-1) ≤ v15 ∧ v15 < (v15 + 1) by omega) (show ((m.2 139) t) - (v15 + 1) < (n24 : Int) by omega)
                · skip
                  refine T_ld 79 (.ref 189) rfl (fun _ => rfl) ?_
                  refine T_ld 80 (.int (i32 t)) rfl (fun _ => rfl) ?_
                  refine T_ld 81 (.int (i32 v15)) rfl (fun _ => rfl) ?_
                  refine T_call 84 338 [.ref 189, .int (i32 t), .int (i32 v15)] [] rfl (fun _ => rfl) rfl (c_prefixOf w (mO m2 [] []) c N D (by omega) Tm2 t v15 (r32 (by omega) (by omega)) (r32 (by omega) (by omega)) (show 0 ≤ t ∧ t ≤ 7 by omega) (show 0 ≤ v15 ∧ v15 ≤ 95 by omega)) (fun rr116 k117 => ?_)
                  obtain ⟨x118, g119, rfl⟩ := k117
                  refine ⟨_, _, rfl, ?_⟩
                  refine T_ns (st' := [.int (i32 x118)]) rfl ?_
                  obtain ⟨g119a, g119b⟩ := g119
                  refine T_ld 85 (.ref 189) rfl (fun _ => rfl) ?_
                  refine T_ld 86 (.int (i32 t)) rfl (fun _ => rfl) ?_
                  refine T_ld 87 (.int (i32 v14)) rfl (fun _ => rfl) ?_
                  refine T_call 90 338 [.ref 189, .int (i32 t), .int (i32 v14)] [.int (i32 x118)] rfl (fun _ => rfl) rfl (c_prefixOf w (mO m2 [] []) c N D (by omega) Tm2 t v14 (r32 (by omega) (by omega)) (r32 (by omega) (by omega)) (show 0 ≤ t ∧ t ≤ 7 by omega) (show 0 ≤ v14 ∧ v14 ≤ 95 by omega)) (fun rr120 k121 => ?_)
                  obtain ⟨x122, g123, rfl⟩ := k121
                  refine ⟨_, _, rfl, ?_⟩
                  refine T_ns (st' := [.int (i32 x122), .int (i32 x118)]) rfl ?_
                  obtain ⟨g123a, g123b⟩ := g123
                  refine T_icmp 133 93 rfl rfl rfl (r32 (by omega) (by omega)) (r32 (by omega) (by omega)) (fun (h124 : x122 < x118) => ?_) (fun (h124 : ¬ (x122 < x118)) => ?_)
                  · skip
                    refine T_ld 134 (.int (i32 1)) rfl (fun _ => rfl) ?_
                    refine T_goto 138 rfl (fun _ => rfl) ?_
                    refine T_sto 140 [(4, .int (i32 1)), (0, .ref 189), (1, .int (i32 t)), (2, .int (i32 v14)), (3, .int (i32 v15))] rfl (fun _ => rfl) ?_
                    refine T_ld 142 (.int (i32 1)) rfl (fun _ => rfl) ?_
                    refine T_if 149 145 rfl rfl rfl ⟨by decide, by decide⟩ (fun h125 => absurd (show (1 : Int) = 0 from h125) (by decide)) (fun _ => ?_)
                    refine T_ld 146 (.int (i32 v15)) rfl (fun _ => rfl) ?_
                    refine T_goto 150 rfl (fun _ => rfl) ?_
                    refine T_sto 151 [(2, .int (i32 v15)), (4, .int (i32 1)), (0, .ref 189), (1, .int (i32 t)), (3, .int (i32 v15))] rfl (fun _ => rfl) ?_
                    refine T_iinc 154 [(3, .int (i32 (v15 + 1))), (2, .int (i32 v15)), (4, .int (i32 1)), (0, .ref 189), (1, .int (i32 t))] rfl rfl (by decide) rfl rfl ?_
                    refine T_goto 52 rfl (fun _ => rfl) ?_
                    refine Tm_lv (a := [(0, .ref 189), (1, .int (i32 t)), (2, .int (i32 v15)), (3, .int (i32 (v15 + 1)))]) rfl rfl ⟨rfl, rfl, rfl, rfl, trivial⟩ ?_
                    exact ih26 v15 (v15 + 1) (r32 (by omega) (by omega)) (r32 (by omega) (by omega)) (show (-1) ≤ v15 by omega) (show 0 ≤ (v15 + 1) by omega) (show (v15 + 1) ≤ (m.2 139) t by omega) (show (-1) ≤ v15 ∧ v15 < (v15 + 1) by omega) (show ((m.2 139) t) - (v15 + 1) < (n24 : Int) by omega)
                  · skip
                    refine T_ld 94 (.ref 189) rfl (fun _ => rfl) ?_
                    refine T_ld 95 (.int (i32 t)) rfl (fun _ => rfl) ?_
                    refine T_ld 96 (.int (i32 v15)) rfl (fun _ => rfl) ?_
                    refine T_call 99 338 [.ref 189, .int (i32 t), .int (i32 v15)] [] rfl (fun _ => rfl) rfl (c_prefixOf w (mO m2 [] []) c N D (by omega) Tm2 t v15 (r32 (by omega) (by omega)) (r32 (by omega) (by omega)) (show 0 ≤ t ∧ t ≤ 7 by omega) (show 0 ≤ v15 ∧ v15 ≤ 95 by omega)) (fun rr126 k127 => ?_)
                    obtain ⟨x128, g129, rfl⟩ := k127
                    refine ⟨_, _, rfl, ?_⟩
                    refine T_ns (st' := [.int (i32 x128)]) rfl ?_
                    obtain ⟨g129a, g129b⟩ := g129
                    refine T_ld 100 (.ref 189) rfl (fun _ => rfl) ?_
                    refine T_ld 101 (.int (i32 t)) rfl (fun _ => rfl) ?_
                    refine T_ld 102 (.int (i32 v14)) rfl (fun _ => rfl) ?_
                    refine T_call 105 338 [.ref 189, .int (i32 t), .int (i32 v14)] [.int (i32 x128)] rfl (fun _ => rfl) rfl (c_prefixOf w (mO m2 [] []) c N D (by omega) Tm2 t v14 (r32 (by omega) (by omega)) (r32 (by omega) (by omega)) (show 0 ≤ t ∧ t ≤ 7 by omega) (show 0 ≤ v14 ∧ v14 ≤ 95 by omega)) (fun rr130 k131 => ?_)
                    obtain ⟨x132, g133, rfl⟩ := k131
                    refine ⟨_, _, rfl, ?_⟩
                    refine T_ns (st' := [.int (i32 x132), .int (i32 x128)]) rfl ?_
                    obtain ⟨g133a, g133b⟩ := g133
                    refine T_icmp 137 108 rfl rfl rfl (r32 (by omega) (by omega)) (r32 (by omega) (by omega)) (fun (h134 : x128 ≠ x132) => ?_) (fun (h134 : ¬ (x128 ≠ x132)) => ?_)
                    · skip
                      refine T_ld 138 (.int (i32 0)) rfl (fun _ => rfl) ?_
                      refine T_sto 140 [(4, .int (i32 0)), (0, .ref 189), (1, .int (i32 t)), (2, .int (i32 v14)), (3, .int (i32 v15))] rfl (fun _ => rfl) ?_
                      refine T_ld 142 (.int (i32 0)) rfl (fun _ => rfl) ?_
                      refine T_if 149 145 rfl rfl rfl ⟨by decide, by decide⟩ (fun _ => ?_) (fun h135 => absurd (show (0 : Int) = 0 by decide) h135)
                      refine T_ld 150 (.int (i32 v14)) rfl (fun _ => rfl) ?_
                      refine T_sto 151 [(2, .int (i32 v14)), (4, .int (i32 0)), (0, .ref 189), (1, .int (i32 t)), (3, .int (i32 v15))] rfl (fun _ => rfl) ?_
                      refine T_iinc 154 [(3, .int (i32 (v15 + 1))), (2, .int (i32 v14)), (4, .int (i32 0)), (0, .ref 189), (1, .int (i32 t))] rfl rfl (by decide) rfl rfl ?_
                      refine T_goto 52 rfl (fun _ => rfl) ?_
                      refine Tm_lv (a := [(0, .ref 189), (1, .int (i32 t)), (2, .int (i32 v14)), (3, .int (i32 (v15 + 1)))]) rfl rfl ⟨rfl, rfl, rfl, rfl, trivial⟩ ?_
                      exact ih26 v14 (v15 + 1) (r32 (by omega) (by omega)) (r32 (by omega) (by omega)) (show (-1) ≤ v14 by omega) (show 0 ≤ (v15 + 1) by omega) (show (v15 + 1) ≤ (m.2 139) t by omega) (show (-1) ≤ v14 ∧ v14 < (v15 + 1) by omega) (show ((m.2 139) t) - (v15 + 1) < (n24 : Int) by omega)
                    · skip
                      refine T_gf 112 (.ref 294) rfl rfl rfl rfl rfl rfl ?_
                      refine T_ld 113 (.ref 189) rfl (fun _ => rfl) ?_
                      refine T_ld 114 (.int (i32 t)) rfl (fun _ => rfl) ?_
                      refine T_ld 115 (.int (i32 v15)) rfl (fun _ => rfl) ?_
                      refine T_call 118 319 [.ref 189, .int (i32 t), .int (i32 v15)] [.ref 294] rfl (fun _ => rfl) rfl (c_slot w (mO m2 [] []) c N D (by omega) Tm2 t v15 (r32 (by omega) (by omega)) (r32 (by omega) (by omega)) (show 0 ≤ t ∧ t ≤ 7 by omega) (show 0 ≤ v15 ∧ v15 ≤ 96 by omega)) (fun rr136 k137 => ?_)
                      obtain ⟨sl, g138, h139, rfl⟩ := k137
                      refine ⟨_, _, rfl, ?_⟩
                      refine T_ns (st' := [.int (i32 sl), .ref 294]) rfl ?_
                      obtain ⟨g138a, g138b⟩ := g138
                      replace h139 : sl = 96 * t + v15 := h139
                      have hSl := h139
                      refine T_iald 119 140 (m.2 140) rfl rfl rfl (by omega) (show sl < (768 : Int) by omega) (show (m2.2 140) = (m.2 140) from (fr2 Fm2 140 rfl)) ?_
                      have e140 : (-2147483648) ≤ m.2 140 sl ∧ m.2 140 sl ≤ 2147483647 := hT.2.1 140 sl
                      refine T_gf 123 (.ref 294) rfl rfl rfl rfl rfl rfl ?_
                      refine T_ld 124 (.ref 189) rfl (fun _ => rfl) ?_
                      refine T_ld 125 (.int (i32 t)) rfl (fun _ => rfl) ?_
                      refine T_ld 126 (.int (i32 v14)) rfl (fun _ => rfl) ?_
                      refine T_call 129 319 [.ref 189, .int (i32 t), .int (i32 v14)] [.ref 294, .int (i32 ((m.2 140) sl))] rfl (fun _ => rfl) rfl (c_slot w (mO m2 [] []) c N D (by omega) Tm2 t v14 (r32 (by omega) (by omega)) (r32 (by omega) (by omega)) (show 0 ≤ t ∧ t ≤ 7 by omega) (show 0 ≤ v14 ∧ v14 ≤ 96 by omega)) (fun rr141 k142 => ?_)
                      obtain ⟨sl143, g144, h145, rfl⟩ := k142
                      refine ⟨_, _, rfl, ?_⟩
                      refine T_ns (st' := [.int (i32 sl143), .ref 294, .int (i32 ((m.2 140) sl))]) rfl ?_
                      obtain ⟨g144a, g144b⟩ := g144
                      replace h145 : sl143 = 96 * t + v14 := h145
                      have hSl := h145
                      refine T_iald 130 140 (m.2 140) rfl rfl rfl (by omega) (show sl143 < (768 : Int) by omega) (show (m2.2 140) = (m.2 140) from (fr2 Fm2 140 rfl)) ?_
                      have e146 : (-2147483648) ≤ m.2 140 sl143 ∧ m.2 140 sl143 ≤ 2147483647 := hT.2.1 140 sl143
                      refine T_icmp 137 133 rfl rfl rfl (r32 (by omega) (by omega)) (r32 (by omega) (by omega)) (fun (h147 : (m.2 140) sl ≤ (m.2 140) sl143) => ?_) (fun (h147 : ¬ ((m.2 140) sl ≤ (m.2 140) sl143)) => ?_)
                      · skip
                        refine T_ld 138 (.int (i32 0)) rfl (fun _ => rfl) ?_
                        refine T_sto 140 [(4, .int (i32 0)), (0, .ref 189), (1, .int (i32 t)), (2, .int (i32 v14)), (3, .int (i32 v15))] rfl (fun _ => rfl) ?_
                        refine T_ld 142 (.int (i32 0)) rfl (fun _ => rfl) ?_
                        refine T_if 149 145 rfl rfl rfl ⟨by decide, by decide⟩ (fun _ => ?_) (fun h148 => absurd (show (0 : Int) = 0 by decide) h148)
                        refine T_ld 150 (.int (i32 v14)) rfl (fun _ => rfl) ?_
                        refine T_sto 151 [(2, .int (i32 v14)), (4, .int (i32 0)), (0, .ref 189), (1, .int (i32 t)), (3, .int (i32 v15))] rfl (fun _ => rfl) ?_
                        refine T_iinc 154 [(3, .int (i32 (v15 + 1))), (2, .int (i32 v14)), (4, .int (i32 0)), (0, .ref 189), (1, .int (i32 t))] rfl rfl (by decide) rfl rfl ?_
                        refine T_goto 52 rfl (fun _ => rfl) ?_
                        refine Tm_lv (a := [(0, .ref 189), (1, .int (i32 t)), (2, .int (i32 v14)), (3, .int (i32 (v15 + 1)))]) rfl rfl ⟨rfl, rfl, rfl, rfl, trivial⟩ ?_
                        exact ih26 v14 (v15 + 1) (r32 (by omega) (by omega)) (r32 (by omega) (by omega)) (show (-1) ≤ v14 by omega) (show 0 ≤ (v15 + 1) by omega) (show (v15 + 1) ≤ (m.2 139) t by omega) (show (-1) ≤ v14 ∧ v14 < (v15 + 1) by omega) (show ((m.2 139) t) - (v15 + 1) < (n24 : Int) by omega)
                      · skip
                        refine T_ld 134 (.int (i32 1)) rfl (fun _ => rfl) ?_
                        refine T_goto 138 rfl (fun _ => rfl) ?_
                        refine T_sto 140 [(4, .int (i32 1)), (0, .ref 189), (1, .int (i32 t)), (2, .int (i32 v14)), (3, .int (i32 v15))] rfl (fun _ => rfl) ?_
                        refine T_ld 142 (.int (i32 1)) rfl (fun _ => rfl) ?_
                        refine T_if 149 145 rfl rfl rfl ⟨by decide, by decide⟩ (fun h149 => absurd (show (1 : Int) = 0 from h149) (by decide)) (fun _ => ?_)
                        refine T_ld 146 (.int (i32 v15)) rfl (fun _ => rfl) ?_
                        refine T_goto 150 rfl (fun _ => rfl) ?_
                        refine T_sto 151 [(2, .int (i32 v15)), (4, .int (i32 1)), (0, .ref 189), (1, .int (i32 t)), (3, .int (i32 v15))] rfl (fun _ => rfl) ?_
                        refine T_iinc 154 [(3, .int (i32 (v15 + 1))), (2, .int (i32 v15)), (4, .int (i32 1)), (0, .ref 189), (1, .int (i32 t))] rfl rfl (by decide) rfl rfl ?_
                        refine T_goto 52 rfl (fun _ => rfl) ?_
                        refine Tm_lv (a := [(0, .ref 189), (1, .int (i32 t)), (2, .int (i32 v15)), (3, .int (i32 (v15 + 1)))]) rfl rfl ⟨rfl, rfl, rfl, rfl, trivial⟩ ?_
                        exact ih26 v15 (v15 + 1) (r32 (by omega) (by omega)) (r32 (by omega) (by omega)) (show (-1) ≤ v15 by omega) (show 0 ≤ (v15 + 1) by omega) (show (v15 + 1) ≤ (m.2 139) t by omega) (show (-1) ≤ v15 ∧ v15 < (v15 + 1) by omega) (show ((m.2 139) t) - (v15 + 1) < (n24 : Int) by omega)
              · skip
                refine T_goto 151 rfl (fun _ => rfl) ?_
                refine T_iinc 154 [(3, .int (i32 (v15 + 1))), (0, .ref 189), (1, .int (i32 t)), (2, .int (i32 v14))] rfl rfl (by decide) rfl rfl ?_
                refine T_goto 52 rfl (fun _ => rfl) ?_
                refine Tm_lv (a := [(0, .ref 189), (1, .int (i32 t)), (2, .int (i32 v14)), (3, .int (i32 (v15 + 1)))]) rfl rfl ⟨rfl, rfl, rfl, rfl, trivial⟩ ?_
                exact ih26 v14 (v15 + 1) (r32 (by omega) (by omega)) (r32 (by omega) (by omega)) (show (-1) ≤ v14 by omega) (show 0 ≤ (v15 + 1) by omega) (show (v15 + 1) ≤ (m.2 139) t by omega) (show (-1) ≤ v14 ∧ v14 < (v15 + 1) by omega) (show ((m.2 139) t) - (v15 + 1) < (n24 : Int) by omega)
        refine Tm_lv (a := [(0, .ref 189), (1, .int (i32 t)), (2, .int (i32 (-1))), (3, .int (i32 0))]) rfl rfl ⟨rfl, rfl, rfl, rfl, trivial⟩ ?_
        exact L52_16 ((((m.2 139) t) - (0 : Int) : Int) + 1).toNat (-1) 0 ⟨by decide, by decide⟩ ⟨by decide, by decide⟩ (show (-1) ≤ (-1 : Int) by omega) (show 0 ≤ (0 : Int) by omega) (show (0 : Int) ≤ (m.2 139) t by omega) (show (-1) ≤ (-1 : Int) ∧ (-1 : Int) < (0 : Int) by omega) (show ((m.2 139) t) - (0 : Int) < ((((((m.2 139) t) - (0 : Int) : Int) + 1).toNat : Nat) : Int) by omega)
      · skip
        have hcd := hb1 (4 * t + v1) (by omega) (by omega)
        refine T_gf 16 (.ref 325) rfl rfl rfl rfl rfl rfl ?_
        refine T_ld 17 (.int (i32 v1)) rfl (fun _ => rfl) ?_
        refine T_ld 18 (.ref 189) rfl (fun _ => rfl) ?_
        refine T_gf 22 (.ref 270) rfl rfl rfl rfl rfl rfl ?_
        refine T_ld 23 (.int (i32 4)) rfl (fun _ => rfl) ?_
        refine T_ld 24 (.int (i32 t)) rfl (fun _ => rfl) ?_
        refine T_imul 25 rfl rfl ?_
        refine T_ld 26 (.int (i32 v1)) rfl (fun _ => rfl) ?_
        refine T_iadd 27 rfl rfl ?_
        refine T_iald 28 110 (m.2 110) rfl rfl rfl (by omega) (show ((4 * t) + v1) < (32 : Int) by omega) (show (m2.2 110) = (m.2 110) from (fr2 Fm2 110 rfl)) ?_
        have e150 : 0 ≤ m.2 110 ((4 * t) + v1) ∧ m.2 110 ((4 * t) + v1) ≤ 800 := hT.2.1 110 ((4 * t) + v1)
        refine T_gf 32 (.ref 271) rfl rfl rfl rfl rfl rfl ?_
        refine T_ld 33 (.int (i32 4)) rfl (fun _ => rfl) ?_
        refine T_ld 34 (.int (i32 t)) rfl (fun _ => rfl) ?_
        refine T_imul 35 rfl rfl ?_
        refine T_ld 36 (.int (i32 v1)) rfl (fun _ => rfl) ?_
        refine T_iadd 37 rfl rfl ?_
        refine T_iald 38 111 (m.2 111) rfl rfl rfl (by omega) (show ((4 * t) + v1) < (32 : Int) by omega) (show (m2.2 111) = (m.2 111) from (fr2 Fm2 111 rfl)) ?_
        have e151 : 0 ≤ m.2 111 ((4 * t) + v1) ∧ m.2 111 ((4 * t) + v1) ≤ 800 := hT.2.1 111 ((4 * t) + v1)
        refine T_call 41 327 [.ref 189, .int (i32 ((m.2 110) ((4 * t) + v1))), .int (i32 ((m.2 111) ((4 * t) + v1)))] [.int (i32 v1), .ref 325] rfl (fun _ => rfl) rfl (c_worth w (mO m2 [] []) c N D (by omega) Tm2 ((m.2 110) ((4 * t) + v1)) ((m.2 111) ((4 * t) + v1)) (r32 (by omega) (by omega)) (r32 (by omega) (by omega)) (show 0 ≤ ((m.2 110) ((4 * t) + v1)) ∧ ((m.2 110) ((4 * t) + v1)) ≤ 800 by omega) (show 0 ≤ ((m.2 111) ((4 * t) + v1)) ∧ ((m.2 111) ((4 * t) + v1)) ≤ 800 by omega) (show cdr (m2.2 65) (m2.1 28) ((m.2 110) ((4 * t) + v1)) ((m.2 111) ((4 * t) + v1)) by rewrite [(show (m2.2 65) = (m.2 65) from (fr2 Fm2 65 rfl)), (show (m2.1 28) = (m.1 28) from (fr1 Fm2 28 rfl))]; exact hcd) (show CN (m2.2 65) (m2.2 67) (m2.1 28) by rewrite [(show (m2.2 65) = (m.2 65) from (fr2 Fm2 65 rfl)), (show (m2.2 67) = (m.2 67) from (fr2 Fm2 67 rfl)), (show (m2.1 28) = (m.1 28) from (fr1 Fm2 28 rfl))]; exact hCN)) (fun rr152 k153 => ?_)
        obtain ⟨m154, wo, Tm154, Fm154, g155, rfl⟩ := k153
        refine ⟨_, _, rfl, ?_⟩
        refine T_nb (st' := [.long (i64 wo), .int (i32 v1), .ref 325]) rfl ?_
        obtain ⟨g155a, g155b⟩ := g155
        have G156 : ∀ j, (-9223372036854775808) ≤ (upI (m2.2 178) v1 wo) j ∧ (upI (m2.2 178) v1 wo) j ≤ 9223372036854775807 := upI_rg (Tm2.2.1 178) ⟨by omega, by omega⟩
        refine T_last (a' := [(178, upI (m2.2 178) v1 wo)]) 42 178 (m2.2 178) rfl rfl rfl (by omega) (show v1 < (4 : Int) by omega) (show (m154.2 178) = (m2.2 178) from (fr2 Fm154 178 rfl)) rfl ?_
        refine T_iinc 45 [(2, .int (i32 (v1 + 1))), (0, .ref 189), (1, .int (i32 t))] rfl rfl (by decide) rfl rfl ?_
        refine T_goto 2 rfl (fun _ => rfl) ?_
        refine Tm_lv (a := [(0, .ref 189), (1, .int (i32 t)), (2, .int (i32 (v1 + 1)))]) rfl rfl ⟨rfl, rfl, rfl, trivial⟩ ?_
        exact ih11 (v1 + 1) (mO m154 [] [(178, upI (m2.2 178) v1 wo)]) (r32 (by omega) (by omega)) (Ty_mO Tm154 rfl rfl trivial ⟨G156, trivial⟩) (fr_m (fr_s Fm154 (fr_m (fr_s Fm2 (fr_m fr_0 rfl rfl) rfl rfl) rfl rfl) rfl rfl) rfl rfl) (show 0 ≤ (v1 + 1) by omega) (show (v1 + 1) ≤ (m.2 51) t by omega) (show ((m.2 51) t) - (v1 + 1) < (n9 : Int) by omega)
  refine Tm_lv (a := [(0, .ref 189), (1, .int (i32 t)), (2, .int (i32 0))]) rfl rfl ⟨rfl, rfl, rfl, trivial⟩ ?_
  exact L2_3 ((((m.2 51) t) - (0 : Int) : Int) + 1).toNat 0 (mO m [] []) ⟨by decide, by decide⟩ hT (fr_m fr_0 rfl rfl) (show 0 ≤ (0 : Int) by omega) (show (0 : Int) ≤ (m.2 51) t by omega) (show ((m.2 51) t) - (0 : Int) < ((((((m.2 51) t) - (0 : Int) : Int) + 1).toNat : Nat) : Int) by omega)
def fF_goThrough : List Nat := [177]
def fA_goThrough : List Nat := [138, 169, 171, 172, 173, 174, 175, 178]
def Q_goThrough (m : mR) (c : Nat → Option am_C) (N : Nat) (a : Int) : ag_Re af_T → Prop := fun R => ∃ (M : mR), Ty M ∧ fr fF_goThrough fA_goThrough m M ∧ R = (.inl (none), (mhp M c, N), 0, 0)
set_option maxHeartbeats 3000000 in
theorem c_goThrough (w : wX) (m : mR) (c : Nat → Option am_C) (N D : Nat) (hD : 7 ≤ D) (hT : Ty m) (a : Int) (qa : R32 a) (p0 : 0 ≤ a ∧ a ≤ 127) (hCN : CN (m.2 65) (m.2 67) (m.1 28)) (pTd : TdP (m.2 65) (m.1 28) (m.1 22) (m.1 99) (m.2 101) (m.2 103) (m.2 105) (m.2 106) (m.2 107) (m.2 108)) (pAc : AcP (m.1 25) (m.1 99) (m.2 109) (m.2 50)) (pTb : TbP (m.2 65) (m.1 28) (m.1 25) (m.1 26) (m.2 51) (m.2 110) (m.2 111) (m.2 57) (m.2 53) (m.2 114) (m.2 58) (m.2 54)) (pSp : SpP (m.2 65) (m.1 28) (m.1 99) (m.1 26) (m.1 27) (m.2 60) (m.2 61) (m.2 120) (m.2 121) (m.2 122) (m.2 63)) (pAR : ∀ k, 0 ≤ k → k < (m.1 22) → 1 ≤ (m.2 93) k ∧ 1 ≤ (m.2 36) k) (hEAp : EAp (m.1 25) (m.2 139) (m.2 141)) : TC w D 331 [.ref 189, .int (i32 a)] (mhp m c, N) (Q_goThrough m c N a) := by
  obtain ⟨D, rfl⟩ : ∃ k, D = k + 1 := ⟨D - 1, by omega⟩
  obtain ⟨qaa, qab⟩ := id qa
  have f25 : 0 ≤ m.1 25 ∧ m.1 25 ≤ 16 := hT.1 25
  have f22 : 0 ≤ m.1 22 ∧ m.1 22 ≤ 8 := hT.1 22
  have f28 : 0 ≤ m.1 28 ∧ m.1 28 ≤ 800 := hT.1 28
  have f27 : 0 ≤ m.1 27 ∧ m.1 27 ≤ 48 := hT.1 27
  have f26 : 0 ≤ m.1 26 ∧ m.1 26 ≤ 8 := hT.1 26
  have f99 : 0 ≤ m.1 99 ∧ m.1 99 ≤ 240 := hT.1 99
  refine Tc_of rfl ?_
  show TT w D pm_331 (0, [(0, .ref 189), (1, .int (i32 a))], [], (mhp (mO m [] []) c, N), 0, 0) (Q_goThrough m c N a)
  refine T_ld 1 (.int (i32 0)) rfl (fun _ => rfl) ?_
  refine T_sto 2 [(2, .int (i32 0)), (0, .ref 189), (1, .int (i32 a))] rfl (fun _ => rfl) ?_
  have L2_3 : ∀ (n9 : Nat) (v1 : Int) (m2 : mR), (R32 v1) → Ty m2 → fr [177] [138, 169, 171, 172, 173, 174, 175, 178] (mO m [] []) m2 → (0 ≤ v1) → (v1 ≤ (m.1 27)) → (m.1 27) - v1 < (n9 : Int) → TT w D pm_331 (2, [(0, .ref 189), (1, .int (i32 a)), (2, .int (i32 v1))], [], (mhp (mO m2 [] []) c, N), 0, 0) (Q_goThrough m c N a) := by
    intro n9
    induction n9 with
    | zero =>
      intro v1 m2 q6 Tm2 Fm2 ic4 ic5 hmu
      obtain ⟨q6a, q6b⟩ := id q6
      exfalso
      omega
    | succ n9 ih =>
      intro v1 m2 q6 Tm2 Fm2 ic4 ic5 hmu
      obtain ⟨q6a, q6b⟩ := id q6
      have ih10 := ih
      refine T_ld 3 (.int (i32 v1)) rfl (fun _ => rfl) ?_
      refine T_gf 7 (.int (i32 (m.1 27))) rfl rfl rfl rfl (mfv_c (F := fun x => .int (i32 x)) rfl (show (m2.1 27) = (m.1 27) from (fr1 Fm2 27 rfl))) rfl ?_
      refine T_icmp 132 10 rfl rfl rfl (r32 (by omega) (by omega)) (r32 (by omega) (by omega)) (fun (h11 : (m.1 27) ≤ v1) => ?_) (fun (h11 : ¬ ((m.1 27) ≤ v1)) => ?_)
      · skip
        refine T_ret rfl (fun _ => rfl) ?_
        exact ⟨(mO m2 [] []), Tm2, (fr_m (fr_s Fm2 (fr_m fr_0 rfl rfl) rfl rfl) rfl rfl), rfl⟩
      · skip
        obtain ⟨hs1, hs2, hs3, hs4⟩ := pSp v1 (by omega) (by omega)
        refine T_gf 14 (.ref 231) rfl rfl rfl rfl rfl rfl ?_
        refine T_ld 15 (.int (i32 v1)) rfl (fun _ => rfl) ?_
        refine T_iald 16 61 (m.2 61) rfl rfl rfl (by omega) (show v1 < (48 : Int) by omega) (show (m2.2 61) = (m.2 61) from (fr2 Fm2 61 rfl)) ?_
        have e12 : (-1) ≤ m.2 61 v1 ∧ m.2 61 v1 ≤ 47 := hT.2.1 61 v1
        refine T_sto 17 [(3, .int (i32 ((m.2 61) v1))), (0, .ref 189), (1, .int (i32 a)), (2, .int (i32 v1))] rfl (fun _ => rfl) ?_
        refine T_ld 18 (.int (i32 ((m.2 61) v1))) rfl (fun _ => rfl) ?_
        refine T_if 44 21 rfl rfl rfl (r32 (by omega) (by omega)) (fun (h13 : (m.2 61) v1 < 0) => ?_) (fun (h13 : ¬ ((m.2 61) v1 < 0)) => ?_)
        · skip
          refine T_ld 45 (.int (i32 0)) rfl (fun _ => rfl) ?_
          refine T_sto 47 [(4, .int (i32 0)), (3, .int (i32 ((m.2 61) v1))), (0, .ref 189), (1, .int (i32 a)), (2, .int (i32 v1))] rfl (fun _ => rfl) ?_
          refine T_gf 51 (.ref 230) rfl rfl rfl rfl rfl rfl ?_
          refine T_ld 52 (.int (i32 v1)) rfl (fun _ => rfl) ?_
          refine T_iald 53 60 (m.2 60) rfl rfl rfl (by omega) (show v1 < (48 : Int) by omega) (show (m2.2 60) = (m.2 60) from (fr2 Fm2 60 rfl)) ?_
          have e14 : 0 ≤ m.2 60 v1 ∧ m.2 60 v1 ≤ 2 := hT.2.1 60 v1
          refine T_if 69 56 rfl rfl rfl (r32 (by omega) (by omega)) (fun (h15 : (m.2 60) v1 ≠ 0) => ?_) (fun (h15 : ¬ ((m.2 60) v1 ≠ 0)) => ?_)
          · skip
            refine T_gf 73 (.ref 230) rfl rfl rfl rfl rfl rfl ?_
            refine T_ld 74 (.int (i32 v1)) rfl (fun _ => rfl) ?_
            refine T_iald 75 60 (m.2 60) rfl rfl rfl (by omega) (show v1 < (48 : Int) by omega) (show (m2.2 60) = (m.2 60) from (fr2 Fm2 60 rfl)) ?_
            have e16 : 0 ≤ m.2 60 v1 ∧ m.2 60 v1 ≤ 2 := hT.2.1 60 v1
            refine T_ld 76 (.int (i32 1)) rfl (fun _ => rfl) ?_
            refine T_icmp 101 79 rfl rfl rfl (r32 (by omega) (by omega)) ⟨by decide, by decide⟩ (fun (h17 : (m.2 60) v1 ≠ 1) => ?_) (fun (h17 : ¬ ((m.2 60) v1 ≠ 1)) => ?_)
            · skip
              have hs6 := hs4 (by omega)
              refine T_ld 102 (.ref 189) rfl (fun _ => rfl) ?_
              refine T_gf 106 (.ref 233) rfl rfl rfl rfl rfl rfl ?_
              refine T_ld 107 (.int (i32 v1)) rfl (fun _ => rfl) ?_
              refine T_iald 108 63 (m.2 63) rfl rfl rfl (by omega) (show v1 < (48 : Int) by omega) (show (m2.2 63) = (m.2 63) from (fr2 Fm2 63 rfl)) ?_
              have e18 : (-1) ≤ m.2 63 v1 ∧ m.2 63 v1 ≤ 7 := hT.2.1 63 v1
              refine T_call 111 336 [.ref 189, .int (i32 ((m.2 63) v1))] [] rfl (fun _ => rfl) rfl (c_doTable w (mO m2 [] []) c N D (by omega) Tm2 ((m.2 63) v1) (r32 (by omega) (by omega)) (show 0 ≤ ((m.2 63) v1) ∧ ((m.2 63) v1) ≤ 7 by omega) (show ((m.2 63) v1) < (m2.1 26) by rewrite [(show (m2.1 26) = (m.1 26) from (fr1 Fm2 26 rfl))]; omega) (show CN (m2.2 65) (m2.2 67) (m2.1 28) by rewrite [(show (m2.2 65) = (m.2 65) from (fr2 Fm2 65 rfl)), (show (m2.2 67) = (m.2 67) from (fr2 Fm2 67 rfl)), (show (m2.1 28) = (m.1 28) from (fr1 Fm2 28 rfl))]; exact hCN) (show TdP (m2.2 65) (m2.1 28) (m2.1 22) (m2.1 99) (m2.2 101) (m2.2 103) (m2.2 105) (m2.2 106) (m2.2 107) (m2.2 108) by rewrite [(show (m2.2 65) = (m.2 65) from (fr2 Fm2 65 rfl)), (show (m2.1 28) = (m.1 28) from (fr1 Fm2 28 rfl)), (show (m2.1 22) = (m.1 22) from (fr1 Fm2 22 rfl)), (show (m2.1 99) = (m.1 99) from (fr1 Fm2 99 rfl)), (show (m2.2 101) = (m.2 101) from (fr2 Fm2 101 rfl)), (show (m2.2 103) = (m.2 103) from (fr2 Fm2 103 rfl)), (show (m2.2 105) = (m.2 105) from (fr2 Fm2 105 rfl)), (show (m2.2 106) = (m.2 106) from (fr2 Fm2 106 rfl)), (show (m2.2 107) = (m.2 107) from (fr2 Fm2 107 rfl)), (show (m2.2 108) = (m.2 108) from (fr2 Fm2 108 rfl))]; exact pTd) (show AcP (m2.1 25) (m2.1 99) (m2.2 109) (m2.2 50) by rewrite [(show (m2.1 25) = (m.1 25) from (fr1 Fm2 25 rfl)), (show (m2.1 99) = (m.1 99) from (fr1 Fm2 99 rfl)), (show (m2.2 109) = (m.2 109) from (fr2 Fm2 109 rfl)), (show (m2.2 50) = (m.2 50) from (fr2 Fm2 50 rfl))]; exact pAc) (show TbP (m2.2 65) (m2.1 28) (m2.1 25) (m2.1 26) (m2.2 51) (m2.2 110) (m2.2 111) (m2.2 57) (m2.2 53) (m2.2 114) (m2.2 58) (m2.2 54) by rewrite [(show (m2.2 65) = (m.2 65) from (fr2 Fm2 65 rfl)), (show (m2.1 28) = (m.1 28) from (fr1 Fm2 28 rfl)), (show (m2.1 25) = (m.1 25) from (fr1 Fm2 25 rfl)), (show (m2.1 26) = (m.1 26) from (fr1 Fm2 26 rfl)), (show (m2.2 51) = (m.2 51) from (fr2 Fm2 51 rfl)), (show (m2.2 110) = (m.2 110) from (fr2 Fm2 110 rfl)), (show (m2.2 111) = (m.2 111) from (fr2 Fm2 111 rfl)), (show (m2.2 57) = (m.2 57) from (fr2 Fm2 57 rfl)), (show (m2.2 53) = (m.2 53) from (fr2 Fm2 53 rfl)), (show (m2.2 114) = (m.2 114) from (fr2 Fm2 114 rfl)), (show (m2.2 58) = (m.2 58) from (fr2 Fm2 58 rfl)), (show (m2.2 54) = (m.2 54) from (fr2 Fm2 54 rfl))]; exact pTb) (show ∀ k, 0 ≤ k → k < (m2.1 22) → 1 ≤ (m2.2 93) k ∧ 1 ≤ (m2.2 36) k by rewrite [(show (m2.1 22) = (m.1 22) from (fr1 Fm2 22 rfl)), (show (m2.2 93) = (m.2 93) from (fr2 Fm2 93 rfl)), (show (m2.2 36) = (m.2 36) from (fr2 Fm2 36 rfl))]; exact pAR) (show EAp (m2.1 25) (m2.2 139) (m2.2 141) by rewrite [(show (m2.1 25) = (m.1 25) from (fr1 Fm2 25 rfl)), (show (m2.2 139) = (m.2 139) from (fr2 Fm2 139 rfl)), (show (m2.2 141) = (m.2 141) from (fr2 Fm2 141 rfl))]; exact hEAp)) (fun rr19 k20 => ?_)
              obtain ⟨m21, dt, Tm21, Fm21, g22, rfl⟩ := k20
              refine ⟨_, _, rfl, ?_⟩
              refine T_nb (st' := [.int (i32 dt)]) rfl ?_
              obtain ⟨g22a, g22b⟩ := g22
              refine T_sto 113 [(4, .int (i32 dt)), (3, .int (i32 ((m.2 61) v1))), (0, .ref 189), (1, .int (i32 a)), (2, .int (i32 v1))] rfl (fun _ => rfl) ?_
              refine T_gf 117 (.ref 318) rfl rfl rfl rfl rfl rfl ?_
              refine T_ld 119 (.int (i32 48)) rfl (fun _ => rfl) ?_
              refine T_ld 120 (.int (i32 a)) rfl (fun _ => rfl) ?_
              refine T_imul 121 rfl rfl ?_
              refine T_ld 122 (.int (i32 v1)) rfl (fun _ => rfl) ?_
              refine T_iadd 123 rfl rfl ?_
              refine T_ld 125 (.int (i32 dt)) rfl (fun _ => rfl) ?_
              have G23 : ∀ j, (-2147483648) ≤ (upI (m2.2 169) ((48 * a) + v1) dt) j ∧ (upI (m2.2 169) ((48 * a) + v1) dt) j ≤ 2147483647 := upI_rg (Tm2.2.1 169) ⟨by omega, by omega⟩
              refine T_iast (a' := [(169, upI (m2.2 169) ((48 * a) + v1) dt)]) 126 169 (m2.2 169) rfl rfl rfl (by omega) (show ((48 * a) + v1) < (6144 : Int) by omega) (show (m21.2 169) = (m2.2 169) from (fr2 Fm21 169 rfl)) rfl ?_
              refine T_iinc 129 [(2, .int (i32 (v1 + 1))), (4, .int (i32 dt)), (3, .int (i32 ((m.2 61) v1))), (0, .ref 189), (1, .int (i32 a))] rfl rfl (by decide) rfl rfl ?_
              refine T_goto 2 rfl (fun _ => rfl) ?_
              refine Tm_lv (a := [(0, .ref 189), (1, .int (i32 a)), (2, .int (i32 (v1 + 1)))]) rfl rfl ⟨rfl, rfl, rfl, trivial⟩ ?_
              exact ih10 (v1 + 1) (mO m21 [] [(169, upI (m2.2 169) ((48 * a) + v1) dt)]) (r32 (by omega) (by omega)) (Ty_mO Tm21 rfl rfl trivial ⟨G23, trivial⟩) (fr_m (fr_s Fm21 (fr_m (fr_s Fm2 (fr_m fr_0 rfl rfl) rfl rfl) rfl rfl) rfl rfl) rfl rfl) (show 0 ≤ (v1 + 1) by omega) (show (v1 + 1) ≤ (m.1 27) by omega) (show (m.1 27) - (v1 + 1) < (n9 : Int) by omega)
            · skip
              have hcd := hs3 (by omega)
              refine T_ld 80 (.ref 189) rfl (fun _ => rfl) ?_
              refine T_gf 84 (.ref 280) rfl rfl rfl rfl rfl rfl ?_
              refine T_ld 85 (.int (i32 v1)) rfl (fun _ => rfl) ?_
              refine T_iald 86 121 (m.2 121) rfl rfl rfl (by omega) (show v1 < (48 : Int) by omega) (show (m2.2 121) = (m.2 121) from (fr2 Fm2 121 rfl)) ?_
              have e24 : 0 ≤ m.2 121 v1 ∧ m.2 121 v1 ≤ 800 := hT.2.1 121 v1
              refine T_gf 90 (.ref 281) rfl rfl rfl rfl rfl rfl ?_
              refine T_ld 91 (.int (i32 v1)) rfl (fun _ => rfl) ?_
              refine T_iald 92 122 (m.2 122) rfl rfl rfl (by omega) (show v1 < (48 : Int) by omega) (show (m2.2 122) = (m.2 122) from (fr2 Fm2 122 rfl)) ?_
              have e25 : 0 ≤ m.2 122 v1 ∧ m.2 122 v1 ≤ 800 := hT.2.1 122 v1
              refine T_call 95 327 [.ref 189, .int (i32 ((m.2 121) v1)), .int (i32 ((m.2 122) v1))] [] rfl (fun _ => rfl) rfl (c_worth w (mO m2 [] []) c N D (by omega) Tm2 ((m.2 121) v1) ((m.2 122) v1) (r32 (by omega) (by omega)) (r32 (by omega) (by omega)) (show 0 ≤ ((m.2 121) v1) ∧ ((m.2 121) v1) ≤ 800 by omega) (show 0 ≤ ((m.2 122) v1) ∧ ((m.2 122) v1) ≤ 800 by omega) (show cdr (m2.2 65) (m2.1 28) ((m.2 121) v1) ((m.2 122) v1) by rewrite [(show (m2.2 65) = (m.2 65) from (fr2 Fm2 65 rfl)), (show (m2.1 28) = (m.1 28) from (fr1 Fm2 28 rfl))]; exact hcd) (show CN (m2.2 65) (m2.2 67) (m2.1 28) by rewrite [(show (m2.2 65) = (m.2 65) from (fr2 Fm2 65 rfl)), (show (m2.2 67) = (m.2 67) from (fr2 Fm2 67 rfl)), (show (m2.1 28) = (m.1 28) from (fr1 Fm2 28 rfl))]; exact hCN)) (fun rr26 k27 => ?_)
              obtain ⟨m28, wo, Tm28, Fm28, g29, rfl⟩ := k27
              refine ⟨_, _, rfl, ?_⟩
              refine T_nb (st' := [.long (i64 wo)]) rfl ?_
              obtain ⟨g29a, g29b⟩ := g29
              refine T_l2i 96 rfl rfl ?_
              refine T_inm (fun z30 h31 => ?_)
              obtain ⟨h31a, h31b⟩ := h31
              refine T_sto 98 [(4, .int (i32 z30)), (3, .int (i32 ((m.2 61) v1))), (0, .ref 189), (1, .int (i32 a)), (2, .int (i32 v1))] rfl (fun _ => rfl) ?_
              refine T_goto 113 rfl (fun _ => rfl) ?_
              refine T_gf 117 (.ref 318) rfl rfl rfl rfl rfl rfl ?_
              refine T_ld 119 (.int (i32 48)) rfl (fun _ => rfl) ?_
              refine T_ld 120 (.int (i32 a)) rfl (fun _ => rfl) ?_
              refine T_imul 121 rfl rfl ?_
              refine T_ld 122 (.int (i32 v1)) rfl (fun _ => rfl) ?_
              refine T_iadd 123 rfl rfl ?_
              refine T_ld 125 (.int (i32 z30)) rfl (fun _ => rfl) ?_
              have G32 : ∀ j, (-2147483648) ≤ (upI (m2.2 169) ((48 * a) + v1) z30) j ∧ (upI (m2.2 169) ((48 * a) + v1) z30) j ≤ 2147483647 := upI_rg (Tm2.2.1 169) ⟨by omega, by omega⟩
              refine T_iast (a' := [(169, upI (m2.2 169) ((48 * a) + v1) z30)]) 126 169 (m2.2 169) rfl rfl rfl (by omega) (show ((48 * a) + v1) < (6144 : Int) by omega) (show (m28.2 169) = (m2.2 169) from (fr2 Fm28 169 rfl)) rfl ?_
              refine T_iinc 129 [(2, .int (i32 (v1 + 1))), (4, .int (i32 z30)), (3, .int (i32 ((m.2 61) v1))), (0, .ref 189), (1, .int (i32 a))] rfl rfl (by decide) rfl rfl ?_
              refine T_goto 2 rfl (fun _ => rfl) ?_
              refine Tm_lv (a := [(0, .ref 189), (1, .int (i32 a)), (2, .int (i32 (v1 + 1)))]) rfl rfl ⟨rfl, rfl, rfl, trivial⟩ ?_
              exact ih10 (v1 + 1) (mO m28 [] [(169, upI (m2.2 169) ((48 * a) + v1) z30)]) (r32 (by omega) (by omega)) (Ty_mO Tm28 rfl rfl trivial ⟨G32, trivial⟩) (fr_m (fr_s Fm28 (fr_m (fr_s Fm2 (fr_m fr_0 rfl rfl) rfl rfl) rfl rfl) rfl rfl) rfl rfl) (show 0 ≤ (v1 + 1) by omega) (show (v1 + 1) ≤ (m.1 27) by omega) (show (m.1 27) - (v1 + 1) < (n9 : Int) by omega)
          · skip
            have hs5 := hs2 (by omega)
            refine T_ld 57 (.ref 189) rfl (fun _ => rfl) ?_
            refine T_gf 61 (.ref 279) rfl rfl rfl rfl rfl rfl ?_
            refine T_ld 62 (.int (i32 v1)) rfl (fun _ => rfl) ?_
            refine T_iald 63 120 (m.2 120) rfl rfl rfl (by omega) (show v1 < (48 : Int) by omega) (show (m2.2 120) = (m.2 120) from (fr2 Fm2 120 rfl)) ?_
            have e33 : 0 ≤ m.2 120 v1 ∧ m.2 120 v1 ≤ 240 := hT.2.1 120 v1
            refine T_call 66 332 [.ref 189, .int (i32 ((m.2 120) v1))] [] rfl (fun _ => rfl) rfl (c_doStatement w (mO m2 [] []) c N D (by omega) Tm2 ((m.2 120) v1) (r32 (by omega) (by omega)) (show 0 ≤ ((m.2 120) v1) ∧ ((m.2 120) v1) ≤ 239 by omega) (show ((m.2 120) v1) < (m2.1 99) by rewrite [(show (m2.1 99) = (m.1 99) from (fr1 Fm2 99 rfl))]; omega) (show CN (m2.2 65) (m2.2 67) (m2.1 28) by rewrite [(show (m2.2 65) = (m.2 65) from (fr2 Fm2 65 rfl)), (show (m2.2 67) = (m.2 67) from (fr2 Fm2 67 rfl)), (show (m2.1 28) = (m.1 28) from (fr1 Fm2 28 rfl))]; exact hCN) (show TdP (m2.2 65) (m2.1 28) (m2.1 22) (m2.1 99) (m2.2 101) (m2.2 103) (m2.2 105) (m2.2 106) (m2.2 107) (m2.2 108) by rewrite [(show (m2.2 65) = (m.2 65) from (fr2 Fm2 65 rfl)), (show (m2.1 28) = (m.1 28) from (fr1 Fm2 28 rfl)), (show (m2.1 22) = (m.1 22) from (fr1 Fm2 22 rfl)), (show (m2.1 99) = (m.1 99) from (fr1 Fm2 99 rfl)), (show (m2.2 101) = (m.2 101) from (fr2 Fm2 101 rfl)), (show (m2.2 103) = (m.2 103) from (fr2 Fm2 103 rfl)), (show (m2.2 105) = (m.2 105) from (fr2 Fm2 105 rfl)), (show (m2.2 106) = (m.2 106) from (fr2 Fm2 106 rfl)), (show (m2.2 107) = (m.2 107) from (fr2 Fm2 107 rfl)), (show (m2.2 108) = (m.2 108) from (fr2 Fm2 108 rfl))]; exact pTd) (show ∀ k, 0 ≤ k → k < (m2.1 22) → 1 ≤ (m2.2 93) k ∧ 1 ≤ (m2.2 36) k by rewrite [(show (m2.1 22) = (m.1 22) from (fr1 Fm2 22 rfl)), (show (m2.2 93) = (m.2 93) from (fr2 Fm2 93 rfl)), (show (m2.2 36) = (m.2 36) from (fr2 Fm2 36 rfl))]; exact pAR)) (fun rr34 k35 => ?_)
            obtain ⟨m36, Tm36, Fm36, rfl⟩ := k35
            refine ⟨_, _, rfl, ?_⟩
            refine T_nb (st' := []) rfl ?_
            refine T_goto 113 rfl (fun _ => rfl) ?_
            refine T_gf 117 (.ref 318) rfl rfl rfl rfl rfl rfl ?_
            refine T_ld 119 (.int (i32 48)) rfl (fun _ => rfl) ?_
            refine T_ld 120 (.int (i32 a)) rfl (fun _ => rfl) ?_
            refine T_imul 121 rfl rfl ?_
            refine T_ld 122 (.int (i32 v1)) rfl (fun _ => rfl) ?_
            refine T_iadd 123 rfl rfl ?_
            refine T_ld 125 (.int (i32 0)) rfl (fun _ => rfl) ?_
            have G37 : ∀ j, (-2147483648) ≤ (upI (m2.2 169) ((48 * a) + v1) 0) j ∧ (upI (m2.2 169) ((48 * a) + v1) 0) j ≤ 2147483647 := upI_rg (Tm2.2.1 169) ⟨by omega, by omega⟩
            refine T_iast (a' := [(169, upI (m2.2 169) ((48 * a) + v1) 0)]) 126 169 (m2.2 169) rfl rfl rfl (by omega) (show ((48 * a) + v1) < (6144 : Int) by omega) (show (m36.2 169) = (m2.2 169) from (fr2 Fm36 169 rfl)) rfl ?_
            refine T_iinc 129 [(2, .int (i32 (v1 + 1))), (4, .int (i32 0)), (3, .int (i32 ((m.2 61) v1))), (0, .ref 189), (1, .int (i32 a))] rfl rfl (by decide) rfl rfl ?_
            refine T_goto 2 rfl (fun _ => rfl) ?_
            refine Tm_lv (a := [(0, .ref 189), (1, .int (i32 a)), (2, .int (i32 (v1 + 1)))]) rfl rfl ⟨rfl, rfl, rfl, trivial⟩ ?_
            exact ih10 (v1 + 1) (mO m36 [] [(169, upI (m2.2 169) ((48 * a) + v1) 0)]) (r32 (by omega) (by omega)) (Ty_mO Tm36 rfl rfl trivial ⟨G37, trivial⟩) (fr_m (fr_s Fm36 (fr_m (fr_s Fm2 (fr_m fr_0 rfl rfl) rfl rfl) rfl rfl) rfl rfl) rfl rfl) (show 0 ≤ (v1 + 1) by omega) (show (v1 + 1) ≤ (m.1 27) by omega) (show (m.1 27) - (v1 + 1) < (n9 : Int) by omega)
        · skip
          refine T_gf 25 (.ref 318) rfl rfl rfl rfl rfl rfl ?_
          refine T_ld 27 (.int (i32 48)) rfl (fun _ => rfl) ?_
          refine T_ld 28 (.int (i32 a)) rfl (fun _ => rfl) ?_
          refine T_imul 29 rfl rfl ?_
          refine T_ld 30 (.int (i32 ((m.2 61) v1))) rfl (fun _ => rfl) ?_
          refine T_iadd 31 rfl rfl ?_
          refine T_iald 32 169 (m2.2 169) rfl rfl rfl (by omega) (show ((48 * a) + ((m.2 61) v1)) < (6144 : Int) by omega) rfl ?_
          have e38 : (-2147483648) ≤ (m2.2 169) ((48 * a) + ((m.2 61) v1)) ∧ (m2.2 169) ((48 * a) + ((m.2 61) v1)) ≤ 2147483647 := (Tm2.2.1 169) ((48 * a) + ((m.2 61) v1))
          refine T_gf 36 (.ref 232) rfl rfl rfl rfl rfl rfl ?_
          refine T_ld 37 (.int (i32 v1)) rfl (fun _ => rfl) ?_
          refine T_iald 38 62 (m.2 62) rfl rfl rfl (by omega) (show v1 < (48 : Int) by omega) (show (m2.2 62) = (m.2 62) from (fr2 Fm2 62 rfl)) ?_
          have e39 : (-1) ≤ m.2 62 v1 ∧ m.2 62 v1 ≤ 1 := hT.2.1 62 v1
          refine T_icmp 44 41 rfl rfl rfl (r32 (by omega) (by omega)) (r32 (by omega) (by omega)) (fun (h40 : (m2.2 169) ((48 * a) + ((m.2 61) v1)) = (m.2 62) v1) => ?_) (fun (h40 : ¬ ((m2.2 169) ((48 * a) + ((m.2 61) v1)) = (m.2 62) v1)) => ?_)
          · skip
            refine T_ld 45 (.int (i32 0)) rfl (fun _ => rfl) ?_
            refine T_sto 47 [(4, .int (i32 0)), (3, .int (i32 ((m.2 61) v1))), (0, .ref 189), (1, .int (i32 a)), (2, .int (i32 v1))] rfl (fun _ => rfl) ?_
            refine T_gf 51 (.ref 230) rfl rfl rfl rfl rfl rfl ?_
            refine T_ld 52 (.int (i32 v1)) rfl (fun _ => rfl) ?_
            refine T_iald 53 60 (m.2 60) rfl rfl rfl (by omega) (show v1 < (48 : Int) by omega) (show (m2.2 60) = (m.2 60) from (fr2 Fm2 60 rfl)) ?_
            have e41 : 0 ≤ m.2 60 v1 ∧ m.2 60 v1 ≤ 2 := hT.2.1 60 v1
            refine T_if 69 56 rfl rfl rfl (r32 (by omega) (by omega)) (fun (h42 : (m.2 60) v1 ≠ 0) => ?_) (fun (h42 : ¬ ((m.2 60) v1 ≠ 0)) => ?_)
            · skip
              refine T_gf 73 (.ref 230) rfl rfl rfl rfl rfl rfl ?_
              refine T_ld 74 (.int (i32 v1)) rfl (fun _ => rfl) ?_
              refine T_iald 75 60 (m.2 60) rfl rfl rfl (by omega) (show v1 < (48 : Int) by omega) (show (m2.2 60) = (m.2 60) from (fr2 Fm2 60 rfl)) ?_
              have e43 : 0 ≤ m.2 60 v1 ∧ m.2 60 v1 ≤ 2 := hT.2.1 60 v1
              refine T_ld 76 (.int (i32 1)) rfl (fun _ => rfl) ?_
              refine T_icmp 101 79 rfl rfl rfl (r32 (by omega) (by omega)) ⟨by decide, by decide⟩ (fun (h44 : (m.2 60) v1 ≠ 1) => ?_) (fun (h44 : ¬ ((m.2 60) v1 ≠ 1)) => ?_)
              · skip
                have hs6 := hs4 (by omega)
                refine T_ld 102 (.ref 189) rfl (fun _ => rfl) ?_
                refine T_gf 106 (.ref 233) rfl rfl rfl rfl rfl rfl ?_
                refine T_ld 107 (.int (i32 v1)) rfl (fun _ => rfl) ?_
                refine T_iald 108 63 (m.2 63) rfl rfl rfl (by omega) (show v1 < (48 : Int) by omega) (show (m2.2 63) = (m.2 63) from (fr2 Fm2 63 rfl)) ?_
                have e45 : (-1) ≤ m.2 63 v1 ∧ m.2 63 v1 ≤ 7 := hT.2.1 63 v1
                refine T_call 111 336 [.ref 189, .int (i32 ((m.2 63) v1))] [] rfl (fun _ => rfl) rfl (c_doTable w (mO m2 [] []) c N D (by omega) Tm2 ((m.2 63) v1) (r32 (by omega) (by omega)) (show 0 ≤ ((m.2 63) v1) ∧ ((m.2 63) v1) ≤ 7 by omega) (show ((m.2 63) v1) < (m2.1 26) by rewrite [(show (m2.1 26) = (m.1 26) from (fr1 Fm2 26 rfl))]; omega) (show CN (m2.2 65) (m2.2 67) (m2.1 28) by rewrite [(show (m2.2 65) = (m.2 65) from (fr2 Fm2 65 rfl)), (show (m2.2 67) = (m.2 67) from (fr2 Fm2 67 rfl)), (show (m2.1 28) = (m.1 28) from (fr1 Fm2 28 rfl))]; exact hCN) (show TdP (m2.2 65) (m2.1 28) (m2.1 22) (m2.1 99) (m2.2 101) (m2.2 103) (m2.2 105) (m2.2 106) (m2.2 107) (m2.2 108) by rewrite [(show (m2.2 65) = (m.2 65) from (fr2 Fm2 65 rfl)), (show (m2.1 28) = (m.1 28) from (fr1 Fm2 28 rfl)), (show (m2.1 22) = (m.1 22) from (fr1 Fm2 22 rfl)), (show (m2.1 99) = (m.1 99) from (fr1 Fm2 99 rfl)), (show (m2.2 101) = (m.2 101) from (fr2 Fm2 101 rfl)), (show (m2.2 103) = (m.2 103) from (fr2 Fm2 103 rfl)), (show (m2.2 105) = (m.2 105) from (fr2 Fm2 105 rfl)), (show (m2.2 106) = (m.2 106) from (fr2 Fm2 106 rfl)), (show (m2.2 107) = (m.2 107) from (fr2 Fm2 107 rfl)), (show (m2.2 108) = (m.2 108) from (fr2 Fm2 108 rfl))]; exact pTd) (show AcP (m2.1 25) (m2.1 99) (m2.2 109) (m2.2 50) by rewrite [(show (m2.1 25) = (m.1 25) from (fr1 Fm2 25 rfl)), (show (m2.1 99) = (m.1 99) from (fr1 Fm2 99 rfl)), (show (m2.2 109) = (m.2 109) from (fr2 Fm2 109 rfl)), (show (m2.2 50) = (m.2 50) from (fr2 Fm2 50 rfl))]; exact pAc) (show TbP (m2.2 65) (m2.1 28) (m2.1 25) (m2.1 26) (m2.2 51) (m2.2 110) (m2.2 111) (m2.2 57) (m2.2 53) (m2.2 114) (m2.2 58) (m2.2 54) by rewrite [(show (m2.2 65) = (m.2 65) from (fr2 Fm2 65 rfl)), (show (m2.1 28) = (m.1 28) from (fr1 Fm2 28 rfl)), (show (m2.1 25) = (m.1 25) from (fr1 Fm2 25 rfl)), (show (m2.1 26) = (m.1 26) from (fr1 Fm2 26 rfl)), (show (m2.2 51) = (m.2 51) from (fr2 Fm2 51 rfl)), (show (m2.2 110) = (m.2 110) from (fr2 Fm2 110 rfl)), (show (m2.2 111) = (m.2 111) from (fr2 Fm2 111 rfl)), (show (m2.2 57) = (m.2 57) from (fr2 Fm2 57 rfl)), (show (m2.2 53) = (m.2 53) from (fr2 Fm2 53 rfl)), (show (m2.2 114) = (m.2 114) from (fr2 Fm2 114 rfl)), (show (m2.2 58) = (m.2 58) from (fr2 Fm2 58 rfl)), (show (m2.2 54) = (m.2 54) from (fr2 Fm2 54 rfl))]; exact pTb) (show ∀ k, 0 ≤ k → k < (m2.1 22) → 1 ≤ (m2.2 93) k ∧ 1 ≤ (m2.2 36) k by rewrite [(show (m2.1 22) = (m.1 22) from (fr1 Fm2 22 rfl)), (show (m2.2 93) = (m.2 93) from (fr2 Fm2 93 rfl)), (show (m2.2 36) = (m.2 36) from (fr2 Fm2 36 rfl))]; exact pAR) (show EAp (m2.1 25) (m2.2 139) (m2.2 141) by rewrite [(show (m2.1 25) = (m.1 25) from (fr1 Fm2 25 rfl)), (show (m2.2 139) = (m.2 139) from (fr2 Fm2 139 rfl)), (show (m2.2 141) = (m.2 141) from (fr2 Fm2 141 rfl))]; exact hEAp)) (fun rr46 k47 => ?_)
                obtain ⟨m48, dt, Tm48, Fm48, g49, rfl⟩ := k47
                refine ⟨_, _, rfl, ?_⟩
                refine T_nb (st' := [.int (i32 dt)]) rfl ?_
                obtain ⟨g49a, g49b⟩ := g49
                refine T_sto 113 [(4, .int (i32 dt)), (3, .int (i32 ((m.2 61) v1))), (0, .ref 189), (1, .int (i32 a)), (2, .int (i32 v1))] rfl (fun _ => rfl) ?_
                refine T_gf 117 (.ref 318) rfl rfl rfl rfl rfl rfl ?_
                refine T_ld 119 (.int (i32 48)) rfl (fun _ => rfl) ?_
                refine T_ld 120 (.int (i32 a)) rfl (fun _ => rfl) ?_
                refine T_imul 121 rfl rfl ?_
                refine T_ld 122 (.int (i32 v1)) rfl (fun _ => rfl) ?_
                refine T_iadd 123 rfl rfl ?_
                refine T_ld 125 (.int (i32 dt)) rfl (fun _ => rfl) ?_
                have G50 : ∀ j, (-2147483648) ≤ (upI (m2.2 169) ((48 * a) + v1) dt) j ∧ (upI (m2.2 169) ((48 * a) + v1) dt) j ≤ 2147483647 := upI_rg (Tm2.2.1 169) ⟨by omega, by omega⟩
                refine T_iast (a' := [(169, upI (m2.2 169) ((48 * a) + v1) dt)]) 126 169 (m2.2 169) rfl rfl rfl (by omega) (show ((48 * a) + v1) < (6144 : Int) by omega) (show (m48.2 169) = (m2.2 169) from (fr2 Fm48 169 rfl)) rfl ?_
                refine T_iinc 129 [(2, .int (i32 (v1 + 1))), (4, .int (i32 dt)), (3, .int (i32 ((m.2 61) v1))), (0, .ref 189), (1, .int (i32 a))] rfl rfl (by decide) rfl rfl ?_
                refine T_goto 2 rfl (fun _ => rfl) ?_
                refine Tm_lv (a := [(0, .ref 189), (1, .int (i32 a)), (2, .int (i32 (v1 + 1)))]) rfl rfl ⟨rfl, rfl, rfl, trivial⟩ ?_
                exact ih10 (v1 + 1) (mO m48 [] [(169, upI (m2.2 169) ((48 * a) + v1) dt)]) (r32 (by omega) (by omega)) (Ty_mO Tm48 rfl rfl trivial ⟨G50, trivial⟩) (fr_m (fr_s Fm48 (fr_m (fr_s Fm2 (fr_m fr_0 rfl rfl) rfl rfl) rfl rfl) rfl rfl) rfl rfl) (show 0 ≤ (v1 + 1) by omega) (show (v1 + 1) ≤ (m.1 27) by omega) (show (m.1 27) - (v1 + 1) < (n9 : Int) by omega)
              · skip
                have hcd := hs3 (by omega)
                refine T_ld 80 (.ref 189) rfl (fun _ => rfl) ?_
                refine T_gf 84 (.ref 280) rfl rfl rfl rfl rfl rfl ?_
                refine T_ld 85 (.int (i32 v1)) rfl (fun _ => rfl) ?_
                refine T_iald 86 121 (m.2 121) rfl rfl rfl (by omega) (show v1 < (48 : Int) by omega) (show (m2.2 121) = (m.2 121) from (fr2 Fm2 121 rfl)) ?_
                have e51 : 0 ≤ m.2 121 v1 ∧ m.2 121 v1 ≤ 800 := hT.2.1 121 v1
                refine T_gf 90 (.ref 281) rfl rfl rfl rfl rfl rfl ?_
                refine T_ld 91 (.int (i32 v1)) rfl (fun _ => rfl) ?_
                refine T_iald 92 122 (m.2 122) rfl rfl rfl (by omega) (show v1 < (48 : Int) by omega) (show (m2.2 122) = (m.2 122) from (fr2 Fm2 122 rfl)) ?_
                have e52 : 0 ≤ m.2 122 v1 ∧ m.2 122 v1 ≤ 800 := hT.2.1 122 v1
                refine T_call 95 327 [.ref 189, .int (i32 ((m.2 121) v1)), .int (i32 ((m.2 122) v1))] [] rfl (fun _ => rfl) rfl (c_worth w (mO m2 [] []) c N D (by omega) Tm2 ((m.2 121) v1) ((m.2 122) v1) (r32 (by omega) (by omega)) (r32 (by omega) (by omega)) (show 0 ≤ ((m.2 121) v1) ∧ ((m.2 121) v1) ≤ 800 by omega) (show 0 ≤ ((m.2 122) v1) ∧ ((m.2 122) v1) ≤ 800 by omega) (show cdr (m2.2 65) (m2.1 28) ((m.2 121) v1) ((m.2 122) v1) by rewrite [(show (m2.2 65) = (m.2 65) from (fr2 Fm2 65 rfl)), (show (m2.1 28) = (m.1 28) from (fr1 Fm2 28 rfl))]; exact hcd) (show CN (m2.2 65) (m2.2 67) (m2.1 28) by rewrite [(show (m2.2 65) = (m.2 65) from (fr2 Fm2 65 rfl)), (show (m2.2 67) = (m.2 67) from (fr2 Fm2 67 rfl)), (show (m2.1 28) = (m.1 28) from (fr1 Fm2 28 rfl))]; exact hCN)) (fun rr53 k54 => ?_)
                obtain ⟨m55, wo, Tm55, Fm55, g56, rfl⟩ := k54
                refine ⟨_, _, rfl, ?_⟩
                refine T_nb (st' := [.long (i64 wo)]) rfl ?_
                obtain ⟨g56a, g56b⟩ := g56
                refine T_l2i 96 rfl rfl ?_
                refine T_inm (fun z57 h58 => ?_)
                obtain ⟨h58a, h58b⟩ := h58
                refine T_sto 98 [(4, .int (i32 z57)), (3, .int (i32 ((m.2 61) v1))), (0, .ref 189), (1, .int (i32 a)), (2, .int (i32 v1))] rfl (fun _ => rfl) ?_
                refine T_goto 113 rfl (fun _ => rfl) ?_
                refine T_gf 117 (.ref 318) rfl rfl rfl rfl rfl rfl ?_
                refine T_ld 119 (.int (i32 48)) rfl (fun _ => rfl) ?_
                refine T_ld 120 (.int (i32 a)) rfl (fun _ => rfl) ?_
                refine T_imul 121 rfl rfl ?_
                refine T_ld 122 (.int (i32 v1)) rfl (fun _ => rfl) ?_
                refine T_iadd 123 rfl rfl ?_
                refine T_ld 125 (.int (i32 z57)) rfl (fun _ => rfl) ?_
                have G59 : ∀ j, (-2147483648) ≤ (upI (m2.2 169) ((48 * a) + v1) z57) j ∧ (upI (m2.2 169) ((48 * a) + v1) z57) j ≤ 2147483647 := upI_rg (Tm2.2.1 169) ⟨by omega, by omega⟩
                refine T_iast (a' := [(169, upI (m2.2 169) ((48 * a) + v1) z57)]) 126 169 (m2.2 169) rfl rfl rfl (by omega) (show ((48 * a) + v1) < (6144 : Int) by omega) (show (m55.2 169) = (m2.2 169) from (fr2 Fm55 169 rfl)) rfl ?_
                refine T_iinc 129 [(2, .int (i32 (v1 + 1))), (4, .int (i32 z57)), (3, .int (i32 ((m.2 61) v1))), (0, .ref 189), (1, .int (i32 a))] rfl rfl (by decide) rfl rfl ?_
                refine T_goto 2 rfl (fun _ => rfl) ?_
                refine Tm_lv (a := [(0, .ref 189), (1, .int (i32 a)), (2, .int (i32 (v1 + 1)))]) rfl rfl ⟨rfl, rfl, rfl, trivial⟩ ?_
                exact ih10 (v1 + 1) (mO m55 [] [(169, upI (m2.2 169) ((48 * a) + v1) z57)]) (r32 (by omega) (by omega)) (Ty_mO Tm55 rfl rfl trivial ⟨G59, trivial⟩) (fr_m (fr_s Fm55 (fr_m (fr_s Fm2 (fr_m fr_0 rfl rfl) rfl rfl) rfl rfl) rfl rfl) rfl rfl) (show 0 ≤ (v1 + 1) by omega) (show (v1 + 1) ≤ (m.1 27) by omega) (show (m.1 27) - (v1 + 1) < (n9 : Int) by omega)
            · skip
              have hs5 := hs2 (by omega)
              refine T_ld 57 (.ref 189) rfl (fun _ => rfl) ?_
              refine T_gf 61 (.ref 279) rfl rfl rfl rfl rfl rfl ?_
              refine T_ld 62 (.int (i32 v1)) rfl (fun _ => rfl) ?_
              refine T_iald 63 120 (m.2 120) rfl rfl rfl (by omega) (show v1 < (48 : Int) by omega) (show (m2.2 120) = (m.2 120) from (fr2 Fm2 120 rfl)) ?_
              have e60 : 0 ≤ m.2 120 v1 ∧ m.2 120 v1 ≤ 240 := hT.2.1 120 v1
              refine T_call 66 332 [.ref 189, .int (i32 ((m.2 120) v1))] [] rfl (fun _ => rfl) rfl (c_doStatement w (mO m2 [] []) c N D (by omega) Tm2 ((m.2 120) v1) (r32 (by omega) (by omega)) (show 0 ≤ ((m.2 120) v1) ∧ ((m.2 120) v1) ≤ 239 by omega) (show ((m.2 120) v1) < (m2.1 99) by rewrite [(show (m2.1 99) = (m.1 99) from (fr1 Fm2 99 rfl))]; omega) (show CN (m2.2 65) (m2.2 67) (m2.1 28) by rewrite [(show (m2.2 65) = (m.2 65) from (fr2 Fm2 65 rfl)), (show (m2.2 67) = (m.2 67) from (fr2 Fm2 67 rfl)), (show (m2.1 28) = (m.1 28) from (fr1 Fm2 28 rfl))]; exact hCN) (show TdP (m2.2 65) (m2.1 28) (m2.1 22) (m2.1 99) (m2.2 101) (m2.2 103) (m2.2 105) (m2.2 106) (m2.2 107) (m2.2 108) by rewrite [(show (m2.2 65) = (m.2 65) from (fr2 Fm2 65 rfl)), (show (m2.1 28) = (m.1 28) from (fr1 Fm2 28 rfl)), (show (m2.1 22) = (m.1 22) from (fr1 Fm2 22 rfl)), (show (m2.1 99) = (m.1 99) from (fr1 Fm2 99 rfl)), (show (m2.2 101) = (m.2 101) from (fr2 Fm2 101 rfl)), (show (m2.2 103) = (m.2 103) from (fr2 Fm2 103 rfl)), (show (m2.2 105) = (m.2 105) from (fr2 Fm2 105 rfl)), (show (m2.2 106) = (m.2 106) from (fr2 Fm2 106 rfl)), (show (m2.2 107) = (m.2 107) from (fr2 Fm2 107 rfl)), (show (m2.2 108) = (m.2 108) from (fr2 Fm2 108 rfl))]; exact pTd) (show ∀ k, 0 ≤ k → k < (m2.1 22) → 1 ≤ (m2.2 93) k ∧ 1 ≤ (m2.2 36) k by rewrite [(show (m2.1 22) = (m.1 22) from (fr1 Fm2 22 rfl)), (show (m2.2 93) = (m.2 93) from (fr2 Fm2 93 rfl)), (show (m2.2 36) = (m.2 36) from (fr2 Fm2 36 rfl))]; exact pAR)) (fun rr61 k62 => ?_)
              obtain ⟨m63, Tm63, Fm63, rfl⟩ := k62
              refine ⟨_, _, rfl, ?_⟩
              refine T_nb (st' := []) rfl ?_
              refine T_goto 113 rfl (fun _ => rfl) ?_
              refine T_gf 117 (.ref 318) rfl rfl rfl rfl rfl rfl ?_
              refine T_ld 119 (.int (i32 48)) rfl (fun _ => rfl) ?_
              refine T_ld 120 (.int (i32 a)) rfl (fun _ => rfl) ?_
              refine T_imul 121 rfl rfl ?_
              refine T_ld 122 (.int (i32 v1)) rfl (fun _ => rfl) ?_
              refine T_iadd 123 rfl rfl ?_
              refine T_ld 125 (.int (i32 0)) rfl (fun _ => rfl) ?_
              have G64 : ∀ j, (-2147483648) ≤ (upI (m2.2 169) ((48 * a) + v1) 0) j ∧ (upI (m2.2 169) ((48 * a) + v1) 0) j ≤ 2147483647 := upI_rg (Tm2.2.1 169) ⟨by omega, by omega⟩
              refine T_iast (a' := [(169, upI (m2.2 169) ((48 * a) + v1) 0)]) 126 169 (m2.2 169) rfl rfl rfl (by omega) (show ((48 * a) + v1) < (6144 : Int) by omega) (show (m63.2 169) = (m2.2 169) from (fr2 Fm63 169 rfl)) rfl ?_
              refine T_iinc 129 [(2, .int (i32 (v1 + 1))), (4, .int (i32 0)), (3, .int (i32 ((m.2 61) v1))), (0, .ref 189), (1, .int (i32 a))] rfl rfl (by decide) rfl rfl ?_
              refine T_goto 2 rfl (fun _ => rfl) ?_
              refine Tm_lv (a := [(0, .ref 189), (1, .int (i32 a)), (2, .int (i32 (v1 + 1)))]) rfl rfl ⟨rfl, rfl, rfl, trivial⟩ ?_
              exact ih10 (v1 + 1) (mO m63 [] [(169, upI (m2.2 169) ((48 * a) + v1) 0)]) (r32 (by omega) (by omega)) (Ty_mO Tm63 rfl rfl trivial ⟨G64, trivial⟩) (fr_m (fr_s Fm63 (fr_m (fr_s Fm2 (fr_m fr_0 rfl rfl) rfl rfl) rfl rfl) rfl rfl) rfl rfl) (show 0 ≤ (v1 + 1) by omega) (show (v1 + 1) ≤ (m.1 27) by omega) (show (m.1 27) - (v1 + 1) < (n9 : Int) by omega)
          · skip
            refine T_goto 126 rfl (fun _ => rfl) ?_
            refine T_iinc 129 [(2, .int (i32 (v1 + 1))), (3, .int (i32 ((m.2 61) v1))), (0, .ref 189), (1, .int (i32 a))] rfl rfl (by decide) rfl rfl ?_
            refine T_goto 2 rfl (fun _ => rfl) ?_
            refine Tm_lv (a := [(0, .ref 189), (1, .int (i32 a)), (2, .int (i32 (v1 + 1)))]) rfl rfl ⟨rfl, rfl, rfl, trivial⟩ ?_
            exact ih10 (v1 + 1) (mO m2 [] []) (r32 (by omega) (by omega)) Tm2 (fr_m (fr_s Fm2 (fr_m fr_0 rfl rfl) rfl rfl) rfl rfl) (show 0 ≤ (v1 + 1) by omega) (show (v1 + 1) ≤ (m.1 27) by omega) (show (m.1 27) - (v1 + 1) < (n9 : Int) by omega)
  refine Tm_lv (a := [(0, .ref 189), (1, .int (i32 a)), (2, .int (i32 0))]) rfl rfl ⟨rfl, rfl, rfl, trivial⟩ ?_
  exact L2_3 (((m.1 27) - (0 : Int) : Int) + 1).toNat 0 (mO m [] []) ⟨by decide, by decide⟩ hT (fr_m fr_0 rfl rfl) (show 0 ≤ (0 : Int) by omega) (show (0 : Int) ≤ (m.1 27) by omega) (show (m.1 27) - (0 : Int) < (((((m.1 27) - (0 : Int) : Int) + 1).toNat : Nat) : Int) by omega)
