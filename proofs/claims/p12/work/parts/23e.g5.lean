def Q_after (m : mR) (c : Nat → Option am_C) (N : Nat) (B : Int) : ag_Re af_T → Prop := fun R => ∃ (y7 : Int) (y8 : Int) (y9 : Int) (y10 : Int) (y11 : Int) (y12 : Int) (y28 : Int) (y69 : Int) (y70 : Int) (y71 : Int) (y72 : Int) (y75 : Int) (F65 : Int → Int) (F66 : Int → Int) (F67 : Int → Int) (F68 : Int → Int), (0 ≤ y7 ∧ y7 ≤ 330) ∧ (0 ≤ y8 ∧ y8 ≤ 4000) ∧ (0 ≤ y9 ∧ y9 ≤ 4000) ∧ (0 ≤ y10 ∧ y10 ≤ 8) ∧ ((-1) ≤ y11 ∧ y11 ≤ 4000) ∧ ((-9223372036854775808) ≤ y12 ∧ y12 ≤ 9223372036854775807) ∧ (0 ≤ y28 ∧ y28 ≤ 800) ∧ (0 ≤ y69 ∧ y69 ≤ 1024) ∧ (0 ≤ y70 ∧ y70 ≤ 4000) ∧ (0 ≤ y71 ∧ y71 ≤ 1) ∧ ((-9223372036854775808) ≤ y72 ∧ y72 ≤ 9223372036854775807) ∧ (0 ≤ y75 ∧ y75 ≤ 3) ∧ (∀ j, 0 ≤ F65 j ∧ F65 j ≤ 408) ∧ (∀ j, 0 ≤ F66 j ∧ F66 j ≤ 64) ∧ (∀ j, 0 ≤ F67 j ∧ F67 j ≤ 191) ∧ (∀ j, (-9223372036854775808) ≤ F68 j ∧ F68 j ≤ 9223372036854775807) ∧ (y10 = 0 → (m.1 10) = 0) ∧ (LxP y7 y8 y9 (m.1 6) y10) ∧ (y10 = 0 → ((y75 = 1 ∧ (m.1 8) + 1 ≤ y8) ∨ (y75 = 2 ∧ y8 = (m.1 8))) ∧ (y69 ≤ 64) ∧ ((m.1 28) ≤ y28) ∧ (XS F65 F67 (m.2 76) (m.2 78) (m.2 79) (m.2 80) B y28 (m.1 73) (m.1 74) 1) ∧ (agr (m.2 65) F65 (m.1 28))) ∧ R = (.inl (none), (mhp (mO m [(7, y7), (8, y8), (9, y9), (10, y10), (11, y11), (12, y12), (28, y28), (69, y69), (70, y70), (71, y71), (72, y72), (75, y75)] [(65, F65), (66, F66), (67, F67), (68, F68)]) c, N), 0, 0)
set_option maxHeartbeats 8000000 in
theorem c_after (w : wX) (m : mR) (c : Nat → Option am_C) (N D : Nat) (hD : 7 ≤ D) (hT : Ty m) (B : Int) (hLx0 : LxP (m.1 7) (m.1 8) (m.1 9) (m.1 6) (m.1 10)) (hf0 : m.1 10 = 0) (hC : (XS (m.2 65) (m.2 67) (m.2 76) (m.2 78) (m.2 79) (m.2 80) B (m.1 28) (m.1 73) (m.1 74) 1) ∧ ((m.1 75) = 1) ∧ ((m.1 69) ≤ 64)) : TC w D 255 [.ref 189] (mhp m c, N) (Q_after m c N B) := by
  obtain ⟨D, rfl⟩ : ∃ k, D = k + 1 := ⟨D - 1, by omega⟩
  have hLx := hLx0
  have f7 : 0 ≤ m.1 7 ∧ m.1 7 ≤ 330 := hT.1 7
  have f8 : 0 ≤ m.1 8 ∧ m.1 8 ≤ 4000 := hT.1 8
  have f9 : 0 ≤ m.1 9 ∧ m.1 9 ≤ 4000 := hT.1 9
  have f10 : 0 ≤ m.1 10 ∧ m.1 10 ≤ 8 := hT.1 10
  have f11 : (-1) ≤ m.1 11 ∧ m.1 11 ≤ 4000 := hT.1 11
  have f12 : (-9223372036854775808) ≤ m.1 12 ∧ m.1 12 ≤ 9223372036854775807 := hT.1 12
  have f28 : 0 ≤ m.1 28 ∧ m.1 28 ≤ 800 := hT.1 28
  have f69 : 0 ≤ m.1 69 ∧ m.1 69 ≤ 1024 := hT.1 69
  have f70 : 0 ≤ m.1 70 ∧ m.1 70 ≤ 4000 := hT.1 70
  have f71 : 0 ≤ m.1 71 ∧ m.1 71 ≤ 1 := hT.1 71
  have f72 : (-9223372036854775808) ≤ m.1 72 ∧ m.1 72 ≤ 9223372036854775807 := hT.1 72
  have f75 : 0 ≤ m.1 75 ∧ m.1 75 ≤ 3 := hT.1 75
  have f74 : 0 ≤ m.1 74 ∧ m.1 74 ≤ 24 := hT.1 74
  have f73 : 0 ≤ m.1 73 ∧ m.1 73 ≤ 60 := hT.1 73
  have f6 : 0 ≤ m.1 6 ∧ m.1 6 ≤ 4000 := hT.1 6
  refine Tc_of rfl ?_
  show TT w D pm_255 (0, [(0, .ref 189)], [], (mhp m c, N), 0, 0) (Q_after m c N B)
  rw [show (mhp m c, N) = (mhp (mO m [(7, (m.1 7)), (8, (m.1 8)), (9, (m.1 9)), (10, (m.1 10)), (11, (m.1 11)), (12, (m.1 12)), (28, (m.1 28)), (69, (m.1 69)), (70, (m.1 70)), (71, (m.1 71)), (72, (m.1 72)), (75, (m.1 75))] [(65, (m.2 65)), (66, (m.2 66)), (67, (m.2 67)), (68, (m.2 68))]) c, N) from congrArg (fun M => (mhp M c, N)) (mO_pad m [7, 8, 9, 10, 11, 12, 28, 69, 70, 71, 72, 75] [65, 66, 67, 68])]
  obtain ⟨hXS, c1, c2⟩ := hC
  have hEX := hXS.1.1
  have hl0 : 0 ≤ lh (m.2 79) (m.2 80) (m.1 73) := lh_0 (hT.2.1 79) _ _
  have hXE := hXS
  have hAgC := agr_r (m.2 65) (m.1 28)
  have J207_234 : ∀ (v217 : Int) (y218 : Int) (y219 : Int) (y220 : Int) (y221 : Int) (y222 : Int) (y223 : Int) (y224 : Int) (y225 : Int) (y226 : Int) (y227 : Int) (y228 : Int) (y229 : Int) (F230 : Int → Int) (F231 : Int → Int) (F232 : Int → Int) (F233 : Int → Int), (R32 v217) → (0 ≤ y218 ∧ y218 ≤ 330) → (0 ≤ y219 ∧ y219 ≤ 4000) → (0 ≤ y220 ∧ y220 ≤ 4000) → (0 ≤ y221 ∧ y221 ≤ 8) → ((-1) ≤ y222 ∧ y222 ≤ 4000) → ((-9223372036854775808) ≤ y223 ∧ y223 ≤ 9223372036854775807) → (0 ≤ y224 ∧ y224 ≤ 800) → (0 ≤ y225 ∧ y225 ≤ 1024) → (0 ≤ y226 ∧ y226 ≤ 4000) → (0 ≤ y227 ∧ y227 ≤ 1) → ((-9223372036854775808) ≤ y228 ∧ y228 ≤ 9223372036854775807) → (0 ≤ y229 ∧ y229 ≤ 3) → (∀ j, 0 ≤ F230 j ∧ F230 j ≤ 408) → (∀ j, 0 ≤ F231 j ∧ F231 j ≤ 64) → (∀ j, 0 ≤ F232 j ∧ F232 j ≤ 191) → (∀ j, (-9223372036854775808) ≤ F233 j ∧ F233 j ≤ 9223372036854775807) → (1 ≤ y221) → (y221 ≤ 8) → TT w D pm_255 (207, [(0, .ref 189), (1, .int (i32 v217))], [], (mhp (mO m [(7, y218), (8, y219), (9, y220), (10, y221), (11, y222), (12, y223), (28, y224), (69, y225), (70, y226), (71, y227), (72, y228), (75, y229)] [(65, F230), (66, F231), (67, F232), (68, F233)]) c, N), 0, 0) (Q_after m c N B) := by
    intro v217 y218 y219 y220 y221 y222 y223 y224 y225 y226 y227 y228 y229 F230 F231 F232 F233 q235 q236 q237 q238 q239 q240 q241 q242 q243 q244 q245 q246 q247 q248 q249 q250 q251 i252 i253
    obtain ⟨q235a, q235b⟩ := id q235
    refine T_ld 208 (.ref 189) rfl (fun _ => rfl) ?_
    refine T_ld 209 (.int (i32 v217)) rfl (fun _ => rfl) ?_
    refine T_gf 213 (.int (i32 y226)) rfl rfl rfl rfl rfl rfl ?_
    refine T_call 216 250 [.ref 189, .int (i32 v217), .int (i32 y226)] [] rfl (fun _ => rfl) rfl (c_unit w (mO m [(7, y218), (8, y219), (9, y220), (10, y221), (11, y222), (12, y223), (28, y224), (69, y225), (70, y226), (71, y227), (72, y228), (75, y229)] [(65, F230), (66, F231), (67, F232), (68, F233)]) c N D (by omega) (Ty_mO hT rfl rfl ⟨q236, q237, q238, q239, q240, q241, q242, q243, q244, q245, q246, q247, trivial⟩ ⟨q248, q249, q250, q251, trivial⟩) v217 y226 (r32 (by omega) (by omega)) (r32 (by omega) (by omega)) (show 0 ≤ v217 ∧ v217 ≤ 1024 by omega) (show 0 ≤ y226 ∧ y226 ≤ 4000 by omega)) (fun r255 k256 => ?_)
    obtain ⟨y257, y259, y261, y263, g258, g260, g262, g264, h265, rfl⟩ := k256
    refine ⟨_, _, rfl, ?_⟩
    refine T_nf (st' := []) (l' := [(7, y218), (8, y219), (9, y220), (10, y221), (11, y222), (12, y223), (28, y224), (69, y257), (70, y259), (71, y261), (72, y263), (75, y229)]) (a' := [(65, F230), (66, F231), (67, F232), (68, F233)]) rfl rfl rfl rfl rfl ?_
    replace h265 : y257 = v217 := h265
    clear q243 q244 q245 q246
    refine T_goto 224 rfl (fun _ => rfl) ?_
    refine T_ret rfl (fun _ => rfl) ?_
    exact ⟨y218, y219, y220, y221, y222, y223, y224, y257, y259, y261, y263, y229, F230, F231, F232, F233, q236, q237, q238, q239, q240, q241, q242, g258, g260, g262, g264, q247, q248, q249, q250, q251, (by omega), (by first | exact hLx | (intro h9; exfalso; omega)), (fun h => absurd h (by omega)), rfl⟩
  have J196_283 : ∀ (s266 : Int) (y267 : Int) (y268 : Int) (y269 : Int) (y270 : Int) (y271 : Int) (y272 : Int) (y273 : Int) (y274 : Int) (y275 : Int) (y276 : Int) (y277 : Int) (y278 : Int) (F279 : Int → Int) (F280 : Int → Int) (F281 : Int → Int) (F282 : Int → Int), (R32 s266) → (0 ≤ y267 ∧ y267 ≤ 330) → (0 ≤ y268 ∧ y268 ≤ 4000) → (0 ≤ y269 ∧ y269 ≤ 4000) → (0 ≤ y270 ∧ y270 ≤ 8) → ((-1) ≤ y271 ∧ y271 ≤ 4000) → ((-9223372036854775808) ≤ y272 ∧ y272 ≤ 9223372036854775807) → (0 ≤ y273 ∧ y273 ≤ 800) → (0 ≤ y274 ∧ y274 ≤ 1024) → (0 ≤ y275 ∧ y275 ≤ 4000) → (0 ≤ y276 ∧ y276 ≤ 1) → ((-9223372036854775808) ≤ y277 ∧ y277 ≤ 9223372036854775807) → (0 ≤ y278 ∧ y278 ≤ 3) → (∀ j, 0 ≤ F279 j ∧ F279 j ≤ 408) → (∀ j, 0 ≤ F280 j ∧ F280 j ≤ 64) → (∀ j, 0 ≤ F281 j ∧ F281 j ≤ 191) → (∀ j, (-9223372036854775808) ≤ F282 j ∧ F282 j ≤ 9223372036854775807) → (1 ≤ y270) → (y270 ≤ 8) → TT w D pm_255 (196, [(0, .ref 189)], [.int (i32 s266)], (mhp (mO m [(7, y267), (8, y268), (9, y269), (10, y270), (11, y271), (12, y272), (28, y273), (69, y274), (70, y275), (71, y276), (72, y277), (75, y278)] [(65, F279), (66, F280), (67, F281), (68, F282)]) c, N), 0, 0) (Q_after m c N B) := by
    intro s266 y267 y268 y269 y270 y271 y272 y273 y274 y275 y276 y277 y278 F279 F280 F281 F282 q284 q285 q286 q287 q288 q289 q290 q291 q292 q293 q294 q295 q296 q297 q298 q299 q300 i301 i302
    obtain ⟨q284a, q284b⟩ := id q284
    refine T_sto 197 [(1, .int (i32 s266)), (0, .ref 189)] rfl (fun _ => rfl) ?_
    refine T_ld 198 (.ref 189) rfl (fun _ => rfl) ?_
    refine T_ld 201 (.int (i32 406)) rfl (fun _ => rfl) ?_
    refine T_ld 202 (.int (i32 s266)) rfl (fun _ => rfl) ?_
    refine T_ld 203 (.int (i32 0)) rfl (fun _ => rfl) ?_
    refine T_ld 204 (.long (i64 0)) rfl (fun _ => rfl) ?_
    refine T_call 207 248 [.ref 189, .int (i32 406), .int (i32 s266), .int (i32 0), .long (i64 0)] [] rfl (fun _ => rfl) rfl (c_node w (mO m [(7, y267), (8, y268), (9, y269), (10, y270), (11, y271), (12, y272), (28, y273), (69, y274), (70, y275), (71, y276), (72, y277), (75, y278)] [(65, F279), (66, F280), (67, F281), (68, F282)]) c N D (by omega) (Ty_mO hT rfl rfl ⟨q285, q286, q287, q288, q289, q290, q291, q292, q293, q294, q295, q296, trivial⟩ ⟨q297, q298, q299, q300, trivial⟩) 406 s266 0 0 ($B) (1 + lh (m.2 79) (m.2 80) (m.1 73)) ⟨by decide, by decide⟩ (r32 (by omega) (by omega)) ⟨by decide, by decide⟩ ⟨by decide, by decide⟩ (fun h => absurd h (by omega))) (fun r304 k305 => ?_)
    obtain ⟨y306, y308, y310, F312, F314, F316, F318, g307, g309, g311, G313, G315, G317, G319, h320, c321, rfl⟩ := k305
    refine ⟨_, _, rfl, ?_⟩
    refine T_nf (st' := []) (l' := [(7, y267), (8, y268), (9, y269), (10, y306), (11, y308), (12, y272), (28, y310), (69, y274), (70, y275), (71, y276), (72, y277), (75, y278)]) (a' := [(65, F312), (66, F314), (67, F316), (68, F318)]) rfl rfl rfl rfl rfl ?_
    replace h320 : y306 = 0 → y270 = 0 := h320
    have hf322 : 1 ≤ y306 := by omega
    clear c321
    clear h320
    clear q288 q289 q291 i301 i302
    refine Tm_lv (a := [(0, .ref 189), (1, .int (i32 s266))]) rfl rfl ⟨rfl, rfl, trivial⟩ ?_
    exact J207_234 s266 y267 y268 y269 y306 y308 y272 y310 y274 y275 y276 y277 y278 F312 F314 F316 F318 (r32 (by omega) (by omega)) q285 q286 q287 g307 g309 q290 g311 q292 q293 q294 q295 q296 G313 G315 G317 G319 (by omega) (by omega)
  have J159_343 : ∀ (v323 : Int) (v324 : Int) (v325 : Int) (v326 : Int) (y327 : Int) (y328 : Int) (y329 : Int) (y330 : Int) (y331 : Int) (y332 : Int) (y333 : Int) (y334 : Int) (y335 : Int) (y336 : Int) (y337 : Int) (y338 : Int) (F339 : Int → Int) (F340 : Int → Int) (F341 : Int → Int) (F342 : Int → Int), (R32 v323) → (R64 v324) → (R64 v325) → (R32 v326) → (0 ≤ y327 ∧ y327 ≤ 330) → (0 ≤ y328 ∧ y328 ≤ 4000) → (0 ≤ y329 ∧ y329 ≤ 4000) → (0 ≤ y330 ∧ y330 ≤ 8) → ((-1) ≤ y331 ∧ y331 ≤ 4000) → ((-9223372036854775808) ≤ y332 ∧ y332 ≤ 9223372036854775807) → (0 ≤ y333 ∧ y333 ≤ 800) → (0 ≤ y334 ∧ y334 ≤ 1024) → (0 ≤ y335 ∧ y335 ≤ 4000) → (0 ≤ y336 ∧ y336 ≤ 1) → ((-9223372036854775808) ≤ y337 ∧ y337 ≤ 9223372036854775807) → (0 ≤ y338 ∧ y338 ≤ 3) → (∀ j, 0 ≤ F339 j ∧ F339 j ≤ 408) → (∀ j, 0 ≤ F340 j ∧ F340 j ≤ 64) → (∀ j, 0 ≤ F341 j ∧ F341 j ≤ 191) → (∀ j, (-9223372036854775808) ≤ F342 j ∧ F342 j ≤ 9223372036854775807) → (0 ≤ v323) → (v323 ≤ 4000) → (0 ≤ v326) → (v326 ≤ 4000) → (1 ≤ y330) → (y330 ≤ 8) → TT w D pm_255 (159, [(0, .ref 189), (1, .int (i32 v323)), (2, .long (i64 v324)), (4, .long (i64 v325)), (6, .int (i32 v326))], [], (mhp (mO m [(7, y327), (8, y328), (9, y329), (10, y330), (11, y331), (12, y332), (28, y333), (69, y334), (70, y335), (71, y336), (72, y337), (75, y338)] [(65, F339), (66, F340), (67, F341), (68, F342)]) c, N), 0, 0) (Q_after m c N B) := by
    intro v323 v324 v325 v326 y327 y328 y329 y330 y331 y332 y333 y334 y335 y336 y337 y338 F339 F340 F341 F342 q344 q345 q346 q347 q348 q349 q350 q351 q352 q353 q354 q355 q356 q357 q358 q359 q360 q361 q362 q363 i364 i365 i366 i367 i368 i369
    obtain ⟨q344a, q344b⟩ := id q344
    obtain ⟨q345a, q345b⟩ := id q345
    obtain ⟨q346a, q346b⟩ := id q346
    obtain ⟨q347a, q347b⟩ := id q347
    refine T_ld 160 (.ref 189) rfl (fun _ => rfl) ?_
    refine T_ld 161 (.long (i64 v324)) rfl (fun _ => rfl) ?_
    refine T_ld 163 (.long (i64 v325)) rfl (fun _ => rfl) ?_
    refine T_lsub 164 rfl rfl ?_
    refine T_l2i 165 rfl rfl ?_
    refine T_ld 166 (.int (i32 1)) rfl (fun _ => rfl) ?_
    refine T_iadd 167 rfl rfl ?_
    refine T_ld 169 (.int (i32 v326)) rfl (fun _ => rfl) ?_
    refine T_call 172 250 [.ref 189, .int (i32 ((v324 - v325) + 1)), .int (i32 v326)] [] rfl (fun _ => rfl) rfl (c_unit w (mO m [(7, y327), (8, y328), (9, y329), (10, y330), (11, y331), (12, y332), (28, y333), (69, y334), (70, y335), (71, y336), (72, y337), (75, y338)] [(65, F339), (66, F340), (67, F341), (68, F342)]) c N D (by omega) (Ty_mO hT rfl rfl ⟨q348, q349, q350, q351, q352, q353, q354, q355, q356, q357, q358, q359, trivial⟩ ⟨q360, q361, q362, q363, trivial⟩) ((v324 - v325) + 1) v326 (r32 (by omega) (by omega)) (r32 (by omega) (by omega)) (show 0 ≤ ((v324 - v325) + 1) ∧ ((v324 - v325) + 1) ≤ 1024 by omega) (show 0 ≤ v326 ∧ v326 ≤ 4000 by omega)) (fun r371 k372 => ?_)
    obtain ⟨y373, y375, y377, y379, g374, g376, g378, g380, h381, rfl⟩ := k372
    refine ⟨_, _, rfl, ?_⟩
    refine T_nf (st' := []) (l' := [(7, y327), (8, y328), (9, y329), (10, y330), (11, y331), (12, y332), (28, y333), (69, y373), (70, y375), (71, y377), (72, y379), (75, y338)]) (a' := [(65, F339), (66, F340), (67, F341), (68, F342)]) rfl rfl rfl rfl rfl ?_
    replace h381 : y373 = ((v324 - v325) + 1) := h381
    clear q355 q356 q357 q358
    refine T_goto 224 rfl (fun _ => rfl) ?_
    refine T_ret rfl (fun _ => rfl) ?_
    exact ⟨y327, y328, y329, y330, y331, y332, y333, y373, y375, y377, y379, y338, F339, F340, F341, F342, q348, q349, q350, q351, q352, q353, q354, g374, g376, g378, g380, q359, q360, q361, q362, q363, (by omega), (by first | exact hLx | (intro h9; exfalso; omega)), (fun h => absurd h (by omega)), rfl⟩
  have J127_401 : ∀ (v382 : Int) (v383 : Int) (v384 : Int) (y385 : Int) (y386 : Int) (y387 : Int) (y388 : Int) (y389 : Int) (y390 : Int) (y391 : Int) (y392 : Int) (y393 : Int) (y394 : Int) (y395 : Int) (y396 : Int) (F397 : Int → Int) (F398 : Int → Int) (F399 : Int → Int) (F400 : Int → Int), (R32 v382) → (R64 v383) → (R64 v384) → (0 ≤ y385 ∧ y385 ≤ 330) → (0 ≤ y386 ∧ y386 ≤ 4000) → (0 ≤ y387 ∧ y387 ≤ 4000) → (0 ≤ y388 ∧ y388 ≤ 8) → ((-1) ≤ y389 ∧ y389 ≤ 4000) → ((-9223372036854775808) ≤ y390 ∧ y390 ≤ 9223372036854775807) → (0 ≤ y391 ∧ y391 ≤ 800) → (0 ≤ y392 ∧ y392 ≤ 1024) → (0 ≤ y393 ∧ y393 ≤ 4000) → (0 ≤ y394 ∧ y394 ≤ 1) → ((-9223372036854775808) ≤ y395 ∧ y395 ≤ 9223372036854775807) → (0 ≤ y396 ∧ y396 ≤ 3) → (∀ j, 0 ≤ F397 j ∧ F397 j ≤ 408) → (∀ j, 0 ≤ F398 j ∧ F398 j ≤ 64) → (∀ j, 0 ≤ F399 j ∧ F399 j ≤ 191) → (∀ j, (-9223372036854775808) ≤ F400 j ∧ F400 j ≤ 9223372036854775807) → (0 ≤ v382) → (v382 ≤ 4000) → (1 ≤ y388) → (y388 ≤ 8) → TT w D pm_255 (127, [(0, .ref 189), (1, .int (i32 v382)), (2, .long (i64 v383)), (4, .long (i64 v384))], [], (mhp (mO m [(7, y385), (8, y386), (9, y387), (10, y388), (11, y389), (12, y390), (28, y391), (69, y392), (70, y393), (71, y394), (72, y395), (75, y396)] [(65, F397), (66, F398), (67, F399), (68, F400)]) c, N), 0, 0) (Q_after m c N B) := by
    intro v382 v383 v384 y385 y386 y387 y388 y389 y390 y391 y392 y393 y394 y395 y396 F397 F398 F399 F400 q402 q403 q404 q405 q406 q407 q408 q409 q410 q411 q412 q413 q414 q415 q416 q417 q418 q419 q420 i421 i422 i423 i424
    obtain ⟨q402a, q402b⟩ := id q402
    obtain ⟨q403a, q403b⟩ := id q403
    obtain ⟨q404a, q404b⟩ := id q404
    refine T_gf 131 (.int (i32 y388)) rfl rfl rfl rfl rfl rfl ?_
    refine T_if 135 134 rfl rfl rfl (r32 (by omega) (by omega)) (fun (h426 : y388 ≤ 0) => by exfalso; omega) (fun (h426 : ¬ (y388 ≤ 0)) => ?_)
    refine T_ret rfl (fun _ => rfl) ?_
    exact ⟨y385, y386, y387, y388, y389, y390, y391, y392, y393, y394, y395, y396, F397, F398, F399, F400, q405, q406, q407, q408, q409, q410, q411, q412, q413, q414, q415, q416, q417, q418, q419, q420, (by omega), (by first | exact hLx | (intro h9; exfalso; omega)), (fun h => absurd h (by omega)), rfl⟩
  have J121_446 : ∀ (v427 : Int) (v428 : Int) (v429 : Int) (y430 : Int) (y431 : Int) (y432 : Int) (y433 : Int) (y434 : Int) (y435 : Int) (y436 : Int) (y437 : Int) (y438 : Int) (y439 : Int) (y440 : Int) (y441 : Int) (F442 : Int → Int) (F443 : Int → Int) (F444 : Int → Int) (F445 : Int → Int), (R32 v427) → (R64 v428) → (R64 v429) → (0 ≤ y430 ∧ y430 ≤ 330) → (0 ≤ y431 ∧ y431 ≤ 4000) → (0 ≤ y432 ∧ y432 ≤ 4000) → (0 ≤ y433 ∧ y433 ≤ 8) → ((-1) ≤ y434 ∧ y434 ≤ 4000) → ((-9223372036854775808) ≤ y435 ∧ y435 ≤ 9223372036854775807) → (0 ≤ y436 ∧ y436 ≤ 800) → (0 ≤ y437 ∧ y437 ≤ 1024) → (0 ≤ y438 ∧ y438 ≤ 4000) → (0 ≤ y439 ∧ y439 ≤ 1) → ((-9223372036854775808) ≤ y440 ∧ y440 ≤ 9223372036854775807) → (0 ≤ y441 ∧ y441 ≤ 3) → (∀ j, 0 ≤ F442 j ∧ F442 j ≤ 408) → (∀ j, 0 ≤ F443 j ∧ F443 j ≤ 64) → (∀ j, 0 ≤ F444 j ∧ F444 j ≤ 191) → (∀ j, (-9223372036854775808) ≤ F445 j ∧ F445 j ≤ 9223372036854775807) → (0 ≤ v427) → (v427 ≤ 4000) → (1 ≤ y433) → (y433 ≤ 8) → TT w D pm_255 (121, [(0, .ref 189), (1, .int (i32 v427)), (2, .long (i64 v428)), (4, .long (i64 v429))], [], (mhp (mO m [(7, y430), (8, y431), (9, y432), (10, y433), (11, y434), (12, y435), (28, y436), (69, y437), (70, y438), (71, y439), (72, y440), (75, y441)] [(65, F442), (66, F443), (67, F444), (68, F445)]) c, N), 0, 0) (Q_after m c N B) := by
    intro v427 v428 v429 y430 y431 y432 y433 y434 y435 y436 y437 y438 y439 y440 y441 F442 F443 F444 F445 q447 q448 q449 q450 q451 q452 q453 q454 q455 q456 q457 q458 q459 q460 q461 q462 q463 q464 q465 i466 i467 i468 i469
    obtain ⟨q447a, q447b⟩ := id q447
    obtain ⟨q448a, q448b⟩ := id q448
    obtain ⟨q449a, q449b⟩ := id q449
    refine T_ld 122 (.ref 189) rfl (fun _ => rfl) ?_
    refine T_ld 124 (.int (i32 93)) rfl (fun _ => rfl) ?_
    refine T_call 127 232 [.ref 189, .int (i32 93)] [] rfl (fun _ => rfl) rfl (c_need w (mO m [(7, y430), (8, y431), (9, y432), (10, y433), (11, y434), (12, y435), (28, y436), (69, y437), (70, y438), (71, y439), (72, y440), (75, y441)] [(65, F442), (66, F443), (67, F444), (68, F445)]) c N D (by omega) (Ty_mO hT rfl rfl ⟨q450, q451, q452, q453, q454, q455, q456, q457, q458, q459, q460, q461, trivial⟩ ⟨q462, q463, q464, q465, trivial⟩) 93 ⟨by decide, by decide⟩ (show 1 ≤ 93 by omega) (show LxP y430 y431 y432 (m.1 6) y433 by first | exact hLx | (intro h9; exfalso; omega) | (intro h9; have h8 := hLx (by omega); omega))) (fun r471 k472 => ?_)
    obtain ⟨y473, y475, y477, y479, y481, y483, g474, g476, g478, g480, g482, g484, h485, h486, h487, h488, rfl⟩ := k472
    refine ⟨_, _, rfl, ?_⟩
    refine T_nf (st' := []) (l' := [(7, y473), (8, y475), (9, y477), (10, y479), (11, y481), (12, y483), (28, y436), (69, y437), (70, y438), (71, y439), (72, y440), (75, y441)]) (a' := [(65, F442), (66, F443), (67, F444), (68, F445)]) rfl rfl rfl rfl rfl ?_
    replace h485 : LxP y473 y475 y477 (m.1 6) y479 := h485
    replace h486 : y479 = 0 → y433 = 0 ∧ y430 = 93 := h486
    replace h487 : y431 ≤ y475 := h487
    replace h488 : y479 = 0 → y431 + y432 ≤ y475 := h488
    have hf489 : 1 ≤ y479 := by omega
    clear h486
    clear h488
    have hLx := h485
    clear q450 q451 q452 q453 q454 q455 i468 i469 h487
    exact J127_401 v427 v428 v429 y473 y475 y477 y479 y481 y483 y436 y437 y438 y439 y440 y441 F442 F443 F444 F445 (r32 (by omega) (by omega)) (r64 (by omega) (by omega)) (r64 (by omega) (by omega)) g474 g476 g478 g480 g482 g484 q456 q457 q458 q459 q460 q461 q462 q463 q464 q465 (by omega) (by omega) (by omega) (by omega)
  have J74_509 : ∀ (v490 : Int) (v491 : Int) (v492 : Int) (y493 : Int) (y494 : Int) (y495 : Int) (y496 : Int) (y497 : Int) (y498 : Int) (y499 : Int) (y500 : Int) (y501 : Int) (y502 : Int) (y503 : Int) (y504 : Int) (F505 : Int → Int) (F506 : Int → Int) (F507 : Int → Int) (F508 : Int → Int), (R32 v490) → (R64 v491) → (R64 v492) → (0 ≤ y493 ∧ y493 ≤ 330) → (0 ≤ y494 ∧ y494 ≤ 4000) → (0 ≤ y495 ∧ y495 ≤ 4000) → (0 ≤ y496 ∧ y496 ≤ 8) → ((-1) ≤ y497 ∧ y497 ≤ 4000) → ((-9223372036854775808) ≤ y498 ∧ y498 ≤ 9223372036854775807) → (0 ≤ y499 ∧ y499 ≤ 800) → (0 ≤ y500 ∧ y500 ≤ 1024) → (0 ≤ y501 ∧ y501 ≤ 4000) → (0 ≤ y502 ∧ y502 ≤ 1) → ((-9223372036854775808) ≤ y503 ∧ y503 ≤ 9223372036854775807) → (0 ≤ y504 ∧ y504 ≤ 3) → (∀ j, 0 ≤ F505 j ∧ F505 j ≤ 408) → (∀ j, 0 ≤ F506 j ∧ F506 j ≤ 64) → (∀ j, 0 ≤ F507 j ∧ F507 j ≤ 191) → (∀ j, (-9223372036854775808) ≤ F508 j ∧ F508 j ≤ 9223372036854775807) → (0 ≤ v490) → (v490 ≤ 4000) → (1 ≤ y496) → (y496 ≤ 8) → TT w D pm_255 (74, [(0, .ref 189), (1, .int (i32 v490)), (2, .long (i64 v491)), (4, .long (i64 v492))], [], (mhp (mO m [(7, y493), (8, y494), (9, y495), (10, y496), (11, y497), (12, y498), (28, y499), (69, y500), (70, y501), (71, y502), (72, y503), (75, y504)] [(65, F505), (66, F506), (67, F507), (68, F508)]) c, N), 0, 0) (Q_after m c N B) := by
    intro v490 v491 v492 y493 y494 y495 y496 y497 y498 y499 y500 y501 y502 y503 y504 F505 F506 F507 F508 q510 q511 q512 q513 q514 q515 q516 q517 q518 q519 q520 q521 q522 q523 q524 q525 q526 q527 q528 i529 i530 i531 i532
    obtain ⟨q510a, q510b⟩ := id q510
    obtain ⟨q511a, q511b⟩ := id q511
    obtain ⟨q512a, q512b⟩ := id q512
    refine T_gf 78 (.int (i32 y496)) rfl rfl rfl rfl rfl rfl ?_
    refine T_if 121 81 rfl rfl rfl (r32 (by omega) (by omega)) (fun (h534 : y496 ≠ 0) => ?_) (fun (h534 : ¬ (y496 ≠ 0)) => by exfalso; omega)
    refine T_ld 122 (.ref 189) rfl (fun _ => rfl) ?_
    refine T_ld 124 (.int (i32 93)) rfl (fun _ => rfl) ?_
    refine T_call 127 232 [.ref 189, .int (i32 93)] [] rfl (fun _ => rfl) rfl (c_need w (mO m [(7, y493), (8, y494), (9, y495), (10, y496), (11, y497), (12, y498), (28, y499), (69, y500), (70, y501), (71, y502), (72, y503), (75, y504)] [(65, F505), (66, F506), (67, F507), (68, F508)]) c N D (by omega) (Ty_mO hT rfl rfl ⟨q513, q514, q515, q516, q517, q518, q519, q520, q521, q522, q523, q524, trivial⟩ ⟨q525, q526, q527, q528, trivial⟩) 93 ⟨by decide, by decide⟩ (show 1 ≤ 93 by omega) (show LxP y493 y494 y495 (m.1 6) y496 by first | exact hLx | (intro h9; exfalso; omega) | (intro h9; have h8 := hLx (by omega); omega))) (fun r535 k536 => ?_)
    obtain ⟨y537, y539, y541, y543, y545, y547, g538, g540, g542, g544, g546, g548, h549, h550, h551, h552, rfl⟩ := k536
    refine ⟨_, _, rfl, ?_⟩
    refine T_nf (st' := []) (l' := [(7, y537), (8, y539), (9, y541), (10, y543), (11, y545), (12, y547), (28, y499), (69, y500), (70, y501), (71, y502), (72, y503), (75, y504)]) (a' := [(65, F505), (66, F506), (67, F507), (68, F508)]) rfl rfl rfl rfl rfl ?_
    replace h549 : LxP y537 y539 y541 (m.1 6) y543 := h549
    replace h550 : y543 = 0 → y496 = 0 ∧ y493 = 93 := h550
    replace h551 : y494 ≤ y539 := h551
    replace h552 : y543 = 0 → y494 + y495 ≤ y539 := h552
    have hf553 : 1 ≤ y543 := by omega
    clear h550
    clear h552
    have hLx := h549
    clear q513 q514 q515 q516 q517 q518 i531 i532 h534 h551
    exact J127_401 v490 v491 v492 y537 y539 y541 y543 y545 y547 y499 y500 y501 y502 y503 y504 F505 F506 F507 F508 (r32 (by omega) (by omega)) (r64 (by omega) (by omega)) (r64 (by omega) (by omega)) g538 g540 g542 g544 g546 g548 q519 q520 q521 q522 q523 q524 q525 q526 q527 q528 (by omega) (by omega) (by omega) (by omega)
  have J45_572 : ∀ (v554 : Int) (v555 : Int) (y556 : Int) (y557 : Int) (y558 : Int) (y559 : Int) (y560 : Int) (y561 : Int) (y562 : Int) (y563 : Int) (y564 : Int) (y565 : Int) (y566 : Int) (y567 : Int) (F568 : Int → Int) (F569 : Int → Int) (F570 : Int → Int) (F571 : Int → Int), (R32 v554) → (R64 v555) → (0 ≤ y556 ∧ y556 ≤ 330) → (0 ≤ y557 ∧ y557 ≤ 4000) → (0 ≤ y558 ∧ y558 ≤ 4000) → (0 ≤ y559 ∧ y559 ≤ 8) → ((-1) ≤ y560 ∧ y560 ≤ 4000) → ((-9223372036854775808) ≤ y561 ∧ y561 ≤ 9223372036854775807) → (0 ≤ y562 ∧ y562 ≤ 800) → (0 ≤ y563 ∧ y563 ≤ 1024) → (0 ≤ y564 ∧ y564 ≤ 4000) → (0 ≤ y565 ∧ y565 ≤ 1) → ((-9223372036854775808) ≤ y566 ∧ y566 ≤ 9223372036854775807) → (0 ≤ y567 ∧ y567 ≤ 3) → (∀ j, 0 ≤ F568 j ∧ F568 j ≤ 408) → (∀ j, 0 ≤ F569 j ∧ F569 j ≤ 64) → (∀ j, 0 ≤ F570 j ∧ F570 j ≤ 191) → (∀ j, (-9223372036854775808) ≤ F571 j ∧ F571 j ≤ 9223372036854775807) → (0 ≤ v554) → (v554 ≤ 4000) → (1 ≤ y559) → (y559 ≤ 8) → TT w D pm_255 (45, [(0, .ref 189), (1, .int (i32 v554)), (2, .long (i64 v555))], [], (mhp (mO m [(7, y556), (8, y557), (9, y558), (10, y559), (11, y560), (12, y561), (28, y562), (69, y563), (70, y564), (71, y565), (72, y566), (75, y567)] [(65, F568), (66, F569), (67, F570), (68, F571)]) c, N), 0, 0) (Q_after m c N B) := by
    intro v554 v555 y556 y557 y558 y559 y560 y561 y562 y563 y564 y565 y566 y567 F568 F569 F570 F571 q573 q574 q575 q576 q577 q578 q579 q580 q581 q582 q583 q584 q585 q586 q587 q588 q589 q590 i591 i592 i593 i594
    obtain ⟨q573a, q573b⟩ := id q573
    obtain ⟨q574a, q574b⟩ := id q574
    refine T_gf 49 (.int (i32 y559)) rfl rfl rfl rfl rfl rfl ?_
    refine T_if 64 52 rfl rfl rfl (r32 (by omega) (by omega)) (fun (h596 : y559 ≠ 0) => ?_) (fun (h596 : ¬ (y559 ≠ 0)) => by exfalso; omega)
    refine T_gf 68 (.long (i64 y561)) rfl rfl rfl rfl rfl rfl ?_
    refine T_sto 70 [(4, .long (i64 y561)), (0, .ref 189), (1, .int (i32 v554)), (2, .long (i64 v555))] rfl (fun _ => rfl) ?_
    refine T_ld 71 (.ref 189) rfl (fun _ => rfl) ?_
    refine T_call 74 212 [.ref 189] [] rfl (fun _ => rfl) rfl (c_next w (mO m [(7, y556), (8, y557), (9, y558), (10, y559), (11, y560), (12, y561), (28, y562), (69, y563), (70, y564), (71, y565), (72, y566), (75, y567)] [(65, F568), (66, F569), (67, F570), (68, F571)]) c N D (by omega) (Ty_mO hT rfl rfl ⟨q575, q576, q577, q578, q579, q580, q581, q582, q583, q584, q585, q586, trivial⟩ ⟨q587, q588, q589, q590, trivial⟩) (show y559 = 0 → y557 + y558 ≤ (m.1 6) by first | omega | (intro h9; have h8 := hLx h9; omega))) (fun r597 k598 => ?_)
    obtain ⟨y599, y601, y603, y605, y607, y609, g600, g602, g604, g606, g608, g610, h611, h612, h613, h614, rfl⟩ := k598
    refine ⟨_, _, rfl, ?_⟩
    refine T_nf (st' := []) (l' := [(7, y599), (8, y601), (9, y603), (10, y605), (11, y607), (12, y609), (28, y562), (69, y563), (70, y564), (71, y565), (72, y566), (75, y567)]) (a' := [(65, F568), (66, F569), (67, F570), (68, F571)]) rfl rfl rfl rfl rfl ?_
    replace h611 : LxP y599 y601 y603 (m.1 6) y605 := h611
    replace h612 : y605 = 0 → y559 = 0 := h612
    replace h613 : y557 ≤ y601 := h613
    replace h614 : y605 = 0 → y557 + y558 ≤ y601 := h614
    have hf615 : 1 ≤ y605 := by omega
    clear h612
    clear h614
    have hLx := h611
    clear q575 q576 q577 q578 q579 i593 i594 h596 h613
    refine Tm_lv (a := [(0, .ref 189), (1, .int (i32 v554)), (2, .long (i64 v555)), (4, .long (i64 y561))]) rfl rfl ⟨rfl, rfl, rfl, rfl, trivial⟩ ?_
    exact J74_509 v554 v555 y561 y599 y601 y603 y605 y607 y609 y562 y563 y564 y565 y566 y567 F568 F569 F570 F571 (r32 (by omega) (by omega)) (r64 (by omega) (by omega)) (r64 (by omega) (by omega)) g600 g602 g604 g606 g608 g610 q581 q582 q583 q584 q585 q586 q587 q588 q589 q590 (by omega) (by omega) (by omega) (by omega)
  have J39_634 : ∀ (v616 : Int) (v617 : Int) (y618 : Int) (y619 : Int) (y620 : Int) (y621 : Int) (y622 : Int) (y623 : Int) (y624 : Int) (y625 : Int) (y626 : Int) (y627 : Int) (y628 : Int) (y629 : Int) (F630 : Int → Int) (F631 : Int → Int) (F632 : Int → Int) (F633 : Int → Int), (R32 v616) → (R64 v617) → (0 ≤ y618 ∧ y618 ≤ 330) → (0 ≤ y619 ∧ y619 ≤ 4000) → (0 ≤ y620 ∧ y620 ≤ 4000) → (0 ≤ y621 ∧ y621 ≤ 8) → ((-1) ≤ y622 ∧ y622 ≤ 4000) → ((-9223372036854775808) ≤ y623 ∧ y623 ≤ 9223372036854775807) → (0 ≤ y624 ∧ y624 ≤ 800) → (0 ≤ y625 ∧ y625 ≤ 1024) → (0 ≤ y626 ∧ y626 ≤ 4000) → (0 ≤ y627 ∧ y627 ≤ 1) → ((-9223372036854775808) ≤ y628 ∧ y628 ≤ 9223372036854775807) → (0 ≤ y629 ∧ y629 ≤ 3) → (∀ j, 0 ≤ F630 j ∧ F630 j ≤ 408) → (∀ j, 0 ≤ F631 j ∧ F631 j ≤ 64) → (∀ j, 0 ≤ F632 j ∧ F632 j ≤ 191) → (∀ j, (-9223372036854775808) ≤ F633 j ∧ F633 j ≤ 9223372036854775807) → (0 ≤ v616) → (v616 ≤ 4000) → (1 ≤ y621) → (y621 ≤ 8) → TT w D pm_255 (39, [(0, .ref 189), (1, .int (i32 v616)), (2, .long (i64 v617))], [], (mhp (mO m [(7, y618), (8, y619), (9, y620), (10, y621), (11, y622), (12, y623), (28, y624), (69, y625), (70, y626), (71, y627), (72, y628), (75, y629)] [(65, F630), (66, F631), (67, F632), (68, F633)]) c, N), 0, 0) (Q_after m c N B) := by
    intro v616 v617 y618 y619 y620 y621 y622 y623 y624 y625 y626 y627 y628 y629 F630 F631 F632 F633 q635 q636 q637 q638 q639 q640 q641 q642 q643 q644 q645 q646 q647 q648 q649 q650 q651 q652 i653 i654 i655 i656
    obtain ⟨q635a, q635b⟩ := id q635
    obtain ⟨q636a, q636b⟩ := id q636
    refine T_ld 40 (.ref 189) rfl (fun _ => rfl) ?_
    refine T_ld 42 (.int (i32 58)) rfl (fun _ => rfl) ?_
    refine T_call 45 232 [.ref 189, .int (i32 58)] [] rfl (fun _ => rfl) rfl (c_need w (mO m [(7, y618), (8, y619), (9, y620), (10, y621), (11, y622), (12, y623), (28, y624), (69, y625), (70, y626), (71, y627), (72, y628), (75, y629)] [(65, F630), (66, F631), (67, F632), (68, F633)]) c N D (by omega) (Ty_mO hT rfl rfl ⟨q637, q638, q639, q640, q641, q642, q643, q644, q645, q646, q647, q648, trivial⟩ ⟨q649, q650, q651, q652, trivial⟩) 58 ⟨by decide, by decide⟩ (show 1 ≤ 58 by omega) (show LxP y618 y619 y620 (m.1 6) y621 by first | exact hLx | (intro h9; exfalso; omega) | (intro h9; have h8 := hLx (by omega); omega))) (fun r658 k659 => ?_)
    obtain ⟨y660, y662, y664, y666, y668, y670, g661, g663, g665, g667, g669, g671, h672, h673, h674, h675, rfl⟩ := k659
    refine ⟨_, _, rfl, ?_⟩
    refine T_nf (st' := []) (l' := [(7, y660), (8, y662), (9, y664), (10, y666), (11, y668), (12, y670), (28, y624), (69, y625), (70, y626), (71, y627), (72, y628), (75, y629)]) (a' := [(65, F630), (66, F631), (67, F632), (68, F633)]) rfl rfl rfl rfl rfl ?_
    replace h672 : LxP y660 y662 y664 (m.1 6) y666 := h672
    replace h673 : y666 = 0 → y621 = 0 ∧ y618 = 58 := h673
    replace h674 : y619 ≤ y662 := h674
    replace h675 : y666 = 0 → y619 + y620 ≤ y662 := h675
    have hf676 : 1 ≤ y666 := by omega
    clear h673
    clear h675
    have hLx := h672
    clear q637 q638 q639 q640 q641 q642 i655 i656 h674
    exact J45_572 v616 v617 y660 y662 y664 y666 y668 y670 y624 y625 y626 y627 y628 y629 F630 F631 F632 F633 (r32 (by omega) (by omega)) (r64 (by omega) (by omega)) g661 g663 g665 g667 g669 g671 q643 q644 q645 q646 q647 q648 q649 q650 q651 q652 (by omega) (by omega) (by omega) (by omega)
  have J30_694 : ∀ (v677 : Int) (y678 : Int) (y679 : Int) (y680 : Int) (y681 : Int) (y682 : Int) (y683 : Int) (y684 : Int) (y685 : Int) (y686 : Int) (y687 : Int) (y688 : Int) (y689 : Int) (F690 : Int → Int) (F691 : Int → Int) (F692 : Int → Int) (F693 : Int → Int), (R32 v677) → (0 ≤ y678 ∧ y678 ≤ 330) → (0 ≤ y679 ∧ y679 ≤ 4000) → (0 ≤ y680 ∧ y680 ≤ 4000) → (0 ≤ y681 ∧ y681 ≤ 8) → ((-1) ≤ y682 ∧ y682 ≤ 4000) → ((-9223372036854775808) ≤ y683 ∧ y683 ≤ 9223372036854775807) → (0 ≤ y684 ∧ y684 ≤ 800) → (0 ≤ y685 ∧ y685 ≤ 1024) → (0 ≤ y686 ∧ y686 ≤ 4000) → (0 ≤ y687 ∧ y687 ≤ 1) → ((-9223372036854775808) ≤ y688 ∧ y688 ≤ 9223372036854775807) → (0 ≤ y689 ∧ y689 ≤ 3) → (∀ j, 0 ≤ F690 j ∧ F690 j ≤ 408) → (∀ j, 0 ≤ F691 j ∧ F691 j ≤ 64) → (∀ j, 0 ≤ F692 j ∧ F692 j ≤ 191) → (∀ j, (-9223372036854775808) ≤ F693 j ∧ F693 j ≤ 9223372036854775807) → (0 ≤ v677) → (v677 ≤ 4000) → (1 ≤ y681) → (y681 ≤ 8) → TT w D pm_255 (30, [(0, .ref 189), (1, .int (i32 v677))], [], (mhp (mO m [(7, y678), (8, y679), (9, y680), (10, y681), (11, y682), (12, y683), (28, y684), (69, y685), (70, y686), (71, y687), (72, y688), (75, y689)] [(65, F690), (66, F691), (67, F692), (68, F693)]) c, N), 0, 0) (Q_after m c N B) := by
    intro v677 y678 y679 y680 y681 y682 y683 y684 y685 y686 y687 y688 y689 F690 F691 F692 F693 q695 q696 q697 q698 q699 q700 q701 q702 q703 q704 q705 q706 q707 q708 q709 q710 q711 i712 i713 i714 i715
    obtain ⟨q695a, q695b⟩ := id q695
    refine T_gf 34 (.long (i64 y683)) rfl rfl rfl rfl rfl rfl ?_
    refine T_sto 35 [(2, .long (i64 y683)), (0, .ref 189), (1, .int (i32 v677))] rfl (fun _ => rfl) ?_
    refine T_ld 36 (.ref 189) rfl (fun _ => rfl) ?_
    refine T_call 39 212 [.ref 189] [] rfl (fun _ => rfl) rfl (c_next w (mO m [(7, y678), (8, y679), (9, y680), (10, y681), (11, y682), (12, y683), (28, y684), (69, y685), (70, y686), (71, y687), (72, y688), (75, y689)] [(65, F690), (66, F691), (67, F692), (68, F693)]) c N D (by omega) (Ty_mO hT rfl rfl ⟨q696, q697, q698, q699, q700, q701, q702, q703, q704, q705, q706, q707, trivial⟩ ⟨q708, q709, q710, q711, trivial⟩) (show y681 = 0 → y679 + y680 ≤ (m.1 6) by first | omega | (intro h9; have h8 := hLx h9; omega))) (fun r717 k718 => ?_)
    obtain ⟨y719, y721, y723, y725, y727, y729, g720, g722, g724, g726, g728, g730, h731, h732, h733, h734, rfl⟩ := k718
    refine ⟨_, _, rfl, ?_⟩
    refine T_nf (st' := []) (l' := [(7, y719), (8, y721), (9, y723), (10, y725), (11, y727), (12, y729), (28, y684), (69, y685), (70, y686), (71, y687), (72, y688), (75, y689)]) (a' := [(65, F690), (66, F691), (67, F692), (68, F693)]) rfl rfl rfl rfl rfl ?_
    replace h731 : LxP y719 y721 y723 (m.1 6) y725 := h731
    replace h732 : y725 = 0 → y681 = 0 := h732
    replace h733 : y679 ≤ y721 := h733
    replace h734 : y725 = 0 → y679 + y680 ≤ y721 := h734
    have hf735 : 1 ≤ y725 := by omega
    clear h732
    clear h734
    have hLx := h731
    clear q696 q697 q698 q699 q700 i714 i715 h733
    refine Tm_lv (a := [(0, .ref 189), (1, .int (i32 v677)), (2, .long (i64 y683))]) rfl rfl ⟨rfl, rfl, rfl, trivial⟩ ?_
    exact J39_634 v677 y683 y719 y721 y723 y725 y727 y729 y684 y685 y686 y687 y688 y689 F690 F691 F692 F693 (r32 (by omega) (by omega)) (r64 (by omega) (by omega)) g720 g722 g724 g726 g728 g730 q702 q703 q704 q705 q706 q707 q708 q709 q710 q711 (by omega) (by omega) (by omega) (by omega)
  refine T_gf 4 (.int (i32 (m.1 7))) rfl rfl rfl rfl rfl rfl ?_
  refine T_ld 6 (.int (i32 91)) rfl (fun _ => rfl) ?_
  refine T_icmp 175 9 rfl rfl rfl (r32 (by omega) (by omega)) ⟨by decide, by decide⟩ (fun (h736 : (m.1 7) ≠ 91) => ?_) (fun (h736 : ¬ ((m.1 7) ≠ 91)) => ?_)
  · skip
    refine T_gf 179 (.int (i32 (m.1 7))) rfl rfl rfl rfl rfl rfl ?_
    refine T_ld 182 (.int (i32 330)) rfl (fun _ => rfl) ?_
    refine T_icmp 219 185 rfl rfl rfl (r32 (by omega) (by omega)) ⟨by decide, by decide⟩ (fun (h737 : (m.1 7) ≠ 330) => ?_) (fun (h737 : ¬ ((m.1 7) ≠ 330)) => ?_)
    · skip
      refine T_ld 220 (.ref 189) rfl (fun _ => rfl) ?_
      refine T_ld 221 (.int (i32 2)) rfl (fun _ => rfl) ?_
      refine T_pf (l' := [(7, (m.1 7)), (8, (m.1 8)), (9, (m.1 9)), (10, (m.1 10)), (11, (m.1 11)), (12, (m.1 12)), (28, (m.1 28)), (69, (m.1 69)), (70, (m.1 70)), (71, (m.1 71)), (72, (m.1 72)), (75, 2)]) 224 2 rfl rfl rfl rfl rfl rfl ?_
      refine T_ret rfl (fun _ => rfl) ?_
      exact ⟨(m.1 7), (m.1 8), (m.1 9), (m.1 10), (m.1 11), (m.1 12), (m.1 28), (m.1 69), (m.1 70), (m.1 71), (m.1 72), 2, (m.2 65), (m.2 66), (m.2 67), (m.2 68), f7, f8, f9, f10, f11, f12, f28, f69, f70, f71, f72, ⟨by omega, by omega⟩, (hT.2.1 65), (hT.2.1 66), (hT.2.1 67), (hT.2.1 68), (by omega), (by first | exact hLx | (intro h9; exfalso; omega)), (fun _ => ⟨(by omega), (by omega), (by omega), (by exact hXE), (by exact hAgC)⟩), rfl⟩
    · skip
      refine T_ld 186 (.ref 189) rfl (fun _ => rfl) ?_
      refine T_call 189 212 [.ref 189] [] rfl (fun _ => rfl) rfl (c_next w (mO m [(7, (m.1 7)), (8, (m.1 8)), (9, (m.1 9)), (10, (m.1 10)), (11, (m.1 11)), (12, (m.1 12)), (28, (m.1 28)), (69, (m.1 69)), (70, (m.1 70)), (71, (m.1 71)), (72, (m.1 72)), (75, (m.1 75))] [(65, (m.2 65)), (66, (m.2 66)), (67, (m.2 67)), (68, (m.2 68))]) c N D (by omega) (Ty_mO hT rfl rfl ⟨f7, f8, f9, f10, f11, f12, f28, f69, f70, f71, f72, f75, trivial⟩ ⟨(hT.2.1 65), (hT.2.1 66), (hT.2.1 67), (hT.2.1 68), trivial⟩) (show (m.1 10) = 0 → (m.1 8) + (m.1 9) ≤ (m.1 6) by first | omega | (intro h9; have h8 := hLx h9; omega))) (fun r738 k739 => ?_)
      obtain ⟨y740, y742, y744, y746, y748, y750, g741, g743, g745, g747, g749, g751, h752, h753, h754, h755, rfl⟩ := k739
      refine ⟨_, _, rfl, ?_⟩
      refine T_nf (st' := []) (l' := [(7, y740), (8, y742), (9, y744), (10, y746), (11, y748), (12, y750), (28, (m.1 28)), (69, (m.1 69)), (70, (m.1 70)), (71, (m.1 71)), (72, (m.1 72)), (75, (m.1 75))]) (a' := [(65, (m.2 65)), (66, (m.2 66)), (67, (m.2 67)), (68, (m.2 68))]) rfl rfl rfl rfl rfl ?_
      by_cases hf756 : y746 = 0
      · skip
        subst hf756
        replace h752 : LxP y740 y742 y744 (m.1 6) 0 := h752
        have hLx := h752
        replace h753 : (m.1 10) = 0 := h753 rfl
        replace h754 : (m.1 8) ≤ y742 := h754
        replace h755 : (m.1 8) + (m.1 9) ≤ y742 := h755 rfl
        have u757 : (m.1 8) ≤ y742 := by omega
        have hAgC : agr (m.2 65) (m.2 65) (m.1 28) := by first | exact agr_r _ _ | exact hAgC | exact agr_t hAgC hAg (by omega)
        clear g747
        refine T_ld 190 (.ref 189) rfl (fun _ => rfl) ?_
        refine T_ld 191 (.int (i32 1)) rfl (fun _ => rfl) ?_
        refine T_ld 193 (.int (i32 64)) rfl (fun _ => rfl) ?_
        refine T_call 196 234 [.ref 189, .int (i32 1), .int (i32 64)] [] rfl (fun _ => rfl) rfl (c_number w (mO m [(7, y740), (8, y742), (9, y744), (10, 0), (11, y748), (12, y750), (28, (m.1 28)), (69, (m.1 69)), (70, (m.1 70)), (71, (m.1 71)), (72, (m.1 72)), (75, (m.1 75))] [(65, (m.2 65)), (66, (m.2 66)), (67, (m.2 67)), (68, (m.2 68))]) c N D (by omega) (Ty_mO hT rfl rfl ⟨g741, g743, g745, ⟨(by omega : (0 : Int) ≤ 0), (by omega : (0 : Int) ≤ 8)⟩, g749, g751, f28, f69, f70, f71, f72, f75, trivial⟩ ⟨(hT.2.1 65), (hT.2.1 66), (hT.2.1 67), (hT.2.1 68), trivial⟩) 1 64 ⟨by decide, by decide⟩ ⟨by decide, by decide⟩ (show LxP y740 y742 y744 (m.1 6) 0 by first | exact hLx | (intro h9; exfalso; omega) | (intro h9; have h8 := hLx (by omega); omega)) (show 1 ≤ 64 by omega)) (fun r758 k759 => ?_)
        obtain ⟨y760, y762, y764, y766, y768, y770, nu, g761, g763, g765, g767, g769, g771, g772, h773, h774, h775, h776, h777, rfl⟩ := k759
        refine ⟨_, _, rfl, ?_⟩
        refine T_nf (st' := [.int (i32 nu)]) (l' := [(7, y760), (8, y762), (9, y764), (10, y766), (11, y768), (12, y770), (28, (m.1 28)), (69, (m.1 69)), (70, (m.1 70)), (71, (m.1 71)), (72, (m.1 72)), (75, (m.1 75))]) (a' := [(65, (m.2 65)), (66, (m.2 66)), (67, (m.2 67)), (68, (m.2 68))]) rfl rfl rfl rfl rfl ?_
        obtain ⟨g772a, g772b⟩ := g772
        by_cases hf778 : y766 = 0
        · skip
          subst hf778
          replace h773 : LxP y760 y762 y764 (m.1 6) 0 := h773
          have hLx := h773
          replace h774 : y742 ≤ y762 := h774
          replace h775 : 0 = 0 ∧ y742 + y744 ≤ y762 := h775 rfl
          replace h776 : y740 = 2 := h776 rfl
          replace h777 : 1 ≤ nu ∧ nu ≤ 64 := h777
          have u779 : (m.1 8) ≤ y762 := by omega
          have hAgC : agr (m.2 65) (m.2 65) (m.1 28) := by first | exact agr_r _ _ | exact hAgC | exact agr_t hAgC hAg (by omega)
          clear g741 g743 g745 g749 g751 h752 h754 h755 u757 g767 h774 h775 h776
          refine T_sto 197 [(1, .int (i32 nu)), (0, .ref 189)] rfl (fun _ => rfl) ?_
          have hAr : ar 406 ≤ 1 + lh (m.2 79) (m.2 80) (m.1 73) := by rw [show ar 406 = 1 from rfl]; omega
          have hCk : CNk 406 0 := by refine ⟨?_, ?_, ?_, ?_⟩ <;> omega
          refine T_ld 198 (.ref 189) rfl (fun _ => rfl) ?_
          refine T_ld 201 (.int (i32 406)) rfl (fun _ => rfl) ?_
          refine T_ld 202 (.int (i32 nu)) rfl (fun _ => rfl) ?_
          refine T_ld 203 (.int (i32 0)) rfl (fun _ => rfl) ?_
          refine T_ld 204 (.long (i64 0)) rfl (fun _ => rfl) ?_
          refine T_call 207 248 [.ref 189, .int (i32 406), .int (i32 nu), .int (i32 0), .long (i64 0)] [] rfl (fun _ => rfl) rfl (c_node w (mO m [(7, y760), (8, y762), (9, y764), (10, 0), (11, y768), (12, y770), (28, (m.1 28)), (69, (m.1 69)), (70, (m.1 70)), (71, (m.1 71)), (72, (m.1 72)), (75, (m.1 75))] [(65, (m.2 65)), (66, (m.2 66)), (67, (m.2 67)), (68, (m.2 68))]) c N D (by omega) (Ty_mO hT rfl rfl ⟨g761, g763, g765, ⟨(by omega : (0 : Int) ≤ 0), (by omega : (0 : Int) ≤ 8)⟩, g769, g771, f28, f69, f70, f71, f72, f75, trivial⟩ ⟨(hT.2.1 65), (hT.2.1 66), (hT.2.1 67), (hT.2.1 68), trivial⟩) 406 nu 0 0 ($B) (1 + lh (m.2 79) (m.2 80) (m.1 73)) ⟨by decide, by decide⟩ (r32 (by omega) (by omega)) ⟨by decide, by decide⟩ ⟨by decide, by decide⟩ (fun _ => ⟨(show 0 ≤ 406 ∧ 406 ≤ 408 by first | omega | decide), (show 0 ≤ nu ∧ nu ≤ 64 by first | omega | decide), (show 0 ≤ 0 ∧ 0 ≤ 191 by first | omega | decide), (show CNk 406 0 by first | exact hCk | (refine ⟨?_, ?_, ?_, ?_⟩ <;> omega)), (show ar 406 ≤ (1 + lh (m.2 79) (m.2 80) (m.1 73)) by first | exact hAr | omega), (show EX (m.2 65) (m.2 67) ($B) (m.1 28) (1 + lh (m.2 79) (m.2 80) (m.1 73)) by first | exact hEX | assumption)⟩)) (fun r780 k781 => ?_)
          obtain ⟨y782, y784, y786, F788, F790, F792, F794, g783, g785, g787, G789, G791, G793, G795, h796, c797, rfl⟩ := k781
          refine ⟨_, _, rfl, ?_⟩
          refine T_nf (st' := []) (l' := [(7, y760), (8, y762), (9, y764), (10, y782), (11, y784), (12, y770), (28, y786), (69, (m.1 69)), (70, (m.1 70)), (71, (m.1 71)), (72, (m.1 72)), (75, (m.1 75))]) (a' := [(65, F788), (66, F790), (67, F792), (68, F794)]) rfl rfl rfl rfl rfl ?_
          by_cases hf798 : y782 = 0
          · skip
            subst hf798
            replace h796 : 0 = 0 := h796 rfl
            obtain ⟨c799, c800, c801⟩ := c797 rfl
            replace c799 : y786 = (m.1 28) + 1 := c799
            replace c800 : EX F788 F792 ($B) y786 ((1 + lh (m.2 79) (m.2 80) (m.1 73)) + 1 - ar 406) := c800
            have hEX := c800
            replace c801 : agr (m.2 65) F788 (m.1 28) := c801
            have hAg := c801
            have u802 : (m.1 8) ≤ y762 := by omega
            have hAgC : agr (m.2 65) F788 (m.1 28) := by first | exact agr_r _ _ | exact hAgC | exact agr_t hAgC hAg (by omega)
            clear g769 g783
            refine T_ld 208 (.ref 189) rfl (fun _ => rfl) ?_
            refine T_ld 209 (.int (i32 nu)) rfl (fun _ => rfl) ?_
            refine T_gf 213 (.int (i32 (m.1 70))) rfl rfl rfl rfl rfl rfl ?_
            refine T_call 216 250 [.ref 189, .int (i32 nu), .int (i32 (m.1 70))] [] rfl (fun _ => rfl) rfl (c_unit w (mO m [(7, y760), (8, y762), (9, y764), (10, 0), (11, y784), (12, y770), (28, y786), (69, (m.1 69)), (70, (m.1 70)), (71, (m.1 71)), (72, (m.1 72)), (75, (m.1 75))] [(65, F788), (66, F790), (67, F792), (68, F794)]) c N D (by omega) (Ty_mO hT rfl rfl ⟨g761, g763, g765, ⟨(by omega : (0 : Int) ≤ 0), (by omega : (0 : Int) ≤ 8)⟩, g785, g771, g787, f69, f70, f71, f72, f75, trivial⟩ ⟨G789, G791, G793, G795, trivial⟩) nu (m.1 70) (r32 (by omega) (by omega)) (r32 (by omega) (by omega)) (show 0 ≤ nu ∧ nu ≤ 1024 by omega) (show 0 ≤ (m.1 70) ∧ (m.1 70) ≤ 4000 by omega)) (fun r803 k804 => ?_)
            obtain ⟨y805, y807, y809, y811, g806, g808, g810, g812, h813, rfl⟩ := k804
            refine ⟨_, _, rfl, ?_⟩
            refine T_nf (st' := []) (l' := [(7, y760), (8, y762), (9, y764), (10, 0), (11, y784), (12, y770), (28, y786), (69, y805), (70, y807), (71, y809), (72, y811), (75, (m.1 75))]) (a' := [(65, F788), (66, F790), (67, F792), (68, F794)]) rfl rfl rfl rfl rfl ?_
            replace h813 : y805 = nu := h813
            have u814 : (m.1 8) ≤ y762 := by omega
            have hAgC : agr (m.2 65) F788 (m.1 28) := by first | exact agr_r _ _ | exact hAgC | exact agr_t hAgC hAg (by omega)
            have hXE : XS F788 F792 (m.2 76) (m.2 78) (m.2 79) (m.2 80) $B y786 (m.1 73) (m.1 74) 1 := XS_of hXS hEX (by rw [show ar 406 = 1 from rfl]; omega)
            refine T_goto 224 rfl (fun _ => rfl) ?_
            refine T_ret rfl (fun _ => rfl) ?_
            exact ⟨y760, y762, y764, 0, y784, y770, y786, y805, y807, y809, y811, (m.1 75), F788, F790, F792, F794, g761, g763, g765, ⟨by omega, by omega⟩, g785, g771, g787, g806, g808, g810, g812, f75, G789, G791, G793, G795, (by omega), (by first | exact hLx | (intro h9; exfalso; omega)), (fun _ => ⟨(by omega), (by omega), (by omega), (by exact hXE), (by exact hAgC)⟩), rfl⟩
          · skip
            clear c797
            clear h796
            have hf815 : 1 ≤ y782 := by omega
            clear g769
            refine Tm_lv (a := [(0, .ref 189), (1, .int (i32 nu))]) rfl rfl ⟨rfl, rfl, trivial⟩ ?_
            exact J207_234 nu y760 y762 y764 y782 y784 y770 y786 (m.1 69) (m.1 70) (m.1 71) (m.1 72) (m.1 75) F788 F790 F792 F794 (r32 (by omega) (by omega)) g761 g763 g765 g783 g785 g771 g787 f69 f70 f71 f72 f75 G789 G791 G793 G795 (by omega) (by omega)
        · skip
          replace h773 : LxP y760 y762 y764 (m.1 6) y766 := h773
          have hLx := h773
          replace h774 : y742 ≤ y762 := h774
          clear h775
          clear h776
          replace h777 : 1 ≤ nu ∧ nu ≤ 64 := h777
          have hf816 : 1 ≤ y766 := by omega
          clear g741 g743 g745 g749 g751 h752 h754 h755 u757 h774
          exact J196_283 nu y760 y762 y764 y766 y768 y770 (m.1 28) (m.1 69) (m.1 70) (m.1 71) (m.1 72) (m.1 75) (m.2 65) (m.2 66) (m.2 67) (m.2 68) (r32 (by omega) (by omega)) g761 g763 g765 g767 g769 g771 f28 f69 f70 f71 f72 f75 (hT.2.1 65) (hT.2.1 66) (hT.2.1 67) (hT.2.1 68) (by omega) (by omega)
      · skip
        replace h752 : LxP y740 y742 y744 (m.1 6) y746 := h752
        have hLx := h752
        clear h753
        replace h754 : (m.1 8) ≤ y742 := h754
        clear h755
        have hf817 : 1 ≤ y746 := by omega
        refine T_ld 190 (.ref 189) rfl (fun _ => rfl) ?_
        refine T_ld 191 (.int (i32 1)) rfl (fun _ => rfl) ?_
        refine T_ld 193 (.int (i32 64)) rfl (fun _ => rfl) ?_
        refine T_call 196 234 [.ref 189, .int (i32 1), .int (i32 64)] [] rfl (fun _ => rfl) rfl (c_number w (mO m [(7, y740), (8, y742), (9, y744), (10, y746), (11, y748), (12, y750), (28, (m.1 28)), (69, (m.1 69)), (70, (m.1 70)), (71, (m.1 71)), (72, (m.1 72)), (75, (m.1 75))] [(65, (m.2 65)), (66, (m.2 66)), (67, (m.2 67)), (68, (m.2 68))]) c N D (by omega) (Ty_mO hT rfl rfl ⟨g741, g743, g745, g747, g749, g751, f28, f69, f70, f71, f72, f75, trivial⟩ ⟨(hT.2.1 65), (hT.2.1 66), (hT.2.1 67), (hT.2.1 68), trivial⟩) 1 64 ⟨by decide, by decide⟩ ⟨by decide, by decide⟩ (show LxP y740 y742 y744 (m.1 6) y746 by first | exact hLx | (intro h9; exfalso; omega) | (intro h9; have h8 := hLx (by omega); omega)) (show 1 ≤ 64 by omega)) (fun r818 k819 => ?_)
        obtain ⟨y820, y822, y824, y826, y828, y830, nu, g821, g823, g825, g827, g829, g831, g832, h833, h834, h835, h836, h837, rfl⟩ := k819
        refine ⟨_, _, rfl, ?_⟩
        refine T_nf (st' := [.int (i32 nu)]) (l' := [(7, y820), (8, y822), (9, y824), (10, y826), (11, y828), (12, y830), (28, (m.1 28)), (69, (m.1 69)), (70, (m.1 70)), (71, (m.1 71)), (72, (m.1 72)), (75, (m.1 75))]) (a' := [(65, (m.2 65)), (66, (m.2 66)), (67, (m.2 67)), (68, (m.2 68))]) rfl rfl rfl rfl rfl ?_
        obtain ⟨g832a, g832b⟩ := g832
        replace h833 : LxP y820 y822 y824 (m.1 6) y826 := h833
        replace h834 : y742 ≤ y822 := h834
        replace h835 : y826 = 0 → y746 = 0 ∧ y742 + y744 ≤ y822 := h835
        replace h836 : y826 = 0 → y740 = 2 := h836
        replace h837 : 1 ≤ nu ∧ nu ≤ 64 := h837
        have hf838 : 1 ≤ y826 := by omega
        clear h835
        clear h836
        have hLx := h833
        clear g741 g743 g745 g747 g749 g751 h752 h754 hf817 h834
        exact J196_283 nu y820 y822 y824 y826 y828 y830 (m.1 28) (m.1 69) (m.1 70) (m.1 71) (m.1 72) (m.1 75) (m.2 65) (m.2 66) (m.2 67) (m.2 68) (r32 (by omega) (by omega)) g821 g823 g825 g827 g829 g831 f28 f69 f70 f71 f72 f75 (hT.2.1 65) (hT.2.1 66) (hT.2.1 67) (hT.2.1 68) (by omega) (by omega)
  · skip
    refine T_ld 10 (.ref 189) rfl (fun _ => rfl) ?_
    refine T_call 13 212 [.ref 189] [] rfl (fun _ => rfl) rfl (c_next w (mO m [(7, (m.1 7)), (8, (m.1 8)), (9, (m.1 9)), (10, (m.1 10)), (11, (m.1 11)), (12, (m.1 12)), (28, (m.1 28)), (69, (m.1 69)), (70, (m.1 70)), (71, (m.1 71)), (72, (m.1 72)), (75, (m.1 75))] [(65, (m.2 65)), (66, (m.2 66)), (67, (m.2 67)), (68, (m.2 68))]) c N D (by omega) (Ty_mO hT rfl rfl ⟨f7, f8, f9, f10, f11, f12, f28, f69, f70, f71, f72, f75, trivial⟩ ⟨(hT.2.1 65), (hT.2.1 66), (hT.2.1 67), (hT.2.1 68), trivial⟩) (show (m.1 10) = 0 → (m.1 8) + (m.1 9) ≤ (m.1 6) by first | omega | (intro h9; have h8 := hLx h9; omega))) (fun r839 k840 => ?_)
    obtain ⟨y841, y843, y845, y847, y849, y851, g842, g844, g846, g848, g850, g852, h853, h854, h855, h856, rfl⟩ := k840
    refine ⟨_, _, rfl, ?_⟩
    refine T_nf (st' := []) (l' := [(7, y841), (8, y843), (9, y845), (10, y847), (11, y849), (12, y851), (28, (m.1 28)), (69, (m.1 69)), (70, (m.1 70)), (71, (m.1 71)), (72, (m.1 72)), (75, (m.1 75))]) (a' := [(65, (m.2 65)), (66, (m.2 66)), (67, (m.2 67)), (68, (m.2 68))]) rfl rfl rfl rfl rfl ?_
    by_cases hf857 : y847 = 0
    · skip
      subst hf857
      replace h853 : LxP y841 y843 y845 (m.1 6) 0 := h853
      have hLx := h853
      replace h854 : (m.1 10) = 0 := h854 rfl
      replace h855 : (m.1 8) ≤ y843 := h855
      replace h856 : (m.1 8) + (m.1 9) ≤ y843 := h856 rfl
      have u858 : (m.1 8) ≤ y843 := by omega
      have hAgC : agr (m.2 65) (m.2 65) (m.1 28) := by first | exact agr_r _ _ | exact hAgC | exact agr_t hAgC hAg (by omega)
      clear g848
      refine T_gf 17 (.int (i32 y843)) rfl rfl rfl rfl rfl rfl ?_
      refine T_sto 18 [(1, .int (i32 y843)), (0, .ref 189)] rfl (fun _ => rfl) ?_
      refine T_gf 22 (.int (i32 y841)) rfl rfl rfl rfl rfl rfl ?_
      refine T_ld 23 (.int (i32 2)) rfl (fun _ => rfl) ?_
      refine T_icmp 30 26 rfl rfl rfl (r32 (by omega) (by omega)) ⟨by decide, by decide⟩ (fun (h859 : y841 = 2) => ?_) (fun (h859 : ¬ (y841 = 2)) => ?_)
      · skip
        refine T_gf 34 (.long (i64 y851)) rfl rfl rfl rfl rfl rfl ?_
        refine T_sto 35 [(2, .long (i64 y851)), (1, .int (i32 y843)), (0, .ref 189)] rfl (fun _ => rfl) ?_
        refine T_ld 36 (.ref 189) rfl (fun _ => rfl) ?_
        refine T_call 39 212 [.ref 189] [] rfl (fun _ => rfl) rfl (c_next w (mO m [(7, y841), (8, y843), (9, y845), (10, 0), (11, y849), (12, y851), (28, (m.1 28)), (69, (m.1 69)), (70, (m.1 70)), (71, (m.1 71)), (72, (m.1 72)), (75, (m.1 75))] [(65, (m.2 65)), (66, (m.2 66)), (67, (m.2 67)), (68, (m.2 68))]) c N D (by omega) (Ty_mO hT rfl rfl ⟨g842, g844, g846, ⟨(by omega : (0 : Int) ≤ 0), (by omega : (0 : Int) ≤ 8)⟩, g850, g852, f28, f69, f70, f71, f72, f75, trivial⟩ ⟨(hT.2.1 65), (hT.2.1 66), (hT.2.1 67), (hT.2.1 68), trivial⟩) (show 0 = 0 → y843 + y845 ≤ (m.1 6) by first | omega | (intro h9; have h8 := hLx h9; omega))) (fun r860 k861 => ?_)
        obtain ⟨y862, y864, y866, y868, y870, y872, g863, g865, g867, g869, g871, g873, h874, h875, h876, h877, rfl⟩ := k861
        refine ⟨_, _, rfl, ?_⟩
        refine T_nf (st' := []) (l' := [(7, y862), (8, y864), (9, y866), (10, y868), (11, y870), (12, y872), (28, (m.1 28)), (69, (m.1 69)), (70, (m.1 70)), (71, (m.1 71)), (72, (m.1 72)), (75, (m.1 75))]) (a' := [(65, (m.2 65)), (66, (m.2 66)), (67, (m.2 67)), (68, (m.2 68))]) rfl rfl rfl rfl rfl ?_
        by_cases hf878 : y868 = 0
        · skip
          subst hf878
          replace h874 : LxP y862 y864 y866 (m.1 6) 0 := h874
          have hLx := h874
          replace h875 : 0 = 0 := h875 rfl
          replace h876 : y843 ≤ y864 := h876
          replace h877 : y843 + y845 ≤ y864 := h877 rfl
          have u879 : (m.1 8) ≤ y864 := by omega
          have hAgC : agr (m.2 65) (m.2 65) (m.1 28) := by first | exact agr_r _ _ | exact hAgC | exact agr_t hAgC hAg (by omega)
          clear g842 g846 g850 h853 h859 g869 h877
          refine T_ld 40 (.ref 189) rfl (fun _ => rfl) ?_
          refine T_ld 42 (.int (i32 58)) rfl (fun _ => rfl) ?_
          refine T_call 45 232 [.ref 189, .int (i32 58)] [] rfl (fun _ => rfl) rfl (c_need w (mO m [(7, y862), (8, y864), (9, y866), (10, 0), (11, y870), (12, y872), (28, (m.1 28)), (69, (m.1 69)), (70, (m.1 70)), (71, (m.1 71)), (72, (m.1 72)), (75, (m.1 75))] [(65, (m.2 65)), (66, (m.2 66)), (67, (m.2 67)), (68, (m.2 68))]) c N D (by omega) (Ty_mO hT rfl rfl ⟨g863, g865, g867, ⟨(by omega : (0 : Int) ≤ 0), (by omega : (0 : Int) ≤ 8)⟩, g871, g873, f28, f69, f70, f71, f72, f75, trivial⟩ ⟨(hT.2.1 65), (hT.2.1 66), (hT.2.1 67), (hT.2.1 68), trivial⟩) 58 ⟨by decide, by decide⟩ (show 1 ≤ 58 by omega) (show LxP y862 y864 y866 (m.1 6) 0 by first | exact hLx | (intro h9; exfalso; omega) | (intro h9; have h8 := hLx (by omega); omega))) (fun r880 k881 => ?_)
          obtain ⟨y882, y884, y886, y888, y890, y892, g883, g885, g887, g889, g891, g893, h894, h895, h896, h897, rfl⟩ := k881
          refine ⟨_, _, rfl, ?_⟩
          refine T_nf (st' := []) (l' := [(7, y882), (8, y884), (9, y886), (10, y888), (11, y890), (12, y892), (28, (m.1 28)), (69, (m.1 69)), (70, (m.1 70)), (71, (m.1 71)), (72, (m.1 72)), (75, (m.1 75))]) (a' := [(65, (m.2 65)), (66, (m.2 66)), (67, (m.2 67)), (68, (m.2 68))]) rfl rfl rfl rfl rfl ?_
          by_cases hf898 : y888 = 0
          · skip
            subst hf898
            replace h894 : LxP y882 y884 y886 (m.1 6) 0 := h894
            have hLx := h894
            replace h895 : 0 = 0 ∧ y862 = 58 := h895 rfl
            replace h896 : y864 ≤ y884 := h896
            replace h897 : y864 + y866 ≤ y884 := h897 rfl
            have u899 : (m.1 8) ≤ y884 := by omega
            have hAgC : agr (m.2 65) (m.2 65) (m.1 28) := by first | exact agr_r _ _ | exact hAgC | exact agr_t hAgC hAg (by omega)
            clear g863 g865 g867 g871 g873 h874 h876 u879 g889 h895 h896 h897
            refine T_gf 49 (.int (i32 0)) rfl rfl rfl rfl rfl rfl ?_
            refine T_if 64 52 rfl rfl rfl ⟨by decide, by decide⟩ (fun h900 => absurd (show (0 : Int) ≠ 0 from h900) (by decide)) (fun _ => ?_)
            refine T_gf 56 (.int (i32 y882)) rfl rfl rfl rfl rfl rfl ?_
            refine T_ld 57 (.int (i32 2)) rfl (fun _ => rfl) ?_
            refine T_icmp 64 60 rfl rfl rfl (r32 (by omega) (by omega)) ⟨by decide, by decide⟩ (fun (h901 : y882 = 2) => ?_) (fun (h901 : ¬ (y882 = 2)) => ?_)
            · skip
              refine T_gf 68 (.long (i64 y892)) rfl rfl rfl rfl rfl rfl ?_
              refine T_sto 70 [(4, .long (i64 y892)), (2, .long (i64 y851)), (1, .int (i32 y843)), (0, .ref 189)] rfl (fun _ => rfl) ?_
              refine T_ld 71 (.ref 189) rfl (fun _ => rfl) ?_
              refine T_call 74 212 [.ref 189] [] rfl (fun _ => rfl) rfl (c_next w (mO m [(7, y882), (8, y884), (9, y886), (10, 0), (11, y890), (12, y892), (28, (m.1 28)), (69, (m.1 69)), (70, (m.1 70)), (71, (m.1 71)), (72, (m.1 72)), (75, (m.1 75))] [(65, (m.2 65)), (66, (m.2 66)), (67, (m.2 67)), (68, (m.2 68))]) c N D (by omega) (Ty_mO hT rfl rfl ⟨g883, g885, g887, ⟨(by omega : (0 : Int) ≤ 0), (by omega : (0 : Int) ≤ 8)⟩, g891, g893, f28, f69, f70, f71, f72, f75, trivial⟩ ⟨(hT.2.1 65), (hT.2.1 66), (hT.2.1 67), (hT.2.1 68), trivial⟩) (show 0 = 0 → y884 + y886 ≤ (m.1 6) by first | omega | (intro h9; have h8 := hLx h9; omega))) (fun r902 k903 => ?_)
              obtain ⟨y904, y906, y908, y910, y912, y914, g905, g907, g909, g911, g913, g915, h916, h917, h918, h919, rfl⟩ := k903
              refine ⟨_, _, rfl, ?_⟩
              refine T_nf (st' := []) (l' := [(7, y904), (8, y906), (9, y908), (10, y910), (11, y912), (12, y914), (28, (m.1 28)), (69, (m.1 69)), (70, (m.1 70)), (71, (m.1 71)), (72, (m.1 72)), (75, (m.1 75))]) (a' := [(65, (m.2 65)), (66, (m.2 66)), (67, (m.2 67)), (68, (m.2 68))]) rfl rfl rfl rfl rfl ?_
              by_cases hf920 : y910 = 0
              · skip
                subst hf920
                replace h916 : LxP y904 y906 y908 (m.1 6) 0 := h916
                have hLx := h916
                replace h917 : 0 = 0 := h917 rfl
                replace h918 : y884 ≤ y906 := h918
                replace h919 : y884 + y886 ≤ y906 := h919 rfl
                have u921 : (m.1 8) ≤ y906 := by omega
                have hAgC : agr (m.2 65) (m.2 65) (m.1 28) := by first | exact agr_r _ _ | exact hAgC | exact agr_t hAgC hAg (by omega)
                clear g883 g885 g887 g891 h894 u899 h901 g911 h918 h919
                refine T_gf 78 (.int (i32 0)) rfl rfl rfl rfl rfl rfl ?_
                refine T_if 121 81 rfl rfl rfl ⟨by decide, by decide⟩ (fun h922 => absurd (show (0 : Int) ≠ 0 from h922) (by decide)) (fun _ => ?_)
                refine T_ld 82 (.ref 189) rfl (fun _ => rfl) ?_
                refine T_ld 83 (.long (i64 y851)) rfl (fun _ => rfl) ?_
                refine T_ld 84 (.long (i64 0)) rfl (fun _ => rfl) ?_
                refine T_lcmp 85 rfl rfl (r64 (by omega) (by omega)) ⟨by decide, by decide⟩ (fun z923 h924 => ?_)
                obtain ⟨h924a, h924b, h924c, h924d, h924e⟩ := h924
                refine T_if 116 88 rfl rfl rfl (r32 (by omega) (by omega)) (fun (h925 : z923 < 0) => ?_) (fun (h925 : ¬ (z923 < 0)) => ?_)
                · skip
                  refine T_ld 117 (.int (i32 0)) rfl (fun _ => rfl) ?_
                  refine T_ld 118 (.int (i32 y843)) rfl (fun _ => rfl) ?_
                  refine T_call 121 256 [.ref 189, .int (i32 0), .int (i32 y843)] [] rfl (fun _ => rfl) rfl (c_want w (mO m [(7, y904), (8, y906), (9, y908), (10, 0), (11, y912), (12, y914), (28, (m.1 28)), (69, (m.1 69)), (70, (m.1 70)), (71, (m.1 71)), (72, (m.1 72)), (75, (m.1 75))] [(65, (m.2 65)), (66, (m.2 66)), (67, (m.2 67)), (68, (m.2 68))]) c N D (by omega) (Ty_mO hT rfl rfl ⟨g905, g907, g909, ⟨(by omega : (0 : Int) ≤ 0), (by omega : (0 : Int) ≤ 8)⟩, g913, g915, f28, f69, f70, f71, f72, f75, trivial⟩ ⟨(hT.2.1 65), (hT.2.1 66), (hT.2.1 67), (hT.2.1 68), trivial⟩) 0 y843 ⟨by decide, by decide⟩ (r32 (by omega) (by omega)) (show 0 ≤ y843 ∧ y843 ≤ 4000 by omega) (fun _ => trivial)) (fun r926 k927 => ?_)
                  obtain ⟨y928, y930, g929, g931, h932, c933, rfl⟩ := k927
                  refine ⟨_, _, rfl, ?_⟩
                  refine T_nf (st' := []) (l' := [(7, y904), (8, y906), (9, y908), (10, y928), (11, y930), (12, y914), (28, (m.1 28)), (69, (m.1 69)), (70, (m.1 70)), (71, (m.1 71)), (72, (m.1 72)), (75, (m.1 75))]) (a' := [(65, (m.2 65)), (66, (m.2 66)), (67, (m.2 67)), (68, (m.2 68))]) rfl rfl rfl rfl rfl ?_
                  by_cases hf934 : y928 = 0
                  · skip
                    subst hf934
                    replace h932 : 0 = 0 := h932 rfl
                    have c935 := c933 rfl
                    replace c935 : 0 ≠ 0 := c935
                    have u936 : (m.1 8) ≤ y906 := by omega
                    have hAgC : agr (m.2 65) (m.2 65) (m.1 28) := by first | exact agr_r _ _ | exact hAgC | exact agr_t hAgC hAg (by omega)
                    clear g913 h924a h924b h924c h924d h924e h925 g929
                    refine T_ld 122 (.ref 189) rfl (fun _ => rfl) ?_
                    refine T_ld 124 (.int (i32 93)) rfl (fun _ => rfl) ?_
                    refine T_call 127 232 [.ref 189, .int (i32 93)] [] rfl (fun _ => rfl) rfl (c_need w (mO m [(7, y904), (8, y906), (9, y908), (10, 0), (11, y930), (12, y914), (28, (m.1 28)), (69, (m.1 69)), (70, (m.1 70)), (71, (m.1 71)), (72, (m.1 72)), (75, (m.1 75))] [(65, (m.2 65)), (66, (m.2 66)), (67, (m.2 67)), (68, (m.2 68))]) c N D (by omega) (Ty_mO hT rfl rfl ⟨g905, g907, g909, ⟨(by omega : (0 : Int) ≤ 0), (by omega : (0 : Int) ≤ 8)⟩, g931, g915, f28, f69, f70, f71, f72, f75, trivial⟩ ⟨(hT.2.1 65), (hT.2.1 66), (hT.2.1 67), (hT.2.1 68), trivial⟩) 93 ⟨by decide, by decide⟩ (show 1 ≤ 93 by omega) (show LxP y904 y906 y908 (m.1 6) 0 by first | exact hLx | (intro h9; exfalso; omega) | (intro h9; have h8 := hLx (by omega); omega))) (fun r937 k938 => ?_)
                    obtain ⟨y939, y941, y943, y945, y947, y949, g940, g942, g944, g946, g948, g950, h951, h952, h953, h954, rfl⟩ := k938
                    refine ⟨_, _, rfl, ?_⟩
                    refine T_nf (st' := []) (l' := [(7, y939), (8, y941), (9, y943), (10, y945), (11, y947), (12, y949), (28, (m.1 28)), (69, (m.1 69)), (70, (m.1 70)), (71, (m.1 71)), (72, (m.1 72)), (75, (m.1 75))]) (a' := [(65, (m.2 65)), (66, (m.2 66)), (67, (m.2 67)), (68, (m.2 68))]) rfl rfl rfl rfl rfl ?_
                    by_cases hf955 : y945 = 0
                    · skip
                      subst hf955
                      replace h951 : LxP y939 y941 y943 (m.1 6) 0 := h951
                      have hLx := h951
                      replace h952 : 0 = 0 ∧ y904 = 93 := h952 rfl
                      replace h953 : y906 ≤ y941 := h953
                      replace h954 : y906 + y908 ≤ y941 := h954 rfl
                      have u956 : (m.1 8) ≤ y941 := by omega
                      have hAgC : agr (m.2 65) (m.2 65) (m.1 28) := by first | exact agr_r _ _ | exact hAgC | exact agr_t hAgC hAg (by omega)
                      clear g905 g907 g909 g915 h916 u921 g931 u936 g946 h952 h953 h954
                      refine T_gf 131 (.int (i32 0)) rfl rfl rfl rfl rfl rfl ?_
                      refine T_if 135 134 rfl rfl rfl ⟨by decide, by decide⟩ (fun _ => ?_) (fun h957 => absurd (show (0 : Int) ≤ 0 by decide) h957)
                      refine T_gf 139 (.int (i32 (m.1 70))) rfl rfl rfl rfl rfl rfl ?_
                      refine T_sto 141 [(6, .int (i32 (m.1 70))), (4, .long (i64 y892)), (2, .long (i64 y851)), (1, .int (i32 y843)), (0, .ref 189)] rfl (fun _ => rfl) ?_
                      have hAr : ar 405 ≤ 1 + lh (m.2 79) (m.2 80) (m.1 73) := by rw [show ar 405 = 1 from rfl]; omega
                      have hCk : CNk 405 y892 := by refine ⟨?_, ?_, ?_, ?_⟩ <;> omega
                      refine T_ld 142 (.ref 189) rfl (fun _ => rfl) ?_
                      refine T_ld 145 (.int (i32 405)) rfl (fun _ => rfl) ?_
                      refine T_ld 146 (.long (i64 y851)) rfl (fun _ => rfl) ?_
                      refine T_ld 148 (.long (i64 y892)) rfl (fun _ => rfl) ?_
                      refine T_lsub 149 rfl rfl ?_
                      refine T_l2i 150 rfl rfl ?_
                      refine T_ld 151 (.int (i32 1)) rfl (fun _ => rfl) ?_
                      refine T_iadd 152 rfl rfl ?_
                      refine T_ld 154 (.long (i64 y892)) rfl (fun _ => rfl) ?_
                      refine T_l2i 155 rfl rfl ?_
                      refine T_ld 156 (.long (i64 0)) rfl (fun _ => rfl) ?_
                      refine T_call 159 248 [.ref 189, .int (i32 405), .int (i32 ((y851 - y892) + 1)), .int (i32 y892), .long (i64 0)] [] rfl (fun _ => rfl) rfl (c_node w (mO m [(7, y939), (8, y941), (9, y943), (10, 0), (11, y947), (12, y949), (28, (m.1 28)), (69, (m.1 69)), (70, (m.1 70)), (71, (m.1 71)), (72, (m.1 72)), (75, (m.1 75))] [(65, (m.2 65)), (66, (m.2 66)), (67, (m.2 67)), (68, (m.2 68))]) c N D (by omega) (Ty_mO hT rfl rfl ⟨g940, g942, g944, ⟨(by omega : (0 : Int) ≤ 0), (by omega : (0 : Int) ≤ 8)⟩, g948, g950, f28, f69, f70, f71, f72, f75, trivial⟩ ⟨(hT.2.1 65), (hT.2.1 66), (hT.2.1 67), (hT.2.1 68), trivial⟩) 405 ((y851 - y892) + 1) y892 0 ($B) (1 + lh (m.2 79) (m.2 80) (m.1 73)) ⟨by decide, by decide⟩ (r32 (by omega) (by omega)) (r32 (by omega) (by omega)) ⟨by decide, by decide⟩ (fun _ => ⟨(show 0 ≤ 405 ∧ 405 ≤ 408 by first | omega | decide), (show 0 ≤ ((y851 - y892) + 1) ∧ ((y851 - y892) + 1) ≤ 64 by first | omega | decide), (show 0 ≤ y892 ∧ y892 ≤ 191 by first | omega | decide), (show CNk 405 y892 by first | exact hCk | (refine ⟨?_, ?_, ?_, ?_⟩ <;> omega)), (show ar 405 ≤ (1 + lh (m.2 79) (m.2 80) (m.1 73)) by first | exact hAr | omega), (show EX (m.2 65) (m.2 67) ($B) (m.1 28) (1 + lh (m.2 79) (m.2 80) (m.1 73)) by first | exact hEX | assumption)⟩)) (fun r958 k959 => ?_)
                      obtain ⟨y960, y962, y964, F966, F968, F970, F972, g961, g963, g965, G967, G969, G971, G973, h974, c975, rfl⟩ := k959
                      refine ⟨_, _, rfl, ?_⟩
                      refine T_nf (st' := []) (l' := [(7, y939), (8, y941), (9, y943), (10, y960), (11, y962), (12, y949), (28, y964), (69, (m.1 69)), (70, (m.1 70)), (71, (m.1 71)), (72, (m.1 72)), (75, (m.1 75))]) (a' := [(65, F966), (66, F968), (67, F970), (68, F972)]) rfl rfl rfl rfl rfl ?_
                      by_cases hf976 : y960 = 0
                      · skip
                        subst hf976
                        replace h974 : 0 = 0 := h974 rfl
                        obtain ⟨c977, c978, c979⟩ := c975 rfl
                        replace c977 : y964 = (m.1 28) + 1 := c977
                        replace c978 : EX F966 F970 ($B) y964 ((1 + lh (m.2 79) (m.2 80) (m.1 73)) + 1 - ar 405) := c978
                        have hEX := c978
                        replace c979 : agr (m.2 65) F966 (m.1 28) := c979
                        have hAg := c979
                        have u980 : (m.1 8) ≤ y941 := by omega
                        have hAgC : agr (m.2 65) F966 (m.1 28) := by first | exact agr_r _ _ | exact hAgC | exact agr_t hAgC hAg (by omega)
                        clear g948 g961
                        refine T_ld 160 (.ref 189) rfl (fun _ => rfl) ?_
                        refine T_ld 161 (.long (i64 y851)) rfl (fun _ => rfl) ?_
                        refine T_ld 163 (.long (i64 y892)) rfl (fun _ => rfl) ?_
                        refine T_lsub 164 rfl rfl ?_
                        refine T_l2i 165 rfl rfl ?_
                        refine T_ld 166 (.int (i32 1)) rfl (fun _ => rfl) ?_
                        refine T_iadd 167 rfl rfl ?_
                        refine T_ld 169 (.int (i32 (m.1 70))) rfl (fun _ => rfl) ?_
                        refine T_call 172 250 [.ref 189, .int (i32 ((y851 - y892) + 1)), .int (i32 (m.1 70))] [] rfl (fun _ => rfl) rfl (c_unit w (mO m [(7, y939), (8, y941), (9, y943), (10, 0), (11, y962), (12, y949), (28, y964), (69, (m.1 69)), (70, (m.1 70)), (71, (m.1 71)), (72, (m.1 72)), (75, (m.1 75))] [(65, F966), (66, F968), (67, F970), (68, F972)]) c N D (by omega) (Ty_mO hT rfl rfl ⟨g940, g942, g944, ⟨(by omega : (0 : Int) ≤ 0), (by omega : (0 : Int) ≤ 8)⟩, g963, g950, g965, f69, f70, f71, f72, f75, trivial⟩ ⟨G967, G969, G971, G973, trivial⟩) ((y851 - y892) + 1) (m.1 70) (r32 (by omega) (by omega)) (r32 (by omega) (by omega)) (show 0 ≤ ((y851 - y892) + 1) ∧ ((y851 - y892) + 1) ≤ 1024 by omega) (show 0 ≤ (m.1 70) ∧ (m.1 70) ≤ 4000 by omega)) (fun r981 k982 => ?_)
                        obtain ⟨y983, y985, y987, y989, g984, g986, g988, g990, h991, rfl⟩ := k982
                        refine ⟨_, _, rfl, ?_⟩
                        refine T_nf (st' := []) (l' := [(7, y939), (8, y941), (9, y943), (10, 0), (11, y962), (12, y949), (28, y964), (69, y983), (70, y985), (71, y987), (72, y989), (75, (m.1 75))]) (a' := [(65, F966), (66, F968), (67, F970), (68, F972)]) rfl rfl rfl rfl rfl ?_
                        replace h991 : y983 = ((y851 - y892) + 1) := h991
                        have u992 : (m.1 8) ≤ y941 := by omega
                        have hAgC : agr (m.2 65) F966 (m.1 28) := by first | exact agr_r _ _ | exact hAgC | exact agr_t hAgC hAg (by omega)
                        have hXE : XS F966 F970 (m.2 76) (m.2 78) (m.2 79) (m.2 80) $B y964 (m.1 73) (m.1 74) 1 := XS_of hXS hEX (by rw [show ar 405 = 1 from rfl]; omega)
                        refine T_goto 224 rfl (fun _ => rfl) ?_
                        refine T_ret rfl (fun _ => rfl) ?_
                        exact ⟨y939, y941, y943, 0, y962, y949, y964, y983, y985, y987, y989, (m.1 75), F966, F968, F970, F972, g940, g942, g944, ⟨by omega, by omega⟩, g963, g950, g965, g984, g986, g988, g990, f75, G967, G969, G971, G973, (by omega), (by first | exact hLx | (intro h9; exfalso; omega)), (fun _ => ⟨(by omega), (by omega), (by omega), (by exact hXE), (by exact hAgC)⟩), rfl⟩
                      · skip
                        clear c975
                        clear h974
                        have hf993 : 1 ≤ y960 := by omega
                        clear g948
                        refine Tm_lv (a := [(0, .ref 189), (1, .int (i32 y843)), (2, .long (i64 y851)), (4, .long (i64 y892)), (6, .int (i32 (m.1 70)))]) rfl rfl ⟨rfl, rfl, rfl, rfl, rfl, trivial⟩ ?_
                        exact J159_343 y843 y851 y892 (m.1 70) y939 y941 y943 y960 y962 y949 y964 (m.1 69) (m.1 70) (m.1 71) (m.1 72) (m.1 75) F966 F968 F970 F972 (r32 (by omega) (by omega)) (r64 (by omega) (by omega)) (r64 (by omega) (by omega)) (r32 (by omega) (by omega)) g940 g942 g944 g961 g963 g950 g965 f69 f70 f71 f72 f75 G967 G969 G971 G973 (by omega) (by omega) (by omega) (by omega) (by omega) (by omega)
                    · skip
                      replace h951 : LxP y939 y941 y943 (m.1 6) y945 := h951
                      have hLx := h951
                      clear h952
                      replace h953 : y906 ≤ y941 := h953
                      clear h954
                      have hf994 : 1 ≤ y945 := by omega
                      clear g905 g907 g909 g915 h916 u921 g931 u936 h953
                      refine Tm_lv (a := [(0, .ref 189), (1, .int (i32 y843)), (2, .long (i64 y851)), (4, .long (i64 y892))]) rfl rfl ⟨rfl, rfl, rfl, rfl, trivial⟩ ?_
                      exact J127_401 y843 y851 y892 y939 y941 y943 y945 y947 y949 (m.1 28) (m.1 69) (m.1 70) (m.1 71) (m.1 72) (m.1 75) (m.2 65) (m.2 66) (m.2 67) (m.2 68) (r32 (by omega) (by omega)) (r64 (by omega) (by omega)) (r64 (by omega) (by omega)) g940 g942 g944 g946 g948 g950 f28 f69 f70 f71 f72 f75 (hT.2.1 65) (hT.2.1 66) (hT.2.1 67) (hT.2.1 68) (by omega) (by omega) (by omega) (by omega)
                  · skip
                    clear c933
                    clear h932
                    have hf995 : 1 ≤ y928 := by omega
                    clear g913 h924a h924b h924c h924d h924e h925
                    refine Tm_lv (a := [(0, .ref 189), (1, .int (i32 y843)), (2, .long (i64 y851)), (4, .long (i64 y892))]) rfl rfl ⟨rfl, rfl, rfl, rfl, trivial⟩ ?_
                    exact J121_446 y843 y851 y892 y904 y906 y908 y928 y930 y914 (m.1 28) (m.1 69) (m.1 70) (m.1 71) (m.1 72) (m.1 75) (m.2 65) (m.2 66) (m.2 67) (m.2 68) (r32 (by omega) (by omega)) (r64 (by omega) (by omega)) (r64 (by omega) (by omega)) g905 g907 g909 g929 g931 g915 f28 f69 f70 f71 f72 f75 (hT.2.1 65) (hT.2.1 66) (hT.2.1 67) (hT.2.1 68) (by omega) (by omega) (by omega) (by omega)
                · skip
                  refine T_ld 90 (.long (i64 y892)) rfl (fun _ => rfl) ?_
                  refine T_ld 91 (.long (i64 0)) rfl (fun _ => rfl) ?_
                  refine T_lcmp 92 rfl rfl (r64 (by omega) (by omega)) ⟨by decide, by decide⟩ (fun z996 h997 => ?_)
                  obtain ⟨h997a, h997b, h997c, h997d, h997e⟩ := h997
                  refine T_if 116 95 rfl rfl rfl (r32 (by omega) (by omega)) (fun (h998 : z996 < 0) => ?_) (fun (h998 : ¬ (z996 < 0)) => ?_)
                  · skip
                    refine T_ld 117 (.int (i32 0)) rfl (fun _ => rfl) ?_
                    refine T_ld 118 (.int (i32 y843)) rfl (fun _ => rfl) ?_
                    refine T_call 121 256 [.ref 189, .int (i32 0), .int (i32 y843)] [] rfl (fun _ => rfl) rfl (c_want w (mO m [(7, y904), (8, y906), (9, y908), (10, 0), (11, y912), (12, y914), (28, (m.1 28)), (69, (m.1 69)), (70, (m.1 70)), (71, (m.1 71)), (72, (m.1 72)), (75, (m.1 75))] [(65, (m.2 65)), (66, (m.2 66)), (67, (m.2 67)), (68, (m.2 68))]) c N D (by omega) (Ty_mO hT rfl rfl ⟨g905, g907, g909, ⟨(by omega : (0 : Int) ≤ 0), (by omega : (0 : Int) ≤ 8)⟩, g913, g915, f28, f69, f70, f71, f72, f75, trivial⟩ ⟨(hT.2.1 65), (hT.2.1 66), (hT.2.1 67), (hT.2.1 68), trivial⟩) 0 y843 ⟨by decide, by decide⟩ (r32 (by omega) (by omega)) (show 0 ≤ y843 ∧ y843 ≤ 4000 by omega) (fun _ => trivial)) (fun r999 k1000 => ?_)
                    obtain ⟨y1001, y1003, g1002, g1004, h1005, c1006, rfl⟩ := k1000
                    refine ⟨_, _, rfl, ?_⟩
                    refine T_nf (st' := []) (l' := [(7, y904), (8, y906), (9, y908), (10, y1001), (11, y1003), (12, y914), (28, (m.1 28)), (69, (m.1 69)), (70, (m.1 70)), (71, (m.1 71)), (72, (m.1 72)), (75, (m.1 75))]) (a' := [(65, (m.2 65)), (66, (m.2 66)), (67, (m.2 67)), (68, (m.2 68))]) rfl rfl rfl rfl rfl ?_
                    by_cases hf1007 : y1001 = 0
                    · skip
                      subst hf1007
                      replace h1005 : 0 = 0 := h1005 rfl
                      have c1008 := c1006 rfl
                      replace c1008 : 0 ≠ 0 := c1008
                      have u1009 : (m.1 8) ≤ y906 := by omega
                      have hAgC : agr (m.2 65) (m.2 65) (m.1 28) := by first | exact agr_r _ _ | exact hAgC | exact agr_t hAgC hAg (by omega)
                      clear g913 h924a h924b h924c h924d h924e h925 h997a h997b h997c h997d h997e h998 g1002
                      refine T_ld 122 (.ref 189) rfl (fun _ => rfl) ?_
                      refine T_ld 124 (.int (i32 93)) rfl (fun _ => rfl) ?_
                      refine T_call 127 232 [.ref 189, .int (i32 93)] [] rfl (fun _ => rfl) rfl (c_need w (mO m [(7, y904), (8, y906), (9, y908), (10, 0), (11, y1003), (12, y914), (28, (m.1 28)), (69, (m.1 69)), (70, (m.1 70)), (71, (m.1 71)), (72, (m.1 72)), (75, (m.1 75))] [(65, (m.2 65)), (66, (m.2 66)), (67, (m.2 67)), (68, (m.2 68))]) c N D (by omega) (Ty_mO hT rfl rfl ⟨g905, g907, g909, ⟨(by omega : (0 : Int) ≤ 0), (by omega : (0 : Int) ≤ 8)⟩, g1004, g915, f28, f69, f70, f71, f72, f75, trivial⟩ ⟨(hT.2.1 65), (hT.2.1 66), (hT.2.1 67), (hT.2.1 68), trivial⟩) 93 ⟨by decide, by decide⟩ (show 1 ≤ 93 by omega) (show LxP y904 y906 y908 (m.1 6) 0 by first | exact hLx | (intro h9; exfalso; omega) | (intro h9; have h8 := hLx (by omega); omega))) (fun r1010 k1011 => ?_)
                      obtain ⟨y1012, y1014, y1016, y1018, y1020, y1022, g1013, g1015, g1017, g1019, g1021, g1023, h1024, h1025, h1026, h1027, rfl⟩ := k1011
                      refine ⟨_, _, rfl, ?_⟩
                      refine T_nf (st' := []) (l' := [(7, y1012), (8, y1014), (9, y1016), (10, y1018), (11, y1020), (12, y1022), (28, (m.1 28)), (69, (m.1 69)), (70, (m.1 70)), (71, (m.1 71)), (72, (m.1 72)), (75, (m.1 75))]) (a' := [(65, (m.2 65)), (66, (m.2 66)), (67, (m.2 67)), (68, (m.2 68))]) rfl rfl rfl rfl rfl ?_
                      by_cases hf1028 : y1018 = 0
                      · skip
                        subst hf1028
                        replace h1024 : LxP y1012 y1014 y1016 (m.1 6) 0 := h1024
                        have hLx := h1024
                        replace h1025 : 0 = 0 ∧ y904 = 93 := h1025 rfl
                        replace h1026 : y906 ≤ y1014 := h1026
                        replace h1027 : y906 + y908 ≤ y1014 := h1027 rfl
                        have u1029 : (m.1 8) ≤ y1014 := by omega
                        have hAgC : agr (m.2 65) (m.2 65) (m.1 28) := by first | exact agr_r _ _ | exact hAgC | exact agr_t hAgC hAg (by omega)
                        clear g905 g907 g909 g915 h916 u921 g1004 u1009 g1019 h1025 h1026 h1027
                        refine T_gf 131 (.int (i32 0)) rfl rfl rfl rfl rfl rfl ?_
                        refine T_if 135 134 rfl rfl rfl ⟨by decide, by decide⟩ (fun _ => ?_) (fun h1030 => absurd (show (0 : Int) ≤ 0 by decide) h1030)
                        refine T_gf 139 (.int (i32 (m.1 70))) rfl rfl rfl rfl rfl rfl ?_
                        refine T_sto 141 [(6, .int (i32 (m.1 70))), (4, .long (i64 y892)), (2, .long (i64 y851)), (1, .int (i32 y843)), (0, .ref 189)] rfl (fun _ => rfl) ?_
                        have hAr : ar 405 ≤ 1 + lh (m.2 79) (m.2 80) (m.1 73) := by rw [show ar 405 = 1 from rfl]; omega
                        have hCk : CNk 405 y892 := by refine ⟨?_, ?_, ?_, ?_⟩ <;> omega
                        refine T_ld 142 (.ref 189) rfl (fun _ => rfl) ?_
                        refine T_ld 145 (.int (i32 405)) rfl (fun _ => rfl) ?_
                        refine T_ld 146 (.long (i64 y851)) rfl (fun _ => rfl) ?_
                        refine T_ld 148 (.long (i64 y892)) rfl (fun _ => rfl) ?_
                        refine T_lsub 149 rfl rfl ?_
                        refine T_l2i 150 rfl rfl ?_
                        refine T_ld 151 (.int (i32 1)) rfl (fun _ => rfl) ?_
                        refine T_iadd 152 rfl rfl ?_
                        refine T_ld 154 (.long (i64 y892)) rfl (fun _ => rfl) ?_
                        refine T_l2i 155 rfl rfl ?_
                        refine T_ld 156 (.long (i64 0)) rfl (fun _ => rfl) ?_
                        refine T_call 159 248 [.ref 189, .int (i32 405), .int (i32 ((y851 - y892) + 1)), .int (i32 y892), .long (i64 0)] [] rfl (fun _ => rfl) rfl (c_node w (mO m [(7, y1012), (8, y1014), (9, y1016), (10, 0), (11, y1020), (12, y1022), (28, (m.1 28)), (69, (m.1 69)), (70, (m.1 70)), (71, (m.1 71)), (72, (m.1 72)), (75, (m.1 75))] [(65, (m.2 65)), (66, (m.2 66)), (67, (m.2 67)), (68, (m.2 68))]) c N D (by omega) (Ty_mO hT rfl rfl ⟨g1013, g1015, g1017, ⟨(by omega : (0 : Int) ≤ 0), (by omega : (0 : Int) ≤ 8)⟩, g1021, g1023, f28, f69, f70, f71, f72, f75, trivial⟩ ⟨(hT.2.1 65), (hT.2.1 66), (hT.2.1 67), (hT.2.1 68), trivial⟩) 405 ((y851 - y892) + 1) y892 0 ($B) (1 + lh (m.2 79) (m.2 80) (m.1 73)) ⟨by decide, by decide⟩ (r32 (by omega) (by omega)) (r32 (by omega) (by omega)) ⟨by decide, by decide⟩ (fun _ => ⟨(show 0 ≤ 405 ∧ 405 ≤ 408 by first | omega | decide), (show 0 ≤ ((y851 - y892) + 1) ∧ ((y851 - y892) + 1) ≤ 64 by first | omega | decide), (show 0 ≤ y892 ∧ y892 ≤ 191 by first | omega | decide), (show CNk 405 y892 by first | exact hCk | (refine ⟨?_, ?_, ?_, ?_⟩ <;> omega)), (show ar 405 ≤ (1 + lh (m.2 79) (m.2 80) (m.1 73)) by first | exact hAr | omega), (show EX (m.2 65) (m.2 67) ($B) (m.1 28) (1 + lh (m.2 79) (m.2 80) (m.1 73)) by first | exact hEX | assumption)⟩)) (fun r1031 k1032 => ?_)
                        obtain ⟨y1033, y1035, y1037, F1039, F1041, F1043, F1045, g1034, g1036, g1038, G1040, G1042, G1044, G1046, h1047, c1048, rfl⟩ := k1032
                        refine ⟨_, _, rfl, ?_⟩
                        refine T_nf (st' := []) (l' := [(7, y1012), (8, y1014), (9, y1016), (10, y1033), (11, y1035), (12, y1022), (28, y1037), (69, (m.1 69)), (70, (m.1 70)), (71, (m.1 71)), (72, (m.1 72)), (75, (m.1 75))]) (a' := [(65, F1039), (66, F1041), (67, F1043), (68, F1045)]) rfl rfl rfl rfl rfl ?_
                        by_cases hf1049 : y1033 = 0
                        · skip
                          subst hf1049
                          replace h1047 : 0 = 0 := h1047 rfl
                          obtain ⟨c1050, c1051, c1052⟩ := c1048 rfl
                          replace c1050 : y1037 = (m.1 28) + 1 := c1050
                          replace c1051 : EX F1039 F1043 ($B) y1037 ((1 + lh (m.2 79) (m.2 80) (m.1 73)) + 1 - ar 405) := c1051
                          have hEX := c1051
                          replace c1052 : agr (m.2 65) F1039 (m.1 28) := c1052
                          have hAg := c1052
                          have u1053 : (m.1 8) ≤ y1014 := by omega
                          have hAgC : agr (m.2 65) F1039 (m.1 28) := by first | exact agr_r _ _ | exact hAgC | exact agr_t hAgC hAg (by omega)
                          clear g1021 g1034
                          refine T_ld 160 (.ref 189) rfl (fun _ => rfl) ?_
                          refine T_ld 161 (.long (i64 y851)) rfl (fun _ => rfl) ?_
                          refine T_ld 163 (.long (i64 y892)) rfl (fun _ => rfl) ?_
                          refine T_lsub 164 rfl rfl ?_
                          refine T_l2i 165 rfl rfl ?_
                          refine T_ld 166 (.int (i32 1)) rfl (fun _ => rfl) ?_
                          refine T_iadd 167 rfl rfl ?_
                          refine T_ld 169 (.int (i32 (m.1 70))) rfl (fun _ => rfl) ?_
                          refine T_call 172 250 [.ref 189, .int (i32 ((y851 - y892) + 1)), .int (i32 (m.1 70))] [] rfl (fun _ => rfl) rfl (c_unit w (mO m [(7, y1012), (8, y1014), (9, y1016), (10, 0), (11, y1035), (12, y1022), (28, y1037), (69, (m.1 69)), (70, (m.1 70)), (71, (m.1 71)), (72, (m.1 72)), (75, (m.1 75))] [(65, F1039), (66, F1041), (67, F1043), (68, F1045)]) c N D (by omega) (Ty_mO hT rfl rfl ⟨g1013, g1015, g1017, ⟨(by omega : (0 : Int) ≤ 0), (by omega : (0 : Int) ≤ 8)⟩, g1036, g1023, g1038, f69, f70, f71, f72, f75, trivial⟩ ⟨G1040, G1042, G1044, G1046, trivial⟩) ((y851 - y892) + 1) (m.1 70) (r32 (by omega) (by omega)) (r32 (by omega) (by omega)) (show 0 ≤ ((y851 - y892) + 1) ∧ ((y851 - y892) + 1) ≤ 1024 by omega) (show 0 ≤ (m.1 70) ∧ (m.1 70) ≤ 4000 by omega)) (fun r1054 k1055 => ?_)
                          obtain ⟨y1056, y1058, y1060, y1062, g1057, g1059, g1061, g1063, h1064, rfl⟩ := k1055
                          refine ⟨_, _, rfl, ?_⟩
                          refine T_nf (st' := []) (l' := [(7, y1012), (8, y1014), (9, y1016), (10, 0), (11, y1035), (12, y1022), (28, y1037), (69, y1056), (70, y1058), (71, y1060), (72, y1062), (75, (m.1 75))]) (a' := [(65, F1039), (66, F1041), (67, F1043), (68, F1045)]) rfl rfl rfl rfl rfl ?_
                          replace h1064 : y1056 = ((y851 - y892) + 1) := h1064
                          have u1065 : (m.1 8) ≤ y1014 := by omega
                          have hAgC : agr (m.2 65) F1039 (m.1 28) := by first | exact agr_r _ _ | exact hAgC | exact agr_t hAgC hAg (by omega)
                          have hXE : XS F1039 F1043 (m.2 76) (m.2 78) (m.2 79) (m.2 80) $B y1037 (m.1 73) (m.1 74) 1 := XS_of hXS hEX (by rw [show ar 405 = 1 from rfl]; omega)
                          refine T_goto 224 rfl (fun _ => rfl) ?_
                          refine T_ret rfl (fun _ => rfl) ?_
                          exact ⟨y1012, y1014, y1016, 0, y1035, y1022, y1037, y1056, y1058, y1060, y1062, (m.1 75), F1039, F1041, F1043, F1045, g1013, g1015, g1017, ⟨by omega, by omega⟩, g1036, g1023, g1038, g1057, g1059, g1061, g1063, f75, G1040, G1042, G1044, G1046, (by omega), (by first | exact hLx | (intro h9; exfalso; omega)), (fun _ => ⟨(by omega), (by omega), (by omega), (by exact hXE), (by exact hAgC)⟩), rfl⟩
                        · skip
                          clear c1048
                          clear h1047
                          have hf1066 : 1 ≤ y1033 := by omega
                          clear g1021
                          refine Tm_lv (a := [(0, .ref 189), (1, .int (i32 y843)), (2, .long (i64 y851)), (4, .long (i64 y892)), (6, .int (i32 (m.1 70)))]) rfl rfl ⟨rfl, rfl, rfl, rfl, rfl, trivial⟩ ?_
                          exact J159_343 y843 y851 y892 (m.1 70) y1012 y1014 y1016 y1033 y1035 y1022 y1037 (m.1 69) (m.1 70) (m.1 71) (m.1 72) (m.1 75) F1039 F1041 F1043 F1045 (r32 (by omega) (by omega)) (r64 (by omega) (by omega)) (r64 (by omega) (by omega)) (r32 (by omega) (by omega)) g1013 g1015 g1017 g1034 g1036 g1023 g1038 f69 f70 f71 f72 f75 G1040 G1042 G1044 G1046 (by omega) (by omega) (by omega) (by omega) (by omega) (by omega)
                      · skip
                        replace h1024 : LxP y1012 y1014 y1016 (m.1 6) y1018 := h1024
                        have hLx := h1024
                        clear h1025
                        replace h1026 : y906 ≤ y1014 := h1026
                        clear h1027
                        have hf1067 : 1 ≤ y1018 := by omega
                        clear g905 g907 g909 g915 h916 u921 g1004 u1009 h1026
                        refine Tm_lv (a := [(0, .ref 189), (1, .int (i32 y843)), (2, .long (i64 y851)), (4, .long (i64 y892))]) rfl rfl ⟨rfl, rfl, rfl, rfl, trivial⟩ ?_
                        exact J127_401 y843 y851 y892 y1012 y1014 y1016 y1018 y1020 y1022 (m.1 28) (m.1 69) (m.1 70) (m.1 71) (m.1 72) (m.1 75) (m.2 65) (m.2 66) (m.2 67) (m.2 68) (r32 (by omega) (by omega)) (r64 (by omega) (by omega)) (r64 (by omega) (by omega)) g1013 g1015 g1017 g1019 g1021 g1023 f28 f69 f70 f71 f72 f75 (hT.2.1 65) (hT.2.1 66) (hT.2.1 67) (hT.2.1 68) (by omega) (by omega) (by omega) (by omega)
                    · skip
                      clear c1006
                      clear h1005
                      have hf1068 : 1 ≤ y1001 := by omega
                      clear g913 h924a h924b h924c h924d h924e h925 h997a h997b h997c h997d h997e h998
                      refine Tm_lv (a := [(0, .ref 189), (1, .int (i32 y843)), (2, .long (i64 y851)), (4, .long (i64 y892))]) rfl rfl ⟨rfl, rfl, rfl, rfl, trivial⟩ ?_
                      exact J121_446 y843 y851 y892 y904 y906 y908 y1001 y1003 y914 (m.1 28) (m.1 69) (m.1 70) (m.1 71) (m.1 72) (m.1 75) (m.2 65) (m.2 66) (m.2 67) (m.2 68) (r32 (by omega) (by omega)) (r64 (by omega) (by omega)) (r64 (by omega) (by omega)) g905 g907 g909 g1002 g1004 g915 f28 f69 f70 f71 f72 f75 (hT.2.1 65) (hT.2.1 66) (hT.2.1 67) (hT.2.1 68) (by omega) (by omega) (by omega) (by omega)
                  · skip
                    refine T_ld 97 (.long (i64 y892)) rfl (fun _ => rfl) ?_
                    refine T_ld 98 (.long (i64 y851)) rfl (fun _ => rfl) ?_
                    refine T_lcmp 99 rfl rfl (r64 (by omega) (by omega)) (r64 (by omega) (by omega)) (fun z1069 h1070 => ?_)
                    obtain ⟨h1070a, h1070b, h1070c, h1070d, h1070e⟩ := h1070
                    refine T_if 116 102 rfl rfl rfl (r32 (by omega) (by omega)) (fun (h1071 : (0 : Int) < z1069) => ?_) (fun (h1071 : ¬ ((0 : Int) < z1069)) => ?_)
                    · skip
                      refine T_ld 117 (.int (i32 0)) rfl (fun _ => rfl) ?_
                      refine T_ld 118 (.int (i32 y843)) rfl (fun _ => rfl) ?_
                      refine T_call 121 256 [.ref 189, .int (i32 0), .int (i32 y843)] [] rfl (fun _ => rfl) rfl (c_want w (mO m [(7, y904), (8, y906), (9, y908), (10, 0), (11, y912), (12, y914), (28, (m.1 28)), (69, (m.1 69)), (70, (m.1 70)), (71, (m.1 71)), (72, (m.1 72)), (75, (m.1 75))] [(65, (m.2 65)), (66, (m.2 66)), (67, (m.2 67)), (68, (m.2 68))]) c N D (by omega) (Ty_mO hT rfl rfl ⟨g905, g907, g909, ⟨(by omega : (0 : Int) ≤ 0), (by omega : (0 : Int) ≤ 8)⟩, g913, g915, f28, f69, f70, f71, f72, f75, trivial⟩ ⟨(hT.2.1 65), (hT.2.1 66), (hT.2.1 67), (hT.2.1 68), trivial⟩) 0 y843 ⟨by decide, by decide⟩ (r32 (by omega) (by omega)) (show 0 ≤ y843 ∧ y843 ≤ 4000 by omega) (fun _ => trivial)) (fun r1072 k1073 => ?_)
                      obtain ⟨y1074, y1076, g1075, g1077, h1078, c1079, rfl⟩ := k1073
                      refine ⟨_, _, rfl, ?_⟩
                      refine T_nf (st' := []) (l' := [(7, y904), (8, y906), (9, y908), (10, y1074), (11, y1076), (12, y914), (28, (m.1 28)), (69, (m.1 69)), (70, (m.1 70)), (71, (m.1 71)), (72, (m.1 72)), (75, (m.1 75))]) (a' := [(65, (m.2 65)), (66, (m.2 66)), (67, (m.2 67)), (68, (m.2 68))]) rfl rfl rfl rfl rfl ?_
                      by_cases hf1080 : y1074 = 0
                      · skip
                        subst hf1080
                        replace h1078 : 0 = 0 := h1078 rfl
                        have c1081 := c1079 rfl
                        replace c1081 : 0 ≠ 0 := c1081
                        have u1082 : (m.1 8) ≤ y906 := by omega
                        have hAgC : agr (m.2 65) (m.2 65) (m.1 28) := by first | exact agr_r _ _ | exact hAgC | exact agr_t hAgC hAg (by omega)
                        clear g913 h924a h924b h924c h924d h924e h925 h997a h997b h997c h997d h997e h998 h1070a h1070b h1070c h1070d h1070e h1071 g1075
                        refine T_ld 122 (.ref 189) rfl (fun _ => rfl) ?_
                        refine T_ld 124 (.int (i32 93)) rfl (fun _ => rfl) ?_
                        refine T_call 127 232 [.ref 189, .int (i32 93)] [] rfl (fun _ => rfl) rfl (c_need w (mO m [(7, y904), (8, y906), (9, y908), (10, 0), (11, y1076), (12, y914), (28, (m.1 28)), (69, (m.1 69)), (70, (m.1 70)), (71, (m.1 71)), (72, (m.1 72)), (75, (m.1 75))] [(65, (m.2 65)), (66, (m.2 66)), (67, (m.2 67)), (68, (m.2 68))]) c N D (by omega) (Ty_mO hT rfl rfl ⟨g905, g907, g909, ⟨(by omega : (0 : Int) ≤ 0), (by omega : (0 : Int) ≤ 8)⟩, g1077, g915, f28, f69, f70, f71, f72, f75, trivial⟩ ⟨(hT.2.1 65), (hT.2.1 66), (hT.2.1 67), (hT.2.1 68), trivial⟩) 93 ⟨by decide, by decide⟩ (show 1 ≤ 93 by omega) (show LxP y904 y906 y908 (m.1 6) 0 by first | exact hLx | (intro h9; exfalso; omega) | (intro h9; have h8 := hLx (by omega); omega))) (fun r1083 k1084 => ?_)
                        obtain ⟨y1085, y1087, y1089, y1091, y1093, y1095, g1086, g1088, g1090, g1092, g1094, g1096, h1097, h1098, h1099, h1100, rfl⟩ := k1084
                        refine ⟨_, _, rfl, ?_⟩
                        refine T_nf (st' := []) (l' := [(7, y1085), (8, y1087), (9, y1089), (10, y1091), (11, y1093), (12, y1095), (28, (m.1 28)), (69, (m.1 69)), (70, (m.1 70)), (71, (m.1 71)), (72, (m.1 72)), (75, (m.1 75))]) (a' := [(65, (m.2 65)), (66, (m.2 66)), (67, (m.2 67)), (68, (m.2 68))]) rfl rfl rfl rfl rfl ?_
                        by_cases hf1101 : y1091 = 0
                        · skip
                          subst hf1101
                          replace h1097 : LxP y1085 y1087 y1089 (m.1 6) 0 := h1097
                          have hLx := h1097
                          replace h1098 : 0 = 0 ∧ y904 = 93 := h1098 rfl
                          replace h1099 : y906 ≤ y1087 := h1099
                          replace h1100 : y906 + y908 ≤ y1087 := h1100 rfl
                          have u1102 : (m.1 8) ≤ y1087 := by omega
                          have hAgC : agr (m.2 65) (m.2 65) (m.1 28) := by first | exact agr_r _ _ | exact hAgC | exact agr_t hAgC hAg (by omega)
                          clear g905 g907 g909 g915 h916 u921 g1077 u1082 g1092 h1098 h1099 h1100
                          refine T_gf 131 (.int (i32 0)) rfl rfl rfl rfl rfl rfl ?_
                          refine T_if 135 134 rfl rfl rfl ⟨by decide, by decide⟩ (fun _ => ?_) (fun h1103 => absurd (show (0 : Int) ≤ 0 by decide) h1103)
                          refine T_gf 139 (.int (i32 (m.1 70))) rfl rfl rfl rfl rfl rfl ?_
                          refine T_sto 141 [(6, .int (i32 (m.1 70))), (4, .long (i64 y892)), (2, .long (i64 y851)), (1, .int (i32 y843)), (0, .ref 189)] rfl (fun _ => rfl) ?_
                          have hAr : ar 405 ≤ 1 + lh (m.2 79) (m.2 80) (m.1 73) := by rw [show ar 405 = 1 from rfl]; omega
                          have hCk : CNk 405 y892 := by refine ⟨?_, ?_, ?_, ?_⟩ <;> omega
                          refine T_ld 142 (.ref 189) rfl (fun _ => rfl) ?_
                          refine T_ld 145 (.int (i32 405)) rfl (fun _ => rfl) ?_
                          refine T_ld 146 (.long (i64 y851)) rfl (fun _ => rfl) ?_
                          refine T_ld 148 (.long (i64 y892)) rfl (fun _ => rfl) ?_
                          refine T_lsub 149 rfl rfl ?_
                          refine T_l2i 150 rfl rfl ?_
                          refine T_ld 151 (.int (i32 1)) rfl (fun _ => rfl) ?_
                          refine T_iadd 152 rfl rfl ?_
                          refine T_ld 154 (.long (i64 y892)) rfl (fun _ => rfl) ?_
                          refine T_l2i 155 rfl rfl ?_
                          refine T_ld 156 (.long (i64 0)) rfl (fun _ => rfl) ?_
                          refine T_call 159 248 [.ref 189, .int (i32 405), .int (i32 ((y851 - y892) + 1)), .int (i32 y892), .long (i64 0)] [] rfl (fun _ => rfl) rfl (c_node w (mO m [(7, y1085), (8, y1087), (9, y1089), (10, 0), (11, y1093), (12, y1095), (28, (m.1 28)), (69, (m.1 69)), (70, (m.1 70)), (71, (m.1 71)), (72, (m.1 72)), (75, (m.1 75))] [(65, (m.2 65)), (66, (m.2 66)), (67, (m.2 67)), (68, (m.2 68))]) c N D (by omega) (Ty_mO hT rfl rfl ⟨g1086, g1088, g1090, ⟨(by omega : (0 : Int) ≤ 0), (by omega : (0 : Int) ≤ 8)⟩, g1094, g1096, f28, f69, f70, f71, f72, f75, trivial⟩ ⟨(hT.2.1 65), (hT.2.1 66), (hT.2.1 67), (hT.2.1 68), trivial⟩) 405 ((y851 - y892) + 1) y892 0 ($B) (1 + lh (m.2 79) (m.2 80) (m.1 73)) ⟨by decide, by decide⟩ (r32 (by omega) (by omega)) (r32 (by omega) (by omega)) ⟨by decide, by decide⟩ (fun _ => ⟨(show 0 ≤ 405 ∧ 405 ≤ 408 by first | omega | decide), (show 0 ≤ ((y851 - y892) + 1) ∧ ((y851 - y892) + 1) ≤ 64 by first | omega | decide), (show 0 ≤ y892 ∧ y892 ≤ 191 by first | omega | decide), (show CNk 405 y892 by first | exact hCk | (refine ⟨?_, ?_, ?_, ?_⟩ <;> omega)), (show ar 405 ≤ (1 + lh (m.2 79) (m.2 80) (m.1 73)) by first | exact hAr | omega), (show EX (m.2 65) (m.2 67) ($B) (m.1 28) (1 + lh (m.2 79) (m.2 80) (m.1 73)) by first | exact hEX | assumption)⟩)) (fun r1104 k1105 => ?_)
                          obtain ⟨y1106, y1108, y1110, F1112, F1114, F1116, F1118, g1107, g1109, g1111, G1113, G1115, G1117, G1119, h1120, c1121, rfl⟩ := k1105
                          refine ⟨_, _, rfl, ?_⟩
                          refine T_nf (st' := []) (l' := [(7, y1085), (8, y1087), (9, y1089), (10, y1106), (11, y1108), (12, y1095), (28, y1110), (69, (m.1 69)), (70, (m.1 70)), (71, (m.1 71)), (72, (m.1 72)), (75, (m.1 75))]) (a' := [(65, F1112), (66, F1114), (67, F1116), (68, F1118)]) rfl rfl rfl rfl rfl ?_
                          by_cases hf1122 : y1106 = 0
                          · skip
                            subst hf1122
                            replace h1120 : 0 = 0 := h1120 rfl
                            obtain ⟨c1123, c1124, c1125⟩ := c1121 rfl
                            replace c1123 : y1110 = (m.1 28) + 1 := c1123
                            replace c1124 : EX F1112 F1116 ($B) y1110 ((1 + lh (m.2 79) (m.2 80) (m.1 73)) + 1 - ar 405) := c1124
                            have hEX := c1124
                            replace c1125 : agr (m.2 65) F1112 (m.1 28) := c1125
                            have hAg := c1125
                            have u1126 : (m.1 8) ≤ y1087 := by omega
                            have hAgC : agr (m.2 65) F1112 (m.1 28) := by first | exact agr_r _ _ | exact hAgC | exact agr_t hAgC hAg (by omega)
                            clear g1094 g1107
                            refine T_ld 160 (.ref 189) rfl (fun _ => rfl) ?_
                            refine T_ld 161 (.long (i64 y851)) rfl (fun _ => rfl) ?_
                            refine T_ld 163 (.long (i64 y892)) rfl (fun _ => rfl) ?_
                            refine T_lsub 164 rfl rfl ?_
                            refine T_l2i 165 rfl rfl ?_
                            refine T_ld 166 (.int (i32 1)) rfl (fun _ => rfl) ?_
                            refine T_iadd 167 rfl rfl ?_
                            refine T_ld 169 (.int (i32 (m.1 70))) rfl (fun _ => rfl) ?_
                            refine T_call 172 250 [.ref 189, .int (i32 ((y851 - y892) + 1)), .int (i32 (m.1 70))] [] rfl (fun _ => rfl) rfl (c_unit w (mO m [(7, y1085), (8, y1087), (9, y1089), (10, 0), (11, y1108), (12, y1095), (28, y1110), (69, (m.1 69)), (70, (m.1 70)), (71, (m.1 71)), (72, (m.1 72)), (75, (m.1 75))] [(65, F1112), (66, F1114), (67, F1116), (68, F1118)]) c N D (by omega) (Ty_mO hT rfl rfl ⟨g1086, g1088, g1090, ⟨(by omega : (0 : Int) ≤ 0), (by omega : (0 : Int) ≤ 8)⟩, g1109, g1096, g1111, f69, f70, f71, f72, f75, trivial⟩ ⟨G1113, G1115, G1117, G1119, trivial⟩) ((y851 - y892) + 1) (m.1 70) (r32 (by omega) (by omega)) (r32 (by omega) (by omega)) (show 0 ≤ ((y851 - y892) + 1) ∧ ((y851 - y892) + 1) ≤ 1024 by omega) (show 0 ≤ (m.1 70) ∧ (m.1 70) ≤ 4000 by omega)) (fun r1127 k1128 => ?_)
                            obtain ⟨y1129, y1131, y1133, y1135, g1130, g1132, g1134, g1136, h1137, rfl⟩ := k1128
                            refine ⟨_, _, rfl, ?_⟩
                            refine T_nf (st' := []) (l' := [(7, y1085), (8, y1087), (9, y1089), (10, 0), (11, y1108), (12, y1095), (28, y1110), (69, y1129), (70, y1131), (71, y1133), (72, y1135), (75, (m.1 75))]) (a' := [(65, F1112), (66, F1114), (67, F1116), (68, F1118)]) rfl rfl rfl rfl rfl ?_
                            replace h1137 : y1129 = ((y851 - y892) + 1) := h1137
                            have u1138 : (m.1 8) ≤ y1087 := by omega
                            have hAgC : agr (m.2 65) F1112 (m.1 28) := by first | exact agr_r _ _ | exact hAgC | exact agr_t hAgC hAg (by omega)
                            have hXE : XS F1112 F1116 (m.2 76) (m.2 78) (m.2 79) (m.2 80) $B y1110 (m.1 73) (m.1 74) 1 := XS_of hXS hEX (by rw [show ar 405 = 1 from rfl]; omega)
                            refine T_goto 224 rfl (fun _ => rfl) ?_
                            refine T_ret rfl (fun _ => rfl) ?_
                            exact ⟨y1085, y1087, y1089, 0, y1108, y1095, y1110, y1129, y1131, y1133, y1135, (m.1 75), F1112, F1114, F1116, F1118, g1086, g1088, g1090, ⟨by omega, by omega⟩, g1109, g1096, g1111, g1130, g1132, g1134, g1136, f75, G1113, G1115, G1117, G1119, (by omega), (by first | exact hLx | (intro h9; exfalso; omega)), (fun _ => ⟨(by omega), (by omega), (by omega), (by exact hXE), (by exact hAgC)⟩), rfl⟩
                          · skip
                            clear c1121
                            clear h1120
                            have hf1139 : 1 ≤ y1106 := by omega
                            clear g1094
                            refine Tm_lv (a := [(0, .ref 189), (1, .int (i32 y843)), (2, .long (i64 y851)), (4, .long (i64 y892)), (6, .int (i32 (m.1 70)))]) rfl rfl ⟨rfl, rfl, rfl, rfl, rfl, trivial⟩ ?_
                            exact J159_343 y843 y851 y892 (m.1 70) y1085 y1087 y1089 y1106 y1108 y1095 y1110 (m.1 69) (m.1 70) (m.1 71) (m.1 72) (m.1 75) F1112 F1114 F1116 F1118 (r32 (by omega) (by omega)) (r64 (by omega) (by omega)) (r64 (by omega) (by omega)) (r32 (by omega) (by omega)) g1086 g1088 g1090 g1107 g1109 g1096 g1111 f69 f70 f71 f72 f75 G1113 G1115 G1117 G1119 (by omega) (by omega) (by omega) (by omega) (by omega) (by omega)
                        · skip
                          replace h1097 : LxP y1085 y1087 y1089 (m.1 6) y1091 := h1097
                          have hLx := h1097
                          clear h1098
                          replace h1099 : y906 ≤ y1087 := h1099
                          clear h1100
                          have hf1140 : 1 ≤ y1091 := by omega
                          clear g905 g907 g909 g915 h916 u921 g1077 u1082 h1099
                          refine Tm_lv (a := [(0, .ref 189), (1, .int (i32 y843)), (2, .long (i64 y851)), (4, .long (i64 y892))]) rfl rfl ⟨rfl, rfl, rfl, rfl, trivial⟩ ?_
                          exact J127_401 y843 y851 y892 y1085 y1087 y1089 y1091 y1093 y1095 (m.1 28) (m.1 69) (m.1 70) (m.1 71) (m.1 72) (m.1 75) (m.2 65) (m.2 66) (m.2 67) (m.2 68) (r32 (by omega) (by omega)) (r64 (by omega) (by omega)) (r64 (by omega) (by omega)) g1086 g1088 g1090 g1092 g1094 g1096 f28 f69 f70 f71 f72 f75 (hT.2.1 65) (hT.2.1 66) (hT.2.1 67) (hT.2.1 68) (by omega) (by omega) (by omega) (by omega)
                      · skip
                        clear c1079
                        clear h1078
                        have hf1141 : 1 ≤ y1074 := by omega
                        clear g913 h924a h924b h924c h924d h924e h925 h997a h997b h997c h997d h997e h998 h1070a h1070b h1070c h1070d h1070e h1071
                        refine Tm_lv (a := [(0, .ref 189), (1, .int (i32 y843)), (2, .long (i64 y851)), (4, .long (i64 y892))]) rfl rfl ⟨rfl, rfl, rfl, rfl, trivial⟩ ?_
                        exact J121_446 y843 y851 y892 y904 y906 y908 y1074 y1076 y914 (m.1 28) (m.1 69) (m.1 70) (m.1 71) (m.1 72) (m.1 75) (m.2 65) (m.2 66) (m.2 67) (m.2 68) (r32 (by omega) (by omega)) (r64 (by omega) (by omega)) (r64 (by omega) (by omega)) g905 g907 g909 g1075 g1077 g915 f28 f69 f70 f71 f72 f75 (hT.2.1 65) (hT.2.1 66) (hT.2.1 67) (hT.2.1 68) (by omega) (by omega) (by omega) (by omega)
                    · skip
                      refine T_ld 103 (.long (i64 y851)) rfl (fun _ => rfl) ?_
                      refine T_gf 107 (.int (i32 (m.1 69))) rfl rfl rfl rfl rfl rfl ?_
                      refine T_i2l 108 rfl rfl (r32 (by omega) (by omega)) ?_
                      refine T_lcmp 109 rfl rfl (r64 (by omega) (by omega)) (r64 (by omega) (by omega)) (fun z1142 h1143 => ?_)
                      obtain ⟨h1143a, h1143b, h1143c, h1143d, h1143e⟩ := h1143
                      refine T_if 116 112 rfl rfl rfl (r32 (by omega) (by omega)) (fun (h1144 : (0 : Int) ≤ z1142) => ?_) (fun (h1144 : ¬ ((0 : Int) ≤ z1142)) => ?_)
                      · skip
                        refine T_ld 117 (.int (i32 0)) rfl (fun _ => rfl) ?_
                        refine T_ld 118 (.int (i32 y843)) rfl (fun _ => rfl) ?_
                        refine T_call 121 256 [.ref 189, .int (i32 0), .int (i32 y843)] [] rfl (fun _ => rfl) rfl (c_want w (mO m [(7, y904), (8, y906), (9, y908), (10, 0), (11, y912), (12, y914), (28, (m.1 28)), (69, (m.1 69)), (70, (m.1 70)), (71, (m.1 71)), (72, (m.1 72)), (75, (m.1 75))] [(65, (m.2 65)), (66, (m.2 66)), (67, (m.2 67)), (68, (m.2 68))]) c N D (by omega) (Ty_mO hT rfl rfl ⟨g905, g907, g909, ⟨(by omega : (0 : Int) ≤ 0), (by omega : (0 : Int) ≤ 8)⟩, g913, g915, f28, f69, f70, f71, f72, f75, trivial⟩ ⟨(hT.2.1 65), (hT.2.1 66), (hT.2.1 67), (hT.2.1 68), trivial⟩) 0 y843 ⟨by decide, by decide⟩ (r32 (by omega) (by omega)) (show 0 ≤ y843 ∧ y843 ≤ 4000 by omega) (fun _ => trivial)) (fun r1145 k1146 => ?_)
                        obtain ⟨y1147, y1149, g1148, g1150, h1151, c1152, rfl⟩ := k1146
                        refine ⟨_, _, rfl, ?_⟩
                        refine T_nf (st' := []) (l' := [(7, y904), (8, y906), (9, y908), (10, y1147), (11, y1149), (12, y914), (28, (m.1 28)), (69, (m.1 69)), (70, (m.1 70)), (71, (m.1 71)), (72, (m.1 72)), (75, (m.1 75))]) (a' := [(65, (m.2 65)), (66, (m.2 66)), (67, (m.2 67)), (68, (m.2 68))]) rfl rfl rfl rfl rfl ?_
                        by_cases hf1153 : y1147 = 0
                        · skip
                          subst hf1153
                          replace h1151 : 0 = 0 := h1151 rfl
                          have c1154 := c1152 rfl
                          replace c1154 : 0 ≠ 0 := c1154
                          have u1155 : (m.1 8) ≤ y906 := by omega
                          have hAgC : agr (m.2 65) (m.2 65) (m.1 28) := by first | exact agr_r _ _ | exact hAgC | exact agr_t hAgC hAg (by omega)
                          clear g913 h924a h924b h924c h924d h924e h925 h997a h997b h997c h997d h997e h998 h1070a h1070b h1070c h1070d h1070e h1071 h1143a h1143b h1143c h1143d h1143e h1144 g1148
                          refine T_ld 122 (.ref 189) rfl (fun _ => rfl) ?_
                          refine T_ld 124 (.int (i32 93)) rfl (fun _ => rfl) ?_
                          refine T_call 127 232 [.ref 189, .int (i32 93)] [] rfl (fun _ => rfl) rfl (c_need w (mO m [(7, y904), (8, y906), (9, y908), (10, 0), (11, y1149), (12, y914), (28, (m.1 28)), (69, (m.1 69)), (70, (m.1 70)), (71, (m.1 71)), (72, (m.1 72)), (75, (m.1 75))] [(65, (m.2 65)), (66, (m.2 66)), (67, (m.2 67)), (68, (m.2 68))]) c N D (by omega) (Ty_mO hT rfl rfl ⟨g905, g907, g909, ⟨(by omega : (0 : Int) ≤ 0), (by omega : (0 : Int) ≤ 8)⟩, g1150, g915, f28, f69, f70, f71, f72, f75, trivial⟩ ⟨(hT.2.1 65), (hT.2.1 66), (hT.2.1 67), (hT.2.1 68), trivial⟩) 93 ⟨by decide, by decide⟩ (show 1 ≤ 93 by omega) (show LxP y904 y906 y908 (m.1 6) 0 by first | exact hLx | (intro h9; exfalso; omega) | (intro h9; have h8 := hLx (by omega); omega))) (fun r1156 k1157 => ?_)
                          obtain ⟨y1158, y1160, y1162, y1164, y1166, y1168, g1159, g1161, g1163, g1165, g1167, g1169, h1170, h1171, h1172, h1173, rfl⟩ := k1157
                          refine ⟨_, _, rfl, ?_⟩
                          refine T_nf (st' := []) (l' := [(7, y1158), (8, y1160), (9, y1162), (10, y1164), (11, y1166), (12, y1168), (28, (m.1 28)), (69, (m.1 69)), (70, (m.1 70)), (71, (m.1 71)), (72, (m.1 72)), (75, (m.1 75))]) (a' := [(65, (m.2 65)), (66, (m.2 66)), (67, (m.2 67)), (68, (m.2 68))]) rfl rfl rfl rfl rfl ?_
                          by_cases hf1174 : y1164 = 0
                          · skip
                            subst hf1174
                            replace h1170 : LxP y1158 y1160 y1162 (m.1 6) 0 := h1170
                            have hLx := h1170
                            replace h1171 : 0 = 0 ∧ y904 = 93 := h1171 rfl
                            replace h1172 : y906 ≤ y1160 := h1172
                            replace h1173 : y906 + y908 ≤ y1160 := h1173 rfl
                            have u1175 : (m.1 8) ≤ y1160 := by omega
                            have hAgC : agr (m.2 65) (m.2 65) (m.1 28) := by first | exact agr_r _ _ | exact hAgC | exact agr_t hAgC hAg (by omega)
                            clear g905 g907 g909 g915 h916 u921 g1150 u1155 g1165 h1171 h1172 h1173
                            refine T_gf 131 (.int (i32 0)) rfl rfl rfl rfl rfl rfl ?_
                            refine T_if 135 134 rfl rfl rfl ⟨by decide, by decide⟩ (fun _ => ?_) (fun h1176 => absurd (show (0 : Int) ≤ 0 by decide) h1176)
                            refine T_gf 139 (.int (i32 (m.1 70))) rfl rfl rfl rfl rfl rfl ?_
                            refine T_sto 141 [(6, .int (i32 (m.1 70))), (4, .long (i64 y892)), (2, .long (i64 y851)), (1, .int (i32 y843)), (0, .ref 189)] rfl (fun _ => rfl) ?_
                            have hAr : ar 405 ≤ 1 + lh (m.2 79) (m.2 80) (m.1 73) := by rw [show ar 405 = 1 from rfl]; omega
                            have hCk : CNk 405 y892 := by refine ⟨?_, ?_, ?_, ?_⟩ <;> omega
                            refine T_ld 142 (.ref 189) rfl (fun _ => rfl) ?_
                            refine T_ld 145 (.int (i32 405)) rfl (fun _ => rfl) ?_
                            refine T_ld 146 (.long (i64 y851)) rfl (fun _ => rfl) ?_
                            refine T_ld 148 (.long (i64 y892)) rfl (fun _ => rfl) ?_
                            refine T_lsub 149 rfl rfl ?_
                            refine T_l2i 150 rfl rfl ?_
                            refine T_ld 151 (.int (i32 1)) rfl (fun _ => rfl) ?_
                            refine T_iadd 152 rfl rfl ?_
                            refine T_ld 154 (.long (i64 y892)) rfl (fun _ => rfl) ?_
                            refine T_l2i 155 rfl rfl ?_
                            refine T_ld 156 (.long (i64 0)) rfl (fun _ => rfl) ?_
                            refine T_call 159 248 [.ref 189, .int (i32 405), .int (i32 ((y851 - y892) + 1)), .int (i32 y892), .long (i64 0)] [] rfl (fun _ => rfl) rfl (c_node w (mO m [(7, y1158), (8, y1160), (9, y1162), (10, 0), (11, y1166), (12, y1168), (28, (m.1 28)), (69, (m.1 69)), (70, (m.1 70)), (71, (m.1 71)), (72, (m.1 72)), (75, (m.1 75))] [(65, (m.2 65)), (66, (m.2 66)), (67, (m.2 67)), (68, (m.2 68))]) c N D (by omega) (Ty_mO hT rfl rfl ⟨g1159, g1161, g1163, ⟨(by omega : (0 : Int) ≤ 0), (by omega : (0 : Int) ≤ 8)⟩, g1167, g1169, f28, f69, f70, f71, f72, f75, trivial⟩ ⟨(hT.2.1 65), (hT.2.1 66), (hT.2.1 67), (hT.2.1 68), trivial⟩) 405 ((y851 - y892) + 1) y892 0 ($B) (1 + lh (m.2 79) (m.2 80) (m.1 73)) ⟨by decide, by decide⟩ (r32 (by omega) (by omega)) (r32 (by omega) (by omega)) ⟨by decide, by decide⟩ (fun _ => ⟨(show 0 ≤ 405 ∧ 405 ≤ 408 by first | omega | decide), (show 0 ≤ ((y851 - y892) + 1) ∧ ((y851 - y892) + 1) ≤ 64 by first | omega | decide), (show 0 ≤ y892 ∧ y892 ≤ 191 by first | omega | decide), (show CNk 405 y892 by first | exact hCk | (refine ⟨?_, ?_, ?_, ?_⟩ <;> omega)), (show ar 405 ≤ (1 + lh (m.2 79) (m.2 80) (m.1 73)) by first | exact hAr | omega), (show EX (m.2 65) (m.2 67) ($B) (m.1 28) (1 + lh (m.2 79) (m.2 80) (m.1 73)) by first | exact hEX | assumption)⟩)) (fun r1177 k1178 => ?_)
                            obtain ⟨y1179, y1181, y1183, F1185, F1187, F1189, F1191, g1180, g1182, g1184, G1186, G1188, G1190, G1192, h1193, c1194, rfl⟩ := k1178
                            refine ⟨_, _, rfl, ?_⟩
                            refine T_nf (st' := []) (l' := [(7, y1158), (8, y1160), (9, y1162), (10, y1179), (11, y1181), (12, y1168), (28, y1183), (69, (m.1 69)), (70, (m.1 70)), (71, (m.1 71)), (72, (m.1 72)), (75, (m.1 75))]) (a' := [(65, F1185), (66, F1187), (67, F1189), (68, F1191)]) rfl rfl rfl rfl rfl ?_
                            by_cases hf1195 : y1179 = 0
                            · skip
                              subst hf1195
                              replace h1193 : 0 = 0 := h1193 rfl
                              obtain ⟨c1196, c1197, c1198⟩ := c1194 rfl
                              replace c1196 : y1183 = (m.1 28) + 1 := c1196
                              replace c1197 : EX F1185 F1189 ($B) y1183 ((1 + lh (m.2 79) (m.2 80) (m.1 73)) + 1 - ar 405) := c1197
                              have hEX := c1197
                              replace c1198 : agr (m.2 65) F1185 (m.1 28) := c1198
                              have hAg := c1198
                              have u1199 : (m.1 8) ≤ y1160 := by omega
                              have hAgC : agr (m.2 65) F1185 (m.1 28) := by first | exact agr_r _ _ | exact hAgC | exact agr_t hAgC hAg (by omega)
                              clear g1167 g1180
                              refine T_ld 160 (.ref 189) rfl (fun _ => rfl) ?_
                              refine T_ld 161 (.long (i64 y851)) rfl (fun _ => rfl) ?_
                              refine T_ld 163 (.long (i64 y892)) rfl (fun _ => rfl) ?_
                              refine T_lsub 164 rfl rfl ?_
                              refine T_l2i 165 rfl rfl ?_
                              refine T_ld 166 (.int (i32 1)) rfl (fun _ => rfl) ?_
                              refine T_iadd 167 rfl rfl ?_
                              refine T_ld 169 (.int (i32 (m.1 70))) rfl (fun _ => rfl) ?_
                              refine T_call 172 250 [.ref 189, .int (i32 ((y851 - y892) + 1)), .int (i32 (m.1 70))] [] rfl (fun _ => rfl) rfl (c_unit w (mO m [(7, y1158), (8, y1160), (9, y1162), (10, 0), (11, y1181), (12, y1168), (28, y1183), (69, (m.1 69)), (70, (m.1 70)), (71, (m.1 71)), (72, (m.1 72)), (75, (m.1 75))] [(65, F1185), (66, F1187), (67, F1189), (68, F1191)]) c N D (by omega) (Ty_mO hT rfl rfl ⟨g1159, g1161, g1163, ⟨(by omega : (0 : Int) ≤ 0), (by omega : (0 : Int) ≤ 8)⟩, g1182, g1169, g1184, f69, f70, f71, f72, f75, trivial⟩ ⟨G1186, G1188, G1190, G1192, trivial⟩) ((y851 - y892) + 1) (m.1 70) (r32 (by omega) (by omega)) (r32 (by omega) (by omega)) (show 0 ≤ ((y851 - y892) + 1) ∧ ((y851 - y892) + 1) ≤ 1024 by omega) (show 0 ≤ (m.1 70) ∧ (m.1 70) ≤ 4000 by omega)) (fun r1200 k1201 => ?_)
                              obtain ⟨y1202, y1204, y1206, y1208, g1203, g1205, g1207, g1209, h1210, rfl⟩ := k1201
                              refine ⟨_, _, rfl, ?_⟩
                              refine T_nf (st' := []) (l' := [(7, y1158), (8, y1160), (9, y1162), (10, 0), (11, y1181), (12, y1168), (28, y1183), (69, y1202), (70, y1204), (71, y1206), (72, y1208), (75, (m.1 75))]) (a' := [(65, F1185), (66, F1187), (67, F1189), (68, F1191)]) rfl rfl rfl rfl rfl ?_
                              replace h1210 : y1202 = ((y851 - y892) + 1) := h1210
                              have u1211 : (m.1 8) ≤ y1160 := by omega
                              have hAgC : agr (m.2 65) F1185 (m.1 28) := by first | exact agr_r _ _ | exact hAgC | exact agr_t hAgC hAg (by omega)
                              have hXE : XS F1185 F1189 (m.2 76) (m.2 78) (m.2 79) (m.2 80) $B y1183 (m.1 73) (m.1 74) 1 := XS_of hXS hEX (by rw [show ar 405 = 1 from rfl]; omega)
                              refine T_goto 224 rfl (fun _ => rfl) ?_
                              refine T_ret rfl (fun _ => rfl) ?_
                              exact ⟨y1158, y1160, y1162, 0, y1181, y1168, y1183, y1202, y1204, y1206, y1208, (m.1 75), F1185, F1187, F1189, F1191, g1159, g1161, g1163, ⟨by omega, by omega⟩, g1182, g1169, g1184, g1203, g1205, g1207, g1209, f75, G1186, G1188, G1190, G1192, (by omega), (by first | exact hLx | (intro h9; exfalso; omega)), (fun _ => ⟨(by omega), (by omega), (by omega), (by exact hXE), (by exact hAgC)⟩), rfl⟩
                            · skip
                              clear c1194
                              clear h1193
                              have hf1212 : 1 ≤ y1179 := by omega
                              clear g1167
                              refine Tm_lv (a := [(0, .ref 189), (1, .int (i32 y843)), (2, .long (i64 y851)), (4, .long (i64 y892)), (6, .int (i32 (m.1 70)))]) rfl rfl ⟨rfl, rfl, rfl, rfl, rfl, trivial⟩ ?_
                              exact J159_343 y843 y851 y892 (m.1 70) y1158 y1160 y1162 y1179 y1181 y1168 y1183 (m.1 69) (m.1 70) (m.1 71) (m.1 72) (m.1 75) F1185 F1187 F1189 F1191 (r32 (by omega) (by omega)) (r64 (by omega) (by omega)) (r64 (by omega) (by omega)) (r32 (by omega) (by omega)) g1159 g1161 g1163 g1180 g1182 g1169 g1184 f69 f70 f71 f72 f75 G1186 G1188 G1190 G1192 (by omega) (by omega) (by omega) (by omega) (by omega) (by omega)
                          · skip
                            replace h1170 : LxP y1158 y1160 y1162 (m.1 6) y1164 := h1170
                            have hLx := h1170
                            clear h1171
                            replace h1172 : y906 ≤ y1160 := h1172
                            clear h1173
                            have hf1213 : 1 ≤ y1164 := by omega
                            clear g905 g907 g909 g915 h916 u921 g1150 u1155 h1172
                            refine Tm_lv (a := [(0, .ref 189), (1, .int (i32 y843)), (2, .long (i64 y851)), (4, .long (i64 y892))]) rfl rfl ⟨rfl, rfl, rfl, rfl, trivial⟩ ?_
                            exact J127_401 y843 y851 y892 y1158 y1160 y1162 y1164 y1166 y1168 (m.1 28) (m.1 69) (m.1 70) (m.1 71) (m.1 72) (m.1 75) (m.2 65) (m.2 66) (m.2 67) (m.2 68) (r32 (by omega) (by omega)) (r64 (by omega) (by omega)) (r64 (by omega) (by omega)) g1159 g1161 g1163 g1165 g1167 g1169 f28 f69 f70 f71 f72 f75 (hT.2.1 65) (hT.2.1 66) (hT.2.1 67) (hT.2.1 68) (by omega) (by omega) (by omega) (by omega)
                        · skip
                          clear c1152
                          clear h1151
                          have hf1214 : 1 ≤ y1147 := by omega
                          clear g913 h924a h924b h924c h924d h924e h925 h997a h997b h997c h997d h997e h998 h1070a h1070b h1070c h1070d h1070e h1071 h1143a h1143b h1143c h1143d h1143e h1144
                          refine Tm_lv (a := [(0, .ref 189), (1, .int (i32 y843)), (2, .long (i64 y851)), (4, .long (i64 y892))]) rfl rfl ⟨rfl, rfl, rfl, rfl, trivial⟩ ?_
                          exact J121_446 y843 y851 y892 y904 y906 y908 y1147 y1149 y914 (m.1 28) (m.1 69) (m.1 70) (m.1 71) (m.1 72) (m.1 75) (m.2 65) (m.2 66) (m.2 67) (m.2 68) (r32 (by omega) (by omega)) (r64 (by omega) (by omega)) (r64 (by omega) (by omega)) g905 g907 g909 g1148 g1150 g915 f28 f69 f70 f71 f72 f75 (hT.2.1 65) (hT.2.1 66) (hT.2.1 67) (hT.2.1 68) (by omega) (by omega) (by omega) (by omega)
                      · skip
                        refine T_ld 113 (.int (i32 1)) rfl (fun _ => rfl) ?_
                        refine T_goto 117 rfl (fun _ => rfl) ?_
                        refine T_ld 118 (.int (i32 y843)) rfl (fun _ => rfl) ?_
                        refine T_call 121 256 [.ref 189, .int (i32 1), .int (i32 y843)] [] rfl (fun _ => rfl) rfl (c_want w (mO m [(7, y904), (8, y906), (9, y908), (10, 0), (11, y912), (12, y914), (28, (m.1 28)), (69, (m.1 69)), (70, (m.1 70)), (71, (m.1 71)), (72, (m.1 72)), (75, (m.1 75))] [(65, (m.2 65)), (66, (m.2 66)), (67, (m.2 67)), (68, (m.2 68))]) c N D (by omega) (Ty_mO hT rfl rfl ⟨g905, g907, g909, ⟨(by omega : (0 : Int) ≤ 0), (by omega : (0 : Int) ≤ 8)⟩, g913, g915, f28, f69, f70, f71, f72, f75, trivial⟩ ⟨(hT.2.1 65), (hT.2.1 66), (hT.2.1 67), (hT.2.1 68), trivial⟩) 1 y843 ⟨by decide, by decide⟩ (r32 (by omega) (by omega)) (show 0 ≤ y843 ∧ y843 ≤ 4000 by omega) (fun _ => trivial)) (fun r1215 k1216 => ?_)
                        obtain ⟨y1217, y1219, g1218, g1220, h1221, c1222, rfl⟩ := k1216
                        refine ⟨_, _, rfl, ?_⟩
                        refine T_nf (st' := []) (l' := [(7, y904), (8, y906), (9, y908), (10, y1217), (11, y1219), (12, y914), (28, (m.1 28)), (69, (m.1 69)), (70, (m.1 70)), (71, (m.1 71)), (72, (m.1 72)), (75, (m.1 75))]) (a' := [(65, (m.2 65)), (66, (m.2 66)), (67, (m.2 67)), (68, (m.2 68))]) rfl rfl rfl rfl rfl ?_
                        by_cases hf1223 : y1217 = 0
                        · skip
                          subst hf1223
                          replace h1221 : 0 = 0 := h1221 rfl
                          have c1224 := c1222 rfl
                          replace c1224 : 1 ≠ 0 := c1224
                          have u1225 : (m.1 8) ≤ y906 := by omega
                          have hAgC : agr (m.2 65) (m.2 65) (m.1 28) := by first | exact agr_r _ _ | exact hAgC | exact agr_t hAgC hAg (by omega)
                          clear g913 h924a h924b h924c h924d h924e h925 h997a h997b h997c h997d h997e h998 h1070a h1070b h1070c h1070d h1070e h1071 h1143a h1143b h1143c h1143d h1143e h1144 g1218
                          refine T_ld 122 (.ref 189) rfl (fun _ => rfl) ?_
                          refine T_ld 124 (.int (i32 93)) rfl (fun _ => rfl) ?_
                          refine T_call 127 232 [.ref 189, .int (i32 93)] [] rfl (fun _ => rfl) rfl (c_need w (mO m [(7, y904), (8, y906), (9, y908), (10, 0), (11, y1219), (12, y914), (28, (m.1 28)), (69, (m.1 69)), (70, (m.1 70)), (71, (m.1 71)), (72, (m.1 72)), (75, (m.1 75))] [(65, (m.2 65)), (66, (m.2 66)), (67, (m.2 67)), (68, (m.2 68))]) c N D (by omega) (Ty_mO hT rfl rfl ⟨g905, g907, g909, ⟨(by omega : (0 : Int) ≤ 0), (by omega : (0 : Int) ≤ 8)⟩, g1220, g915, f28, f69, f70, f71, f72, f75, trivial⟩ ⟨(hT.2.1 65), (hT.2.1 66), (hT.2.1 67), (hT.2.1 68), trivial⟩) 93 ⟨by decide, by decide⟩ (show 1 ≤ 93 by omega) (show LxP y904 y906 y908 (m.1 6) 0 by first | exact hLx | (intro h9; exfalso; omega) | (intro h9; have h8 := hLx (by omega); omega))) (fun r1226 k1227 => ?_)
                          obtain ⟨y1228, y1230, y1232, y1234, y1236, y1238, g1229, g1231, g1233, g1235, g1237, g1239, h1240, h1241, h1242, h1243, rfl⟩ := k1227
                          refine ⟨_, _, rfl, ?_⟩
                          refine T_nf (st' := []) (l' := [(7, y1228), (8, y1230), (9, y1232), (10, y1234), (11, y1236), (12, y1238), (28, (m.1 28)), (69, (m.1 69)), (70, (m.1 70)), (71, (m.1 71)), (72, (m.1 72)), (75, (m.1 75))]) (a' := [(65, (m.2 65)), (66, (m.2 66)), (67, (m.2 67)), (68, (m.2 68))]) rfl rfl rfl rfl rfl ?_
                          by_cases hf1244 : y1234 = 0
                          · skip
                            subst hf1244
                            replace h1240 : LxP y1228 y1230 y1232 (m.1 6) 0 := h1240
                            have hLx := h1240
                            replace h1241 : 0 = 0 ∧ y904 = 93 := h1241 rfl
                            replace h1242 : y906 ≤ y1230 := h1242
                            replace h1243 : y906 + y908 ≤ y1230 := h1243 rfl
                            have u1245 : (m.1 8) ≤ y1230 := by omega
                            have hAgC : agr (m.2 65) (m.2 65) (m.1 28) := by first | exact agr_r _ _ | exact hAgC | exact agr_t hAgC hAg (by omega)
                            clear g905 g907 g909 g915 h916 u921 g1220 u1225 g1235 h1241 h1242 h1243
                            refine T_gf 131 (.int (i32 0)) rfl rfl rfl rfl rfl rfl ?_
                            refine T_if 135 134 rfl rfl rfl ⟨by decide, by decide⟩ (fun _ => ?_) (fun h1246 => absurd (show (0 : Int) ≤ 0 by decide) h1246)
                            refine T_gf 139 (.int (i32 (m.1 70))) rfl rfl rfl rfl rfl rfl ?_
                            refine T_sto 141 [(6, .int (i32 (m.1 70))), (4, .long (i64 y892)), (2, .long (i64 y851)), (1, .int (i32 y843)), (0, .ref 189)] rfl (fun _ => rfl) ?_
                            have hAr : ar 405 ≤ 1 + lh (m.2 79) (m.2 80) (m.1 73) := by rw [show ar 405 = 1 from rfl]; omega
                            have hCk : CNk 405 y892 := by refine ⟨?_, ?_, ?_, ?_⟩ <;> omega
                            refine T_ld 142 (.ref 189) rfl (fun _ => rfl) ?_
                            refine T_ld 145 (.int (i32 405)) rfl (fun _ => rfl) ?_
                            refine T_ld 146 (.long (i64 y851)) rfl (fun _ => rfl) ?_
                            refine T_ld 148 (.long (i64 y892)) rfl (fun _ => rfl) ?_
                            refine T_lsub 149 rfl rfl ?_
                            refine T_l2i 150 rfl rfl ?_
                            refine T_ld 151 (.int (i32 1)) rfl (fun _ => rfl) ?_
                            refine T_iadd 152 rfl rfl ?_
                            refine T_ld 154 (.long (i64 y892)) rfl (fun _ => rfl) ?_
                            refine T_l2i 155 rfl rfl ?_
                            refine T_ld 156 (.long (i64 0)) rfl (fun _ => rfl) ?_
                            refine T_call 159 248 [.ref 189, .int (i32 405), .int (i32 ((y851 - y892) + 1)), .int (i32 y892), .long (i64 0)] [] rfl (fun _ => rfl) rfl (c_node w (mO m [(7, y1228), (8, y1230), (9, y1232), (10, 0), (11, y1236), (12, y1238), (28, (m.1 28)), (69, (m.1 69)), (70, (m.1 70)), (71, (m.1 71)), (72, (m.1 72)), (75, (m.1 75))] [(65, (m.2 65)), (66, (m.2 66)), (67, (m.2 67)), (68, (m.2 68))]) c N D (by omega) (Ty_mO hT rfl rfl ⟨g1229, g1231, g1233, ⟨(by omega : (0 : Int) ≤ 0), (by omega : (0 : Int) ≤ 8)⟩, g1237, g1239, f28, f69, f70, f71, f72, f75, trivial⟩ ⟨(hT.2.1 65), (hT.2.1 66), (hT.2.1 67), (hT.2.1 68), trivial⟩) 405 ((y851 - y892) + 1) y892 0 ($B) (1 + lh (m.2 79) (m.2 80) (m.1 73)) ⟨by decide, by decide⟩ (r32 (by omega) (by omega)) (r32 (by omega) (by omega)) ⟨by decide, by decide⟩ (fun _ => ⟨(show 0 ≤ 405 ∧ 405 ≤ 408 by first | omega | decide), (show 0 ≤ ((y851 - y892) + 1) ∧ ((y851 - y892) + 1) ≤ 64 by first | omega | decide), (show 0 ≤ y892 ∧ y892 ≤ 191 by first | omega | decide), (show CNk 405 y892 by first | exact hCk | (refine ⟨?_, ?_, ?_, ?_⟩ <;> omega)), (show ar 405 ≤ (1 + lh (m.2 79) (m.2 80) (m.1 73)) by first | exact hAr | omega), (show EX (m.2 65) (m.2 67) ($B) (m.1 28) (1 + lh (m.2 79) (m.2 80) (m.1 73)) by first | exact hEX | assumption)⟩)) (fun r1247 k1248 => ?_)
                            obtain ⟨y1249, y1251, y1253, F1255, F1257, F1259, F1261, g1250, g1252, g1254, G1256, G1258, G1260, G1262, h1263, c1264, rfl⟩ := k1248
                            refine ⟨_, _, rfl, ?_⟩
                            refine T_nf (st' := []) (l' := [(7, y1228), (8, y1230), (9, y1232), (10, y1249), (11, y1251), (12, y1238), (28, y1253), (69, (m.1 69)), (70, (m.1 70)), (71, (m.1 71)), (72, (m.1 72)), (75, (m.1 75))]) (a' := [(65, F1255), (66, F1257), (67, F1259), (68, F1261)]) rfl rfl rfl rfl rfl ?_
                            by_cases hf1265 : y1249 = 0
                            · skip
                              subst hf1265
                              replace h1263 : 0 = 0 := h1263 rfl
                              obtain ⟨c1266, c1267, c1268⟩ := c1264 rfl
                              replace c1266 : y1253 = (m.1 28) + 1 := c1266
                              replace c1267 : EX F1255 F1259 ($B) y1253 ((1 + lh (m.2 79) (m.2 80) (m.1 73)) + 1 - ar 405) := c1267
                              have hEX := c1267
                              replace c1268 : agr (m.2 65) F1255 (m.1 28) := c1268
                              have hAg := c1268
                              have u1269 : (m.1 8) ≤ y1230 := by omega
                              have hAgC : agr (m.2 65) F1255 (m.1 28) := by first | exact agr_r _ _ | exact hAgC | exact agr_t hAgC hAg (by omega)
                              clear g1237 g1250
                              refine T_ld 160 (.ref 189) rfl (fun _ => rfl) ?_
                              refine T_ld 161 (.long (i64 y851)) rfl (fun _ => rfl) ?_
                              refine T_ld 163 (.long (i64 y892)) rfl (fun _ => rfl) ?_
                              refine T_lsub 164 rfl rfl ?_
                              refine T_l2i 165 rfl rfl ?_
                              refine T_ld 166 (.int (i32 1)) rfl (fun _ => rfl) ?_
                              refine T_iadd 167 rfl rfl ?_
                              refine T_ld 169 (.int (i32 (m.1 70))) rfl (fun _ => rfl) ?_
                              refine T_call 172 250 [.ref 189, .int (i32 ((y851 - y892) + 1)), .int (i32 (m.1 70))] [] rfl (fun _ => rfl) rfl (c_unit w (mO m [(7, y1228), (8, y1230), (9, y1232), (10, 0), (11, y1251), (12, y1238), (28, y1253), (69, (m.1 69)), (70, (m.1 70)), (71, (m.1 71)), (72, (m.1 72)), (75, (m.1 75))] [(65, F1255), (66, F1257), (67, F1259), (68, F1261)]) c N D (by omega) (Ty_mO hT rfl rfl ⟨g1229, g1231, g1233, ⟨(by omega : (0 : Int) ≤ 0), (by omega : (0 : Int) ≤ 8)⟩, g1252, g1239, g1254, f69, f70, f71, f72, f75, trivial⟩ ⟨G1256, G1258, G1260, G1262, trivial⟩) ((y851 - y892) + 1) (m.1 70) (r32 (by omega) (by omega)) (r32 (by omega) (by omega)) (show 0 ≤ ((y851 - y892) + 1) ∧ ((y851 - y892) + 1) ≤ 1024 by omega) (show 0 ≤ (m.1 70) ∧ (m.1 70) ≤ 4000 by omega)) (fun r1270 k1271 => ?_)
                              obtain ⟨y1272, y1274, y1276, y1278, g1273, g1275, g1277, g1279, h1280, rfl⟩ := k1271
                              refine ⟨_, _, rfl, ?_⟩
                              refine T_nf (st' := []) (l' := [(7, y1228), (8, y1230), (9, y1232), (10, 0), (11, y1251), (12, y1238), (28, y1253), (69, y1272), (70, y1274), (71, y1276), (72, y1278), (75, (m.1 75))]) (a' := [(65, F1255), (66, F1257), (67, F1259), (68, F1261)]) rfl rfl rfl rfl rfl ?_
                              replace h1280 : y1272 = ((y851 - y892) + 1) := h1280
                              have u1281 : (m.1 8) ≤ y1230 := by omega
                              have hAgC : agr (m.2 65) F1255 (m.1 28) := by first | exact agr_r _ _ | exact hAgC | exact agr_t hAgC hAg (by omega)
                              have hXE : XS F1255 F1259 (m.2 76) (m.2 78) (m.2 79) (m.2 80) $B y1253 (m.1 73) (m.1 74) 1 := XS_of hXS hEX (by rw [show ar 405 = 1 from rfl]; omega)
                              refine T_goto 224 rfl (fun _ => rfl) ?_
                              refine T_ret rfl (fun _ => rfl) ?_
                              exact ⟨y1228, y1230, y1232, 0, y1251, y1238, y1253, y1272, y1274, y1276, y1278, (m.1 75), F1255, F1257, F1259, F1261, g1229, g1231, g1233, ⟨by omega, by omega⟩, g1252, g1239, g1254, g1273, g1275, g1277, g1279, f75, G1256, G1258, G1260, G1262, (by omega), (by first | exact hLx | (intro h9; exfalso; omega)), (fun _ => ⟨(by omega), (by omega), (by omega), (by exact hXE), (by exact hAgC)⟩), rfl⟩
                            · skip
                              clear c1264
                              clear h1263
                              have hf1282 : 1 ≤ y1249 := by omega
                              clear g1237
                              refine Tm_lv (a := [(0, .ref 189), (1, .int (i32 y843)), (2, .long (i64 y851)), (4, .long (i64 y892)), (6, .int (i32 (m.1 70)))]) rfl rfl ⟨rfl, rfl, rfl, rfl, rfl, trivial⟩ ?_
                              exact J159_343 y843 y851 y892 (m.1 70) y1228 y1230 y1232 y1249 y1251 y1238 y1253 (m.1 69) (m.1 70) (m.1 71) (m.1 72) (m.1 75) F1255 F1257 F1259 F1261 (r32 (by omega) (by omega)) (r64 (by omega) (by omega)) (r64 (by omega) (by omega)) (r32 (by omega) (by omega)) g1229 g1231 g1233 g1250 g1252 g1239 g1254 f69 f70 f71 f72 f75 G1256 G1258 G1260 G1262 (by omega) (by omega) (by omega) (by omega) (by omega) (by omega)
                          · skip
                            replace h1240 : LxP y1228 y1230 y1232 (m.1 6) y1234 := h1240
                            have hLx := h1240
                            clear h1241
                            replace h1242 : y906 ≤ y1230 := h1242
                            clear h1243
                            have hf1283 : 1 ≤ y1234 := by omega
                            clear g905 g907 g909 g915 h916 u921 g1220 u1225 h1242
                            refine Tm_lv (a := [(0, .ref 189), (1, .int (i32 y843)), (2, .long (i64 y851)), (4, .long (i64 y892))]) rfl rfl ⟨rfl, rfl, rfl, rfl, trivial⟩ ?_
                            exact J127_401 y843 y851 y892 y1228 y1230 y1232 y1234 y1236 y1238 (m.1 28) (m.1 69) (m.1 70) (m.1 71) (m.1 72) (m.1 75) (m.2 65) (m.2 66) (m.2 67) (m.2 68) (r32 (by omega) (by omega)) (r64 (by omega) (by omega)) (r64 (by omega) (by omega)) g1229 g1231 g1233 g1235 g1237 g1239 f28 f69 f70 f71 f72 f75 (hT.2.1 65) (hT.2.1 66) (hT.2.1 67) (hT.2.1 68) (by omega) (by omega) (by omega) (by omega)
                        · skip
                          clear c1222
                          clear h1221
                          have hf1284 : 1 ≤ y1217 := by omega
                          clear g913 h924a h924b h924c h924d h924e h925 h997a h997b h997c h997d h997e h998 h1070a h1070b h1070c h1070d h1070e h1071 h1143a h1143b h1143c h1143d h1143e h1144
                          refine Tm_lv (a := [(0, .ref 189), (1, .int (i32 y843)), (2, .long (i64 y851)), (4, .long (i64 y892))]) rfl rfl ⟨rfl, rfl, rfl, rfl, trivial⟩ ?_
                          exact J121_446 y843 y851 y892 y904 y906 y908 y1217 y1219 y914 (m.1 28) (m.1 69) (m.1 70) (m.1 71) (m.1 72) (m.1 75) (m.2 65) (m.2 66) (m.2 67) (m.2 68) (r32 (by omega) (by omega)) (r64 (by omega) (by omega)) (r64 (by omega) (by omega)) g905 g907 g909 g1218 g1220 g915 f28 f69 f70 f71 f72 f75 (hT.2.1 65) (hT.2.1 66) (hT.2.1 67) (hT.2.1 68) (by omega) (by omega) (by omega) (by omega)
              · skip
                replace h916 : LxP y904 y906 y908 (m.1 6) y910 := h916
                have hLx := h916
                clear h917
                replace h918 : y884 ≤ y906 := h918
                clear h919
                have hf1285 : 1 ≤ y910 := by omega
                clear g883 g885 g887 g891 h894 u899 h901 h918
                refine Tm_lv (a := [(0, .ref 189), (1, .int (i32 y843)), (2, .long (i64 y851)), (4, .long (i64 y892))]) rfl rfl ⟨rfl, rfl, rfl, rfl, trivial⟩ ?_
                exact J74_509 y843 y851 y892 y904 y906 y908 y910 y912 y914 (m.1 28) (m.1 69) (m.1 70) (m.1 71) (m.1 72) (m.1 75) (m.2 65) (m.2 66) (m.2 67) (m.2 68) (r32 (by omega) (by omega)) (r64 (by omega) (by omega)) (r64 (by omega) (by omega)) g905 g907 g909 g911 g913 g915 f28 f69 f70 f71 f72 f75 (hT.2.1 65) (hT.2.1 66) (hT.2.1 67) (hT.2.1 68) (by omega) (by omega) (by omega) (by omega)
            · skip
              refine T_ld 61 (.ref 189) rfl (fun _ => rfl) ?_
              refine T_call 64 226 [.ref 189] [] rfl (fun _ => rfl) rfl (c_bad w (mO m [(7, y882), (8, y884), (9, y886), (10, 0), (11, y890), (12, y892), (28, (m.1 28)), (69, (m.1 69)), (70, (m.1 70)), (71, (m.1 71)), (72, (m.1 72)), (75, (m.1 75))] [(65, (m.2 65)), (66, (m.2 66)), (67, (m.2 67)), (68, (m.2 68))]) c N D (by omega) (Ty_mO hT rfl rfl ⟨g883, g885, g887, ⟨(by omega : (0 : Int) ≤ 0), (by omega : (0 : Int) ≤ 8)⟩, g891, g893, f28, f69, f70, f71, f72, f75, trivial⟩ ⟨(hT.2.1 65), (hT.2.1 66), (hT.2.1 67), (hT.2.1 68), trivial⟩) ) (fun r1286 k1287 => ?_)
              obtain ⟨y1288, y1290, g1289, g1291, h1292, rfl⟩ := k1287
              refine ⟨_, _, rfl, ?_⟩
              refine T_nf (st' := []) (l' := [(7, y882), (8, y884), (9, y886), (10, y1288), (11, y1290), (12, y892), (28, (m.1 28)), (69, (m.1 69)), (70, (m.1 70)), (71, (m.1 71)), (72, (m.1 72)), (75, (m.1 75))]) (a' := [(65, (m.2 65)), (66, (m.2 66)), (67, (m.2 67)), (68, (m.2 68))]) rfl rfl rfl rfl rfl ?_
              replace h1292 : (0 < 0 → y1288 = 0 ∧ y1290 = y890) ∧ (0 ≤ 0 → y1288 = 1 ∧ y1290 = y884) := h1292
              have hf1293 : 1 ≤ y1288 := by omega
              clear g891 h1292
              refine T_gf 68 (.long (i64 y892)) rfl rfl rfl rfl rfl rfl ?_
              refine T_sto 70 [(4, .long (i64 y892)), (2, .long (i64 y851)), (1, .int (i32 y843)), (0, .ref 189)] rfl (fun _ => rfl) ?_
              refine T_ld 71 (.ref 189) rfl (fun _ => rfl) ?_
              refine T_call 74 212 [.ref 189] [] rfl (fun _ => rfl) rfl (c_next w (mO m [(7, y882), (8, y884), (9, y886), (10, y1288), (11, y1290), (12, y892), (28, (m.1 28)), (69, (m.1 69)), (70, (m.1 70)), (71, (m.1 71)), (72, (m.1 72)), (75, (m.1 75))] [(65, (m.2 65)), (66, (m.2 66)), (67, (m.2 67)), (68, (m.2 68))]) c N D (by omega) (Ty_mO hT rfl rfl ⟨g883, g885, g887, g1289, g1291, g893, f28, f69, f70, f71, f72, f75, trivial⟩ ⟨(hT.2.1 65), (hT.2.1 66), (hT.2.1 67), (hT.2.1 68), trivial⟩) (show y1288 = 0 → y884 + y886 ≤ (m.1 6) by first | omega | (intro h9; have h8 := hLx h9; omega))) (fun r1294 k1295 => ?_)
              obtain ⟨y1296, y1298, y1300, y1302, y1304, y1306, g1297, g1299, g1301, g1303, g1305, g1307, h1308, h1309, h1310, h1311, rfl⟩ := k1295
              refine ⟨_, _, rfl, ?_⟩
              refine T_nf (st' := []) (l' := [(7, y1296), (8, y1298), (9, y1300), (10, y1302), (11, y1304), (12, y1306), (28, (m.1 28)), (69, (m.1 69)), (70, (m.1 70)), (71, (m.1 71)), (72, (m.1 72)), (75, (m.1 75))]) (a' := [(65, (m.2 65)), (66, (m.2 66)), (67, (m.2 67)), (68, (m.2 68))]) rfl rfl rfl rfl rfl ?_
              replace h1308 : LxP y1296 y1298 y1300 (m.1 6) y1302 := h1308
              replace h1309 : y1302 = 0 → y1288 = 0 := h1309
              replace h1310 : y884 ≤ y1298 := h1310
              replace h1311 : y1302 = 0 → y884 + y886 ≤ y1298 := h1311
              have hf1312 : 1 ≤ y1302 := by omega
              clear h1309
              clear h1311
              have hLx := h1308
              clear g883 g885 g887 h894 u899 h901 g1289 g1291 hf1293 h1310
              refine Tm_lv (a := [(0, .ref 189), (1, .int (i32 y843)), (2, .long (i64 y851)), (4, .long (i64 y892))]) rfl rfl ⟨rfl, rfl, rfl, rfl, trivial⟩ ?_
              exact J74_509 y843 y851 y892 y1296 y1298 y1300 y1302 y1304 y1306 (m.1 28) (m.1 69) (m.1 70) (m.1 71) (m.1 72) (m.1 75) (m.2 65) (m.2 66) (m.2 67) (m.2 68) (r32 (by omega) (by omega)) (r64 (by omega) (by omega)) (r64 (by omega) (by omega)) g1297 g1299 g1301 g1303 g1305 g1307 f28 f69 f70 f71 f72 f75 (hT.2.1 65) (hT.2.1 66) (hT.2.1 67) (hT.2.1 68) (by omega) (by omega) (by omega) (by omega)
          · skip
            replace h894 : LxP y882 y884 y886 (m.1 6) y888 := h894
            have hLx := h894
            clear h895
            replace h896 : y864 ≤ y884 := h896
            clear h897
            have hf1313 : 1 ≤ y888 := by omega
            clear g863 g865 g867 g871 g873 h874 h876 u879 h896
            refine Tm_lv (a := [(0, .ref 189), (1, .int (i32 y843)), (2, .long (i64 y851))]) rfl rfl ⟨rfl, rfl, rfl, trivial⟩ ?_
            exact J45_572 y843 y851 y882 y884 y886 y888 y890 y892 (m.1 28) (m.1 69) (m.1 70) (m.1 71) (m.1 72) (m.1 75) (m.2 65) (m.2 66) (m.2 67) (m.2 68) (r32 (by omega) (by omega)) (r64 (by omega) (by omega)) g883 g885 g887 g889 g891 g893 f28 f69 f70 f71 f72 f75 (hT.2.1 65) (hT.2.1 66) (hT.2.1 67) (hT.2.1 68) (by omega) (by omega) (by omega) (by omega)
        · skip
          replace h874 : LxP y862 y864 y866 (m.1 6) y868 := h874
          have hLx := h874
          clear h875
          replace h876 : y843 ≤ y864 := h876
          clear h877
          have hf1314 : 1 ≤ y868 := by omega
          clear g842 g846 g850 h853 h859
          refine Tm_lv (a := [(0, .ref 189), (1, .int (i32 y843)), (2, .long (i64 y851))]) rfl rfl ⟨rfl, rfl, rfl, trivial⟩ ?_
          exact J39_634 y843 y851 y862 y864 y866 y868 y870 y872 (m.1 28) (m.1 69) (m.1 70) (m.1 71) (m.1 72) (m.1 75) (m.2 65) (m.2 66) (m.2 67) (m.2 68) (r32 (by omega) (by omega)) (r64 (by omega) (by omega)) g863 g865 g867 g869 g871 g873 f28 f69 f70 f71 f72 f75 (hT.2.1 65) (hT.2.1 66) (hT.2.1 67) (hT.2.1 68) (by omega) (by omega) (by omega) (by omega)
      · skip
        refine T_ld 27 (.ref 189) rfl (fun _ => rfl) ?_
        refine T_call 30 226 [.ref 189] [] rfl (fun _ => rfl) rfl (c_bad w (mO m [(7, y841), (8, y843), (9, y845), (10, 0), (11, y849), (12, y851), (28, (m.1 28)), (69, (m.1 69)), (70, (m.1 70)), (71, (m.1 71)), (72, (m.1 72)), (75, (m.1 75))] [(65, (m.2 65)), (66, (m.2 66)), (67, (m.2 67)), (68, (m.2 68))]) c N D (by omega) (Ty_mO hT rfl rfl ⟨g842, g844, g846, ⟨(by omega : (0 : Int) ≤ 0), (by omega : (0 : Int) ≤ 8)⟩, g850, g852, f28, f69, f70, f71, f72, f75, trivial⟩ ⟨(hT.2.1 65), (hT.2.1 66), (hT.2.1 67), (hT.2.1 68), trivial⟩) ) (fun r1315 k1316 => ?_)
        obtain ⟨y1317, y1319, g1318, g1320, h1321, rfl⟩ := k1316
        refine ⟨_, _, rfl, ?_⟩
        refine T_nf (st' := []) (l' := [(7, y841), (8, y843), (9, y845), (10, y1317), (11, y1319), (12, y851), (28, (m.1 28)), (69, (m.1 69)), (70, (m.1 70)), (71, (m.1 71)), (72, (m.1 72)), (75, (m.1 75))]) (a' := [(65, (m.2 65)), (66, (m.2 66)), (67, (m.2 67)), (68, (m.2 68))]) rfl rfl rfl rfl rfl ?_
        replace h1321 : (0 < 0 → y1317 = 0 ∧ y1319 = y849) ∧ (0 ≤ 0 → y1317 = 1 ∧ y1319 = y843) := h1321
        have hf1322 : 1 ≤ y1317 := by omega
        clear g850 h1321
        refine Tm_lv (a := [(0, .ref 189), (1, .int (i32 y843))]) rfl rfl ⟨rfl, rfl, trivial⟩ ?_
        exact J30_694 y843 y841 y843 y845 y1317 y1319 y851 (m.1 28) (m.1 69) (m.1 70) (m.1 71) (m.1 72) (m.1 75) (m.2 65) (m.2 66) (m.2 67) (m.2 68) (r32 (by omega) (by omega)) g842 g844 g846 g1318 g1320 g852 f28 f69 f70 f71 f72 f75 (hT.2.1 65) (hT.2.1 66) (hT.2.1 67) (hT.2.1 68) (by omega) (by omega) (by omega) (by omega)
    · skip
      replace h853 : LxP y841 y843 y845 (m.1 6) y847 := h853
      have hLx := h853
      clear h854
      replace h855 : (m.1 8) ≤ y843 := h855
      clear h856
      have hf1323 : 1 ≤ y847 := by omega
      refine T_gf 17 (.int (i32 y843)) rfl rfl rfl rfl rfl rfl ?_
      refine T_sto 18 [(1, .int (i32 y843)), (0, .ref 189)] rfl (fun _ => rfl) ?_
      refine T_gf 22 (.int (i32 y841)) rfl rfl rfl rfl rfl rfl ?_
      refine T_ld 23 (.int (i32 2)) rfl (fun _ => rfl) ?_
      refine T_icmp 30 26 rfl rfl rfl (r32 (by omega) (by omega)) ⟨by decide, by decide⟩ (fun (h1324 : y841 = 2) => ?_) (fun (h1324 : ¬ (y841 = 2)) => ?_)
      · skip
        refine T_gf 34 (.long (i64 y851)) rfl rfl rfl rfl rfl rfl ?_
        refine T_sto 35 [(2, .long (i64 y851)), (1, .int (i32 y843)), (0, .ref 189)] rfl (fun _ => rfl) ?_
        refine T_ld 36 (.ref 189) rfl (fun _ => rfl) ?_
        refine T_call 39 212 [.ref 189] [] rfl (fun _ => rfl) rfl (c_next w (mO m [(7, y841), (8, y843), (9, y845), (10, y847), (11, y849), (12, y851), (28, (m.1 28)), (69, (m.1 69)), (70, (m.1 70)), (71, (m.1 71)), (72, (m.1 72)), (75, (m.1 75))] [(65, (m.2 65)), (66, (m.2 66)), (67, (m.2 67)), (68, (m.2 68))]) c N D (by omega) (Ty_mO hT rfl rfl ⟨g842, g844, g846, g848, g850, g852, f28, f69, f70, f71, f72, f75, trivial⟩ ⟨(hT.2.1 65), (hT.2.1 66), (hT.2.1 67), (hT.2.1 68), trivial⟩) (show y847 = 0 → y843 + y845 ≤ (m.1 6) by first | omega | (intro h9; have h8 := hLx h9; omega))) (fun r1325 k1326 => ?_)
        obtain ⟨y1327, y1329, y1331, y1333, y1335, y1337, g1328, g1330, g1332, g1334, g1336, g1338, h1339, h1340, h1341, h1342, rfl⟩ := k1326
        refine ⟨_, _, rfl, ?_⟩
        refine T_nf (st' := []) (l' := [(7, y1327), (8, y1329), (9, y1331), (10, y1333), (11, y1335), (12, y1337), (28, (m.1 28)), (69, (m.1 69)), (70, (m.1 70)), (71, (m.1 71)), (72, (m.1 72)), (75, (m.1 75))]) (a' := [(65, (m.2 65)), (66, (m.2 66)), (67, (m.2 67)), (68, (m.2 68))]) rfl rfl rfl rfl rfl ?_
        replace h1339 : LxP y1327 y1329 y1331 (m.1 6) y1333 := h1339
        replace h1340 : y1333 = 0 → y847 = 0 := h1340
        replace h1341 : y843 ≤ y1329 := h1341
        replace h1342 : y1333 = 0 → y843 + y845 ≤ y1329 := h1342
        have hf1343 : 1 ≤ y1333 := by omega
        clear h1340
        clear h1342
        have hLx := h1339
        clear g842 g846 g848 g850 h853 hf1323 h1324
        refine Tm_lv (a := [(0, .ref 189), (1, .int (i32 y843)), (2, .long (i64 y851))]) rfl rfl ⟨rfl, rfl, rfl, trivial⟩ ?_
        exact J39_634 y843 y851 y1327 y1329 y1331 y1333 y1335 y1337 (m.1 28) (m.1 69) (m.1 70) (m.1 71) (m.1 72) (m.1 75) (m.2 65) (m.2 66) (m.2 67) (m.2 68) (r32 (by omega) (by omega)) (r64 (by omega) (by omega)) g1328 g1330 g1332 g1334 g1336 g1338 f28 f69 f70 f71 f72 f75 (hT.2.1 65) (hT.2.1 66) (hT.2.1 67) (hT.2.1 68) (by omega) (by omega) (by omega) (by omega)
      · skip
        refine T_ld 27 (.ref 189) rfl (fun _ => rfl) ?_
        refine T_call 30 226 [.ref 189] [] rfl (fun _ => rfl) rfl (c_bad w (mO m [(7, y841), (8, y843), (9, y845), (10, y847), (11, y849), (12, y851), (28, (m.1 28)), (69, (m.1 69)), (70, (m.1 70)), (71, (m.1 71)), (72, (m.1 72)), (75, (m.1 75))] [(65, (m.2 65)), (66, (m.2 66)), (67, (m.2 67)), (68, (m.2 68))]) c N D (by omega) (Ty_mO hT rfl rfl ⟨g842, g844, g846, g848, g850, g852, f28, f69, f70, f71, f72, f75, trivial⟩ ⟨(hT.2.1 65), (hT.2.1 66), (hT.2.1 67), (hT.2.1 68), trivial⟩) ) (fun r1344 k1345 => ?_)
        obtain ⟨y1346, y1348, g1347, g1349, h1350, rfl⟩ := k1345
        refine ⟨_, _, rfl, ?_⟩
        refine T_nf (st' := []) (l' := [(7, y841), (8, y843), (9, y845), (10, y1346), (11, y1348), (12, y851), (28, (m.1 28)), (69, (m.1 69)), (70, (m.1 70)), (71, (m.1 71)), (72, (m.1 72)), (75, (m.1 75))]) (a' := [(65, (m.2 65)), (66, (m.2 66)), (67, (m.2 67)), (68, (m.2 68))]) rfl rfl rfl rfl rfl ?_
        replace h1350 : (0 < y847 → y1346 = y847 ∧ y1348 = y849) ∧ (y847 ≤ 0 → y1346 = 1 ∧ y1348 = y843) := h1350
        have hf1351 : 1 ≤ y1346 := by omega
        clear g848 g850 h853 hf1323 h1350
        refine Tm_lv (a := [(0, .ref 189), (1, .int (i32 y843))]) rfl rfl ⟨rfl, rfl, trivial⟩ ?_
        exact J30_694 y843 y841 y843 y845 y1346 y1348 y851 (m.1 28) (m.1 69) (m.1 70) (m.1 71) (m.1 72) (m.1 75) (m.2 65) (m.2 66) (m.2 67) (m.2 68) (r32 (by omega) (by omega)) g842 g844 g846 g1347 g1349 g852 f28 f69 f70 f71 f72 f75 (hT.2.1 65) (hT.2.1 66) (hT.2.1 67) (hT.2.1 68) (by omega) (by omega) (by omega) (by omega)
def Q_level (m : mR) (c : Nat → Option am_C) (N : Nat) (x : Int) : ag_Re af_T → Prop := fun R => ∃ (r : Int), ((-1) ≤ r ∧ r ≤ 8) ∧ (0 ≤ r → 4 ≤ x ∧ x ≤ 124) ∧ R = (.inl (some (.int (i32 r))), (mhp (mO m [] []) c, N), 0, 0)
set_option maxHeartbeats 8000000 in
theorem c_level (w : wX) (m : mR) (c : Nat → Option am_C) (N D : Nat) (hD : 1 ≤ D) (hT : Ty m) (x : Int) (qx : R32 x) : TC w D 259 [.int (i32 x)] (mhp m c, N) (Q_level m c N x) := by
  obtain ⟨D, rfl⟩ : ∃ k, D = k + 1 := ⟨D - 1, by omega⟩
  obtain ⟨qxa, qxb⟩ := id qx
  refine Tc_of rfl ?_
  show TT w D pm_259 (0, [(0, .int (i32 x))], [], (mhp m c, N), 0, 0) (Q_level m c N x)
  rw [show (mhp m c, N) = (mhp (mO m [] []) c, N) from rfl]
  refine T_ld 1 (.int (i32 x)) rfl (fun _ => rfl) ?_
  have T144_1 : TT w D pm_259 (144, [(0, .int (i32 x))], [], (mhp (mO m [] []) c, N), 0, 0) (Q_level m c N x) := by
    refine T_ld 145 (.int (i32 2)) rfl (fun _ => rfl) ?_
    refine T_ret rfl (fun _ => rfl) ?_
    exact ⟨2, ⟨by omega, by omega⟩, (by omega), rfl⟩
  have T152_2 : TT w D pm_259 (152, [(0, .int (i32 x))], [], (mhp (mO m [] []) c, N), 0, 0) (Q_level m c N x) := by
    refine T_ld 154 (.int (i32 6)) rfl (fun _ => rfl) ?_
    refine T_ret rfl (fun _ => rfl) ?_
    exact ⟨6, ⟨by omega, by omega⟩, (by omega), rfl⟩
  have T155_3 : TT w D pm_259 (155, [(0, .int (i32 x))], [], (mhp (mO m [] []) c, N), 0, 0) (Q_level m c N x) := by
    refine T_ld 157 (.int (i32 7)) rfl (fun _ => rfl) ?_
    refine T_ret rfl (fun _ => rfl) ?_
    exact ⟨7, ⟨by omega, by omega⟩, (by omega), rfl⟩
  by_cases h4 : x = 4
  · skip
    refine T_cast 4 h4 ?_
    refine T_pop 144 rfl (fun _ => rfl) ?_
    exact T144_1
  by_cases h5 : x = 5
  · skip
    refine T_cast 5 h5 ?_
    refine T_pop 144 rfl (fun _ => rfl) ?_
    exact T144_1
  by_cases h6 : x = 6
  · skip
    refine T_cast 6 h6 ?_
    refine T_pop 144 rfl (fun _ => rfl) ?_
    exact T144_1
  by_cases h7 : x = 7
  · skip
    refine T_cast 7 h7 ?_
    refine T_pop 144 rfl (fun _ => rfl) ?_
    exact T144_1
  by_cases h8 : x = 8
  · skip
    refine T_cast 8 h8 ?_
    refine T_pop 158 rfl (fun _ => rfl) ?_
    refine T_ld 160 (.int (i32 8)) rfl (fun _ => rfl) ?_
    refine T_ret rfl (fun _ => rfl) ?_
    exact ⟨8, ⟨by omega, by omega⟩, (by omega), rfl⟩
  by_cases h9 : x = 9
  · skip
    refine T_cast 9 h9 ?_
    refine T_pop 142 rfl (fun _ => rfl) ?_
    refine T_ld 143 (.int (i32 1)) rfl (fun _ => rfl) ?_
    refine T_ret rfl (fun _ => rfl) ?_
    exact ⟨1, ⟨by omega, by omega⟩, (by omega), rfl⟩
  by_cases h10 : x = 10
  · skip
    refine T_cast 10 h10 ?_
    refine T_pop 140 rfl (fun _ => rfl) ?_
    refine T_ld 141 (.int (i32 0)) rfl (fun _ => rfl) ?_
    refine T_ret rfl (fun _ => rfl) ?_
    exact ⟨0, ⟨by omega, by omega⟩, (by omega), rfl⟩
  by_cases h11 : x = 11
  · skip
    refine T_cast 11 h11 ?_
    refine T_pop 152 rfl (fun _ => rfl) ?_
    exact T152_2
  by_cases h12 : x = 12
  · skip
    refine T_cast 12 h12 ?_
    refine T_pop 152 rfl (fun _ => rfl) ?_
    exact T152_2
  by_cases h13 : x = 38
  · skip
    refine T_cast 38 h13 ?_
    refine T_pop 150 rfl (fun _ => rfl) ?_
    refine T_ld 151 (.int (i32 5)) rfl (fun _ => rfl) ?_
    refine T_ret rfl (fun _ => rfl) ?_
    exact ⟨5, ⟨by omega, by omega⟩, (by omega), rfl⟩
  by_cases h14 : x = 43
  · skip
    refine T_cast 43 h14 ?_
    refine T_pop 155 rfl (fun _ => rfl) ?_
    exact T155_3
  by_cases h15 : x = 45
  · skip
    refine T_cast 45 h15 ?_
    refine T_pop 155 rfl (fun _ => rfl) ?_
    exact T155_3
  by_cases h16 : x = 60
  · skip
    refine T_cast 60 h16 ?_
    refine T_pop 144 rfl (fun _ => rfl) ?_
    exact T144_1
  by_cases h17 : x = 62
  · skip
    refine T_cast 62 h17 ?_
    refine T_pop 144 rfl (fun _ => rfl) ?_
    exact T144_1
  by_cases h18 : x = 94
  · skip
    refine T_cast 94 h18 ?_
    refine T_pop 148 rfl (fun _ => rfl) ?_
    refine T_ld 149 (.int (i32 4)) rfl (fun _ => rfl) ?_
    refine T_ret rfl (fun _ => rfl) ?_
    exact ⟨4, ⟨by omega, by omega⟩, (by omega), rfl⟩
  by_cases h19 : x = 124
  · skip
    refine T_cast 124 h19 ?_
    refine T_pop 146 rfl (fun _ => rfl) ?_
    refine T_ld 147 (.int (i32 3)) rfl (fun _ => rfl) ?_
    refine T_ret rfl (fun _ => rfl) ?_
    exact ⟨3, ⟨by omega, by omega⟩, (by omega), rfl⟩
  refine T_lkd 161 rfl rfl (r32 (by omega) (by omega)) (by simp [Op.lookupswitch.offset, h4, h5, h6, h7, h8, h9, h10, h11, h12, h13, h14, h15, h16, h17, h18, h19]) ?_
  refine T_ld 162 (.int (i32 (-1))) rfl (fun _ => rfl) ?_
  refine T_ret rfl (fun _ => rfl) ?_
  exact ⟨(-1), ⟨by omega, by omega⟩, (by omega), rfl⟩
def Q_join (m : mR) (c : Nat → Option am_C) (N : Nat) (w : Int) (B : Int) : ag_Re af_T → Prop := fun R => ∃ (y10 : Int) (y11 : Int) (y28 : Int) (y69 : Int) (y70 : Int) (y71 : Int) (y72 : Int) (F65 : Int → Int) (F66 : Int → Int) (F67 : Int → Int) (F68 : Int → Int) (F80 : Int → Int), (0 ≤ y10 ∧ y10 ≤ 8) ∧ ((-1) ≤ y11 ∧ y11 ≤ 4000) ∧ (0 ≤ y28 ∧ y28 ≤ 800) ∧ (0 ≤ y69 ∧ y69 ≤ 1024) ∧ (0 ≤ y70 ∧ y70 ≤ 4000) ∧ (0 ≤ y71 ∧ y71 ≤ 1) ∧ ((-9223372036854775808) ≤ y72 ∧ y72 ≤ 9223372036854775807) ∧ (∀ j, 0 ≤ F65 j ∧ F65 j ≤ 408) ∧ (∀ j, 0 ≤ F66 j ∧ F66 j ≤ 64) ∧ (∀ j, 0 ≤ F67 j ∧ F67 j ≤ 191) ∧ (∀ j, (-9223372036854775808) ≤ F68 j ∧ F68 j ≤ 9223372036854775807) ∧ (∀ j, (-1) ≤ F80 j ∧ F80 j ≤ 330) ∧ (y10 = 0 → (m.1 10) = 0) ∧ (y69 ≤ (m.1 69) + 64) ∧ (y10 = 0 → (y69 ≤ 64) ∧ (y28 = (m.1 28) + 1) ∧ (XS F65 F67 (m.2 76) (m.2 78) (m.2 79) F80 B y28 (m.1 73) (m.1 74) 1) ∧ (agr (m.2 65) F65 (m.1 28)) ∧ (F80 = upI (m.2 80) w (-1))) ∧ R = (.inl (none), (mhp (mO m [(10, y10), (11, y11), (28, y28), (69, y69), (70, y70), (71, y71), (72, y72)] [(65, F65), (66, F66), (67, F67), (68, F68), (80, F80)]) c, N), 0, 0)
set_option maxHeartbeats 8000000 in
theorem c_join (w : wX) (m : mR) (c : Nat → Option am_C) (N D : Nat) (hD : 4 ≤ D) (hT : Ty m) (w : Int) (B : Int) (qw : R32 w) (p0 : 0 ≤ w ∧ w ≤ 539) (p1 : (m.1 69) ≤ 900) (hC : m.1 10 = 0 → (XS (m.2 65) (m.2 67) (m.2 76) (m.2 78) (m.2 79) (m.2 80) B (m.1 28) (m.1 73) (m.1 74) 1) ∧ ((m.1 69) ≤ 64) ∧ (1 ≤ (m.1 73)) ∧ (9 * ((m.1 73) - 1) ≤ w ∧ w < 9 * (m.1 73)) ∧ (0 ≤ (m.2 80) w)) : TC w D 260 [.ref 189, .int (i32 w)] (mhp m c, N) (Q_join m c N w B) := by
  obtain ⟨D, rfl⟩ : ∃ k, D = k + 1 := ⟨D - 1, by omega⟩
  obtain ⟨qwa, qwb⟩ := id qw
  have f10 : 0 ≤ m.1 10 ∧ m.1 10 ≤ 8 := hT.1 10
  have f11 : (-1) ≤ m.1 11 ∧ m.1 11 ≤ 4000 := hT.1 11
  have f28 : 0 ≤ m.1 28 ∧ m.1 28 ≤ 800 := hT.1 28
  have f69 : 0 ≤ m.1 69 ∧ m.1 69 ≤ 1024 := hT.1 69
  have f70 : 0 ≤ m.1 70 ∧ m.1 70 ≤ 4000 := hT.1 70
  have f71 : 0 ≤ m.1 71 ∧ m.1 71 ≤ 1 := hT.1 71
  have f72 : (-9223372036854775808) ≤ m.1 72 ∧ m.1 72 ≤ 9223372036854775807 := hT.1 72
  have f74 : 0 ≤ m.1 74 ∧ m.1 74 ≤ 24 := hT.1 74
  have f73 : 0 ≤ m.1 73 ∧ m.1 73 ≤ 60 := hT.1 73
  refine Tc_of rfl ?_
  show TT w D pm_260 (0, [(0, .ref 189), (1, .int (i32 w))], [], (mhp m c, N), 0, 0) (Q_join m c N w B)
  rw [show (mhp m c, N) = (mhp (mO m [(10, (m.1 10)), (11, (m.1 11)), (28, (m.1 28)), (69, (m.1 69)), (70, (m.1 70)), (71, (m.1 71)), (72, (m.1 72))] [(65, (m.2 65)), (66, (m.2 66)), (67, (m.2 67)), (68, (m.2 68)), (80, (m.2 80))]) c, N) from congrArg (fun M => (mhp M c, N)) (mO_pad m [10, 11, 28, 69, 70, 71, 72] [65, 66, 67, 68, 80])]
  by_cases hf0 : m.1 10 = 0
  · skip
    obtain ⟨hXS, c1, c2, c3, c4⟩ := hC hf0
    have hEX := hXS.1.1
    have hl1 := lh_ws (st := (m.2 79)) (ws := (m.2 80)) (hi := (m.1 73)) (i := w) (by omega) (by omega) (by omega) (by omega)
    have hl0 : 0 ≤ lh (m.2 79) (upI (m.2 80) w (-1)) (m.1 73) := lh_0 (hT.2.1 79) _ _
    have ha2 := ar_2 (s := (m.2 80) w) (by have := hT.2.1 80 w; have e : (m.2 80) w ≤ 330 := this.2; omega)
    have J278_134 : ∀ (v118 : Int) (v119 : Int) (v120 : Int) (v121 : Int) (y122 : Int) (y123 : Int) (y124 : Int) (y125 : Int) (y126 : Int) (y127 : Int) (y128 : Int) (F129 : Int → Int) (F130 : Int → Int) (F131 : Int → Int) (F132 : Int → Int) (F133 : Int → Int), (R32 v118) → (R32 v119) → (R32 v120) → (R32 v121) → (0 ≤ y122 ∧ y122 ≤ 8) → ((-1) ≤ y123 ∧ y123 ≤ 4000) → (0 ≤ y124 ∧ y124 ≤ 800) → (0 ≤ y125 ∧ y125 ≤ 1024) → (0 ≤ y126 ∧ y126 ≤ 4000) → (0 ≤ y127 ∧ y127 ≤ 1) → ((-9223372036854775808) ≤ y128 ∧ y128 ≤ 9223372036854775807) → (∀ j, 0 ≤ F129 j ∧ F129 j ≤ 408) → (∀ j, 0 ≤ F130 j ∧ F130 j ≤ 64) → (∀ j, 0 ≤ F131 j ∧ F131 j ≤ 191) → (∀ j, (-9223372036854775808) ≤ F132 j ∧ F132 j ≤ 9223372036854775807) → (∀ j, (-1) ≤ F133 j ∧ F133 j ≤ 330) → (0 ≤ v119) → (v119 ≤ 4000) → ((-1) ≤ v120) → (v120 ≤ 330) → (0 ≤ v121) → (v121 ≤ 1024) → (1 ≤ y122) → (y122 ≤ 8) → TT w D pm_260 (278, [(0, .ref 189), (1, .int (i32 w)), (2, .int (i32 v118)), (3, .int (i32 v119)), (4, .int (i32 v120)), (5, .int (i32 v121))], [], (mhp (mO m [(10, y122), (11, y123), (28, y124), (69, y125), (70, y126), (71, y127), (72, y128)] [(65, F129), (66, F130), (67, F131), (68, F132), (80, F133)]) c, N), 0, 0) (Q_join m c N w B) := by
      intro v118 v119 v120 v121 y122 y123 y124 y125 y126 y127 y128 F129 F130 F131 F132 F133 q135 q136 q137 q138 q139 q140 q141 q142 q143 q144 q145 q146 q147 q148 q149 q150 i151 i152 i153 i154 i155 i156 i157 i158
      obtain ⟨q135a, q135b⟩ := id q135
      obtain ⟨q136a, q136b⟩ := id q136
      obtain ⟨q137a, q137b⟩ := id q137
      obtain ⟨q138a, q138b⟩ := id q138
      refine T_ld 279 (.ref 189) rfl (fun _ => rfl) ?_
      refine T_ld 280 (.int (i32 v118)) rfl (fun _ => rfl) ?_
      refine T_ld 281 (.int (i32 v119)) rfl (fun _ => rfl) ?_
      refine T_call 284 250 [.ref 189, .int (i32 v118), .int (i32 v119)] [] rfl (fun _ => rfl) rfl (c_unit w (mO m [(10, y122), (11, y123), (28, y124), (69, y125), (70, y126), (71, y127), (72, y128)] [(65, F129), (66, F130), (67, F131), (68, F132), (80, F133)]) c N D (by omega) (Ty_mO hT rfl rfl ⟨q139, q140, q141, q142, q143, q144, q145, trivial⟩ ⟨q146, q147, q148, q149, q150, trivial⟩) v118 v119 (r32 (by omega) (by omega)) (r32 (by omega) (by omega)) (show 0 ≤ v118 ∧ v118 ≤ 1024 by omega) (show 0 ≤ v119 ∧ v119 ≤ 4000 by omega)) (fun r160 k161 => ?_)
      obtain ⟨y162, y164, y166, y168, g163, g165, g167, g169, h170, rfl⟩ := k161
      refine ⟨_, _, rfl, ?_⟩
      refine T_nf (st' := []) (l' := [(10, y122), (11, y123), (28, y124), (69, y162), (70, y164), (71, y166), (72, y168)]) (a' := [(65, F129), (66, F130), (67, F131), (68, F132), (80, F133)]) rfl rfl rfl rfl rfl ?_
      replace h170 : y162 = v118 := h170
      clear q142 q143 q144 q145
      refine T_ret rfl (fun _ => rfl) ?_
      exact ⟨y122, y123, y124, y162, y164, y166, y168, F129, F130, F131, F132, F133, q139, q140, q141, g163, g165, g167, g169, q146, q147, q148, q149, q150, (by omega), (by omega), (fun h => absurd h (by omega)), rfl⟩
    have J197_187 : ∀ (v171 : Int) (v172 : Int) (v173 : Int) (v174 : Int) (y175 : Int) (y176 : Int) (y177 : Int) (y178 : Int) (y179 : Int) (y180 : Int) (y181 : Int) (F182 : Int → Int) (F183 : Int → Int) (F184 : Int → Int) (F185 : Int → Int) (F186 : Int → Int), (R32 v171) → (R32 v172) → (R32 v173) → (R32 v174) → (0 ≤ y175 ∧ y175 ≤ 8) → ((-1) ≤ y176 ∧ y176 ≤ 4000) → (0 ≤ y177 ∧ y177 ≤ 800) → (0 ≤ y178 ∧ y178 ≤ 1024) → (0 ≤ y179 ∧ y179 ≤ 4000) → (0 ≤ y180 ∧ y180 ≤ 1) → ((-9223372036854775808) ≤ y181 ∧ y181 ≤ 9223372036854775807) → (∀ j, 0 ≤ F182 j ∧ F182 j ≤ 408) → (∀ j, 0 ≤ F183 j ∧ F183 j ≤ 64) → (∀ j, 0 ≤ F184 j ∧ F184 j ≤ 191) → (∀ j, (-9223372036854775808) ≤ F185 j ∧ F185 j ≤ 9223372036854775807) → (∀ j, (-1) ≤ F186 j ∧ F186 j ≤ 330) → (0 ≤ v171) → (v171 ≤ 64) → (0 ≤ v172) → (v172 ≤ 4000) → ((-1) ≤ v173) → (v173 ≤ 330) → (0 ≤ v174) → (v174 ≤ 1024) → (1 ≤ y175) → (y175 ≤ 8) → TT w D pm_260 (197, [(0, .ref 189), (1, .int (i32 w)), (2, .int (i32 v171)), (3, .int (i32 v172)), (4, .int (i32 v173)), (5, .int (i32 v174))], [], (mhp (mO m [(10, y175), (11, y176), (28, y177), (69, y178), (70, y179), (71, y180), (72, y181)] [(65, F182), (66, F183), (67, F184), (68, F185), (80, F186)]) c, N), 0, 0) (Q_join m c N w B) := by
      intro v171 v172 v173 v174 y175 y176 y177 y178 y179 y180 y181 F182 F183 F184 F185 F186 q188 q189 q190 q191 q192 q193 q194 q195 q196 q197 q198 q199 q200 q201 q202 q203 i204 i205 i206 i207 i208 i209 i210 i211 i212 i213
      obtain ⟨q188a, q188b⟩ := id q188
      obtain ⟨q189a, q189b⟩ := id q189
      obtain ⟨q190a, q190b⟩ := id q190
      obtain ⟨q191a, q191b⟩ := id q191
      refine T_ld 198 (.int (i32 v171)) rfl (fun _ => rfl) ?_
      refine T_gf 202 (.int (i32 y178)) rfl rfl rfl rfl rfl rfl ?_
      refine T_iadd 203 rfl rfl ?_
      refine T_sto 204 [(2, .int (i32 (v171 + y178))), (0, .ref 189), (1, .int (i32 w)), (3, .int (i32 v172)), (4, .int (i32 v173)), (5, .int (i32 v174))] rfl (fun _ => rfl) ?_
      refine T_goto 261 rfl (fun _ => rfl) ?_
      refine T_gf 265 (.ref 242) rfl rfl rfl rfl rfl rfl ?_
      refine T_ld 266 (.int (i32 w)) rfl (fun _ => rfl) ?_
      refine T_ld 267 (.int (i32 (-1))) rfl (fun _ => rfl) ?_
      have G215 : ∀ j, (-1) ≤ (upI F186 w (-1)) j ∧ (upI F186 w (-1)) j ≤ 330 := upI_rg q203 ⟨by omega, by omega⟩
      refine T_iast (a' := [(65, F182), (66, F183), (67, F184), (68, F185), (80, upI F186 w (-1))]) 268 80 F186 rfl rfl rfl (by omega) (show w < (540 : Int) by omega) rfl rfl ?_
      refine T_ld 269 (.ref 189) rfl (fun _ => rfl) ?_
      refine T_ld 271 (.int (i32 v173)) rfl (fun _ => rfl) ?_
      refine T_ld 272 (.int (i32 (v171 + y178))) rfl (fun _ => rfl) ?_
      refine T_ld 274 (.int (i32 v174)) rfl (fun _ => rfl) ?_
      refine T_ld 275 (.long (i64 0)) rfl (fun _ => rfl) ?_
      refine T_call 278 248 [.ref 189, .int (i32 v173), .int (i32 (v171 + y178)), .int (i32 v174), .long (i64 0)] [] rfl (fun _ => rfl) rfl (c_node w (mO m [(10, y175), (11, y176), (28, y177), (69, y178), (70, y179), (71, y180), (72, y181)] [(65, F182), (66, F183), (67, F184), (68, F185), (80, upI F186 w (-1))]) c N D (by omega) (Ty_mO hT rfl rfl ⟨q192, q193, q194, q195, q196, q197, q198, trivial⟩ ⟨q199, q200, q201, q202, G215, trivial⟩) v173 (v171 + y178) v174 0 ($B) (1 + lh (m.2 79) (m.2 80) (m.1 73)) (r32 (by omega) (by omega)) (r32 (by omega) (by omega)) (r32 (by omega) (by omega)) ⟨by decide, by decide⟩ (fun h => absurd h (by omega))) (fun r216 k217 => ?_)
      obtain ⟨y218, y220, y222, F224, F226, F228, F230, g219, g221, g223, G225, G227, G229, G231, h232, c233, rfl⟩ := k217
      refine ⟨_, _, rfl, ?_⟩
      refine T_nf (st' := []) (l' := [(10, y218), (11, y220), (28, y222), (69, y178), (70, y179), (71, y180), (72, y181)]) (a' := [(65, F224), (66, F226), (67, F228), (68, F230), (80, upI F186 w (-1))]) rfl rfl rfl rfl rfl ?_
      replace h232 : y218 = 0 → y175 = 0 := h232
      have hf234 : 1 ≤ y218 := by omega
      clear c233
      clear h232
      clear q192 q193 q194 i212 i213
      refine Tm_lv (a := [(0, .ref 189), (1, .int (i32 w)), (2, .int (i32 (v171 + y178))), (3, .int (i32 v172)), (4, .int (i32 v173)), (5, .int (i32 v174))]) rfl rfl ⟨rfl, rfl, rfl, rfl, rfl, rfl, trivial⟩ ?_
      exact J278_134 (v171 + y178) v172 v173 v174 y218 y220 y222 y178 y179 y180 y181 F224 F226 F228 F230 (upI F186 w (-1)) (r32 (by omega) (by omega)) (r32 (by omega) (by omega)) (r32 (by omega) (by omega)) (r32 (by omega) (by omega)) g219 g221 g223 q195 q196 q197 q198 G225 G227 G229 G231 G215 (by omega) (by omega) (by omega) (by omega) (by omega) (by omega) (by omega) (by omega)
    have J173_251 : ∀ (v235 : Int) (v236 : Int) (v237 : Int) (v238 : Int) (y239 : Int) (y240 : Int) (y241 : Int) (y242 : Int) (y243 : Int) (y244 : Int) (y245 : Int) (F246 : Int → Int) (F247 : Int → Int) (F248 : Int → Int) (F249 : Int → Int) (F250 : Int → Int), (R32 v235) → (R32 v236) → (R32 v237) → (R32 v238) → (0 ≤ y239 ∧ y239 ≤ 8) → ((-1) ≤ y240 ∧ y240 ≤ 4000) → (0 ≤ y241 ∧ y241 ≤ 800) → (0 ≤ y242 ∧ y242 ≤ 1024) → (0 ≤ y243 ∧ y243 ≤ 4000) → (0 ≤ y244 ∧ y244 ≤ 1) → ((-9223372036854775808) ≤ y245 ∧ y245 ≤ 9223372036854775807) → (∀ j, 0 ≤ F246 j ∧ F246 j ≤ 408) → (∀ j, 0 ≤ F247 j ∧ F247 j ≤ 64) → (∀ j, 0 ≤ F248 j ∧ F248 j ≤ 191) → (∀ j, (-9223372036854775808) ≤ F249 j ∧ F249 j ≤ 9223372036854775807) → (∀ j, (-1) ≤ F250 j ∧ F250 j ≤ 330) → (0 ≤ v235) → (v235 ≤ 64) → (0 ≤ v236) → (v236 ≤ 4000) → ((-1) ≤ v237) → (v237 ≤ 330) → (0 ≤ v238) → (v238 ≤ 1024) → (1 ≤ y239) → (y239 ≤ 8) → TT w D pm_260 (173, [(0, .ref 189), (1, .int (i32 w)), (2, .int (i32 v235)), (3, .int (i32 v236)), (4, .int (i32 v237)), (5, .int (i32 v238))], [], (mhp (mO m [(10, y239), (11, y240), (28, y241), (69, y242), (70, y243), (71, y244), (72, y245)] [(65, F246), (66, F247), (67, F248), (68, F249), (80, F250)]) c, N), 0, 0) (Q_join m c N w B) := by
      intro v235 v236 v237 v238 y239 y240 y241 y242 y243 y244 y245 F246 F247 F248 F249 F250 q252 q253 q254 q255 q256 q257 q258 q259 q260 q261 q262 q263 q264 q265 q266 q267 i268 i269 i270 i271 i272 i273 i274 i275 i276 i277
      obtain ⟨q252a, q252b⟩ := id q252
      obtain ⟨q253a, q253b⟩ := id q253
      obtain ⟨q254a, q254b⟩ := id q254
      obtain ⟨q255a, q255b⟩ := id q255
      refine T_ld 174 (.ref 189) rfl (fun _ => rfl) ?_
      refine T_ld 175 (.int (i32 v235)) rfl (fun _ => rfl) ?_
      refine T_gf 179 (.int (i32 y242)) rfl rfl rfl rfl rfl rfl ?_
      refine T_iadd 180 rfl rfl ?_
      refine T_ld 182 (.int (i32 64)) rfl (fun _ => rfl) ?_
      refine T_icmp 189 185 rfl rfl rfl (r32 (by omega) (by omega)) ⟨by decide, by decide⟩ (fun (h279 : (64 : Int) < v235 + y242) => ?_) (fun (h279 : ¬ ((64 : Int) < v235 + y242)) => ?_)
      · skip
        refine T_ld 190 (.int (i32 0)) rfl (fun _ => rfl) ?_
        refine T_gf 194 (.int (i32 y243)) rfl rfl rfl rfl rfl rfl ?_
        refine T_call 197 256 [.ref 189, .int (i32 0), .int (i32 y243)] [] rfl (fun _ => rfl) rfl (c_want w (mO m [(10, y239), (11, y240), (28, y241), (69, y242), (70, y243), (71, y244), (72, y245)] [(65, F246), (66, F247), (67, F248), (68, F249), (80, F250)]) c N D (by omega) (Ty_mO hT rfl rfl ⟨q256, q257, q258, q259, q260, q261, q262, trivial⟩ ⟨q263, q264, q265, q266, q267, trivial⟩) 0 y243 ⟨by decide, by decide⟩ (r32 (by omega) (by omega)) (show 0 ≤ y243 ∧ y243 ≤ 4000 by omega) (fun h => absurd h (by omega))) (fun r280 k281 => ?_)
        obtain ⟨y282, y284, g283, g285, h286, c287, rfl⟩ := k281
        refine ⟨_, _, rfl, ?_⟩
        refine T_nf (st' := []) (l' := [(10, y282), (11, y284), (28, y241), (69, y242), (70, y243), (71, y244), (72, y245)]) (a' := [(65, F246), (66, F247), (67, F248), (68, F249), (80, F250)]) rfl rfl rfl rfl rfl ?_
        replace h286 : y282 = 0 → y239 = 0 := h286
        have hf288 : 1 ≤ y282 := by omega
        clear c287
        clear h286
        clear q256 q257 i276 i277
        exact J197_187 v235 v236 v237 v238 y282 y284 y241 y242 y243 y244 y245 F246 F247 F248 F249 F250 (r32 (by omega) (by omega)) (r32 (by omega) (by omega)) (r32 (by omega) (by omega)) (r32 (by omega) (by omega)) g283 g285 q258 q259 q260 q261 q262 q263 q264 q265 q266 q267 (by omega) (by omega) (by omega) (by omega) (by omega) (by omega) (by omega) (by omega) (by omega) (by omega)
      · skip
        refine T_ld 186 (.int (i32 1)) rfl (fun _ => rfl) ?_
        refine T_goto 190 rfl (fun _ => rfl) ?_
        refine T_gf 194 (.int (i32 y243)) rfl rfl rfl rfl rfl rfl ?_
        refine T_call 197 256 [.ref 189, .int (i32 1), .int (i32 y243)] [] rfl (fun _ => rfl) rfl (c_want w (mO m [(10, y239), (11, y240), (28, y241), (69, y242), (70, y243), (71, y244), (72, y245)] [(65, F246), (66, F247), (67, F248), (68, F249), (80, F250)]) c N D (by omega) (Ty_mO hT rfl rfl ⟨q256, q257, q258, q259, q260, q261, q262, trivial⟩ ⟨q263, q264, q265, q266, q267, trivial⟩) 1 y243 ⟨by decide, by decide⟩ (r32 (by omega) (by omega)) (show 0 ≤ y243 ∧ y243 ≤ 4000 by omega) (fun h => absurd h (by omega))) (fun r289 k290 => ?_)
        obtain ⟨y291, y293, g292, g294, h295, c296, rfl⟩ := k290
        refine ⟨_, _, rfl, ?_⟩
        refine T_nf (st' := []) (l' := [(10, y291), (11, y293), (28, y241), (69, y242), (70, y243), (71, y244), (72, y245)]) (a' := [(65, F246), (66, F247), (67, F248), (68, F249), (80, F250)]) rfl rfl rfl rfl rfl ?_
        replace h295 : y291 = 0 → y239 = 0 := h295
        have hf297 : 1 ≤ y291 := by omega
        clear c296
        clear h295
        clear q256 q257 i276 i277
        exact J197_187 v235 v236 v237 v238 y291 y293 y241 y242 y243 y244 y245 F246 F247 F248 F249 F250 (r32 (by omega) (by omega)) (r32 (by omega) (by omega)) (r32 (by omega) (by omega)) (r32 (by omega) (by omega)) g292 g294 q258 q259 q260 q261 q262 q263 q264 q265 q266 q267 (by omega) (by omega) (by omega) (by omega) (by omega) (by omega) (by omega) (by omega) (by omega) (by omega)
    have J153_314 : ∀ (v298 : Int) (v299 : Int) (v300 : Int) (v301 : Int) (y302 : Int) (y303 : Int) (y304 : Int) (y305 : Int) (y306 : Int) (y307 : Int) (y308 : Int) (F309 : Int → Int) (F310 : Int → Int) (F311 : Int → Int) (F312 : Int → Int) (F313 : Int → Int), (R32 v298) → (R32 v299) → (R32 v300) → (R32 v301) → (0 ≤ y302 ∧ y302 ≤ 8) → ((-1) ≤ y303 ∧ y303 ≤ 4000) → (0 ≤ y304 ∧ y304 ≤ 800) → (0 ≤ y305 ∧ y305 ≤ 1024) → (0 ≤ y306 ∧ y306 ≤ 4000) → (0 ≤ y307 ∧ y307 ≤ 1) → ((-9223372036854775808) ≤ y308 ∧ y308 ≤ 9223372036854775807) → (∀ j, 0 ≤ F309 j ∧ F309 j ≤ 408) → (∀ j, 0 ≤ F310 j ∧ F310 j ≤ 64) → (∀ j, 0 ≤ F311 j ∧ F311 j ≤ 191) → (∀ j, (-9223372036854775808) ≤ F312 j ∧ F312 j ≤ 9223372036854775807) → (∀ j, (-1) ≤ F313 j ∧ F313 j ≤ 330) → (0 ≤ v298) → (v298 ≤ 64) → (0 ≤ v299) → (v299 ≤ 4000) → ((-1) ≤ v300) → (v300 ≤ 330) → (0 ≤ v301) → (v301 ≤ 1024) → (1 ≤ y302) → (y302 ≤ 8) → TT w D pm_260 (153, [(0, .ref 189), (1, .int (i32 w)), (2, .int (i32 v298)), (3, .int (i32 v299)), (4, .int (i32 v300)), (5, .int (i32 v301))], [], (mhp (mO m [(10, y302), (11, y303), (28, y304), (69, y305), (70, y306), (71, y307), (72, y308)] [(65, F309), (66, F310), (67, F311), (68, F312), (80, F313)]) c, N), 0, 0) (Q_join m c N w B) := by
      intro v298 v299 v300 v301 y302 y303 y304 y305 y306 y307 y308 F309 F310 F311 F312 F313 q315 q316 q317 q318 q319 q320 q321 q322 q323 q324 q325 q326 q327 q328 q329 q330 i331 i332 i333 i334 i335 i336 i337 i338 i339 i340
      obtain ⟨q315a, q315b⟩ := id q315
      obtain ⟨q316a, q316b⟩ := id q316
      obtain ⟨q317a, q317b⟩ := id q317
      obtain ⟨q318a, q318b⟩ := id q318
      refine T_ld 154 (.ref 189) rfl (fun _ => rfl) ?_
      refine T_gf 158 (.int (i32 y307)) rfl rfl rfl rfl rfl rfl ?_
      refine T_if 165 161 rfl rfl rfl (r32 (by omega) (by omega)) (fun (h342 : y307 ≠ 0) => ?_) (fun (h342 : ¬ (y307 ≠ 0)) => ?_)
      · skip
        refine T_ld 166 (.int (i32 0)) rfl (fun _ => rfl) ?_
        refine T_gf 170 (.int (i32 y306)) rfl rfl rfl rfl rfl rfl ?_
        refine T_call 173 256 [.ref 189, .int (i32 0), .int (i32 y306)] [] rfl (fun _ => rfl) rfl (c_want w (mO m [(10, y302), (11, y303), (28, y304), (69, y305), (70, y306), (71, y307), (72, y308)] [(65, F309), (66, F310), (67, F311), (68, F312), (80, F313)]) c N D (by omega) (Ty_mO hT rfl rfl ⟨q319, q320, q321, q322, q323, q324, q325, trivial⟩ ⟨q326, q327, q328, q329, q330, trivial⟩) 0 y306 ⟨by decide, by decide⟩ (r32 (by omega) (by omega)) (show 0 ≤ y306 ∧ y306 ≤ 4000 by omega) (fun h => absurd h (by omega))) (fun r343 k344 => ?_)
        obtain ⟨y345, y347, g346, g348, h349, c350, rfl⟩ := k344
        refine ⟨_, _, rfl, ?_⟩
        refine T_nf (st' := []) (l' := [(10, y345), (11, y347), (28, y304), (69, y305), (70, y306), (71, y307), (72, y308)]) (a' := [(65, F309), (66, F310), (67, F311), (68, F312), (80, F313)]) rfl rfl rfl rfl rfl ?_
        replace h349 : y345 = 0 → y302 = 0 := h349
        have hf351 : 1 ≤ y345 := by omega
        clear c350
        clear h349
        clear q319 q320 i339 i340
        exact J173_251 v298 v299 v300 v301 y345 y347 y304 y305 y306 y307 y308 F309 F310 F311 F312 F313 (r32 (by omega) (by omega)) (r32 (by omega) (by omega)) (r32 (by omega) (by omega)) (r32 (by omega) (by omega)) g346 g348 q321 q322 q323 q324 q325 q326 q327 q328 q329 q330 (by omega) (by omega) (by omega) (by omega) (by omega) (by omega) (by omega) (by omega) (by omega) (by omega)
      · skip
        refine T_ld 162 (.int (i32 1)) rfl (fun _ => rfl) ?_
        refine T_goto 166 rfl (fun _ => rfl) ?_
        refine T_gf 170 (.int (i32 y306)) rfl rfl rfl rfl rfl rfl ?_
        refine T_call 173 256 [.ref 189, .int (i32 1), .int (i32 y306)] [] rfl (fun _ => rfl) rfl (c_want w (mO m [(10, y302), (11, y303), (28, y304), (69, y305), (70, y306), (71, y307), (72, y308)] [(65, F309), (66, F310), (67, F311), (68, F312), (80, F313)]) c N D (by omega) (Ty_mO hT rfl rfl ⟨q319, q320, q321, q322, q323, q324, q325, trivial⟩ ⟨q326, q327, q328, q329, q330, trivial⟩) 1 y306 ⟨by decide, by decide⟩ (r32 (by omega) (by omega)) (show 0 ≤ y306 ∧ y306 ≤ 4000 by omega) (fun h => absurd h (by omega))) (fun r352 k353 => ?_)
        obtain ⟨y354, y356, g355, g357, h358, c359, rfl⟩ := k353
        refine ⟨_, _, rfl, ?_⟩
        refine T_nf (st' := []) (l' := [(10, y354), (11, y356), (28, y304), (69, y305), (70, y306), (71, y307), (72, y308)]) (a' := [(65, F309), (66, F310), (67, F311), (68, F312), (80, F313)]) rfl rfl rfl rfl rfl ?_
        replace h358 : y354 = 0 → y302 = 0 := h358
        have hf360 : 1 ≤ y354 := by omega
        clear c359
        clear h358
        clear q319 q320 i339 i340
        exact J173_251 v298 v299 v300 v301 y354 y356 y304 y305 y306 y307 y308 F309 F310 F311 F312 F313 (r32 (by omega) (by omega)) (r32 (by omega) (by omega)) (r32 (by omega) (by omega)) (r32 (by omega) (by omega)) g355 g357 q321 q322 q323 q324 q325 q326 q327 q328 q329 q330 (by omega) (by omega) (by omega) (by omega) (by omega) (by omega) (by omega) (by omega) (by omega) (by omega)
    have J126_377 : ∀ (v361 : Int) (v362 : Int) (v363 : Int) (v364 : Int) (y365 : Int) (y366 : Int) (y367 : Int) (y368 : Int) (y369 : Int) (y370 : Int) (y371 : Int) (F372 : Int → Int) (F373 : Int → Int) (F374 : Int → Int) (F375 : Int → Int) (F376 : Int → Int), (R32 v361) → (R32 v362) → (R32 v363) → (R32 v364) → (0 ≤ y365 ∧ y365 ≤ 8) → ((-1) ≤ y366 ∧ y366 ≤ 4000) → (0 ≤ y367 ∧ y367 ≤ 800) → (0 ≤ y368 ∧ y368 ≤ 1024) → (0 ≤ y369 ∧ y369 ≤ 4000) → (0 ≤ y370 ∧ y370 ≤ 1) → ((-9223372036854775808) ≤ y371 ∧ y371 ≤ 9223372036854775807) → (∀ j, 0 ≤ F372 j ∧ F372 j ≤ 408) → (∀ j, 0 ≤ F373 j ∧ F373 j ≤ 64) → (∀ j, 0 ≤ F374 j ∧ F374 j ≤ 191) → (∀ j, (-9223372036854775808) ≤ F375 j ∧ F375 j ≤ 9223372036854775807) → (∀ j, (-1) ≤ F376 j ∧ F376 j ≤ 330) → (0 ≤ v361) → (v361 ≤ 64) → (0 ≤ v362) → (v362 ≤ 4000) → ((-1) ≤ v363) → (v363 ≤ 330) → (0 ≤ v364) → (v364 ≤ 1024) → (1 ≤ y365) → (y365 ≤ 8) → TT w D pm_260 (126, [(0, .ref 189), (1, .int (i32 w)), (2, .int (i32 v361)), (3, .int (i32 v362)), (4, .int (i32 v363)), (5, .int (i32 v364))], [], (mhp (mO m [(10, y365), (11, y366), (28, y367), (69, y368), (70, y369), (71, y370), (72, y371)] [(65, F372), (66, F373), (67, F374), (68, F375), (80, F376)]) c, N), 0, 0) (Q_join m c N w B) := by
      intro v361 v362 v363 v364 y365 y366 y367 y368 y369 y370 y371 F372 F373 F374 F375 F376 q378 q379 q380 q381 q382 q383 q384 q385 q386 q387 q388 q389 q390 q391 q392 q393 i394 i395 i396 i397 i398 i399 i400 i401 i402 i403
      obtain ⟨q378a, q378b⟩ := id q378
      obtain ⟨q379a, q379b⟩ := id q379
      obtain ⟨q380a, q380b⟩ := id q380
      obtain ⟨q381a, q381b⟩ := id q381
      refine T_ld 127 (.int (i32 1)) rfl (fun _ => rfl) ?_
      refine T_sto 128 [(2, .int (i32 1)), (0, .ref 189), (1, .int (i32 w)), (3, .int (i32 v362)), (4, .int (i32 v363)), (5, .int (i32 v364))] rfl (fun _ => rfl) ?_
      refine T_goto 261 rfl (fun _ => rfl) ?_
      refine T_gf 265 (.ref 242) rfl rfl rfl rfl rfl rfl ?_
      refine T_ld 266 (.int (i32 w)) rfl (fun _ => rfl) ?_
      refine T_ld 267 (.int (i32 (-1))) rfl (fun _ => rfl) ?_
      have G405 : ∀ j, (-1) ≤ (upI F376 w (-1)) j ∧ (upI F376 w (-1)) j ≤ 330 := upI_rg q393 ⟨by omega, by omega⟩
      refine T_iast (a' := [(65, F372), (66, F373), (67, F374), (68, F375), (80, upI F376 w (-1))]) 268 80 F376 rfl rfl rfl (by omega) (show w < (540 : Int) by omega) rfl rfl ?_
      refine T_ld 269 (.ref 189) rfl (fun _ => rfl) ?_
      refine T_ld 271 (.int (i32 v363)) rfl (fun _ => rfl) ?_
      refine T_ld 272 (.int (i32 1)) rfl (fun _ => rfl) ?_
      refine T_ld 274 (.int (i32 v364)) rfl (fun _ => rfl) ?_
      refine T_ld 275 (.long (i64 0)) rfl (fun _ => rfl) ?_
      refine T_call 278 248 [.ref 189, .int (i32 v363), .int (i32 1), .int (i32 v364), .long (i64 0)] [] rfl (fun _ => rfl) rfl (c_node w (mO m [(10, y365), (11, y366), (28, y367), (69, y368), (70, y369), (71, y370), (72, y371)] [(65, F372), (66, F373), (67, F374), (68, F375), (80, upI F376 w (-1))]) c N D (by omega) (Ty_mO hT rfl rfl ⟨q382, q383, q384, q385, q386, q387, q388, trivial⟩ ⟨q389, q390, q391, q392, G405, trivial⟩) v363 1 v364 0 ($B) (1 + lh (m.2 79) (m.2 80) (m.1 73)) (r32 (by omega) (by omega)) ⟨by decide, by decide⟩ (r32 (by omega) (by omega)) ⟨by decide, by decide⟩ (fun h => absurd h (by omega))) (fun r406 k407 => ?_)
      obtain ⟨y408, y410, y412, F414, F416, F418, F420, g409, g411, g413, G415, G417, G419, G421, h422, c423, rfl⟩ := k407
      refine ⟨_, _, rfl, ?_⟩
      refine T_nf (st' := []) (l' := [(10, y408), (11, y410), (28, y412), (69, y368), (70, y369), (71, y370), (72, y371)]) (a' := [(65, F414), (66, F416), (67, F418), (68, F420), (80, upI F376 w (-1))]) rfl rfl rfl rfl rfl ?_
      replace h422 : y408 = 0 → y365 = 0 := h422
      have hf424 : 1 ≤ y408 := by omega
      clear c423
      clear h422
      clear q378a q378b q378 q382 q383 q384 i394 i395 i402 i403
      refine Tm_lv (a := [(0, .ref 189), (1, .int (i32 w)), (2, .int (i32 1)), (3, .int (i32 v362)), (4, .int (i32 v363)), (5, .int (i32 v364))]) rfl rfl ⟨rfl, rfl, rfl, rfl, rfl, rfl, trivial⟩ ?_
      exact J278_134 1 v362 v363 v364 y408 y410 y412 y368 y369 y370 y371 F414 F416 F418 F420 (upI F376 w (-1)) ⟨by decide, by decide⟩ (r32 (by omega) (by omega)) (r32 (by omega) (by omega)) (r32 (by omega) (by omega)) g409 g411 g413 q385 q386 q387 q388 G415 G417 G419 G421 G405 (by omega) (by omega) (by omega) (by omega) (by omega) (by omega) (by omega) (by omega)
    refine T_gf 4 (.ref 243) rfl rfl rfl rfl rfl rfl ?_
    refine T_ld 5 (.int (i32 w)) rfl (fun _ => rfl) ?_
    refine T_iald 6 81 (m.2 81) rfl rfl rfl (by omega) (show w < (540 : Int) by omega) rfl ?_
    have e425 : 0 ≤ m.2 81 w ∧ m.2 81 w ≤ 64 := hT.2.1 81 w
    refine T_sto 7 [(2, .int (i32 ((m.2 81) w))), (0, .ref 189), (1, .int (i32 w))] rfl (fun _ => rfl) ?_
    refine T_gf 11 (.ref 244) rfl rfl rfl rfl rfl rfl ?_
    refine T_ld 12 (.int (i32 w)) rfl (fun _ => rfl) ?_
    refine T_iald 13 82 (m.2 82) rfl rfl rfl (by omega) (show w < (540 : Int) by omega) rfl ?_
    have e426 : 0 ≤ m.2 82 w ∧ m.2 82 w ≤ 4000 := hT.2.1 82 w
    refine T_sto 14 [(3, .int (i32 ((m.2 82) w))), (2, .int (i32 ((m.2 81) w))), (0, .ref 189), (1, .int (i32 w))] rfl (fun _ => rfl) ?_
    refine T_gf 18 (.ref 242) rfl rfl rfl rfl rfl rfl ?_
    refine T_ld 19 (.int (i32 w)) rfl (fun _ => rfl) ?_
    refine T_iald 20 80 (m.2 80) rfl rfl rfl (by omega) (show w < (540 : Int) by omega) rfl ?_
    have e427 : (-1) ≤ (m.2 80) w ∧ (m.2 80) w ≤ 330 := (hT.2.1 80) w
    refine T_sto 22 [(4, .int (i32 ((m.2 80) w))), (3, .int (i32 ((m.2 82) w))), (2, .int (i32 ((m.2 81) w))), (0, .ref 189), (1, .int (i32 w))] rfl (fun _ => rfl) ?_
    refine T_gf 26 (.int (i32 (m.1 69))) rfl rfl rfl rfl rfl rfl ?_
    refine T_sto 28 [(5, .int (i32 (m.1 69))), (4, .int (i32 ((m.2 80) w))), (3, .int (i32 ((m.2 82) w))), (2, .int (i32 ((m.2 81) w))), (0, .ref 189), (1, .int (i32 w))] rfl (fun _ => rfl) ?_
    refine T_gf 32 (.ref 242) rfl rfl rfl rfl rfl rfl ?_
    refine T_ld 33 (.int (i32 w)) rfl (fun _ => rfl) ?_
    refine T_iald 34 80 (m.2 80) rfl rfl rfl (by omega) (show w < (540 : Int) by omega) rfl ?_
    have e428 : (-1) ≤ (m.2 80) w ∧ (m.2 80) w ≤ 330 := (hT.2.1 80) w
    refine T_call 37 259 [.int (i32 ((m.2 80) w))] [] rfl (fun _ => rfl) rfl (c_level w (mO m [(10, (m.1 10)), (11, (m.1 11)), (28, (m.1 28)), (69, (m.1 69)), (70, (m.1 70)), (71, (m.1 71)), (72, (m.1 72))] [(65, (m.2 65)), (66, (m.2 66)), (67, (m.2 67)), (68, (m.2 68)), (80, (m.2 80))]) c N D (by omega) (Ty_mO hT rfl rfl ⟨f10, f11, f28, f69, f70, f71, f72, trivial⟩ ⟨(hT.2.1 65), (hT.2.1 66), (hT.2.1 67), (hT.2.1 68), (hT.2.1 80), trivial⟩) ((m.2 80) w) (r32 (by omega) (by omega))) (fun r429 k430 => ?_)
    obtain ⟨x431, g432, h433, rfl⟩ := k430
    refine ⟨_, _, rfl, ?_⟩
    refine T_nf (st' := [.int (i32 x431)]) (l' := [(10, (m.1 10)), (11, (m.1 11)), (28, (m.1 28)), (69, (m.1 69)), (70, (m.1 70)), (71, (m.1 71)), (72, (m.1 72))]) (a' := [(65, (m.2 65)), (66, (m.2 66)), (67, (m.2 67)), (68, (m.2 68)), (80, (m.2 80))]) rfl rfl rfl rfl rfl ?_
    obtain ⟨g432a, g432b⟩ := g432
    replace h433 : 0 ≤ x431 → 4 ≤ ((m.2 80) w) ∧ ((m.2 80) w) ≤ 124 := h433
    have J261_437 : ∀ (v434 : Int) (y435 : Int) (y436 : Int), (R32 v434) → (0 ≤ y435 ∧ y435 ≤ 8) → ((-1) ≤ y436 ∧ y436 ≤ 4000) → (0 ≤ v434 ∧ v434 ≤ (m.1 69) + 64) → (y435 = 0 → (v434 ≤ 64)) → TT w D pm_260 (261, [(0, .ref 189), (1, .int (i32 w)), (2, .int (i32 v434)), (3, .int (i32 ((m.2 82) w))), (4, .int (i32 ((m.2 80) w))), (5, .int (i32 (m.1 69)))], [.int (i32 x431)], (mhp (mO m [(10, y435), (11, y436), (28, (m.1 28)), (69, (m.1 69)), (70, (m.1 70)), (71, (m.1 71)), (72, (m.1 72))] [(65, (m.2 65)), (66, (m.2 66)), (67, (m.2 67)), (68, (m.2 68)), (80, (m.2 80))]) c, N), 0, 0) (Q_join m c N w B) := by
      intro v434 y435 y436 q438 q439 q440 i441 c442
      obtain ⟨q438a, q438b⟩ := id q438
      by_cases hf443 : y435 = 0
      · skip
        subst hf443
        have c444 := c442 rfl
        refine T_gf 265 (.ref 242) rfl rfl rfl rfl rfl rfl ?_
        refine T_ld 266 (.int (i32 w)) rfl (fun _ => rfl) ?_
        refine T_ld 267 (.int (i32 (-1))) rfl (fun _ => rfl) ?_
        have G445 : ∀ j, (-1) ≤ (upI (m.2 80) w (-1)) j ∧ (upI (m.2 80) w (-1)) j ≤ 330 := upI_rg (hT.2.1 80) ⟨by omega, by omega⟩
        refine T_iast (a' := [(65, (m.2 65)), (66, (m.2 66)), (67, (m.2 67)), (68, (m.2 68)), (80, upI (m.2 80) w (-1))]) 268 80 (m.2 80) rfl rfl rfl (by omega) (show w < (540 : Int) by omega) rfl rfl ?_
        have hAr : ar ((m.2 80) w) ≤ 1 + lh (m.2 79) (m.2 80) (m.1 73) := by omega
        have hCk : CNk ((m.2 80) w) (m.1 69) := by refine ⟨?_, ?_, ?_, ?_⟩ <;> omega
        refine T_ld 269 (.ref 189) rfl (fun _ => rfl) ?_
        refine T_ld 271 (.int (i32 ((m.2 80) w))) rfl (fun _ => rfl) ?_
        refine T_ld 272 (.int (i32 v434)) rfl (fun _ => rfl) ?_
        refine T_ld 274 (.int (i32 (m.1 69))) rfl (fun _ => rfl) ?_
        refine T_ld 275 (.long (i64 0)) rfl (fun _ => rfl) ?_
        refine T_call 278 248 [.ref 189, .int (i32 ((m.2 80) w)), .int (i32 v434), .int (i32 (m.1 69)), .long (i64 0)] [.int (i32 x431)] rfl (fun _ => rfl) rfl (c_node w (mO m [(10, 0), (11, y436), (28, (m.1 28)), (69, (m.1 69)), (70, (m.1 70)), (71, (m.1 71)), (72, (m.1 72))] [(65, (m.2 65)), (66, (m.2 66)), (67, (m.2 67)), (68, (m.2 68)), (80, upI (m.2 80) w (-1))]) c N D (by omega) (Ty_mO hT rfl rfl ⟨⟨(by omega : (0 : Int) ≤ 0), (by omega : (0 : Int) ≤ 8)⟩, q440, f28, f69, f70, f71, f72, trivial⟩ ⟨(hT.2.1 65), (hT.2.1 66), (hT.2.1 67), (hT.2.1 68), G445, trivial⟩) ((m.2 80) w) v434 (m.1 69) 0 ($B) (1 + lh (m.2 79) (m.2 80) (m.1 73)) (r32 (by omega) (by omega)) (r32 (by omega) (by omega)) (r32 (by omega) (by omega)) ⟨by decide, by decide⟩ (fun _ => ⟨(show 0 ≤ ((m.2 80) w) ∧ ((m.2 80) w) ≤ 408 by first | omega | decide), (show 0 ≤ v434 ∧ v434 ≤ 64 by first | omega | decide), (show 0 ≤ (m.1 69) ∧ (m.1 69) ≤ 191 by first | omega | decide), (show CNk ((m.2 80) w) (m.1 69) by first | exact hCk | (refine ⟨?_, ?_, ?_, ?_⟩ <;> omega)), (show ar ((m.2 80) w) ≤ (1 + lh (m.2 79) (m.2 80) (m.1 73)) by first | exact hAr | omega), (show EX (m.2 65) (m.2 67) ($B) (m.1 28) (1 + lh (m.2 79) (m.2 80) (m.1 73)) by first | exact hEX | assumption)⟩)) (fun r446 k447 => ?_)
        obtain ⟨y448, y450, y452, F454, F456, F458, F460, g449, g451, g453, G455, G457, G459, G461, h462, c463, rfl⟩ := k447
        refine ⟨_, _, rfl, ?_⟩
        refine T_nf (st' := [.int (i32 x431)]) (l' := [(10, y448), (11, y450), (28, y452), (69, (m.1 69)), (70, (m.1 70)), (71, (m.1 71)), (72, (m.1 72))]) (a' := [(65, F454), (66, F456), (67, F458), (68, F460), (80, upI (m.2 80) w (-1))]) rfl rfl rfl rfl rfl ?_
        by_cases hf464 : y448 = 0
        · skip
          subst hf464
          replace h462 : 0 = 0 := h462 rfl
          obtain ⟨c465, c466, c467⟩ := c463 rfl
          replace c465 : y452 = (m.1 28) + 1 := c465
          replace c466 : EX F454 F458 ($B) y452 ((1 + lh (m.2 79) (m.2 80) (m.1 73)) + 1 - ar ((m.2 80) w)) := c466
          have hEX := c466
          replace c467 : agr (m.2 65) F454 (m.1 28) := c467
          have hAg := c467
          clear q439 q440 g449
          have hXE : XS F454 F458 (m.2 76) (m.2 78) (m.2 79) (upI (m.2 80) w (-1)) $B y452 (m.1 73) (m.1 74) 1 := XS_of (XS_ws (x := -1) (U' := 1) hXS (by omega) (by omega) (by omega) (by rw [if_neg (by omega)]; have := cn1_0 (m.2 80) w; omega)) hEX (by omega)
          refine T_ld 279 (.ref 189) rfl (fun _ => rfl) ?_
          refine T_ld 280 (.int (i32 v434)) rfl (fun _ => rfl) ?_
          refine T_ld 281 (.int (i32 ((m.2 82) w))) rfl (fun _ => rfl) ?_
          refine T_call 284 250 [.ref 189, .int (i32 v434), .int (i32 ((m.2 82) w))] [.int (i32 x431)] rfl (fun _ => rfl) rfl (c_unit w (mO m [(10, 0), (11, y450), (28, y452), (69, (m.1 69)), (70, (m.1 70)), (71, (m.1 71)), (72, (m.1 72))] [(65, F454), (66, F456), (67, F458), (68, F460), (80, upI (m.2 80) w (-1))]) c N D (by omega) (Ty_mO hT rfl rfl ⟨⟨(by omega : (0 : Int) ≤ 0), (by omega : (0 : Int) ≤ 8)⟩, g451, g453, f69, f70, f71, f72, trivial⟩ ⟨G455, G457, G459, G461, G445, trivial⟩) v434 ((m.2 82) w) (r32 (by omega) (by omega)) (r32 (by omega) (by omega)) (show 0 ≤ v434 ∧ v434 ≤ 1024 by omega) (show 0 ≤ ((m.2 82) w) ∧ ((m.2 82) w) ≤ 4000 by omega)) (fun r468 k469 => ?_)
          obtain ⟨y470, y472, y474, y476, g471, g473, g475, g477, h478, rfl⟩ := k469
          refine ⟨_, _, rfl, ?_⟩
          refine T_nf (st' := [.int (i32 x431)]) (l' := [(10, 0), (11, y450), (28, y452), (69, y470), (70, y472), (71, y474), (72, y476)]) (a' := [(65, F454), (66, F456), (67, F458), (68, F460), (80, upI (m.2 80) w (-1))]) rfl rfl rfl rfl rfl ?_
          replace h478 : y470 = v434 := h478
          refine T_ret rfl (fun _ => rfl) ?_
          exact ⟨0, y450, y452, y470, y472, y474, y476, F454, F456, F458, F460, upI (m.2 80) w (-1), ⟨by omega, by omega⟩, g451, g453, g471, g473, g475, g477, G455, G457, G459, G461, G445, (by omega), (by omega), (fun _ => ⟨(by omega), (by omega), (by exact hXE), (by exact hAg), (by rfl)⟩), rfl⟩
        · skip
          clear c463
          clear h462
          have hf479 : 1 ≤ y448 := by omega
          clear q439 q440
          exact J278_134 v434 ((m.2 82) w) ((m.2 80) w) (m.1 69) y448 y450 y452 (m.1 69) (m.1 70) (m.1 71) (m.1 72) F454 F456 F458 F460 (upI (m.2 80) w (-1)) (r32 (by omega) (by omega)) (r32 (by omega) (by omega)) (r32 (by omega) (by omega)) (r32 (by omega) (by omega)) g449 g451 g453 f69 f70 f71 f72 G455 G457 G459 G461 G445 (by omega) (by omega) (by omega) (by omega) (by omega) (by omega) (by omega) (by omega)
      · skip
        clear c442
        have hf480 : 1 ≤ y435 := by omega
        refine T_gf 265 (.ref 242) rfl rfl rfl rfl rfl rfl ?_
        refine T_ld 266 (.int (i32 w)) rfl (fun _ => rfl) ?_
        refine T_ld 267 (.int (i32 (-1))) rfl (fun _ => rfl) ?_
        have G481 : ∀ j, (-1) ≤ (upI (m.2 80) w (-1)) j ∧ (upI (m.2 80) w (-1)) j ≤ 330 := upI_rg (hT.2.1 80) ⟨by omega, by omega⟩
        refine T_iast (a' := [(65, (m.2 65)), (66, (m.2 66)), (67, (m.2 67)), (68, (m.2 68)), (80, upI (m.2 80) w (-1))]) 268 80 (m.2 80) rfl rfl rfl (by omega) (show w < (540 : Int) by omega) rfl rfl ?_
        refine T_ld 269 (.ref 189) rfl (fun _ => rfl) ?_
        refine T_ld 271 (.int (i32 ((m.2 80) w))) rfl (fun _ => rfl) ?_
        refine T_ld 272 (.int (i32 v434)) rfl (fun _ => rfl) ?_
        refine T_ld 274 (.int (i32 (m.1 69))) rfl (fun _ => rfl) ?_
        refine T_ld 275 (.long (i64 0)) rfl (fun _ => rfl) ?_
        refine T_call 278 248 [.ref 189, .int (i32 ((m.2 80) w)), .int (i32 v434), .int (i32 (m.1 69)), .long (i64 0)] [.int (i32 x431)] rfl (fun _ => rfl) rfl (c_node w (mO m [(10, y435), (11, y436), (28, (m.1 28)), (69, (m.1 69)), (70, (m.1 70)), (71, (m.1 71)), (72, (m.1 72))] [(65, (m.2 65)), (66, (m.2 66)), (67, (m.2 67)), (68, (m.2 68)), (80, upI (m.2 80) w (-1))]) c N D (by omega) (Ty_mO hT rfl rfl ⟨q439, q440, f28, f69, f70, f71, f72, trivial⟩ ⟨(hT.2.1 65), (hT.2.1 66), (hT.2.1 67), (hT.2.1 68), G481, trivial⟩) ((m.2 80) w) v434 (m.1 69) 0 ($B) (1 + lh (m.2 79) (m.2 80) (m.1 73)) (r32 (by omega) (by omega)) (r32 (by omega) (by omega)) (r32 (by omega) (by omega)) ⟨by decide, by decide⟩ (fun h => absurd h (by omega))) (fun r482 k483 => ?_)
        obtain ⟨y484, y486, y488, F490, F492, F494, F496, g485, g487, g489, G491, G493, G495, G497, h498, c499, rfl⟩ := k483
        refine ⟨_, _, rfl, ?_⟩
        refine T_nf (st' := [.int (i32 x431)]) (l' := [(10, y484), (11, y486), (28, y488), (69, (m.1 69)), (70, (m.1 70)), (71, (m.1 71)), (72, (m.1 72))]) (a' := [(65, F490), (66, F492), (67, F494), (68, F496), (80, upI (m.2 80) w (-1))]) rfl rfl rfl rfl rfl ?_
        replace h498 : y484 = 0 → y435 = 0 := h498
        have hf500 : 1 ≤ y484 := by omega
        clear c499
        clear h498
        clear q439 q440 hf480
        exact J278_134 v434 ((m.2 82) w) ((m.2 80) w) (m.1 69) y484 y486 y488 (m.1 69) (m.1 70) (m.1 71) (m.1 72) F490 F492 F494 F496 (upI (m.2 80) w (-1)) (r32 (by omega) (by omega)) (r32 (by omega) (by omega)) (r32 (by omega) (by omega)) (r32 (by omega) (by omega)) g485 g487 g489 f69 f70 f71 f72 G491 G493 G495 G497 G481 (by omega) (by omega) (by omega) (by omega) (by omega) (by omega) (by omega) (by omega)
    have T88_501 : TT w D pm_260 (88, [(5, .int (i32 (m.1 69))), (4, .int (i32 ((m.2 80) w))), (3, .int (i32 ((m.2 82) w))), (2, .int (i32 ((m.2 81) w))), (0, .ref 189), (1, .int (i32 w))], [], (mhp (mO m [(10, (m.1 10)), (11, (m.1 11)), (28, (m.1 28)), (69, (m.1 69)), (70, (m.1 70)), (71, (m.1 71)), (72, (m.1 72))] [(65, (m.2 65)), (66, (m.2 66)), (67, (m.2 67)), (68, (m.2 68)), (80, (m.2 80))]) c, N), 0, 0) (Q_join m c N w B) := by
      refine T_ld 89 (.ref 189) rfl (fun _ => rfl) ?_
      refine T_ld 90 (.int (i32 ((m.2 81) w))) rfl (fun _ => rfl) ?_
      refine T_gf 94 (.ref 245) rfl rfl rfl rfl rfl rfl ?_
      refine T_ld 95 (.int (i32 w)) rfl (fun _ => rfl) ?_
      refine T_bald 96 83 (m.2 83) rfl rfl rfl (by omega) (show w < (540 : Int) by omega) rfl ?_
      have e502 : 0 ≤ m.2 83 w ∧ m.2 83 w ≤ 1 := hT.2.1 83 w
      refine T_gf 100 (.ref 246) rfl rfl rfl rfl rfl rfl ?_
      refine T_ld 101 (.int (i32 w)) rfl (fun _ => rfl) ?_
      refine T_lald 102 84 (m.2 84) rfl rfl rfl (by omega) (show w < (540 : Int) by omega) rfl ?_
      have e503 : (-9223372036854775808) ≤ m.2 84 w ∧ m.2 84 w ≤ 9223372036854775807 := hT.2.1 84 w
      refine T_ld 103 (.int (i32 ((m.2 82) w))) rfl (fun _ => rfl) ?_
      refine T_call 106 258 [.ref 189, .int (i32 ((m.2 81) w)), .int (i32 ((m.2 83) w)), .long (i64 ((m.2 84) w)), .int (i32 ((m.2 82) w))] [] rfl (fun _ => rfl) rfl (c_wantBit w (mO m [(10, (m.1 10)), (11, (m.1 11)), (28, (m.1 28)), (69, (m.1 69)), (70, (m.1 70)), (71, (m.1 71)), (72, (m.1 72))] [(65, (m.2 65)), (66, (m.2 66)), (67, (m.2 67)), (68, (m.2 68)), (80, (m.2 80))]) c N D (by omega) (Ty_mO hT rfl rfl ⟨f10, f11, f28, f69, f70, f71, f72, trivial⟩ ⟨(hT.2.1 65), (hT.2.1 66), (hT.2.1 67), (hT.2.1 68), (hT.2.1 80), trivial⟩) ((m.2 81) w) ((m.2 83) w) ((m.2 84) w) ((m.2 82) w) (r32 (by omega) (by omega)) (r32 (by omega) (by omega)) (r64 (by omega) (by omega)) (r32 (by omega) (by omega)) (show 0 ≤ ((m.2 82) w) ∧ ((m.2 82) w) ≤ 4000 by omega) (fun _ => trivial)) (fun r504 k505 => ?_)
      obtain ⟨y506, y508, g507, g509, h510, c511, rfl⟩ := k505
      refine ⟨_, _, rfl, ?_⟩
      refine T_nf (st' := []) (l' := [(10, y506), (11, y508), (28, (m.1 28)), (69, (m.1 69)), (70, (m.1 70)), (71, (m.1 71)), (72, (m.1 72))]) (a' := [(65, (m.2 65)), (66, (m.2 66)), (67, (m.2 67)), (68, (m.2 68)), (80, (m.2 80))]) rfl rfl rfl rfl rfl ?_
      by_cases hf512 : y506 = 0
      · skip
        subst hf512
        replace h510 : (m.1 10) = 0 := h510 rfl
        clear c511
        clear g432a g432b h433 g507
        refine T_ld 107 (.ref 189) rfl (fun _ => rfl) ?_
        refine T_gf 111 (.int (i32 (m.1 69))) rfl rfl rfl rfl rfl rfl ?_
        refine T_gf 115 (.int (i32 (m.1 71))) rfl rfl rfl rfl rfl rfl ?_
        refine T_gf 119 (.long (i64 (m.1 72))) rfl rfl rfl rfl rfl rfl ?_
        refine T_gf 123 (.int (i32 (m.1 70))) rfl rfl rfl rfl rfl rfl ?_
        refine T_call 126 258 [.ref 189, .int (i32 (m.1 69)), .int (i32 (m.1 71)), .long (i64 (m.1 72)), .int (i32 (m.1 70))] [] rfl (fun _ => rfl) rfl (c_wantBit w (mO m [(10, 0), (11, y508), (28, (m.1 28)), (69, (m.1 69)), (70, (m.1 70)), (71, (m.1 71)), (72, (m.1 72))] [(65, (m.2 65)), (66, (m.2 66)), (67, (m.2 67)), (68, (m.2 68)), (80, (m.2 80))]) c N D (by omega) (Ty_mO hT rfl rfl ⟨⟨(by omega : (0 : Int) ≤ 0), (by omega : (0 : Int) ≤ 8)⟩, g509, f28, f69, f70, f71, f72, trivial⟩ ⟨(hT.2.1 65), (hT.2.1 66), (hT.2.1 67), (hT.2.1 68), (hT.2.1 80), trivial⟩) (m.1 69) (m.1 71) (m.1 72) (m.1 70) (r32 (by omega) (by omega)) (r32 (by omega) (by omega)) (r64 (by omega) (by omega)) (r32 (by omega) (by omega)) (show 0 ≤ (m.1 70) ∧ (m.1 70) ≤ 4000 by omega) (fun _ => trivial)) (fun r513 k514 => ?_)
        obtain ⟨y515, y517, g516, g518, h519, c520, rfl⟩ := k514
        refine ⟨_, _, rfl, ?_⟩
        refine T_nf (st' := []) (l' := [(10, y515), (11, y517), (28, (m.1 28)), (69, (m.1 69)), (70, (m.1 70)), (71, (m.1 71)), (72, (m.1 72))]) (a' := [(65, (m.2 65)), (66, (m.2 66)), (67, (m.2 67)), (68, (m.2 68)), (80, (m.2 80))]) rfl rfl rfl rfl rfl ?_
        by_cases hf521 : y515 = 0
        · skip
          subst hf521
          replace h519 : 0 = 0 := h519 rfl
          clear c520
          clear g509 g516
          refine T_ld 127 (.int (i32 1)) rfl (fun _ => rfl) ?_
          refine T_sto 128 [(2, .int (i32 1)), (5, .int (i32 (m.1 69))), (4, .int (i32 ((m.2 80) w))), (3, .int (i32 ((m.2 82) w))), (0, .ref 189), (1, .int (i32 w))] rfl (fun _ => rfl) ?_
          refine T_goto 261 rfl (fun _ => rfl) ?_
          refine Tm_lv (a := [(0, .ref 189), (1, .int (i32 w)), (2, .int (i32 1)), (3, .int (i32 ((m.2 82) w))), (4, .int (i32 ((m.2 80) w))), (5, .int (i32 (m.1 69)))]) rfl rfl ⟨rfl, rfl, rfl, rfl, rfl, rfl, trivial⟩ ?_
          exact J261_437 1 0 y517 ⟨by decide, by decide⟩ ⟨by omega, by omega⟩ g518 (by omega) (fun _ => (by omega))
        · skip
          clear c520
          clear h519
          have hf522 : 1 ≤ y515 := by omega
          clear g509
          refine Tm_lv (a := [(0, .ref 189), (1, .int (i32 w)), (2, .int (i32 ((m.2 81) w))), (3, .int (i32 ((m.2 82) w))), (4, .int (i32 ((m.2 80) w))), (5, .int (i32 (m.1 69)))]) rfl rfl ⟨rfl, rfl, rfl, rfl, rfl, rfl, trivial⟩ ?_
          exact J126_377 ((m.2 81) w) ((m.2 82) w) ((m.2 80) w) (m.1 69) y515 y517 (m.1 28) (m.1 69) (m.1 70) (m.1 71) (m.1 72) (m.2 65) (m.2 66) (m.2 67) (m.2 68) (m.2 80) (r32 (by omega) (by omega)) (r32 (by omega) (by omega)) (r32 (by omega) (by omega)) (r32 (by omega) (by omega)) g516 g518 f28 f69 f70 f71 f72 (hT.2.1 65) (hT.2.1 66) (hT.2.1 67) (hT.2.1 68) (hT.2.1 80) (by omega) (by omega) (by omega) (by omega) (by omega) (by omega) (by omega) (by omega) (by omega) (by omega)
      · skip
        clear c511
        clear h510
        have hf523 : 1 ≤ y506 := by omega
        clear g432a g432b h433
        refine T_ld 107 (.ref 189) rfl (fun _ => rfl) ?_
        refine T_gf 111 (.int (i32 (m.1 69))) rfl rfl rfl rfl rfl rfl ?_
        refine T_gf 115 (.int (i32 (m.1 71))) rfl rfl rfl rfl rfl rfl ?_
        refine T_gf 119 (.long (i64 (m.1 72))) rfl rfl rfl rfl rfl rfl ?_
        refine T_gf 123 (.int (i32 (m.1 70))) rfl rfl rfl rfl rfl rfl ?_
        refine T_call 126 258 [.ref 189, .int (i32 (m.1 69)), .int (i32 (m.1 71)), .long (i64 (m.1 72)), .int (i32 (m.1 70))] [] rfl (fun _ => rfl) rfl (c_wantBit w (mO m [(10, y506), (11, y508), (28, (m.1 28)), (69, (m.1 69)), (70, (m.1 70)), (71, (m.1 71)), (72, (m.1 72))] [(65, (m.2 65)), (66, (m.2 66)), (67, (m.2 67)), (68, (m.2 68)), (80, (m.2 80))]) c N D (by omega) (Ty_mO hT rfl rfl ⟨g507, g509, f28, f69, f70, f71, f72, trivial⟩ ⟨(hT.2.1 65), (hT.2.1 66), (hT.2.1 67), (hT.2.1 68), (hT.2.1 80), trivial⟩) (m.1 69) (m.1 71) (m.1 72) (m.1 70) (r32 (by omega) (by omega)) (r32 (by omega) (by omega)) (r64 (by omega) (by omega)) (r32 (by omega) (by omega)) (show 0 ≤ (m.1 70) ∧ (m.1 70) ≤ 4000 by omega) (fun h => absurd h (by omega))) (fun r524 k525 => ?_)
        obtain ⟨y526, y528, g527, g529, h530, c531, rfl⟩ := k525
        refine ⟨_, _, rfl, ?_⟩
        refine T_nf (st' := []) (l' := [(10, y526), (11, y528), (28, (m.1 28)), (69, (m.1 69)), (70, (m.1 70)), (71, (m.1 71)), (72, (m.1 72))]) (a' := [(65, (m.2 65)), (66, (m.2 66)), (67, (m.2 67)), (68, (m.2 68)), (80, (m.2 80))]) rfl rfl rfl rfl rfl ?_
        replace h530 : y526 = 0 → y506 = 0 := h530
        have hf532 : 1 ≤ y526 := by omega
        clear c531
        clear h530
        clear g507 g509 hf523
        refine Tm_lv (a := [(0, .ref 189), (1, .int (i32 w)), (2, .int (i32 ((m.2 81) w))), (3, .int (i32 ((m.2 82) w))), (4, .int (i32 ((m.2 80) w))), (5, .int (i32 (m.1 69)))]) rfl rfl ⟨rfl, rfl, rfl, rfl, rfl, rfl, trivial⟩ ?_
        exact J126_377 ((m.2 81) w) ((m.2 82) w) ((m.2 80) w) (m.1 69) y526 y528 (m.1 28) (m.1 69) (m.1 70) (m.1 71) (m.1 72) (m.2 65) (m.2 66) (m.2 67) (m.2 68) (m.2 80) (r32 (by omega) (by omega)) (r32 (by omega) (by omega)) (r32 (by omega) (by omega)) (r32 (by omega) (by omega)) g527 g529 f28 f69 f70 f71 f72 (hT.2.1 65) (hT.2.1 66) (hT.2.1 67) (hT.2.1 68) (hT.2.1 80) (by omega) (by omega) (by omega) (by omega) (by omega) (by omega) (by omega) (by omega) (by omega) (by omega)
    have T207_533 : TT w D pm_260 (207, [(5, .int (i32 (m.1 69))), (4, .int (i32 ((m.2 80) w))), (3, .int (i32 ((m.2 82) w))), (2, .int (i32 ((m.2 81) w))), (0, .ref 189), (1, .int (i32 w))], [], (mhp (mO m [(10, (m.1 10)), (11, (m.1 11)), (28, (m.1 28)), (69, (m.1 69)), (70, (m.1 70)), (71, (m.1 71)), (72, (m.1 72))] [(65, (m.2 65)), (66, (m.2 66)), (67, (m.2 67)), (68, (m.2 68)), (80, (m.2 80))]) c, N), 0, 0) (Q_join m c N w B) := by
      refine T_ld 208 (.ref 189) rfl (fun _ => rfl) ?_
      refine T_ld 209 (.int (i32 ((m.2 81) w))) rfl (fun _ => rfl) ?_
      refine T_gf 213 (.ref 245) rfl rfl rfl rfl rfl rfl ?_
      refine T_ld 214 (.int (i32 w)) rfl (fun _ => rfl) ?_
      refine T_bald 215 83 (m.2 83) rfl rfl rfl (by omega) (show w < (540 : Int) by omega) rfl ?_
      have e534 : 0 ≤ m.2 83 w ∧ m.2 83 w ≤ 1 := hT.2.1 83 w
      refine T_gf 219 (.ref 246) rfl rfl rfl rfl rfl rfl ?_
      refine T_ld 220 (.int (i32 w)) rfl (fun _ => rfl) ?_
      refine T_lald 221 84 (m.2 84) rfl rfl rfl (by omega) (show w < (540 : Int) by omega) rfl ?_
      have e535 : (-9223372036854775808) ≤ m.2 84 w ∧ m.2 84 w ≤ 9223372036854775807 := hT.2.1 84 w
      refine T_ld 222 (.int (i32 ((m.2 82) w))) rfl (fun _ => rfl) ?_
      refine T_gf 226 (.int (i32 (m.1 69))) rfl rfl rfl rfl rfl rfl ?_
      refine T_gf 230 (.int (i32 (m.1 71))) rfl rfl rfl rfl rfl rfl ?_
      refine T_gf 234 (.long (i64 (m.1 72))) rfl rfl rfl rfl rfl rfl ?_
      refine T_gf 238 (.int (i32 (m.1 70))) rfl rfl rfl rfl rfl rfl ?_
      refine T_call 241 261 [.ref 189, .int (i32 ((m.2 81) w)), .int (i32 ((m.2 83) w)), .long (i64 ((m.2 84) w)), .int (i32 ((m.2 82) w)), .int (i32 (m.1 69)), .int (i32 (m.1 71)), .long (i64 (m.1 72)), .int (i32 (m.1 70))] [] rfl (fun _ => rfl) rfl (c_common w (mO m [(10, (m.1 10)), (11, (m.1 11)), (28, (m.1 28)), (69, (m.1 69)), (70, (m.1 70)), (71, (m.1 71)), (72, (m.1 72))] [(65, (m.2 65)), (66, (m.2 66)), (67, (m.2 67)), (68, (m.2 68)), (80, (m.2 80))]) c N D (by omega) (Ty_mO hT rfl rfl ⟨f10, f11, f28, f69, f70, f71, f72, trivial⟩ ⟨(hT.2.1 65), (hT.2.1 66), (hT.2.1 67), (hT.2.1 68), (hT.2.1 80), trivial⟩) ((m.2 81) w) ((m.2 83) w) ((m.2 84) w) ((m.2 82) w) (m.1 69) (m.1 71) (m.1 72) (m.1 70) (r32 (by omega) (by omega)) (r32 (by omega) (by omega)) (r64 (by omega) (by omega)) (r32 (by omega) (by omega)) (r32 (by omega) (by omega)) (r32 (by omega) (by omega)) (r64 (by omega) (by omega)) (r32 (by omega) (by omega)) (show 0 ≤ ((m.2 82) w) ∧ ((m.2 82) w) ≤ 4000 by omega) (show 0 ≤ (m.1 70) ∧ (m.1 70) ≤ 4000 by omega) (show 0 ≤ ((m.2 81) w) ∧ ((m.2 81) w) ≤ 1024 by omega) (show 0 ≤ (m.1 69) ∧ (m.1 69) ≤ 1024 by omega) (fun _ => trivial)) (fun r536 k537 => ?_)
      obtain ⟨y538, y540, x542, g539, g541, g543, h544, h545, c546, rfl⟩ := k537
      refine ⟨_, _, rfl, ?_⟩
      refine T_nf (st' := [.int (i32 x542)]) (l' := [(10, y538), (11, y540), (28, (m.1 28)), (69, (m.1 69)), (70, (m.1 70)), (71, (m.1 71)), (72, (m.1 72))]) (a' := [(65, (m.2 65)), (66, (m.2 66)), (67, (m.2 67)), (68, (m.2 68)), (80, (m.2 80))]) rfl rfl rfl rfl rfl ?_
      obtain ⟨g543a, g543b⟩ := g543
      by_cases hf547 : y538 = 0
      · skip
        subst hf547
        replace h544 : (m.1 10) = 0 := h544 rfl
        replace h545 : x542 = 64 ∨ x542 = ((m.2 81) w) ∨ x542 = (m.1 69) := h545
        clear c546
        clear g432a g432b h433 g539
        refine T_sto 242 [(2, .int (i32 x542)), (5, .int (i32 (m.1 69))), (4, .int (i32 ((m.2 80) w))), (3, .int (i32 ((m.2 82) w))), (0, .ref 189), (1, .int (i32 w))] rfl (fun _ => rfl) ?_
        refine T_gf 246 (.ref 242) rfl rfl rfl rfl rfl rfl ?_
        refine T_ld 247 (.int (i32 w)) rfl (fun _ => rfl) ?_
        refine T_iald 248 80 (m.2 80) rfl rfl rfl (by omega) (show w < (540 : Int) by omega) rfl ?_
        have e548 : (-1) ≤ (m.2 80) w ∧ (m.2 80) w ≤ 330 := (hT.2.1 80) w
        refine T_call 251 259 [.int (i32 ((m.2 80) w))] [] rfl (fun _ => rfl) rfl (c_level w (mO m [(10, 0), (11, y540), (28, (m.1 28)), (69, (m.1 69)), (70, (m.1 70)), (71, (m.1 71)), (72, (m.1 72))] [(65, (m.2 65)), (66, (m.2 66)), (67, (m.2 67)), (68, (m.2 68)), (80, (m.2 80))]) c N D (by omega) (Ty_mO hT rfl rfl ⟨⟨(by omega : (0 : Int) ≤ 0), (by omega : (0 : Int) ≤ 8)⟩, g541, f28, f69, f70, f71, f72, trivial⟩ ⟨(hT.2.1 65), (hT.2.1 66), (hT.2.1 67), (hT.2.1 68), (hT.2.1 80), trivial⟩) ((m.2 80) w) (r32 (by omega) (by omega))) (fun r549 k550 => ?_)
        obtain ⟨x551, g552, h553, rfl⟩ := k550
        refine ⟨_, _, rfl, ?_⟩
        refine T_nf (st' := [.int (i32 x551)]) (l' := [(10, 0), (11, y540), (28, (m.1 28)), (69, (m.1 69)), (70, (m.1 70)), (71, (m.1 71)), (72, (m.1 72))]) (a' := [(65, (m.2 65)), (66, (m.2 66)), (67, (m.2 67)), (68, (m.2 68)), (80, (m.2 80))]) rfl rfl rfl rfl rfl ?_
        obtain ⟨g552a, g552b⟩ := g552
        replace h553 : 0 ≤ x551 → 4 ≤ ((m.2 80) w) ∧ ((m.2 80) w) ≤ 124 := h553
        refine T_ld 252 (.int (i32 2)) rfl (fun _ => rfl) ?_
        refine T_icmp 259 255 rfl rfl rfl (r32 (by omega) (by omega)) ⟨by decide, by decide⟩ (fun (h554 : x551 ≠ 2) => ?_) (fun (h554 : ¬ (x551 ≠ 2)) => ?_)
        · skip
          refine T_ld 260 (.int (i32 x542)) rfl (fun _ => rfl) ?_
          refine T_sto 261 [(2, .int (i32 x542)), (5, .int (i32 (m.1 69))), (4, .int (i32 ((m.2 80) w))), (3, .int (i32 ((m.2 82) w))), (0, .ref 189), (1, .int (i32 w))] rfl (fun _ => rfl) ?_
          refine Tm_lv (a := [(0, .ref 189), (1, .int (i32 w)), (2, .int (i32 x542)), (3, .int (i32 ((m.2 82) w))), (4, .int (i32 ((m.2 80) w))), (5, .int (i32 (m.1 69)))]) rfl rfl ⟨rfl, rfl, rfl, rfl, rfl, rfl, trivial⟩ ?_
          exact J261_437 x542 0 y540 (r32 (by omega) (by omega)) ⟨by omega, by omega⟩ g541 (by omega) (fun _ => (by omega))
        · skip
          refine T_ld 256 (.int (i32 1)) rfl (fun _ => rfl) ?_
          refine T_goto 260 rfl (fun _ => rfl) ?_
          refine T_sto 261 [(2, .int (i32 1)), (5, .int (i32 (m.1 69))), (4, .int (i32 ((m.2 80) w))), (3, .int (i32 ((m.2 82) w))), (0, .ref 189), (1, .int (i32 w))] rfl (fun _ => rfl) ?_
          refine Tm_lv (a := [(0, .ref 189), (1, .int (i32 w)), (2, .int (i32 1)), (3, .int (i32 ((m.2 82) w))), (4, .int (i32 ((m.2 80) w))), (5, .int (i32 (m.1 69)))]) rfl rfl ⟨rfl, rfl, rfl, rfl, rfl, rfl, trivial⟩ ?_
          exact J261_437 1 0 y540 ⟨by decide, by decide⟩ ⟨by omega, by omega⟩ g541 (by omega) (fun _ => (by omega))
      · skip
        clear c546
        clear h544
        replace h545 : x542 = 64 ∨ x542 = ((m.2 81) w) ∨ x542 = (m.1 69) := h545
        have hf555 : 1 ≤ y538 := by omega
        clear g432a g432b h433
        refine T_sto 242 [(2, .int (i32 x542)), (5, .int (i32 (m.1 69))), (4, .int (i32 ((m.2 80) w))), (3, .int (i32 ((m.2 82) w))), (0, .ref 189), (1, .int (i32 w))] rfl (fun _ => rfl) ?_
        refine T_gf 246 (.ref 242) rfl rfl rfl rfl rfl rfl ?_
        refine T_ld 247 (.int (i32 w)) rfl (fun _ => rfl) ?_
        refine T_iald 248 80 (m.2 80) rfl rfl rfl (by omega) (show w < (540 : Int) by omega) rfl ?_
        have e556 : (-1) ≤ (m.2 80) w ∧ (m.2 80) w ≤ 330 := (hT.2.1 80) w
        refine T_call 251 259 [.int (i32 ((m.2 80) w))] [] rfl (fun _ => rfl) rfl (c_level w (mO m [(10, y538), (11, y540), (28, (m.1 28)), (69, (m.1 69)), (70, (m.1 70)), (71, (m.1 71)), (72, (m.1 72))] [(65, (m.2 65)), (66, (m.2 66)), (67, (m.2 67)), (68, (m.2 68)), (80, (m.2 80))]) c N D (by omega) (Ty_mO hT rfl rfl ⟨g539, g541, f28, f69, f70, f71, f72, trivial⟩ ⟨(hT.2.1 65), (hT.2.1 66), (hT.2.1 67), (hT.2.1 68), (hT.2.1 80), trivial⟩) ((m.2 80) w) (r32 (by omega) (by omega))) (fun r557 k558 => ?_)
        obtain ⟨x559, g560, h561, rfl⟩ := k558
        refine ⟨_, _, rfl, ?_⟩
        refine T_nf (st' := [.int (i32 x559)]) (l' := [(10, y538), (11, y540), (28, (m.1 28)), (69, (m.1 69)), (70, (m.1 70)), (71, (m.1 71)), (72, (m.1 72))]) (a' := [(65, (m.2 65)), (66, (m.2 66)), (67, (m.2 67)), (68, (m.2 68)), (80, (m.2 80))]) rfl rfl rfl rfl rfl ?_
        obtain ⟨g560a, g560b⟩ := g560
        replace h561 : 0 ≤ x559 → 4 ≤ ((m.2 80) w) ∧ ((m.2 80) w) ≤ 124 := h561
        refine T_ld 252 (.int (i32 2)) rfl (fun _ => rfl) ?_
        refine T_icmp 259 255 rfl rfl rfl (r32 (by omega) (by omega)) ⟨by decide, by decide⟩ (fun (h562 : x559 ≠ 2) => ?_) (fun (h562 : ¬ (x559 ≠ 2)) => ?_)
        · skip
          refine T_ld 260 (.int (i32 x542)) rfl (fun _ => rfl) ?_
          refine T_sto 261 [(2, .int (i32 x542)), (5, .int (i32 (m.1 69))), (4, .int (i32 ((m.2 80) w))), (3, .int (i32 ((m.2 82) w))), (0, .ref 189), (1, .int (i32 w))] rfl (fun _ => rfl) ?_
          refine Tm_lv (a := [(0, .ref 189), (1, .int (i32 w)), (2, .int (i32 x542)), (3, .int (i32 ((m.2 82) w))), (4, .int (i32 ((m.2 80) w))), (5, .int (i32 (m.1 69)))]) rfl rfl ⟨rfl, rfl, rfl, rfl, rfl, rfl, trivial⟩ ?_
          exact J261_437 x542 y538 y540 (r32 (by omega) (by omega)) g539 g541 (by omega) (fun h => absurd h (by omega))
        · skip
          refine T_ld 256 (.int (i32 1)) rfl (fun _ => rfl) ?_
          refine T_goto 260 rfl (fun _ => rfl) ?_
          refine T_sto 261 [(2, .int (i32 1)), (5, .int (i32 (m.1 69))), (4, .int (i32 ((m.2 80) w))), (3, .int (i32 ((m.2 82) w))), (0, .ref 189), (1, .int (i32 w))] rfl (fun _ => rfl) ?_
          refine Tm_lv (a := [(0, .ref 189), (1, .int (i32 w)), (2, .int (i32 1)), (3, .int (i32 ((m.2 82) w))), (4, .int (i32 ((m.2 80) w))), (5, .int (i32 (m.1 69)))]) rfl rfl ⟨rfl, rfl, rfl, rfl, rfl, rfl, trivial⟩ ?_
          exact J261_437 1 y538 y540 ⟨by decide, by decide⟩ g539 g541 (by omega) (fun h => absurd h (by omega))
    by_cases h563 : x431 = 0
    · skip
      refine T_cast 0 h563 ?_
      refine T_pop 88 rfl (fun _ => rfl) ?_
      exact T88_501
    by_cases h564 : x431 = 1
    · skip
      refine T_cast 1 h564 ?_
      refine T_pop 88 rfl (fun _ => rfl) ?_
      exact T88_501
    by_cases h565 : x431 = 6
    · skip
      refine T_cast 6 h565 ?_
      refine T_pop 131 rfl (fun _ => rfl) ?_
      refine T_goto 261 rfl (fun _ => rfl) ?_
      refine Tm_lv (a := [(0, .ref 189), (1, .int (i32 w)), (2, .int (i32 ((m.2 81) w))), (3, .int (i32 ((m.2 82) w))), (4, .int (i32 ((m.2 80) w))), (5, .int (i32 (m.1 69)))]) rfl rfl ⟨rfl, rfl, rfl, rfl, rfl, rfl, trivial⟩ ?_
      exact J261_437 ((m.2 81) w) (m.1 10) (m.1 11) (r32 (by omega) (by omega)) f10 f11 (by omega) (fun _ => (by omega))
    by_cases h566 : x431 = 8
    · skip
      refine T_cast 8 h566 ?_
      refine T_pop 134 rfl (fun _ => rfl) ?_
      refine T_ld 135 (.ref 189) rfl (fun _ => rfl) ?_
      refine T_gf 139 (.ref 245) rfl rfl rfl rfl rfl rfl ?_
      refine T_ld 140 (.int (i32 w)) rfl (fun _ => rfl) ?_
      refine T_bald 141 83 (m.2 83) rfl rfl rfl (by omega) (show w < (540 : Int) by omega) rfl ?_
      have e567 : 0 ≤ m.2 83 w ∧ m.2 83 w ≤ 1 := hT.2.1 83 w
      refine T_if 148 144 rfl rfl rfl (r32 (by omega) (by omega)) (fun (h568 : (m.2 83) w ≠ 0) => ?_) (fun (h568 : ¬ ((m.2 83) w ≠ 0)) => ?_)
      · skip
        refine T_ld 149 (.int (i32 0)) rfl (fun _ => rfl) ?_
        refine T_ld 150 (.int (i32 ((m.2 82) w))) rfl (fun _ => rfl) ?_
        refine T_call 153 256 [.ref 189, .int (i32 0), .int (i32 ((m.2 82) w))] [] rfl (fun _ => rfl) rfl (c_want w (mO m [(10, (m.1 10)), (11, (m.1 11)), (28, (m.1 28)), (69, (m.1 69)), (70, (m.1 70)), (71, (m.1 71)), (72, (m.1 72))] [(65, (m.2 65)), (66, (m.2 66)), (67, (m.2 67)), (68, (m.2 68)), (80, (m.2 80))]) c N D (by omega) (Ty_mO hT rfl rfl ⟨f10, f11, f28, f69, f70, f71, f72, trivial⟩ ⟨(hT.2.1 65), (hT.2.1 66), (hT.2.1 67), (hT.2.1 68), (hT.2.1 80), trivial⟩) 0 ((m.2 82) w) ⟨by decide, by decide⟩ (r32 (by omega) (by omega)) (show 0 ≤ ((m.2 82) w) ∧ ((m.2 82) w) ≤ 4000 by omega) (fun _ => trivial)) (fun r569 k570 => ?_)
        obtain ⟨y571, y573, g572, g574, h575, c576, rfl⟩ := k570
        refine ⟨_, _, rfl, ?_⟩
        refine T_nf (st' := []) (l' := [(10, y571), (11, y573), (28, (m.1 28)), (69, (m.1 69)), (70, (m.1 70)), (71, (m.1 71)), (72, (m.1 72))]) (a' := [(65, (m.2 65)), (66, (m.2 66)), (67, (m.2 67)), (68, (m.2 68)), (80, (m.2 80))]) rfl rfl rfl rfl rfl ?_
        by_cases hf577 : y571 = 0
        · skip
          subst hf577
          replace h575 : (m.1 10) = 0 := h575 rfl
          have c578 := c576 rfl
          replace c578 : 0 ≠ 0 := c578
          clear g432a g432b h433 g572
          refine T_ld 154 (.ref 189) rfl (fun _ => rfl) ?_
          refine T_gf 158 (.int (i32 (m.1 71))) rfl rfl rfl rfl rfl rfl ?_
          refine T_if 165 161 rfl rfl rfl (r32 (by omega) (by omega)) (fun (h579 : (m.1 71) ≠ 0) => ?_) (fun (h579 : ¬ ((m.1 71) ≠ 0)) => ?_)
          · skip
            refine T_ld 166 (.int (i32 0)) rfl (fun _ => rfl) ?_
            refine T_gf 170 (.int (i32 (m.1 70))) rfl rfl rfl rfl rfl rfl ?_
            refine T_call 173 256 [.ref 189, .int (i32 0), .int (i32 (m.1 70))] [] rfl (fun _ => rfl) rfl (c_want w (mO m [(10, 0), (11, y573), (28, (m.1 28)), (69, (m.1 69)), (70, (m.1 70)), (71, (m.1 71)), (72, (m.1 72))] [(65, (m.2 65)), (66, (m.2 66)), (67, (m.2 67)), (68, (m.2 68)), (80, (m.2 80))]) c N D (by omega) (Ty_mO hT rfl rfl ⟨⟨(by omega : (0 : Int) ≤ 0), (by omega : (0 : Int) ≤ 8)⟩, g574, f28, f69, f70, f71, f72, trivial⟩ ⟨(hT.2.1 65), (hT.2.1 66), (hT.2.1 67), (hT.2.1 68), (hT.2.1 80), trivial⟩) 0 (m.1 70) ⟨by decide, by decide⟩ (r32 (by omega) (by omega)) (show 0 ≤ (m.1 70) ∧ (m.1 70) ≤ 4000 by omega) (fun _ => trivial)) (fun r580 k581 => ?_)
            obtain ⟨y582, y584, g583, g585, h586, c587, rfl⟩ := k581
            refine ⟨_, _, rfl, ?_⟩
            refine T_nf (st' := []) (l' := [(10, y582), (11, y584), (28, (m.1 28)), (69, (m.1 69)), (70, (m.1 70)), (71, (m.1 71)), (72, (m.1 72))]) (a' := [(65, (m.2 65)), (66, (m.2 66)), (67, (m.2 67)), (68, (m.2 68)), (80, (m.2 80))]) rfl rfl rfl rfl rfl ?_
            by_cases hf588 : y582 = 0
            · skip
              subst hf588
              replace h586 : 0 = 0 := h586 rfl
              have c589 := c587 rfl
              replace c589 : 0 ≠ 0 := c589
              clear g574 g583
              refine T_ld 174 (.ref 189) rfl (fun _ => rfl) ?_
              refine T_ld 175 (.int (i32 ((m.2 81) w))) rfl (fun _ => rfl) ?_
              refine T_gf 179 (.int (i32 (m.1 69))) rfl rfl rfl rfl rfl rfl ?_
              refine T_iadd 180 rfl rfl ?_
              refine T_ld 182 (.int (i32 64)) rfl (fun _ => rfl) ?_
              refine T_icmp 189 185 rfl rfl rfl (r32 (by omega) (by omega)) ⟨by decide, by decide⟩ (fun (h590 : (64 : Int) < ((m.2 81) w) + (m.1 69)) => ?_) (fun (h590 : ¬ ((64 : Int) < ((m.2 81) w) + (m.1 69))) => ?_)
              · skip
                refine T_ld 190 (.int (i32 0)) rfl (fun _ => rfl) ?_
                refine T_gf 194 (.int (i32 (m.1 70))) rfl rfl rfl rfl rfl rfl ?_
                refine T_call 197 256 [.ref 189, .int (i32 0), .int (i32 (m.1 70))] [] rfl (fun _ => rfl) rfl (c_want w (mO m [(10, 0), (11, y584), (28, (m.1 28)), (69, (m.1 69)), (70, (m.1 70)), (71, (m.1 71)), (72, (m.1 72))] [(65, (m.2 65)), (66, (m.2 66)), (67, (m.2 67)), (68, (m.2 68)), (80, (m.2 80))]) c N D (by omega) (Ty_mO hT rfl rfl ⟨⟨(by omega : (0 : Int) ≤ 0), (by omega : (0 : Int) ≤ 8)⟩, g585, f28, f69, f70, f71, f72, trivial⟩ ⟨(hT.2.1 65), (hT.2.1 66), (hT.2.1 67), (hT.2.1 68), (hT.2.1 80), trivial⟩) 0 (m.1 70) ⟨by decide, by decide⟩ (r32 (by omega) (by omega)) (show 0 ≤ (m.1 70) ∧ (m.1 70) ≤ 4000 by omega) (fun _ => trivial)) (fun r591 k592 => ?_)
                obtain ⟨y593, y595, g594, g596, h597, c598, rfl⟩ := k592
                refine ⟨_, _, rfl, ?_⟩
                refine T_nf (st' := []) (l' := [(10, y593), (11, y595), (28, (m.1 28)), (69, (m.1 69)), (70, (m.1 70)), (71, (m.1 71)), (72, (m.1 72))]) (a' := [(65, (m.2 65)), (66, (m.2 66)), (67, (m.2 67)), (68, (m.2 68)), (80, (m.2 80))]) rfl rfl rfl rfl rfl ?_
                by_cases hf599 : y593 = 0
                · skip
                  subst hf599
                  replace h597 : 0 = 0 := h597 rfl
                  have c600 := c598 rfl
                  replace c600 : 0 ≠ 0 := c600
                  clear g585 g594
                  refine T_ld 198 (.int (i32 ((m.2 81) w))) rfl (fun _ => rfl) ?_
                  refine T_gf 202 (.int (i32 (m.1 69))) rfl rfl rfl rfl rfl rfl ?_
                  refine T_iadd 203 rfl rfl ?_
                  refine T_sto 204 [(2, .int (i32 (((m.2 81) w) + (m.1 69)))), (5, .int (i32 (m.1 69))), (4, .int (i32 ((m.2 80) w))), (3, .int (i32 ((m.2 82) w))), (0, .ref 189), (1, .int (i32 w))] rfl (fun _ => rfl) ?_
                  refine T_goto 261 rfl (fun _ => rfl) ?_
                  refine Tm_lv (a := [(0, .ref 189), (1, .int (i32 w)), (2, .int (i32 (((m.2 81) w) + (m.1 69)))), (3, .int (i32 ((m.2 82) w))), (4, .int (i32 ((m.2 80) w))), (5, .int (i32 (m.1 69)))]) rfl rfl ⟨rfl, rfl, rfl, rfl, rfl, rfl, trivial⟩ ?_
                  exact J261_437 (((m.2 81) w) + (m.1 69)) 0 y595 (r32 (by omega) (by omega)) ⟨by omega, by omega⟩ g596 (by omega) (fun _ => (by omega))
                · skip
                  clear c598
                  clear h597
                  have hf601 : 1 ≤ y593 := by omega
                  clear g585
                  refine Tm_lv (a := [(0, .ref 189), (1, .int (i32 w)), (2, .int (i32 ((m.2 81) w))), (3, .int (i32 ((m.2 82) w))), (4, .int (i32 ((m.2 80) w))), (5, .int (i32 (m.1 69)))]) rfl rfl ⟨rfl, rfl, rfl, rfl, rfl, rfl, trivial⟩ ?_
                  exact J197_187 ((m.2 81) w) ((m.2 82) w) ((m.2 80) w) (m.1 69) y593 y595 (m.1 28) (m.1 69) (m.1 70) (m.1 71) (m.1 72) (m.2 65) (m.2 66) (m.2 67) (m.2 68) (m.2 80) (r32 (by omega) (by omega)) (r32 (by omega) (by omega)) (r32 (by omega) (by omega)) (r32 (by omega) (by omega)) g594 g596 f28 f69 f70 f71 f72 (hT.2.1 65) (hT.2.1 66) (hT.2.1 67) (hT.2.1 68) (hT.2.1 80) (by omega) (by omega) (by omega) (by omega) (by omega) (by omega) (by omega) (by omega) (by omega) (by omega)
              · skip
                refine T_ld 186 (.int (i32 1)) rfl (fun _ => rfl) ?_
                refine T_goto 190 rfl (fun _ => rfl) ?_
                refine T_gf 194 (.int (i32 (m.1 70))) rfl rfl rfl rfl rfl rfl ?_
                refine T_call 197 256 [.ref 189, .int (i32 1), .int (i32 (m.1 70))] [] rfl (fun _ => rfl) rfl (c_want w (mO m [(10, 0), (11, y584), (28, (m.1 28)), (69, (m.1 69)), (70, (m.1 70)), (71, (m.1 71)), (72, (m.1 72))] [(65, (m.2 65)), (66, (m.2 66)), (67, (m.2 67)), (68, (m.2 68)), (80, (m.2 80))]) c N D (by omega) (Ty_mO hT rfl rfl ⟨⟨(by omega : (0 : Int) ≤ 0), (by omega : (0 : Int) ≤ 8)⟩, g585, f28, f69, f70, f71, f72, trivial⟩ ⟨(hT.2.1 65), (hT.2.1 66), (hT.2.1 67), (hT.2.1 68), (hT.2.1 80), trivial⟩) 1 (m.1 70) ⟨by decide, by decide⟩ (r32 (by omega) (by omega)) (show 0 ≤ (m.1 70) ∧ (m.1 70) ≤ 4000 by omega) (fun _ => trivial)) (fun r602 k603 => ?_)
                obtain ⟨y604, y606, g605, g607, h608, c609, rfl⟩ := k603
                refine ⟨_, _, rfl, ?_⟩
                refine T_nf (st' := []) (l' := [(10, y604), (11, y606), (28, (m.1 28)), (69, (m.1 69)), (70, (m.1 70)), (71, (m.1 71)), (72, (m.1 72))]) (a' := [(65, (m.2 65)), (66, (m.2 66)), (67, (m.2 67)), (68, (m.2 68)), (80, (m.2 80))]) rfl rfl rfl rfl rfl ?_
                by_cases hf610 : y604 = 0
                · skip
                  subst hf610
                  replace h608 : 0 = 0 := h608 rfl
                  have c611 := c609 rfl
                  replace c611 : 1 ≠ 0 := c611
                  clear g585 g605
                  refine T_ld 198 (.int (i32 ((m.2 81) w))) rfl (fun _ => rfl) ?_
                  refine T_gf 202 (.int (i32 (m.1 69))) rfl rfl rfl rfl rfl rfl ?_
                  refine T_iadd 203 rfl rfl ?_
                  refine T_sto 204 [(2, .int (i32 (((m.2 81) w) + (m.1 69)))), (5, .int (i32 (m.1 69))), (4, .int (i32 ((m.2 80) w))), (3, .int (i32 ((m.2 82) w))), (0, .ref 189), (1, .int (i32 w))] rfl (fun _ => rfl) ?_
                  refine T_goto 261 rfl (fun _ => rfl) ?_
                  refine Tm_lv (a := [(0, .ref 189), (1, .int (i32 w)), (2, .int (i32 (((m.2 81) w) + (m.1 69)))), (3, .int (i32 ((m.2 82) w))), (4, .int (i32 ((m.2 80) w))), (5, .int (i32 (m.1 69)))]) rfl rfl ⟨rfl, rfl, rfl, rfl, rfl, rfl, trivial⟩ ?_
                  exact J261_437 (((m.2 81) w) + (m.1 69)) 0 y606 (r32 (by omega) (by omega)) ⟨by omega, by omega⟩ g607 (by omega) (fun _ => (by omega))
                · skip
                  clear c609
                  clear h608
                  have hf612 : 1 ≤ y604 := by omega
                  clear g585
                  refine Tm_lv (a := [(0, .ref 189), (1, .int (i32 w)), (2, .int (i32 ((m.2 81) w))), (3, .int (i32 ((m.2 82) w))), (4, .int (i32 ((m.2 80) w))), (5, .int (i32 (m.1 69)))]) rfl rfl ⟨rfl, rfl, rfl, rfl, rfl, rfl, trivial⟩ ?_
                  exact J197_187 ((m.2 81) w) ((m.2 82) w) ((m.2 80) w) (m.1 69) y604 y606 (m.1 28) (m.1 69) (m.1 70) (m.1 71) (m.1 72) (m.2 65) (m.2 66) (m.2 67) (m.2 68) (m.2 80) (r32 (by omega) (by omega)) (r32 (by omega) (by omega)) (r32 (by omega) (by omega)) (r32 (by omega) (by omega)) g605 g607 f28 f69 f70 f71 f72 (hT.2.1 65) (hT.2.1 66) (hT.2.1 67) (hT.2.1 68) (hT.2.1 80) (by omega) (by omega) (by omega) (by omega) (by omega) (by omega) (by omega) (by omega) (by omega) (by omega)
            · skip
              clear c587
              clear h586
              have hf613 : 1 ≤ y582 := by omega
              clear g574
              refine Tm_lv (a := [(0, .ref 189), (1, .int (i32 w)), (2, .int (i32 ((m.2 81) w))), (3, .int (i32 ((m.2 82) w))), (4, .int (i32 ((m.2 80) w))), (5, .int (i32 (m.1 69)))]) rfl rfl ⟨rfl, rfl, rfl, rfl, rfl, rfl, trivial⟩ ?_
              exact J173_251 ((m.2 81) w) ((m.2 82) w) ((m.2 80) w) (m.1 69) y582 y584 (m.1 28) (m.1 69) (m.1 70) (m.1 71) (m.1 72) (m.2 65) (m.2 66) (m.2 67) (m.2 68) (m.2 80) (r32 (by omega) (by omega)) (r32 (by omega) (by omega)) (r32 (by omega) (by omega)) (r32 (by omega) (by omega)) g583 g585 f28 f69 f70 f71 f72 (hT.2.1 65) (hT.2.1 66) (hT.2.1 67) (hT.2.1 68) (hT.2.1 80) (by omega) (by omega) (by omega) (by omega) (by omega) (by omega) (by omega) (by omega) (by omega) (by omega)
          · skip
            refine T_ld 162 (.int (i32 1)) rfl (fun _ => rfl) ?_
            refine T_goto 166 rfl (fun _ => rfl) ?_
            refine T_gf 170 (.int (i32 (m.1 70))) rfl rfl rfl rfl rfl rfl ?_
            refine T_call 173 256 [.ref 189, .int (i32 1), .int (i32 (m.1 70))] [] rfl (fun _ => rfl) rfl (c_want w (mO m [(10, 0), (11, y573), (28, (m.1 28)), (69, (m.1 69)), (70, (m.1 70)), (71, (m.1 71)), (72, (m.1 72))] [(65, (m.2 65)), (66, (m.2 66)), (67, (m.2 67)), (68, (m.2 68)), (80, (m.2 80))]) c N D (by omega) (Ty_mO hT rfl rfl ⟨⟨(by omega : (0 : Int) ≤ 0), (by omega : (0 : Int) ≤ 8)⟩, g574, f28, f69, f70, f71, f72, trivial⟩ ⟨(hT.2.1 65), (hT.2.1 66), (hT.2.1 67), (hT.2.1 68), (hT.2.1 80), trivial⟩) 1 (m.1 70) ⟨by decide, by decide⟩ (r32 (by omega) (by omega)) (show 0 ≤ (m.1 70) ∧ (m.1 70) ≤ 4000 by omega) (fun _ => trivial)) (fun r614 k615 => ?_)
            obtain ⟨y616, y618, g617, g619, h620, c621, rfl⟩ := k615
            refine ⟨_, _, rfl, ?_⟩
            refine T_nf (st' := []) (l' := [(10, y616), (11, y618), (28, (m.1 28)), (69, (m.1 69)), (70, (m.1 70)), (71, (m.1 71)), (72, (m.1 72))]) (a' := [(65, (m.2 65)), (66, (m.2 66)), (67, (m.2 67)), (68, (m.2 68)), (80, (m.2 80))]) rfl rfl rfl rfl rfl ?_
            by_cases hf622 : y616 = 0
            · skip
              subst hf622
              replace h620 : 0 = 0 := h620 rfl
              have c623 := c621 rfl
              replace c623 : 1 ≠ 0 := c623
              clear g574 g617
              refine T_ld 174 (.ref 189) rfl (fun _ => rfl) ?_
              refine T_ld 175 (.int (i32 ((m.2 81) w))) rfl (fun _ => rfl) ?_
              refine T_gf 179 (.int (i32 (m.1 69))) rfl rfl rfl rfl rfl rfl ?_
              refine T_iadd 180 rfl rfl ?_
              refine T_ld 182 (.int (i32 64)) rfl (fun _ => rfl) ?_
              refine T_icmp 189 185 rfl rfl rfl (r32 (by omega) (by omega)) ⟨by decide, by decide⟩ (fun (h624 : (64 : Int) < ((m.2 81) w) + (m.1 69)) => ?_) (fun (h624 : ¬ ((64 : Int) < ((m.2 81) w) + (m.1 69))) => ?_)
              · skip
                refine T_ld 190 (.int (i32 0)) rfl (fun _ => rfl) ?_
                refine T_gf 194 (.int (i32 (m.1 70))) rfl rfl rfl rfl rfl rfl ?_
                refine T_call 197 256 [.ref 189, .int (i32 0), .int (i32 (m.1 70))] [] rfl (fun _ => rfl) rfl (c_want w (mO m [(10, 0), (11, y618), (28, (m.1 28)), (69, (m.1 69)), (70, (m.1 70)), (71, (m.1 71)), (72, (m.1 72))] [(65, (m.2 65)), (66, (m.2 66)), (67, (m.2 67)), (68, (m.2 68)), (80, (m.2 80))]) c N D (by omega) (Ty_mO hT rfl rfl ⟨⟨(by omega : (0 : Int) ≤ 0), (by omega : (0 : Int) ≤ 8)⟩, g619, f28, f69, f70, f71, f72, trivial⟩ ⟨(hT.2.1 65), (hT.2.1 66), (hT.2.1 67), (hT.2.1 68), (hT.2.1 80), trivial⟩) 0 (m.1 70) ⟨by decide, by decide⟩ (r32 (by omega) (by omega)) (show 0 ≤ (m.1 70) ∧ (m.1 70) ≤ 4000 by omega) (fun _ => trivial)) (fun r625 k626 => ?_)
                obtain ⟨y627, y629, g628, g630, h631, c632, rfl⟩ := k626
                refine ⟨_, _, rfl, ?_⟩
                refine T_nf (st' := []) (l' := [(10, y627), (11, y629), (28, (m.1 28)), (69, (m.1 69)), (70, (m.1 70)), (71, (m.1 71)), (72, (m.1 72))]) (a' := [(65, (m.2 65)), (66, (m.2 66)), (67, (m.2 67)), (68, (m.2 68)), (80, (m.2 80))]) rfl rfl rfl rfl rfl ?_
                by_cases hf633 : y627 = 0
                · skip
                  subst hf633
                  replace h631 : 0 = 0 := h631 rfl
                  have c634 := c632 rfl
                  replace c634 : 0 ≠ 0 := c634
                  clear g619 g628
                  refine T_ld 198 (.int (i32 ((m.2 81) w))) rfl (fun _ => rfl) ?_
                  refine T_gf 202 (.int (i32 (m.1 69))) rfl rfl rfl rfl rfl rfl ?_
                  refine T_iadd 203 rfl rfl ?_
                  refine T_sto 204 [(2, .int (i32 (((m.2 81) w) + (m.1 69)))), (5, .int (i32 (m.1 69))), (4, .int (i32 ((m.2 80) w))), (3, .int (i32 ((m.2 82) w))), (0, .ref 189), (1, .int (i32 w))] rfl (fun _ => rfl) ?_
                  refine T_goto 261 rfl (fun _ => rfl) ?_
                  refine Tm_lv (a := [(0, .ref 189), (1, .int (i32 w)), (2, .int (i32 (((m.2 81) w) + (m.1 69)))), (3, .int (i32 ((m.2 82) w))), (4, .int (i32 ((m.2 80) w))), (5, .int (i32 (m.1 69)))]) rfl rfl ⟨rfl, rfl, rfl, rfl, rfl, rfl, trivial⟩ ?_
                  exact J261_437 (((m.2 81) w) + (m.1 69)) 0 y629 (r32 (by omega) (by omega)) ⟨by omega, by omega⟩ g630 (by omega) (fun _ => (by omega))
                · skip
                  clear c632
                  clear h631
                  have hf635 : 1 ≤ y627 := by omega
                  clear g619
                  refine Tm_lv (a := [(0, .ref 189), (1, .int (i32 w)), (2, .int (i32 ((m.2 81) w))), (3, .int (i32 ((m.2 82) w))), (4, .int (i32 ((m.2 80) w))), (5, .int (i32 (m.1 69)))]) rfl rfl ⟨rfl, rfl, rfl, rfl, rfl, rfl, trivial⟩ ?_
                  exact J197_187 ((m.2 81) w) ((m.2 82) w) ((m.2 80) w) (m.1 69) y627 y629 (m.1 28) (m.1 69) (m.1 70) (m.1 71) (m.1 72) (m.2 65) (m.2 66) (m.2 67) (m.2 68) (m.2 80) (r32 (by omega) (by omega)) (r32 (by omega) (by omega)) (r32 (by omega) (by omega)) (r32 (by omega) (by omega)) g628 g630 f28 f69 f70 f71 f72 (hT.2.1 65) (hT.2.1 66) (hT.2.1 67) (hT.2.1 68) (hT.2.1 80) (by omega) (by omega) (by omega) (by omega) (by omega) (by omega) (by omega) (by omega) (by omega) (by omega)
              · skip
                refine T_ld 186 (.int (i32 1)) rfl (fun _ => rfl) ?_
                refine T_goto 190 rfl (fun _ => rfl) ?_
                refine T_gf 194 (.int (i32 (m.1 70))) rfl rfl rfl rfl rfl rfl ?_
                refine T_call 197 256 [.ref 189, .int (i32 1), .int (i32 (m.1 70))] [] rfl (fun _ => rfl) rfl (c_want w (mO m [(10, 0), (11, y618), (28, (m.1 28)), (69, (m.1 69)), (70, (m.1 70)), (71, (m.1 71)), (72, (m.1 72))] [(65, (m.2 65)), (66, (m.2 66)), (67, (m.2 67)), (68, (m.2 68)), (80, (m.2 80))]) c N D (by omega) (Ty_mO hT rfl rfl ⟨⟨(by omega : (0 : Int) ≤ 0), (by omega : (0 : Int) ≤ 8)⟩, g619, f28, f69, f70, f71, f72, trivial⟩ ⟨(hT.2.1 65), (hT.2.1 66), (hT.2.1 67), (hT.2.1 68), (hT.2.1 80), trivial⟩) 1 (m.1 70) ⟨by decide, by decide⟩ (r32 (by omega) (by omega)) (show 0 ≤ (m.1 70) ∧ (m.1 70) ≤ 4000 by omega) (fun _ => trivial)) (fun r636 k637 => ?_)
                obtain ⟨y638, y640, g639, g641, h642, c643, rfl⟩ := k637
                refine ⟨_, _, rfl, ?_⟩
                refine T_nf (st' := []) (l' := [(10, y638), (11, y640), (28, (m.1 28)), (69, (m.1 69)), (70, (m.1 70)), (71, (m.1 71)), (72, (m.1 72))]) (a' := [(65, (m.2 65)), (66, (m.2 66)), (67, (m.2 67)), (68, (m.2 68)), (80, (m.2 80))]) rfl rfl rfl rfl rfl ?_
                by_cases hf644 : y638 = 0
                · skip
                  subst hf644
                  replace h642 : 0 = 0 := h642 rfl
                  have c645 := c643 rfl
                  replace c645 : 1 ≠ 0 := c645
                  clear g619 g639
                  refine T_ld 198 (.int (i32 ((m.2 81) w))) rfl (fun _ => rfl) ?_
                  refine T_gf 202 (.int (i32 (m.1 69))) rfl rfl rfl rfl rfl rfl ?_
                  refine T_iadd 203 rfl rfl ?_
                  refine T_sto 204 [(2, .int (i32 (((m.2 81) w) + (m.1 69)))), (5, .int (i32 (m.1 69))), (4, .int (i32 ((m.2 80) w))), (3, .int (i32 ((m.2 82) w))), (0, .ref 189), (1, .int (i32 w))] rfl (fun _ => rfl) ?_
                  refine T_goto 261 rfl (fun _ => rfl) ?_
                  refine Tm_lv (a := [(0, .ref 189), (1, .int (i32 w)), (2, .int (i32 (((m.2 81) w) + (m.1 69)))), (3, .int (i32 ((m.2 82) w))), (4, .int (i32 ((m.2 80) w))), (5, .int (i32 (m.1 69)))]) rfl rfl ⟨rfl, rfl, rfl, rfl, rfl, rfl, trivial⟩ ?_
                  exact J261_437 (((m.2 81) w) + (m.1 69)) 0 y640 (r32 (by omega) (by omega)) ⟨by omega, by omega⟩ g641 (by omega) (fun _ => (by omega))
                · skip
                  clear c643
                  clear h642
                  have hf646 : 1 ≤ y638 := by omega
                  clear g619
                  refine Tm_lv (a := [(0, .ref 189), (1, .int (i32 w)), (2, .int (i32 ((m.2 81) w))), (3, .int (i32 ((m.2 82) w))), (4, .int (i32 ((m.2 80) w))), (5, .int (i32 (m.1 69)))]) rfl rfl ⟨rfl, rfl, rfl, rfl, rfl, rfl, trivial⟩ ?_
                  exact J197_187 ((m.2 81) w) ((m.2 82) w) ((m.2 80) w) (m.1 69) y638 y640 (m.1 28) (m.1 69) (m.1 70) (m.1 71) (m.1 72) (m.2 65) (m.2 66) (m.2 67) (m.2 68) (m.2 80) (r32 (by omega) (by omega)) (r32 (by omega) (by omega)) (r32 (by omega) (by omega)) (r32 (by omega) (by omega)) g639 g641 f28 f69 f70 f71 f72 (hT.2.1 65) (hT.2.1 66) (hT.2.1 67) (hT.2.1 68) (hT.2.1 80) (by omega) (by omega) (by omega) (by omega) (by omega) (by omega) (by omega) (by omega) (by omega) (by omega)
            · skip
              clear c621
              clear h620
              have hf647 : 1 ≤ y616 := by omega
              clear g574
              refine Tm_lv (a := [(0, .ref 189), (1, .int (i32 w)), (2, .int (i32 ((m.2 81) w))), (3, .int (i32 ((m.2 82) w))), (4, .int (i32 ((m.2 80) w))), (5, .int (i32 (m.1 69)))]) rfl rfl ⟨rfl, rfl, rfl, rfl, rfl, rfl, trivial⟩ ?_
              exact J173_251 ((m.2 81) w) ((m.2 82) w) ((m.2 80) w) (m.1 69) y616 y618 (m.1 28) (m.1 69) (m.1 70) (m.1 71) (m.1 72) (m.2 65) (m.2 66) (m.2 67) (m.2 68) (m.2 80) (r32 (by omega) (by omega)) (r32 (by omega) (by omega)) (r32 (by omega) (by omega)) (r32 (by omega) (by omega)) g617 g619 f28 f69 f70 f71 f72 (hT.2.1 65) (hT.2.1 66) (hT.2.1 67) (hT.2.1 68) (hT.2.1 80) (by omega) (by omega) (by omega) (by omega) (by omega) (by omega) (by omega) (by omega) (by omega) (by omega)
        · skip
          clear c576
          clear h575
          have hf648 : 1 ≤ y571 := by omega
          clear g432a g432b h433
          refine Tm_lv (a := [(0, .ref 189), (1, .int (i32 w)), (2, .int (i32 ((m.2 81) w))), (3, .int (i32 ((m.2 82) w))), (4, .int (i32 ((m.2 80) w))), (5, .int (i32 (m.1 69)))]) rfl rfl ⟨rfl, rfl, rfl, rfl, rfl, rfl, trivial⟩ ?_
          exact J153_314 ((m.2 81) w) ((m.2 82) w) ((m.2 80) w) (m.1 69) y571 y573 (m.1 28) (m.1 69) (m.1 70) (m.1 71) (m.1 72) (m.2 65) (m.2 66) (m.2 67) (m.2 68) (m.2 80) (r32 (by omega) (by omega)) (r32 (by omega) (by omega)) (r32 (by omega) (by omega)) (r32 (by omega) (by omega)) g572 g574 f28 f69 f70 f71 f72 (hT.2.1 65) (hT.2.1 66) (hT.2.1 67) (hT.2.1 68) (hT.2.1 80) (by omega) (by omega) (by omega) (by omega) (by omega) (by omega) (by omega) (by omega) (by omega) (by omega)
      · skip
        refine T_ld 145 (.int (i32 1)) rfl (fun _ => rfl) ?_
        refine T_goto 149 rfl (fun _ => rfl) ?_
        refine T_ld 150 (.int (i32 ((m.2 82) w))) rfl (fun _ => rfl) ?_
        refine T_call 153 256 [.ref 189, .int (i32 1), .int (i32 ((m.2 82) w))] [] rfl (fun _ => rfl) rfl (c_want w (mO m [(10, (m.1 10)), (11, (m.1 11)), (28, (m.1 28)), (69, (m.1 69)), (70, (m.1 70)), (71, (m.1 71)), (72, (m.1 72))] [(65, (m.2 65)), (66, (m.2 66)), (67, (m.2 67)), (68, (m.2 68)), (80, (m.2 80))]) c N D (by omega) (Ty_mO hT rfl rfl ⟨f10, f11, f28, f69, f70, f71, f72, trivial⟩ ⟨(hT.2.1 65), (hT.2.1 66), (hT.2.1 67), (hT.2.1 68), (hT.2.1 80), trivial⟩) 1 ((m.2 82) w) ⟨by decide, by decide⟩ (r32 (by omega) (by omega)) (show 0 ≤ ((m.2 82) w) ∧ ((m.2 82) w) ≤ 4000 by omega) (fun _ => trivial)) (fun r649 k650 => ?_)
        obtain ⟨y651, y653, g652, g654, h655, c656, rfl⟩ := k650
        refine ⟨_, _, rfl, ?_⟩
        refine T_nf (st' := []) (l' := [(10, y651), (11, y653), (28, (m.1 28)), (69, (m.1 69)), (70, (m.1 70)), (71, (m.1 71)), (72, (m.1 72))]) (a' := [(65, (m.2 65)), (66, (m.2 66)), (67, (m.2 67)), (68, (m.2 68)), (80, (m.2 80))]) rfl rfl rfl rfl rfl ?_
        by_cases hf657 : y651 = 0
        · skip
          subst hf657
          replace h655 : (m.1 10) = 0 := h655 rfl
          have c658 := c656 rfl
          replace c658 : 1 ≠ 0 := c658
          clear g432a g432b h433 g652
          refine T_ld 154 (.ref 189) rfl (fun _ => rfl) ?_
          refine T_gf 158 (.int (i32 (m.1 71))) rfl rfl rfl rfl rfl rfl ?_
          refine T_if 165 161 rfl rfl rfl (r32 (by omega) (by omega)) (fun (h659 : (m.1 71) ≠ 0) => ?_) (fun (h659 : ¬ ((m.1 71) ≠ 0)) => ?_)
          · skip
            refine T_ld 166 (.int (i32 0)) rfl (fun _ => rfl) ?_
            refine T_gf 170 (.int (i32 (m.1 70))) rfl rfl rfl rfl rfl rfl ?_
            refine T_call 173 256 [.ref 189, .int (i32 0), .int (i32 (m.1 70))] [] rfl (fun _ => rfl) rfl (c_want w (mO m [(10, 0), (11, y653), (28, (m.1 28)), (69, (m.1 69)), (70, (m.1 70)), (71, (m.1 71)), (72, (m.1 72))] [(65, (m.2 65)), (66, (m.2 66)), (67, (m.2 67)), (68, (m.2 68)), (80, (m.2 80))]) c N D (by omega) (Ty_mO hT rfl rfl ⟨⟨(by omega : (0 : Int) ≤ 0), (by omega : (0 : Int) ≤ 8)⟩, g654, f28, f69, f70, f71, f72, trivial⟩ ⟨(hT.2.1 65), (hT.2.1 66), (hT.2.1 67), (hT.2.1 68), (hT.2.1 80), trivial⟩) 0 (m.1 70) ⟨by decide, by decide⟩ (r32 (by omega) (by omega)) (show 0 ≤ (m.1 70) ∧ (m.1 70) ≤ 4000 by omega) (fun _ => trivial)) (fun r660 k661 => ?_)
            obtain ⟨y662, y664, g663, g665, h666, c667, rfl⟩ := k661
            refine ⟨_, _, rfl, ?_⟩
            refine T_nf (st' := []) (l' := [(10, y662), (11, y664), (28, (m.1 28)), (69, (m.1 69)), (70, (m.1 70)), (71, (m.1 71)), (72, (m.1 72))]) (a' := [(65, (m.2 65)), (66, (m.2 66)), (67, (m.2 67)), (68, (m.2 68)), (80, (m.2 80))]) rfl rfl rfl rfl rfl ?_
            by_cases hf668 : y662 = 0
            · skip
              subst hf668
              replace h666 : 0 = 0 := h666 rfl
              have c669 := c667 rfl
              replace c669 : 0 ≠ 0 := c669
              clear g654 g663
              refine T_ld 174 (.ref 189) rfl (fun _ => rfl) ?_
              refine T_ld 175 (.int (i32 ((m.2 81) w))) rfl (fun _ => rfl) ?_
              refine T_gf 179 (.int (i32 (m.1 69))) rfl rfl rfl rfl rfl rfl ?_
              refine T_iadd 180 rfl rfl ?_
              refine T_ld 182 (.int (i32 64)) rfl (fun _ => rfl) ?_
              refine T_icmp 189 185 rfl rfl rfl (r32 (by omega) (by omega)) ⟨by decide, by decide⟩ (fun (h670 : (64 : Int) < ((m.2 81) w) + (m.1 69)) => ?_) (fun (h670 : ¬ ((64 : Int) < ((m.2 81) w) + (m.1 69))) => ?_)
              · skip
                refine T_ld 190 (.int (i32 0)) rfl (fun _ => rfl) ?_
                refine T_gf 194 (.int (i32 (m.1 70))) rfl rfl rfl rfl rfl rfl ?_
                refine T_call 197 256 [.ref 189, .int (i32 0), .int (i32 (m.1 70))] [] rfl (fun _ => rfl) rfl (c_want w (mO m [(10, 0), (11, y664), (28, (m.1 28)), (69, (m.1 69)), (70, (m.1 70)), (71, (m.1 71)), (72, (m.1 72))] [(65, (m.2 65)), (66, (m.2 66)), (67, (m.2 67)), (68, (m.2 68)), (80, (m.2 80))]) c N D (by omega) (Ty_mO hT rfl rfl ⟨⟨(by omega : (0 : Int) ≤ 0), (by omega : (0 : Int) ≤ 8)⟩, g665, f28, f69, f70, f71, f72, trivial⟩ ⟨(hT.2.1 65), (hT.2.1 66), (hT.2.1 67), (hT.2.1 68), (hT.2.1 80), trivial⟩) 0 (m.1 70) ⟨by decide, by decide⟩ (r32 (by omega) (by omega)) (show 0 ≤ (m.1 70) ∧ (m.1 70) ≤ 4000 by omega) (fun _ => trivial)) (fun r671 k672 => ?_)
                obtain ⟨y673, y675, g674, g676, h677, c678, rfl⟩ := k672
                refine ⟨_, _, rfl, ?_⟩
                refine T_nf (st' := []) (l' := [(10, y673), (11, y675), (28, (m.1 28)), (69, (m.1 69)), (70, (m.1 70)), (71, (m.1 71)), (72, (m.1 72))]) (a' := [(65, (m.2 65)), (66, (m.2 66)), (67, (m.2 67)), (68, (m.2 68)), (80, (m.2 80))]) rfl rfl rfl rfl rfl ?_
                by_cases hf679 : y673 = 0
                · skip
                  subst hf679
                  replace h677 : 0 = 0 := h677 rfl
                  have c680 := c678 rfl
                  replace c680 : 0 ≠ 0 := c680
                  clear g665 g674
                  refine T_ld 198 (.int (i32 ((m.2 81) w))) rfl (fun _ => rfl) ?_
                  refine T_gf 202 (.int (i32 (m.1 69))) rfl rfl rfl rfl rfl rfl ?_
                  refine T_iadd 203 rfl rfl ?_
                  refine T_sto 204 [(2, .int (i32 (((m.2 81) w) + (m.1 69)))), (5, .int (i32 (m.1 69))), (4, .int (i32 ((m.2 80) w))), (3, .int (i32 ((m.2 82) w))), (0, .ref 189), (1, .int (i32 w))] rfl (fun _ => rfl) ?_
                  refine T_goto 261 rfl (fun _ => rfl) ?_
                  refine Tm_lv (a := [(0, .ref 189), (1, .int (i32 w)), (2, .int (i32 (((m.2 81) w) + (m.1 69)))), (3, .int (i32 ((m.2 82) w))), (4, .int (i32 ((m.2 80) w))), (5, .int (i32 (m.1 69)))]) rfl rfl ⟨rfl, rfl, rfl, rfl, rfl, rfl, trivial⟩ ?_
                  exact J261_437 (((m.2 81) w) + (m.1 69)) 0 y675 (r32 (by omega) (by omega)) ⟨by omega, by omega⟩ g676 (by omega) (fun _ => (by omega))
                · skip
                  clear c678
                  clear h677
                  have hf681 : 1 ≤ y673 := by omega
                  clear g665
                  refine Tm_lv (a := [(0, .ref 189), (1, .int (i32 w)), (2, .int (i32 ((m.2 81) w))), (3, .int (i32 ((m.2 82) w))), (4, .int (i32 ((m.2 80) w))), (5, .int (i32 (m.1 69)))]) rfl rfl ⟨rfl, rfl, rfl, rfl, rfl, rfl, trivial⟩ ?_
                  exact J197_187 ((m.2 81) w) ((m.2 82) w) ((m.2 80) w) (m.1 69) y673 y675 (m.1 28) (m.1 69) (m.1 70) (m.1 71) (m.1 72) (m.2 65) (m.2 66) (m.2 67) (m.2 68) (m.2 80) (r32 (by omega) (by omega)) (r32 (by omega) (by omega)) (r32 (by omega) (by omega)) (r32 (by omega) (by omega)) g674 g676 f28 f69 f70 f71 f72 (hT.2.1 65) (hT.2.1 66) (hT.2.1 67) (hT.2.1 68) (hT.2.1 80) (by omega) (by omega) (by omega) (by omega) (by omega) (by omega) (by omega) (by omega) (by omega) (by omega)
              · skip
                refine T_ld 186 (.int (i32 1)) rfl (fun _ => rfl) ?_
                refine T_goto 190 rfl (fun _ => rfl) ?_
                refine T_gf 194 (.int (i32 (m.1 70))) rfl rfl rfl rfl rfl rfl ?_
                refine T_call 197 256 [.ref 189, .int (i32 1), .int (i32 (m.1 70))] [] rfl (fun _ => rfl) rfl (c_want w (mO m [(10, 0), (11, y664), (28, (m.1 28)), (69, (m.1 69)), (70, (m.1 70)), (71, (m.1 71)), (72, (m.1 72))] [(65, (m.2 65)), (66, (m.2 66)), (67, (m.2 67)), (68, (m.2 68)), (80, (m.2 80))]) c N D (by omega) (Ty_mO hT rfl rfl ⟨⟨(by omega : (0 : Int) ≤ 0), (by omega : (0 : Int) ≤ 8)⟩, g665, f28, f69, f70, f71, f72, trivial⟩ ⟨(hT.2.1 65), (hT.2.1 66), (hT.2.1 67), (hT.2.1 68), (hT.2.1 80), trivial⟩) 1 (m.1 70) ⟨by decide, by decide⟩ (r32 (by omega) (by omega)) (show 0 ≤ (m.1 70) ∧ (m.1 70) ≤ 4000 by omega) (fun _ => trivial)) (fun r682 k683 => ?_)
                obtain ⟨y684, y686, g685, g687, h688, c689, rfl⟩ := k683
                refine ⟨_, _, rfl, ?_⟩
                refine T_nf (st' := []) (l' := [(10, y684), (11, y686), (28, (m.1 28)), (69, (m.1 69)), (70, (m.1 70)), (71, (m.1 71)), (72, (m.1 72))]) (a' := [(65, (m.2 65)), (66, (m.2 66)), (67, (m.2 67)), (68, (m.2 68)), (80, (m.2 80))]) rfl rfl rfl rfl rfl ?_
                by_cases hf690 : y684 = 0
                · skip
                  subst hf690
                  replace h688 : 0 = 0 := h688 rfl
                  have c691 := c689 rfl
                  replace c691 : 1 ≠ 0 := c691
                  clear g665 g685
                  refine T_ld 198 (.int (i32 ((m.2 81) w))) rfl (fun _ => rfl) ?_
                  refine T_gf 202 (.int (i32 (m.1 69))) rfl rfl rfl rfl rfl rfl ?_
                  refine T_iadd 203 rfl rfl ?_
                  refine T_sto 204 [(2, .int (i32 (((m.2 81) w) + (m.1 69)))), (5, .int (i32 (m.1 69))), (4, .int (i32 ((m.2 80) w))), (3, .int (i32 ((m.2 82) w))), (0, .ref 189), (1, .int (i32 w))] rfl (fun _ => rfl) ?_
                  refine T_goto 261 rfl (fun _ => rfl) ?_
                  refine Tm_lv (a := [(0, .ref 189), (1, .int (i32 w)), (2, .int (i32 (((m.2 81) w) + (m.1 69)))), (3, .int (i32 ((m.2 82) w))), (4, .int (i32 ((m.2 80) w))), (5, .int (i32 (m.1 69)))]) rfl rfl ⟨rfl, rfl, rfl, rfl, rfl, rfl, trivial⟩ ?_
                  exact J261_437 (((m.2 81) w) + (m.1 69)) 0 y686 (r32 (by omega) (by omega)) ⟨by omega, by omega⟩ g687 (by omega) (fun _ => (by omega))
                · skip
                  clear c689
                  clear h688
                  have hf692 : 1 ≤ y684 := by omega
                  clear g665
                  refine Tm_lv (a := [(0, .ref 189), (1, .int (i32 w)), (2, .int (i32 ((m.2 81) w))), (3, .int (i32 ((m.2 82) w))), (4, .int (i32 ((m.2 80) w))), (5, .int (i32 (m.1 69)))]) rfl rfl ⟨rfl, rfl, rfl, rfl, rfl, rfl, trivial⟩ ?_
                  exact J197_187 ((m.2 81) w) ((m.2 82) w) ((m.2 80) w) (m.1 69) y684 y686 (m.1 28) (m.1 69) (m.1 70) (m.1 71) (m.1 72) (m.2 65) (m.2 66) (m.2 67) (m.2 68) (m.2 80) (r32 (by omega) (by omega)) (r32 (by omega) (by omega)) (r32 (by omega) (by omega)) (r32 (by omega) (by omega)) g685 g687 f28 f69 f70 f71 f72 (hT.2.1 65) (hT.2.1 66) (hT.2.1 67) (hT.2.1 68) (hT.2.1 80) (by omega) (by omega) (by omega) (by omega) (by omega) (by omega) (by omega) (by omega) (by omega) (by omega)
            · skip
              clear c667
              clear h666
              have hf693 : 1 ≤ y662 := by omega
              clear g654
              refine Tm_lv (a := [(0, .ref 189), (1, .int (i32 w)), (2, .int (i32 ((m.2 81) w))), (3, .int (i32 ((m.2 82) w))), (4, .int (i32 ((m.2 80) w))), (5, .int (i32 (m.1 69)))]) rfl rfl ⟨rfl, rfl, rfl, rfl, rfl, rfl, trivial⟩ ?_
              exact J173_251 ((m.2 81) w) ((m.2 82) w) ((m.2 80) w) (m.1 69) y662 y664 (m.1 28) (m.1 69) (m.1 70) (m.1 71) (m.1 72) (m.2 65) (m.2 66) (m.2 67) (m.2 68) (m.2 80) (r32 (by omega) (by omega)) (r32 (by omega) (by omega)) (r32 (by omega) (by omega)) (r32 (by omega) (by omega)) g663 g665 f28 f69 f70 f71 f72 (hT.2.1 65) (hT.2.1 66) (hT.2.1 67) (hT.2.1 68) (hT.2.1 80) (by omega) (by omega) (by omega) (by omega) (by omega) (by omega) (by omega) (by omega) (by omega) (by omega)
          · skip
            refine T_ld 162 (.int (i32 1)) rfl (fun _ => rfl) ?_
            refine T_goto 166 rfl (fun _ => rfl) ?_
            refine T_gf 170 (.int (i32 (m.1 70))) rfl rfl rfl rfl rfl rfl ?_
            refine T_call 173 256 [.ref 189, .int (i32 1), .int (i32 (m.1 70))] [] rfl (fun _ => rfl) rfl (c_want w (mO m [(10, 0), (11, y653), (28, (m.1 28)), (69, (m.1 69)), (70, (m.1 70)), (71, (m.1 71)), (72, (m.1 72))] [(65, (m.2 65)), (66, (m.2 66)), (67, (m.2 67)), (68, (m.2 68)), (80, (m.2 80))]) c N D (by omega) (Ty_mO hT rfl rfl ⟨⟨(by omega : (0 : Int) ≤ 0), (by omega : (0 : Int) ≤ 8)⟩, g654, f28, f69, f70, f71, f72, trivial⟩ ⟨(hT.2.1 65), (hT.2.1 66), (hT.2.1 67), (hT.2.1 68), (hT.2.1 80), trivial⟩) 1 (m.1 70) ⟨by decide, by decide⟩ (r32 (by omega) (by omega)) (show 0 ≤ (m.1 70) ∧ (m.1 70) ≤ 4000 by omega) (fun _ => trivial)) (fun r694 k695 => ?_)
            obtain ⟨y696, y698, g697, g699, h700, c701, rfl⟩ := k695
            refine ⟨_, _, rfl, ?_⟩
            refine T_nf (st' := []) (l' := [(10, y696), (11, y698), (28, (m.1 28)), (69, (m.1 69)), (70, (m.1 70)), (71, (m.1 71)), (72, (m.1 72))]) (a' := [(65, (m.2 65)), (66, (m.2 66)), (67, (m.2 67)), (68, (m.2 68)), (80, (m.2 80))]) rfl rfl rfl rfl rfl ?_
            by_cases hf702 : y696 = 0
            · skip
              subst hf702
              replace h700 : 0 = 0 := h700 rfl
              have c703 := c701 rfl
              replace c703 : 1 ≠ 0 := c703
              clear g654 g697
              refine T_ld 174 (.ref 189) rfl (fun _ => rfl) ?_
              refine T_ld 175 (.int (i32 ((m.2 81) w))) rfl (fun _ => rfl) ?_
              refine T_gf 179 (.int (i32 (m.1 69))) rfl rfl rfl rfl rfl rfl ?_
              refine T_iadd 180 rfl rfl ?_
              refine T_ld 182 (.int (i32 64)) rfl (fun _ => rfl) ?_
              refine T_icmp 189 185 rfl rfl rfl (r32 (by omega) (by omega)) ⟨by decide, by decide⟩ (fun (h704 : (64 : Int) < ((m.2 81) w) + (m.1 69)) => ?_) (fun (h704 : ¬ ((64 : Int) < ((m.2 81) w) + (m.1 69))) => ?_)
              · skip
                refine T_ld 190 (.int (i32 0)) rfl (fun _ => rfl) ?_
                refine T_gf 194 (.int (i32 (m.1 70))) rfl rfl rfl rfl rfl rfl ?_
                refine T_call 197 256 [.ref 189, .int (i32 0), .int (i32 (m.1 70))] [] rfl (fun _ => rfl) rfl (c_want w (mO m [(10, 0), (11, y698), (28, (m.1 28)), (69, (m.1 69)), (70, (m.1 70)), (71, (m.1 71)), (72, (m.1 72))] [(65, (m.2 65)), (66, (m.2 66)), (67, (m.2 67)), (68, (m.2 68)), (80, (m.2 80))]) c N D (by omega) (Ty_mO hT rfl rfl ⟨⟨(by omega : (0 : Int) ≤ 0), (by omega : (0 : Int) ≤ 8)⟩, g699, f28, f69, f70, f71, f72, trivial⟩ ⟨(hT.2.1 65), (hT.2.1 66), (hT.2.1 67), (hT.2.1 68), (hT.2.1 80), trivial⟩) 0 (m.1 70) ⟨by decide, by decide⟩ (r32 (by omega) (by omega)) (show 0 ≤ (m.1 70) ∧ (m.1 70) ≤ 4000 by omega) (fun _ => trivial)) (fun r705 k706 => ?_)
                obtain ⟨y707, y709, g708, g710, h711, c712, rfl⟩ := k706
                refine ⟨_, _, rfl, ?_⟩
                refine T_nf (st' := []) (l' := [(10, y707), (11, y709), (28, (m.1 28)), (69, (m.1 69)), (70, (m.1 70)), (71, (m.1 71)), (72, (m.1 72))]) (a' := [(65, (m.2 65)), (66, (m.2 66)), (67, (m.2 67)), (68, (m.2 68)), (80, (m.2 80))]) rfl rfl rfl rfl rfl ?_
                by_cases hf713 : y707 = 0
                · skip
                  subst hf713
                  replace h711 : 0 = 0 := h711 rfl
                  have c714 := c712 rfl
                  replace c714 : 0 ≠ 0 := c714
                  clear g699 g708
                  refine T_ld 198 (.int (i32 ((m.2 81) w))) rfl (fun _ => rfl) ?_
                  refine T_gf 202 (.int (i32 (m.1 69))) rfl rfl rfl rfl rfl rfl ?_
                  refine T_iadd 203 rfl rfl ?_
                  refine T_sto 204 [(2, .int (i32 (((m.2 81) w) + (m.1 69)))), (5, .int (i32 (m.1 69))), (4, .int (i32 ((m.2 80) w))), (3, .int (i32 ((m.2 82) w))), (0, .ref 189), (1, .int (i32 w))] rfl (fun _ => rfl) ?_
                  refine T_goto 261 rfl (fun _ => rfl) ?_
                  refine Tm_lv (a := [(0, .ref 189), (1, .int (i32 w)), (2, .int (i32 (((m.2 81) w) + (m.1 69)))), (3, .int (i32 ((m.2 82) w))), (4, .int (i32 ((m.2 80) w))), (5, .int (i32 (m.1 69)))]) rfl rfl ⟨rfl, rfl, rfl, rfl, rfl, rfl, trivial⟩ ?_
                  exact J261_437 (((m.2 81) w) + (m.1 69)) 0 y709 (r32 (by omega) (by omega)) ⟨by omega, by omega⟩ g710 (by omega) (fun _ => (by omega))
                · skip
                  clear c712
                  clear h711
                  have hf715 : 1 ≤ y707 := by omega
                  clear g699
                  refine Tm_lv (a := [(0, .ref 189), (1, .int (i32 w)), (2, .int (i32 ((m.2 81) w))), (3, .int (i32 ((m.2 82) w))), (4, .int (i32 ((m.2 80) w))), (5, .int (i32 (m.1 69)))]) rfl rfl ⟨rfl, rfl, rfl, rfl, rfl, rfl, trivial⟩ ?_
                  exact J197_187 ((m.2 81) w) ((m.2 82) w) ((m.2 80) w) (m.1 69) y707 y709 (m.1 28) (m.1 69) (m.1 70) (m.1 71) (m.1 72) (m.2 65) (m.2 66) (m.2 67) (m.2 68) (m.2 80) (r32 (by omega) (by omega)) (r32 (by omega) (by omega)) (r32 (by omega) (by omega)) (r32 (by omega) (by omega)) g708 g710 f28 f69 f70 f71 f72 (hT.2.1 65) (hT.2.1 66) (hT.2.1 67) (hT.2.1 68) (hT.2.1 80) (by omega) (by omega) (by omega) (by omega) (by omega) (by omega) (by omega) (by omega) (by omega) (by omega)
              · skip
                refine T_ld 186 (.int (i32 1)) rfl (fun _ => rfl) ?_
                refine T_goto 190 rfl (fun _ => rfl) ?_
                refine T_gf 194 (.int (i32 (m.1 70))) rfl rfl rfl rfl rfl rfl ?_
                refine T_call 197 256 [.ref 189, .int (i32 1), .int (i32 (m.1 70))] [] rfl (fun _ => rfl) rfl (c_want w (mO m [(10, 0), (11, y698), (28, (m.1 28)), (69, (m.1 69)), (70, (m.1 70)), (71, (m.1 71)), (72, (m.1 72))] [(65, (m.2 65)), (66, (m.2 66)), (67, (m.2 67)), (68, (m.2 68)), (80, (m.2 80))]) c N D (by omega) (Ty_mO hT rfl rfl ⟨⟨(by omega : (0 : Int) ≤ 0), (by omega : (0 : Int) ≤ 8)⟩, g699, f28, f69, f70, f71, f72, trivial⟩ ⟨(hT.2.1 65), (hT.2.1 66), (hT.2.1 67), (hT.2.1 68), (hT.2.1 80), trivial⟩) 1 (m.1 70) ⟨by decide, by decide⟩ (r32 (by omega) (by omega)) (show 0 ≤ (m.1 70) ∧ (m.1 70) ≤ 4000 by omega) (fun _ => trivial)) (fun r716 k717 => ?_)
                obtain ⟨y718, y720, g719, g721, h722, c723, rfl⟩ := k717
                refine ⟨_, _, rfl, ?_⟩
                refine T_nf (st' := []) (l' := [(10, y718), (11, y720), (28, (m.1 28)), (69, (m.1 69)), (70, (m.1 70)), (71, (m.1 71)), (72, (m.1 72))]) (a' := [(65, (m.2 65)), (66, (m.2 66)), (67, (m.2 67)), (68, (m.2 68)), (80, (m.2 80))]) rfl rfl rfl rfl rfl ?_
                by_cases hf724 : y718 = 0
                · skip
                  subst hf724
                  replace h722 : 0 = 0 := h722 rfl
                  have c725 := c723 rfl
                  replace c725 : 1 ≠ 0 := c725
                  clear g699 g719
                  refine T_ld 198 (.int (i32 ((m.2 81) w))) rfl (fun _ => rfl) ?_
                  refine T_gf 202 (.int (i32 (m.1 69))) rfl rfl rfl rfl rfl rfl ?_
                  refine T_iadd 203 rfl rfl ?_
                  refine T_sto 204 [(2, .int (i32 (((m.2 81) w) + (m.1 69)))), (5, .int (i32 (m.1 69))), (4, .int (i32 ((m.2 80) w))), (3, .int (i32 ((m.2 82) w))), (0, .ref 189), (1, .int (i32 w))] rfl (fun _ => rfl) ?_
                  refine T_goto 261 rfl (fun _ => rfl) ?_
                  refine Tm_lv (a := [(0, .ref 189), (1, .int (i32 w)), (2, .int (i32 (((m.2 81) w) + (m.1 69)))), (3, .int (i32 ((m.2 82) w))), (4, .int (i32 ((m.2 80) w))), (5, .int (i32 (m.1 69)))]) rfl rfl ⟨rfl, rfl, rfl, rfl, rfl, rfl, trivial⟩ ?_
                  exact J261_437 (((m.2 81) w) + (m.1 69)) 0 y720 (r32 (by omega) (by omega)) ⟨by omega, by omega⟩ g721 (by omega) (fun _ => (by omega))
                · skip
                  clear c723
                  clear h722
                  have hf726 : 1 ≤ y718 := by omega
                  clear g699
                  refine Tm_lv (a := [(0, .ref 189), (1, .int (i32 w)), (2, .int (i32 ((m.2 81) w))), (3, .int (i32 ((m.2 82) w))), (4, .int (i32 ((m.2 80) w))), (5, .int (i32 (m.1 69)))]) rfl rfl ⟨rfl, rfl, rfl, rfl, rfl, rfl, trivial⟩ ?_
                  exact J197_187 ((m.2 81) w) ((m.2 82) w) ((m.2 80) w) (m.1 69) y718 y720 (m.1 28) (m.1 69) (m.1 70) (m.1 71) (m.1 72) (m.2 65) (m.2 66) (m.2 67) (m.2 68) (m.2 80) (r32 (by omega) (by omega)) (r32 (by omega) (by omega)) (r32 (by omega) (by omega)) (r32 (by omega) (by omega)) g719 g721 f28 f69 f70 f71 f72 (hT.2.1 65) (hT.2.1 66) (hT.2.1 67) (hT.2.1 68) (hT.2.1 80) (by omega) (by omega) (by omega) (by omega) (by omega) (by omega) (by omega) (by omega) (by omega) (by omega)
            · skip
              clear c701
              clear h700
              have hf727 : 1 ≤ y696 := by omega
              clear g654
              refine Tm_lv (a := [(0, .ref 189), (1, .int (i32 w)), (2, .int (i32 ((m.2 81) w))), (3, .int (i32 ((m.2 82) w))), (4, .int (i32 ((m.2 80) w))), (5, .int (i32 (m.1 69)))]) rfl rfl ⟨rfl, rfl, rfl, rfl, rfl, rfl, trivial⟩ ?_
              exact J173_251 ((m.2 81) w) ((m.2 82) w) ((m.2 80) w) (m.1 69) y696 y698 (m.1 28) (m.1 69) (m.1 70) (m.1 71) (m.1 72) (m.2 65) (m.2 66) (m.2 67) (m.2 68) (m.2 80) (r32 (by omega) (by omega)) (r32 (by omega) (by omega)) (r32 (by omega) (by omega)) (r32 (by omega) (by omega)) g697 g699 f28 f69 f70 f71 f72 (hT.2.1 65) (hT.2.1 66) (hT.2.1 67) (hT.2.1 68) (hT.2.1 80) (by omega) (by omega) (by omega) (by omega) (by omega) (by omega) (by omega) (by omega) (by omega) (by omega)
        · skip
          clear c656
          clear h655
          have hf728 : 1 ≤ y651 := by omega
          clear g432a g432b h433
          refine Tm_lv (a := [(0, .ref 189), (1, .int (i32 w)), (2, .int (i32 ((m.2 81) w))), (3, .int (i32 ((m.2 82) w))), (4, .int (i32 ((m.2 80) w))), (5, .int (i32 (m.1 69)))]) rfl rfl ⟨rfl, rfl, rfl, rfl, rfl, rfl, trivial⟩ ?_
          exact J153_314 ((m.2 81) w) ((m.2 82) w) ((m.2 80) w) (m.1 69) y651 y653 (m.1 28) (m.1 69) (m.1 70) (m.1 71) (m.1 72) (m.2 65) (m.2 66) (m.2 67) (m.2 68) (m.2 80) (r32 (by omega) (by omega)) (r32 (by omega) (by omega)) (r32 (by omega) (by omega)) (r32 (by omega) (by omega)) g652 g654 f28 f69 f70 f71 f72 (hT.2.1 65) (hT.2.1 66) (hT.2.1 67) (hT.2.1 68) (hT.2.1 80) (by omega) (by omega) (by omega) (by omega) (by omega) (by omega) (by omega) (by omega) (by omega) (by omega)
    by_cases h729 : x431 = 2
    · skip
      refine T_cast 2 h729 ?_
      refine T_pop 207 rfl (fun _ => rfl) ?_
      exact T207_533
    by_cases h730 : x431 = 3
    · skip
      refine T_cast 3 h730 ?_
      refine T_pop 207 rfl (fun _ => rfl) ?_
      exact T207_533
    by_cases h731 : x431 = 4
    · skip
      refine T_cast 4 h731 ?_
      refine T_pop 207 rfl (fun _ => rfl) ?_
      exact T207_533
    by_cases h732 : x431 = 5
    · skip
      refine T_cast 5 h732 ?_
      refine T_pop 207 rfl (fun _ => rfl) ?_
      exact T207_533
    by_cases h733 : x431 = 7
    · skip
      refine T_cast 7 h733 ?_
      refine T_pop 207 rfl (fun _ => rfl) ?_
      exact T207_533
    refine T_tsd 207 rfl rfl (r32 (by omega) (by omega)) (by omega) ?_
    exact T207_533
  · skip
    clear hC
    refine T_gf 4 (.ref 243) rfl rfl rfl rfl rfl rfl ?_
    refine T_ld 5 (.int (i32 w)) rfl (fun _ => rfl) ?_
    refine T_iald 6 81 (m.2 81) rfl rfl rfl (by omega) (show w < (540 : Int) by omega) rfl ?_
    have e734 : 0 ≤ m.2 81 w ∧ m.2 81 w ≤ 64 := hT.2.1 81 w
    refine T_sto 7 [(2, .int (i32 ((m.2 81) w))), (0, .ref 189), (1, .int (i32 w))] rfl (fun _ => rfl) ?_
    refine T_gf 11 (.ref 244) rfl rfl rfl rfl rfl rfl ?_
    refine T_ld 12 (.int (i32 w)) rfl (fun _ => rfl) ?_
    refine T_iald 13 82 (m.2 82) rfl rfl rfl (by omega) (show w < (540 : Int) by omega) rfl ?_
    have e735 : 0 ≤ m.2 82 w ∧ m.2 82 w ≤ 4000 := hT.2.1 82 w
    refine T_sto 14 [(3, .int (i32 ((m.2 82) w))), (2, .int (i32 ((m.2 81) w))), (0, .ref 189), (1, .int (i32 w))] rfl (fun _ => rfl) ?_
    refine T_gf 18 (.ref 242) rfl rfl rfl rfl rfl rfl ?_
    refine T_ld 19 (.int (i32 w)) rfl (fun _ => rfl) ?_
    refine T_iald 20 80 (m.2 80) rfl rfl rfl (by omega) (show w < (540 : Int) by omega) rfl ?_
    have e736 : (-1) ≤ (m.2 80) w ∧ (m.2 80) w ≤ 330 := (hT.2.1 80) w
    refine T_sto 22 [(4, .int (i32 ((m.2 80) w))), (3, .int (i32 ((m.2 82) w))), (2, .int (i32 ((m.2 81) w))), (0, .ref 189), (1, .int (i32 w))] rfl (fun _ => rfl) ?_
    refine T_gf 26 (.int (i32 (m.1 69))) rfl rfl rfl rfl rfl rfl ?_
    refine T_sto 28 [(5, .int (i32 (m.1 69))), (4, .int (i32 ((m.2 80) w))), (3, .int (i32 ((m.2 82) w))), (2, .int (i32 ((m.2 81) w))), (0, .ref 189), (1, .int (i32 w))] rfl (fun _ => rfl) ?_
    refine T_gf 32 (.ref 242) rfl rfl rfl rfl rfl rfl ?_
    refine T_ld 33 (.int (i32 w)) rfl (fun _ => rfl) ?_
    refine T_iald 34 80 (m.2 80) rfl rfl rfl (by omega) (show w < (540 : Int) by omega) rfl ?_
    have e737 : (-1) ≤ (m.2 80) w ∧ (m.2 80) w ≤ 330 := (hT.2.1 80) w
    refine T_call 37 259 [.int (i32 ((m.2 80) w))] [] rfl (fun _ => rfl) rfl (c_level w (mO m [(10, (m.1 10)), (11, (m.1 11)), (28, (m.1 28)), (69, (m.1 69)), (70, (m.1 70)), (71, (m.1 71)), (72, (m.1 72))] [(65, (m.2 65)), (66, (m.2 66)), (67, (m.2 67)), (68, (m.2 68)), (80, (m.2 80))]) c N D (by omega) (Ty_mO hT rfl rfl ⟨f10, f11, f28, f69, f70, f71, f72, trivial⟩ ⟨(hT.2.1 65), (hT.2.1 66), (hT.2.1 67), (hT.2.1 68), (hT.2.1 80), trivial⟩) ((m.2 80) w) (r32 (by omega) (by omega))) (fun r738 k739 => ?_)
    obtain ⟨x740, g741, h742, rfl⟩ := k739
    refine ⟨_, _, rfl, ?_⟩
    refine T_nf (st' := [.int (i32 x740)]) (l' := [(10, (m.1 10)), (11, (m.1 11)), (28, (m.1 28)), (69, (m.1 69)), (70, (m.1 70)), (71, (m.1 71)), (72, (m.1 72))]) (a' := [(65, (m.2 65)), (66, (m.2 66)), (67, (m.2 67)), (68, (m.2 68)), (80, (m.2 80))]) rfl rfl rfl rfl rfl ?_
    obtain ⟨g741a, g741b⟩ := g741
    replace h742 : 0 ≤ x740 → 4 ≤ ((m.2 80) w) ∧ ((m.2 80) w) ≤ 124 := h742
    have J261_746 : ∀ (v743 : Int) (y744 : Int) (y745 : Int), (R32 v743) → (0 ≤ y744 ∧ y744 ≤ 8) → ((-1) ≤ y745 ∧ y745 ≤ 4000) → (0 ≤ v743 ∧ v743 ≤ (m.1 69) + 64) → (y744 = 0 → (v743 ≤ 64)) → TT w D pm_260 (261, [(0, .ref 189), (1, .int (i32 w)), (2, .int (i32 v743)), (3, .int (i32 ((m.2 82) w))), (4, .int (i32 ((m.2 80) w))), (5, .int (i32 (m.1 69)))], [.int (i32 x740)], (mhp (mO m [(10, y744), (11, y745), (28, (m.1 28)), (69, (m.1 69)), (70, (m.1 70)), (71, (m.1 71)), (72, (m.1 72))] [(65, (m.2 65)), (66, (m.2 66)), (67, (m.2 67)), (68, (m.2 68)), (80, (m.2 80))]) c, N), 0, 0) (Q_join m c N w B) := by
      intro v743 y744 y745 q747 q748 q749 i750 c751
      obtain ⟨q747a, q747b⟩ := id q747
      by_cases hf752 : y744 = 0
      · skip
        subst hf752
        have c753 := c751 rfl
        refine T_gf 265 (.ref 242) rfl rfl rfl rfl rfl rfl ?_
        refine T_ld 266 (.int (i32 w)) rfl (fun _ => rfl) ?_
        refine T_ld 267 (.int (i32 (-1))) rfl (fun _ => rfl) ?_
        have G754 : ∀ j, (-1) ≤ (upI (m.2 80) w (-1)) j ∧ (upI (m.2 80) w (-1)) j ≤ 330 := upI_rg (hT.2.1 80) ⟨by omega, by omega⟩
        refine T_iast (a' := [(65, (m.2 65)), (66, (m.2 66)), (67, (m.2 67)), (68, (m.2 68)), (80, upI (m.2 80) w (-1))]) 268 80 (m.2 80) rfl rfl rfl (by omega) (show w < (540 : Int) by omega) rfl rfl ?_
        have hAr : ar ((m.2 80) w) ≤ 1 + lh (m.2 79) (m.2 80) (m.1 73) := by omega
        have hCk : CNk ((m.2 80) w) (m.1 69) := by refine ⟨?_, ?_, ?_, ?_⟩ <;> omega
        refine T_ld 269 (.ref 189) rfl (fun _ => rfl) ?_
        refine T_ld 271 (.int (i32 ((m.2 80) w))) rfl (fun _ => rfl) ?_
        refine T_ld 272 (.int (i32 v743)) rfl (fun _ => rfl) ?_
        refine T_ld 274 (.int (i32 (m.1 69))) rfl (fun _ => rfl) ?_
        refine T_ld 275 (.long (i64 0)) rfl (fun _ => rfl) ?_
        refine T_call 278 248 [.ref 189, .int (i32 ((m.2 80) w)), .int (i32 v743), .int (i32 (m.1 69)), .long (i64 0)] [.int (i32 x740)] rfl (fun _ => rfl) rfl (c_node w (mO m [(10, 0), (11, y745), (28, (m.1 28)), (69, (m.1 69)), (70, (m.1 70)), (71, (m.1 71)), (72, (m.1 72))] [(65, (m.2 65)), (66, (m.2 66)), (67, (m.2 67)), (68, (m.2 68)), (80, upI (m.2 80) w (-1))]) c N D (by omega) (Ty_mO hT rfl rfl ⟨⟨(by omega : (0 : Int) ≤ 0), (by omega : (0 : Int) ≤ 8)⟩, q749, f28, f69, f70, f71, f72, trivial⟩ ⟨(hT.2.1 65), (hT.2.1 66), (hT.2.1 67), (hT.2.1 68), G754, trivial⟩) ((m.2 80) w) v743 (m.1 69) 0 ($B) (1 + lh (m.2 79) (m.2 80) (m.1 73)) (r32 (by omega) (by omega)) (r32 (by omega) (by omega)) (r32 (by omega) (by omega)) ⟨by decide, by decide⟩ (fun _ => ⟨(show 0 ≤ ((m.2 80) w) ∧ ((m.2 80) w) ≤ 408 by first | omega | decide), (show 0 ≤ v743 ∧ v743 ≤ 64 by first | omega | decide), (show 0 ≤ (m.1 69) ∧ (m.1 69) ≤ 191 by first | omega | decide), (show CNk ((m.2 80) w) (m.1 69) by first | exact hCk | (refine ⟨?_, ?_, ?_, ?_⟩ <;> omega)), (show ar ((m.2 80) w) ≤ (1 + lh (m.2 79) (m.2 80) (m.1 73)) by first | exact hAr | omega), (show EX (m.2 65) (m.2 67) ($B) (m.1 28) (1 + lh (m.2 79) (m.2 80) (m.1 73)) by first | exact hEX | assumption)⟩)) (fun r755 k756 => ?_)
        obtain ⟨y757, y759, y761, F763, F765, F767, F769, g758, g760, g762, G764, G766, G768, G770, h771, c772, rfl⟩ := k756
        refine ⟨_, _, rfl, ?_⟩
        refine T_nf (st' := [.int (i32 x740)]) (l' := [(10, y757), (11, y759), (28, y761), (69, (m.1 69)), (70, (m.1 70)), (71, (m.1 71)), (72, (m.1 72))]) (a' := [(65, F763), (66, F765), (67, F767), (68, F769), (80, upI (m.2 80) w (-1))]) rfl rfl rfl rfl rfl ?_
        by_cases hf773 : y757 = 0
        · skip
          subst hf773
          replace h771 : 0 = 0 := h771 rfl
          obtain ⟨c774, c775, c776⟩ := c772 rfl
          replace c774 : y761 = (m.1 28) + 1 := c774
          replace c775 : EX F763 F767 ($B) y761 ((1 + lh (m.2 79) (m.2 80) (m.1 73)) + 1 - ar ((m.2 80) w)) := c775
          have hEX := c775
          replace c776 : agr (m.2 65) F763 (m.1 28) := c776
          have hAg := c776
          clear q748 q749 g758
          have hXE : XS F763 F767 (m.2 76) (m.2 78) (m.2 79) (upI (m.2 80) w (-1)) $B y761 (m.1 73) (m.1 74) 1 := XS_of (XS_ws (x := -1) (U' := 1) hXS (by omega) (by omega) (by omega) (by rw [if_neg (by omega)]; have := cn1_0 (m.2 80) w; omega)) hEX (by omega)
          refine T_ld 279 (.ref 189) rfl (fun _ => rfl) ?_
          refine T_ld 280 (.int (i32 v743)) rfl (fun _ => rfl) ?_
          refine T_ld 281 (.int (i32 ((m.2 82) w))) rfl (fun _ => rfl) ?_
          refine T_call 284 250 [.ref 189, .int (i32 v743), .int (i32 ((m.2 82) w))] [.int (i32 x740)] rfl (fun _ => rfl) rfl (c_unit w (mO m [(10, 0), (11, y759), (28, y761), (69, (m.1 69)), (70, (m.1 70)), (71, (m.1 71)), (72, (m.1 72))] [(65, F763), (66, F765), (67, F767), (68, F769), (80, upI (m.2 80) w (-1))]) c N D (by omega) (Ty_mO hT rfl rfl ⟨⟨(by omega : (0 : Int) ≤ 0), (by omega : (0 : Int) ≤ 8)⟩, g760, g762, f69, f70, f71, f72, trivial⟩ ⟨G764, G766, G768, G770, G754, trivial⟩) v743 ((m.2 82) w) (r32 (by omega) (by omega)) (r32 (by omega) (by omega)) (show 0 ≤ v743 ∧ v743 ≤ 1024 by omega) (show 0 ≤ ((m.2 82) w) ∧ ((m.2 82) w) ≤ 4000 by omega)) (fun r777 k778 => ?_)
          obtain ⟨y779, y781, y783, y785, g780, g782, g784, g786, h787, rfl⟩ := k778
          refine ⟨_, _, rfl, ?_⟩
          refine T_nf (st' := [.int (i32 x740)]) (l' := [(10, 0), (11, y759), (28, y761), (69, y779), (70, y781), (71, y783), (72, y785)]) (a' := [(65, F763), (66, F765), (67, F767), (68, F769), (80, upI (m.2 80) w (-1))]) rfl rfl rfl rfl rfl ?_
          replace h787 : y779 = v743 := h787
          refine T_ret rfl (fun _ => rfl) ?_
          exact ⟨0, y759, y761, y779, y781, y783, y785, F763, F765, F767, F769, upI (m.2 80) w (-1), ⟨by omega, by omega⟩, g760, g762, g780, g782, g784, g786, G764, G766, G768, G770, G754, (by omega), (by omega), (fun _ => ⟨(by omega), (by omega), (by exact hXE), (by exact hAg), (by rfl)⟩), rfl⟩
        · skip
          clear c772
          clear h771
          have hf788 : 1 ≤ y757 := by omega
          clear q748 q749
          refine T_ld 279 (.ref 189) rfl (fun _ => rfl) ?_
          refine T_ld 280 (.int (i32 v743)) rfl (fun _ => rfl) ?_
          refine T_ld 281 (.int (i32 ((m.2 82) w))) rfl (fun _ => rfl) ?_
          refine T_call 284 250 [.ref 189, .int (i32 v743), .int (i32 ((m.2 82) w))] [.int (i32 x740)] rfl (fun _ => rfl) rfl (c_unit w (mO m [(10, y757), (11, y759), (28, y761), (69, (m.1 69)), (70, (m.1 70)), (71, (m.1 71)), (72, (m.1 72))] [(65, F763), (66, F765), (67, F767), (68, F769), (80, upI (m.2 80) w (-1))]) c N D (by omega) (Ty_mO hT rfl rfl ⟨g758, g760, g762, f69, f70, f71, f72, trivial⟩ ⟨G764, G766, G768, G770, G754, trivial⟩) v743 ((m.2 82) w) (r32 (by omega) (by omega)) (r32 (by omega) (by omega)) (show 0 ≤ v743 ∧ v743 ≤ 1024 by omega) (show 0 ≤ ((m.2 82) w) ∧ ((m.2 82) w) ≤ 4000 by omega)) (fun r789 k790 => ?_)
          obtain ⟨y791, y793, y795, y797, g792, g794, g796, g798, h799, rfl⟩ := k790
          refine ⟨_, _, rfl, ?_⟩
          refine T_nf (st' := [.int (i32 x740)]) (l' := [(10, y757), (11, y759), (28, y761), (69, y791), (70, y793), (71, y795), (72, y797)]) (a' := [(65, F763), (66, F765), (67, F767), (68, F769), (80, upI (m.2 80) w (-1))]) rfl rfl rfl rfl rfl ?_
          replace h799 : y791 = v743 := h799
          refine T_ret rfl (fun _ => rfl) ?_
          exact ⟨y757, y759, y761, y791, y793, y795, y797, F763, F765, F767, F769, upI (m.2 80) w (-1), g758, g760, g762, g792, g794, g796, g798, G764, G766, G768, G770, G754, (by omega), (by omega), (fun h => absurd h (by omega)), rfl⟩
      · skip
        clear c751
        have hf800 : 1 ≤ y744 := by omega
        refine T_gf 265 (.ref 242) rfl rfl rfl rfl rfl rfl ?_
        refine T_ld 266 (.int (i32 w)) rfl (fun _ => rfl) ?_
        refine T_ld 267 (.int (i32 (-1))) rfl (fun _ => rfl) ?_
        have G801 : ∀ j, (-1) ≤ (upI (m.2 80) w (-1)) j ∧ (upI (m.2 80) w (-1)) j ≤ 330 := upI_rg (hT.2.1 80) ⟨by omega, by omega⟩
        refine T_iast (a' := [(65, (m.2 65)), (66, (m.2 66)), (67, (m.2 67)), (68, (m.2 68)), (80, upI (m.2 80) w (-1))]) 268 80 (m.2 80) rfl rfl rfl (by omega) (show w < (540 : Int) by omega) rfl rfl ?_
        refine T_ld 269 (.ref 189) rfl (fun _ => rfl) ?_
        refine T_ld 271 (.int (i32 ((m.2 80) w))) rfl (fun _ => rfl) ?_
        refine T_ld 272 (.int (i32 v743)) rfl (fun _ => rfl) ?_
        refine T_ld 274 (.int (i32 (m.1 69))) rfl (fun _ => rfl) ?_
        refine T_ld 275 (.long (i64 0)) rfl (fun _ => rfl) ?_
        refine T_call 278 248 [.ref 189, .int (i32 ((m.2 80) w)), .int (i32 v743), .int (i32 (m.1 69)), .long (i64 0)] [.int (i32 x740)] rfl (fun _ => rfl) rfl (c_node w (mO m [(10, y744), (11, y745), (28, (m.1 28)), (69, (m.1 69)), (70, (m.1 70)), (71, (m.1 71)), (72, (m.1 72))] [(65, (m.2 65)), (66, (m.2 66)), (67, (m.2 67)), (68, (m.2 68)), (80, upI (m.2 80) w (-1))]) c N D (by omega) (Ty_mO hT rfl rfl ⟨q748, q749, f28, f69, f70, f71, f72, trivial⟩ ⟨(hT.2.1 65), (hT.2.1 66), (hT.2.1 67), (hT.2.1 68), G801, trivial⟩) ((m.2 80) w) v743 (m.1 69) 0 ($B) (1 + lh (m.2 79) (m.2 80) (m.1 73)) (r32 (by omega) (by omega)) (r32 (by omega) (by omega)) (r32 (by omega) (by omega)) ⟨by decide, by decide⟩ (fun h => absurd h (by omega))) (fun r802 k803 => ?_)
        obtain ⟨y804, y806, y808, F810, F812, F814, F816, g805, g807, g809, G811, G813, G815, G817, h818, c819, rfl⟩ := k803
        refine ⟨_, _, rfl, ?_⟩
        refine T_nf (st' := [.int (i32 x740)]) (l' := [(10, y804), (11, y806), (28, y808), (69, (m.1 69)), (70, (m.1 70)), (71, (m.1 71)), (72, (m.1 72))]) (a' := [(65, F810), (66, F812), (67, F814), (68, F816), (80, upI (m.2 80) w (-1))]) rfl rfl rfl rfl rfl ?_
        replace h818 : y804 = 0 → y744 = 0 := h818
        have hf820 : 1 ≤ y804 := by omega
        clear c819
        clear h818
        clear q748 q749 hf800
        refine T_ld 279 (.ref 189) rfl (fun _ => rfl) ?_
        refine T_ld 280 (.int (i32 v743)) rfl (fun _ => rfl) ?_
        refine T_ld 281 (.int (i32 ((m.2 82) w))) rfl (fun _ => rfl) ?_
        refine T_call 284 250 [.ref 189, .int (i32 v743), .int (i32 ((m.2 82) w))] [.int (i32 x740)] rfl (fun _ => rfl) rfl (c_unit w (mO m [(10, y804), (11, y806), (28, y808), (69, (m.1 69)), (70, (m.1 70)), (71, (m.1 71)), (72, (m.1 72))] [(65, F810), (66, F812), (67, F814), (68, F816), (80, upI (m.2 80) w (-1))]) c N D (by omega) (Ty_mO hT rfl rfl ⟨g805, g807, g809, f69, f70, f71, f72, trivial⟩ ⟨G811, G813, G815, G817, G801, trivial⟩) v743 ((m.2 82) w) (r32 (by omega) (by omega)) (r32 (by omega) (by omega)) (show 0 ≤ v743 ∧ v743 ≤ 1024 by omega) (show 0 ≤ ((m.2 82) w) ∧ ((m.2 82) w) ≤ 4000 by omega)) (fun r821 k822 => ?_)
        obtain ⟨y823, y825, y827, y829, g824, g826, g828, g830, h831, rfl⟩ := k822
        refine ⟨_, _, rfl, ?_⟩
        refine T_nf (st' := [.int (i32 x740)]) (l' := [(10, y804), (11, y806), (28, y808), (69, y823), (70, y825), (71, y827), (72, y829)]) (a' := [(65, F810), (66, F812), (67, F814), (68, F816), (80, upI (m.2 80) w (-1))]) rfl rfl rfl rfl rfl ?_
        replace h831 : y823 = v743 := h831
        refine T_ret rfl (fun _ => rfl) ?_
        exact ⟨y804, y806, y808, y823, y825, y827, y829, F810, F812, F814, F816, upI (m.2 80) w (-1), g805, g807, g809, g824, g826, g828, g830, G811, G813, G815, G817, G801, (by omega), (by omega), (fun h => absurd h (by omega)), rfl⟩
    have T88_832 : TT w D pm_260 (88, [(5, .int (i32 (m.1 69))), (4, .int (i32 ((m.2 80) w))), (3, .int (i32 ((m.2 82) w))), (2, .int (i32 ((m.2 81) w))), (0, .ref 189), (1, .int (i32 w))], [], (mhp (mO m [(10, (m.1 10)), (11, (m.1 11)), (28, (m.1 28)), (69, (m.1 69)), (70, (m.1 70)), (71, (m.1 71)), (72, (m.1 72))] [(65, (m.2 65)), (66, (m.2 66)), (67, (m.2 67)), (68, (m.2 68)), (80, (m.2 80))]) c, N), 0, 0) (Q_join m c N w B) := by
      refine T_ld 89 (.ref 189) rfl (fun _ => rfl) ?_
      refine T_ld 90 (.int (i32 ((m.2 81) w))) rfl (fun _ => rfl) ?_
      refine T_gf 94 (.ref 245) rfl rfl rfl rfl rfl rfl ?_
      refine T_ld 95 (.int (i32 w)) rfl (fun _ => rfl) ?_
      refine T_bald 96 83 (m.2 83) rfl rfl rfl (by omega) (show w < (540 : Int) by omega) rfl ?_
      have e833 : 0 ≤ m.2 83 w ∧ m.2 83 w ≤ 1 := hT.2.1 83 w
      refine T_gf 100 (.ref 246) rfl rfl rfl rfl rfl rfl ?_
      refine T_ld 101 (.int (i32 w)) rfl (fun _ => rfl) ?_
      refine T_lald 102 84 (m.2 84) rfl rfl rfl (by omega) (show w < (540 : Int) by omega) rfl ?_
      have e834 : (-9223372036854775808) ≤ m.2 84 w ∧ m.2 84 w ≤ 9223372036854775807 := hT.2.1 84 w
      refine T_ld 103 (.int (i32 ((m.2 82) w))) rfl (fun _ => rfl) ?_
      refine T_call 106 258 [.ref 189, .int (i32 ((m.2 81) w)), .int (i32 ((m.2 83) w)), .long (i64 ((m.2 84) w)), .int (i32 ((m.2 82) w))] [] rfl (fun _ => rfl) rfl (c_wantBit w (mO m [(10, (m.1 10)), (11, (m.1 11)), (28, (m.1 28)), (69, (m.1 69)), (70, (m.1 70)), (71, (m.1 71)), (72, (m.1 72))] [(65, (m.2 65)), (66, (m.2 66)), (67, (m.2 67)), (68, (m.2 68)), (80, (m.2 80))]) c N D (by omega) (Ty_mO hT rfl rfl ⟨f10, f11, f28, f69, f70, f71, f72, trivial⟩ ⟨(hT.2.1 65), (hT.2.1 66), (hT.2.1 67), (hT.2.1 68), (hT.2.1 80), trivial⟩) ((m.2 81) w) ((m.2 83) w) ((m.2 84) w) ((m.2 82) w) (r32 (by omega) (by omega)) (r32 (by omega) (by omega)) (r64 (by omega) (by omega)) (r32 (by omega) (by omega)) (show 0 ≤ ((m.2 82) w) ∧ ((m.2 82) w) ≤ 4000 by omega) (fun h => absurd h (by omega))) (fun r835 k836 => ?_)
      obtain ⟨y837, y839, g838, g840, h841, c842, rfl⟩ := k836
      refine ⟨_, _, rfl, ?_⟩
      refine T_nf (st' := []) (l' := [(10, y837), (11, y839), (28, (m.1 28)), (69, (m.1 69)), (70, (m.1 70)), (71, (m.1 71)), (72, (m.1 72))]) (a' := [(65, (m.2 65)), (66, (m.2 66)), (67, (m.2 67)), (68, (m.2 68)), (80, (m.2 80))]) rfl rfl rfl rfl rfl ?_
      replace h841 : y837 = 0 → (m.1 10) = 0 := h841
      have hf843 : 1 ≤ y837 := by omega
      clear c842
      clear h841
      clear g741a g741b h742
      refine T_ld 107 (.ref 189) rfl (fun _ => rfl) ?_
      refine T_gf 111 (.int (i32 (m.1 69))) rfl rfl rfl rfl rfl rfl ?_
      refine T_gf 115 (.int (i32 (m.1 71))) rfl rfl rfl rfl rfl rfl ?_
      refine T_gf 119 (.long (i64 (m.1 72))) rfl rfl rfl rfl rfl rfl ?_
      refine T_gf 123 (.int (i32 (m.1 70))) rfl rfl rfl rfl rfl rfl ?_
      refine T_call 126 258 [.ref 189, .int (i32 (m.1 69)), .int (i32 (m.1 71)), .long (i64 (m.1 72)), .int (i32 (m.1 70))] [] rfl (fun _ => rfl) rfl (c_wantBit w (mO m [(10, y837), (11, y839), (28, (m.1 28)), (69, (m.1 69)), (70, (m.1 70)), (71, (m.1 71)), (72, (m.1 72))] [(65, (m.2 65)), (66, (m.2 66)), (67, (m.2 67)), (68, (m.2 68)), (80, (m.2 80))]) c N D (by omega) (Ty_mO hT rfl rfl ⟨g838, g840, f28, f69, f70, f71, f72, trivial⟩ ⟨(hT.2.1 65), (hT.2.1 66), (hT.2.1 67), (hT.2.1 68), (hT.2.1 80), trivial⟩) (m.1 69) (m.1 71) (m.1 72) (m.1 70) (r32 (by omega) (by omega)) (r32 (by omega) (by omega)) (r64 (by omega) (by omega)) (r32 (by omega) (by omega)) (show 0 ≤ (m.1 70) ∧ (m.1 70) ≤ 4000 by omega) (fun h => absurd h (by omega))) (fun r844 k845 => ?_)
      obtain ⟨y846, y848, g847, g849, h850, c851, rfl⟩ := k845
      refine ⟨_, _, rfl, ?_⟩
      refine T_nf (st' := []) (l' := [(10, y846), (11, y848), (28, (m.1 28)), (69, (m.1 69)), (70, (m.1 70)), (71, (m.1 71)), (72, (m.1 72))]) (a' := [(65, (m.2 65)), (66, (m.2 66)), (67, (m.2 67)), (68, (m.2 68)), (80, (m.2 80))]) rfl rfl rfl rfl rfl ?_
      replace h850 : y846 = 0 → y837 = 0 := h850
      have hf852 : 1 ≤ y846 := by omega
      clear c851
      clear h850
      clear g838 g840 hf843
      refine T_ld 127 (.int (i32 1)) rfl (fun _ => rfl) ?_
      refine T_sto 128 [(2, .int (i32 1)), (5, .int (i32 (m.1 69))), (4, .int (i32 ((m.2 80) w))), (3, .int (i32 ((m.2 82) w))), (0, .ref 189), (1, .int (i32 w))] rfl (fun _ => rfl) ?_
      refine T_goto 261 rfl (fun _ => rfl) ?_
      refine Tm_lv (a := [(0, .ref 189), (1, .int (i32 w)), (2, .int (i32 1)), (3, .int (i32 ((m.2 82) w))), (4, .int (i32 ((m.2 80) w))), (5, .int (i32 (m.1 69)))]) rfl rfl ⟨rfl, rfl, rfl, rfl, rfl, rfl, trivial⟩ ?_
      exact J261_746 1 y846 y848 ⟨by decide, by decide⟩ g847 g849 (by omega) (fun h => absurd h (by omega))
    have T207_853 : TT w D pm_260 (207, [(5, .int (i32 (m.1 69))), (4, .int (i32 ((m.2 80) w))), (3, .int (i32 ((m.2 82) w))), (2, .int (i32 ((m.2 81) w))), (0, .ref 189), (1, .int (i32 w))], [], (mhp (mO m [(10, (m.1 10)), (11, (m.1 11)), (28, (m.1 28)), (69, (m.1 69)), (70, (m.1 70)), (71, (m.1 71)), (72, (m.1 72))] [(65, (m.2 65)), (66, (m.2 66)), (67, (m.2 67)), (68, (m.2 68)), (80, (m.2 80))]) c, N), 0, 0) (Q_join m c N w B) := by
      refine T_ld 208 (.ref 189) rfl (fun _ => rfl) ?_
      refine T_ld 209 (.int (i32 ((m.2 81) w))) rfl (fun _ => rfl) ?_
      refine T_gf 213 (.ref 245) rfl rfl rfl rfl rfl rfl ?_
      refine T_ld 214 (.int (i32 w)) rfl (fun _ => rfl) ?_
      refine T_bald 215 83 (m.2 83) rfl rfl rfl (by omega) (show w < (540 : Int) by omega) rfl ?_
      have e854 : 0 ≤ m.2 83 w ∧ m.2 83 w ≤ 1 := hT.2.1 83 w
      refine T_gf 219 (.ref 246) rfl rfl rfl rfl rfl rfl ?_
      refine T_ld 220 (.int (i32 w)) rfl (fun _ => rfl) ?_
      refine T_lald 221 84 (m.2 84) rfl rfl rfl (by omega) (show w < (540 : Int) by omega) rfl ?_
      have e855 : (-9223372036854775808) ≤ m.2 84 w ∧ m.2 84 w ≤ 9223372036854775807 := hT.2.1 84 w
      refine T_ld 222 (.int (i32 ((m.2 82) w))) rfl (fun _ => rfl) ?_
      refine T_gf 226 (.int (i32 (m.1 69))) rfl rfl rfl rfl rfl rfl ?_
      refine T_gf 230 (.int (i32 (m.1 71))) rfl rfl rfl rfl rfl rfl ?_
      refine T_gf 234 (.long (i64 (m.1 72))) rfl rfl rfl rfl rfl rfl ?_
      refine T_gf 238 (.int (i32 (m.1 70))) rfl rfl rfl rfl rfl rfl ?_
      refine T_call 241 261 [.ref 189, .int (i32 ((m.2 81) w)), .int (i32 ((m.2 83) w)), .long (i64 ((m.2 84) w)), .int (i32 ((m.2 82) w)), .int (i32 (m.1 69)), .int (i32 (m.1 71)), .long (i64 (m.1 72)), .int (i32 (m.1 70))] [] rfl (fun _ => rfl) rfl (c_common w (mO m [(10, (m.1 10)), (11, (m.1 11)), (28, (m.1 28)), (69, (m.1 69)), (70, (m.1 70)), (71, (m.1 71)), (72, (m.1 72))] [(65, (m.2 65)), (66, (m.2 66)), (67, (m.2 67)), (68, (m.2 68)), (80, (m.2 80))]) c N D (by omega) (Ty_mO hT rfl rfl ⟨f10, f11, f28, f69, f70, f71, f72, trivial⟩ ⟨(hT.2.1 65), (hT.2.1 66), (hT.2.1 67), (hT.2.1 68), (hT.2.1 80), trivial⟩) ((m.2 81) w) ((m.2 83) w) ((m.2 84) w) ((m.2 82) w) (m.1 69) (m.1 71) (m.1 72) (m.1 70) (r32 (by omega) (by omega)) (r32 (by omega) (by omega)) (r64 (by omega) (by omega)) (r32 (by omega) (by omega)) (r32 (by omega) (by omega)) (r32 (by omega) (by omega)) (r64 (by omega) (by omega)) (r32 (by omega) (by omega)) (show 0 ≤ ((m.2 82) w) ∧ ((m.2 82) w) ≤ 4000 by omega) (show 0 ≤ (m.1 70) ∧ (m.1 70) ≤ 4000 by omega) (show 0 ≤ ((m.2 81) w) ∧ ((m.2 81) w) ≤ 1024 by omega) (show 0 ≤ (m.1 69) ∧ (m.1 69) ≤ 1024 by omega) (fun h => absurd h (by omega))) (fun r856 k857 => ?_)
      obtain ⟨y858, y860, x862, g859, g861, g863, h864, h865, c866, rfl⟩ := k857
      refine ⟨_, _, rfl, ?_⟩
      refine T_nf (st' := [.int (i32 x862)]) (l' := [(10, y858), (11, y860), (28, (m.1 28)), (69, (m.1 69)), (70, (m.1 70)), (71, (m.1 71)), (72, (m.1 72))]) (a' := [(65, (m.2 65)), (66, (m.2 66)), (67, (m.2 67)), (68, (m.2 68)), (80, (m.2 80))]) rfl rfl rfl rfl rfl ?_
      obtain ⟨g863a, g863b⟩ := g863
      replace h864 : y858 = 0 → (m.1 10) = 0 := h864
      replace h865 : x862 = 64 ∨ x862 = ((m.2 81) w) ∨ x862 = (m.1 69) := h865
      have hf867 : 1 ≤ y858 := by omega
      clear c866
      clear h864
      clear g741a g741b h742
      refine T_sto 242 [(2, .int (i32 x862)), (5, .int (i32 (m.1 69))), (4, .int (i32 ((m.2 80) w))), (3, .int (i32 ((m.2 82) w))), (0, .ref 189), (1, .int (i32 w))] rfl (fun _ => rfl) ?_
      refine T_gf 246 (.ref 242) rfl rfl rfl rfl rfl rfl ?_
      refine T_ld 247 (.int (i32 w)) rfl (fun _ => rfl) ?_
      refine T_iald 248 80 (m.2 80) rfl rfl rfl (by omega) (show w < (540 : Int) by omega) rfl ?_
      have e868 : (-1) ≤ (m.2 80) w ∧ (m.2 80) w ≤ 330 := (hT.2.1 80) w
      refine T_call 251 259 [.int (i32 ((m.2 80) w))] [] rfl (fun _ => rfl) rfl (c_level w (mO m [(10, y858), (11, y860), (28, (m.1 28)), (69, (m.1 69)), (70, (m.1 70)), (71, (m.1 71)), (72, (m.1 72))] [(65, (m.2 65)), (66, (m.2 66)), (67, (m.2 67)), (68, (m.2 68)), (80, (m.2 80))]) c N D (by omega) (Ty_mO hT rfl rfl ⟨g859, g861, f28, f69, f70, f71, f72, trivial⟩ ⟨(hT.2.1 65), (hT.2.1 66), (hT.2.1 67), (hT.2.1 68), (hT.2.1 80), trivial⟩) ((m.2 80) w) (r32 (by omega) (by omega))) (fun r869 k870 => ?_)
      obtain ⟨x871, g872, h873, rfl⟩ := k870
      refine ⟨_, _, rfl, ?_⟩
      refine T_nf (st' := [.int (i32 x871)]) (l' := [(10, y858), (11, y860), (28, (m.1 28)), (69, (m.1 69)), (70, (m.1 70)), (71, (m.1 71)), (72, (m.1 72))]) (a' := [(65, (m.2 65)), (66, (m.2 66)), (67, (m.2 67)), (68, (m.2 68)), (80, (m.2 80))]) rfl rfl rfl rfl rfl ?_
      obtain ⟨g872a, g872b⟩ := g872
      replace h873 : 0 ≤ x871 → 4 ≤ ((m.2 80) w) ∧ ((m.2 80) w) ≤ 124 := h873
      refine T_ld 252 (.int (i32 2)) rfl (fun _ => rfl) ?_
      refine T_icmp 259 255 rfl rfl rfl (r32 (by omega) (by omega)) ⟨by decide, by decide⟩ (fun (h874 : x871 ≠ 2) => ?_) (fun (h874 : ¬ (x871 ≠ 2)) => ?_)
      · skip
        refine T_ld 260 (.int (i32 x862)) rfl (fun _ => rfl) ?_
        refine T_sto 261 [(2, .int (i32 x862)), (5, .int (i32 (m.1 69))), (4, .int (i32 ((m.2 80) w))), (3, .int (i32 ((m.2 82) w))), (0, .ref 189), (1, .int (i32 w))] rfl (fun _ => rfl) ?_
        refine Tm_lv (a := [(0, .ref 189), (1, .int (i32 w)), (2, .int (i32 x862)), (3, .int (i32 ((m.2 82) w))), (4, .int (i32 ((m.2 80) w))), (5, .int (i32 (m.1 69)))]) rfl rfl ⟨rfl, rfl, rfl, rfl, rfl, rfl, trivial⟩ ?_
        exact J261_746 x862 y858 y860 (r32 (by omega) (by omega)) g859 g861 (by omega) (fun h => absurd h (by omega))
      · skip
        refine T_ld 256 (.int (i32 1)) rfl (fun _ => rfl) ?_
        refine T_goto 260 rfl (fun _ => rfl) ?_
        refine T_sto 261 [(2, .int (i32 1)), (5, .int (i32 (m.1 69))), (4, .int (i32 ((m.2 80) w))), (3, .int (i32 ((m.2 82) w))), (0, .ref 189), (1, .int (i32 w))] rfl (fun _ => rfl) ?_
        refine Tm_lv (a := [(0, .ref 189), (1, .int (i32 w)), (2, .int (i32 1)), (3, .int (i32 ((m.2 82) w))), (4, .int (i32 ((m.2 80) w))), (5, .int (i32 (m.1 69)))]) rfl rfl ⟨rfl, rfl, rfl, rfl, rfl, rfl, trivial⟩ ?_
        exact J261_746 1 y858 y860 ⟨by decide, by decide⟩ g859 g861 (by omega) (fun h => absurd h (by omega))
    by_cases h875 : x740 = 0
    · skip
      refine T_cast 0 h875 ?_
      refine T_pop 88 rfl (fun _ => rfl) ?_
      exact T88_832
    by_cases h876 : x740 = 1
    · skip
      refine T_cast 1 h876 ?_
      refine T_pop 88 rfl (fun _ => rfl) ?_
      exact T88_832
    by_cases h877 : x740 = 6
    · skip
      refine T_cast 6 h877 ?_
      refine T_pop 131 rfl (fun _ => rfl) ?_
      refine T_goto 261 rfl (fun _ => rfl) ?_
      refine Tm_lv (a := [(0, .ref 189), (1, .int (i32 w)), (2, .int (i32 ((m.2 81) w))), (3, .int (i32 ((m.2 82) w))), (4, .int (i32 ((m.2 80) w))), (5, .int (i32 (m.1 69)))]) rfl rfl ⟨rfl, rfl, rfl, rfl, rfl, rfl, trivial⟩ ?_
      exact J261_746 ((m.2 81) w) (m.1 10) (m.1 11) (r32 (by omega) (by omega)) f10 f11 (by omega) (fun h => absurd h (by omega))
    by_cases h878 : x740 = 8
    · skip
      refine T_cast 8 h878 ?_
      refine T_pop 134 rfl (fun _ => rfl) ?_
      refine T_ld 135 (.ref 189) rfl (fun _ => rfl) ?_
      refine T_gf 139 (.ref 245) rfl rfl rfl rfl rfl rfl ?_
      refine T_ld 140 (.int (i32 w)) rfl (fun _ => rfl) ?_
      refine T_bald 141 83 (m.2 83) rfl rfl rfl (by omega) (show w < (540 : Int) by omega) rfl ?_
      have e879 : 0 ≤ m.2 83 w ∧ m.2 83 w ≤ 1 := hT.2.1 83 w
      refine T_if 148 144 rfl rfl rfl (r32 (by omega) (by omega)) (fun (h880 : (m.2 83) w ≠ 0) => ?_) (fun (h880 : ¬ ((m.2 83) w ≠ 0)) => ?_)
      · skip
        refine T_ld 149 (.int (i32 0)) rfl (fun _ => rfl) ?_
        refine T_ld 150 (.int (i32 ((m.2 82) w))) rfl (fun _ => rfl) ?_
        refine T_call 153 256 [.ref 189, .int (i32 0), .int (i32 ((m.2 82) w))] [] rfl (fun _ => rfl) rfl (c_want w (mO m [(10, (m.1 10)), (11, (m.1 11)), (28, (m.1 28)), (69, (m.1 69)), (70, (m.1 70)), (71, (m.1 71)), (72, (m.1 72))] [(65, (m.2 65)), (66, (m.2 66)), (67, (m.2 67)), (68, (m.2 68)), (80, (m.2 80))]) c N D (by omega) (Ty_mO hT rfl rfl ⟨f10, f11, f28, f69, f70, f71, f72, trivial⟩ ⟨(hT.2.1 65), (hT.2.1 66), (hT.2.1 67), (hT.2.1 68), (hT.2.1 80), trivial⟩) 0 ((m.2 82) w) ⟨by decide, by decide⟩ (r32 (by omega) (by omega)) (show 0 ≤ ((m.2 82) w) ∧ ((m.2 82) w) ≤ 4000 by omega) (fun h => absurd h (by omega))) (fun r881 k882 => ?_)
        obtain ⟨y883, y885, g884, g886, h887, c888, rfl⟩ := k882
        refine ⟨_, _, rfl, ?_⟩
        refine T_nf (st' := []) (l' := [(10, y883), (11, y885), (28, (m.1 28)), (69, (m.1 69)), (70, (m.1 70)), (71, (m.1 71)), (72, (m.1 72))]) (a' := [(65, (m.2 65)), (66, (m.2 66)), (67, (m.2 67)), (68, (m.2 68)), (80, (m.2 80))]) rfl rfl rfl rfl rfl ?_
        replace h887 : y883 = 0 → (m.1 10) = 0 := h887
        have hf889 : 1 ≤ y883 := by omega
        clear c888
        clear h887
        clear g741a g741b h742
        refine T_ld 154 (.ref 189) rfl (fun _ => rfl) ?_
        refine T_gf 158 (.int (i32 (m.1 71))) rfl rfl rfl rfl rfl rfl ?_
        refine T_if 165 161 rfl rfl rfl (r32 (by omega) (by omega)) (fun (h890 : (m.1 71) ≠ 0) => ?_) (fun (h890 : ¬ ((m.1 71) ≠ 0)) => ?_)
        · skip
          refine T_ld 166 (.int (i32 0)) rfl (fun _ => rfl) ?_
          refine T_gf 170 (.int (i32 (m.1 70))) rfl rfl rfl rfl rfl rfl ?_
          refine T_call 173 256 [.ref 189, .int (i32 0), .int (i32 (m.1 70))] [] rfl (fun _ => rfl) rfl (c_want w (mO m [(10, y883), (11, y885), (28, (m.1 28)), (69, (m.1 69)), (70, (m.1 70)), (71, (m.1 71)), (72, (m.1 72))] [(65, (m.2 65)), (66, (m.2 66)), (67, (m.2 67)), (68, (m.2 68)), (80, (m.2 80))]) c N D (by omega) (Ty_mO hT rfl rfl ⟨g884, g886, f28, f69, f70, f71, f72, trivial⟩ ⟨(hT.2.1 65), (hT.2.1 66), (hT.2.1 67), (hT.2.1 68), (hT.2.1 80), trivial⟩) 0 (m.1 70) ⟨by decide, by decide⟩ (r32 (by omega) (by omega)) (show 0 ≤ (m.1 70) ∧ (m.1 70) ≤ 4000 by omega) (fun h => absurd h (by omega))) (fun r891 k892 => ?_)
          obtain ⟨y893, y895, g894, g896, h897, c898, rfl⟩ := k892
          refine ⟨_, _, rfl, ?_⟩
          refine T_nf (st' := []) (l' := [(10, y893), (11, y895), (28, (m.1 28)), (69, (m.1 69)), (70, (m.1 70)), (71, (m.1 71)), (72, (m.1 72))]) (a' := [(65, (m.2 65)), (66, (m.2 66)), (67, (m.2 67)), (68, (m.2 68)), (80, (m.2 80))]) rfl rfl rfl rfl rfl ?_
          replace h897 : y893 = 0 → y883 = 0 := h897
          have hf899 : 1 ≤ y893 := by omega
          clear c898
          clear h897
          clear g884 g886 hf889
          refine T_ld 174 (.ref 189) rfl (fun _ => rfl) ?_
          refine T_ld 175 (.int (i32 ((m.2 81) w))) rfl (fun _ => rfl) ?_
          refine T_gf 179 (.int (i32 (m.1 69))) rfl rfl rfl rfl rfl rfl ?_
          refine T_iadd 180 rfl rfl ?_
          refine T_ld 182 (.int (i32 64)) rfl (fun _ => rfl) ?_
          refine T_icmp 189 185 rfl rfl rfl (r32 (by omega) (by omega)) ⟨by decide, by decide⟩ (fun (h900 : (64 : Int) < ((m.2 81) w) + (m.1 69)) => ?_) (fun (h900 : ¬ ((64 : Int) < ((m.2 81) w) + (m.1 69))) => ?_)
          · skip
            refine T_ld 190 (.int (i32 0)) rfl (fun _ => rfl) ?_
            refine T_gf 194 (.int (i32 (m.1 70))) rfl rfl rfl rfl rfl rfl ?_
            refine T_call 197 256 [.ref 189, .int (i32 0), .int (i32 (m.1 70))] [] rfl (fun _ => rfl) rfl (c_want w (mO m [(10, y893), (11, y895), (28, (m.1 28)), (69, (m.1 69)), (70, (m.1 70)), (71, (m.1 71)), (72, (m.1 72))] [(65, (m.2 65)), (66, (m.2 66)), (67, (m.2 67)), (68, (m.2 68)), (80, (m.2 80))]) c N D (by omega) (Ty_mO hT rfl rfl ⟨g894, g896, f28, f69, f70, f71, f72, trivial⟩ ⟨(hT.2.1 65), (hT.2.1 66), (hT.2.1 67), (hT.2.1 68), (hT.2.1 80), trivial⟩) 0 (m.1 70) ⟨by decide, by decide⟩ (r32 (by omega) (by omega)) (show 0 ≤ (m.1 70) ∧ (m.1 70) ≤ 4000 by omega) (fun h => absurd h (by omega))) (fun r901 k902 => ?_)
            obtain ⟨y903, y905, g904, g906, h907, c908, rfl⟩ := k902
            refine ⟨_, _, rfl, ?_⟩
            refine T_nf (st' := []) (l' := [(10, y903), (11, y905), (28, (m.1 28)), (69, (m.1 69)), (70, (m.1 70)), (71, (m.1 71)), (72, (m.1 72))]) (a' := [(65, (m.2 65)), (66, (m.2 66)), (67, (m.2 67)), (68, (m.2 68)), (80, (m.2 80))]) rfl rfl rfl rfl rfl ?_
            replace h907 : y903 = 0 → y893 = 0 := h907
            have hf909 : 1 ≤ y903 := by omega
            clear c908
            clear h907
            clear g894 g896 hf899
            refine T_ld 198 (.int (i32 ((m.2 81) w))) rfl (fun _ => rfl) ?_
            refine T_gf 202 (.int (i32 (m.1 69))) rfl rfl rfl rfl rfl rfl ?_
            refine T_iadd 203 rfl rfl ?_
            refine T_sto 204 [(2, .int (i32 (((m.2 81) w) + (m.1 69)))), (5, .int (i32 (m.1 69))), (4, .int (i32 ((m.2 80) w))), (3, .int (i32 ((m.2 82) w))), (0, .ref 189), (1, .int (i32 w))] rfl (fun _ => rfl) ?_
            refine T_goto 261 rfl (fun _ => rfl) ?_
            refine Tm_lv (a := [(0, .ref 189), (1, .int (i32 w)), (2, .int (i32 (((m.2 81) w) + (m.1 69)))), (3, .int (i32 ((m.2 82) w))), (4, .int (i32 ((m.2 80) w))), (5, .int (i32 (m.1 69)))]) rfl rfl ⟨rfl, rfl, rfl, rfl, rfl, rfl, trivial⟩ ?_
            exact J261_746 (((m.2 81) w) + (m.1 69)) y903 y905 (r32 (by omega) (by omega)) g904 g906 (by omega) (fun h => absurd h (by omega))
          · skip
            refine T_ld 186 (.int (i32 1)) rfl (fun _ => rfl) ?_
            refine T_goto 190 rfl (fun _ => rfl) ?_
            refine T_gf 194 (.int (i32 (m.1 70))) rfl rfl rfl rfl rfl rfl ?_
            refine T_call 197 256 [.ref 189, .int (i32 1), .int (i32 (m.1 70))] [] rfl (fun _ => rfl) rfl (c_want w (mO m [(10, y893), (11, y895), (28, (m.1 28)), (69, (m.1 69)), (70, (m.1 70)), (71, (m.1 71)), (72, (m.1 72))] [(65, (m.2 65)), (66, (m.2 66)), (67, (m.2 67)), (68, (m.2 68)), (80, (m.2 80))]) c N D (by omega) (Ty_mO hT rfl rfl ⟨g894, g896, f28, f69, f70, f71, f72, trivial⟩ ⟨(hT.2.1 65), (hT.2.1 66), (hT.2.1 67), (hT.2.1 68), (hT.2.1 80), trivial⟩) 1 (m.1 70) ⟨by decide, by decide⟩ (r32 (by omega) (by omega)) (show 0 ≤ (m.1 70) ∧ (m.1 70) ≤ 4000 by omega) (fun h => absurd h (by omega))) (fun r910 k911 => ?_)
            obtain ⟨y912, y914, g913, g915, h916, c917, rfl⟩ := k911
            refine ⟨_, _, rfl, ?_⟩
            refine T_nf (st' := []) (l' := [(10, y912), (11, y914), (28, (m.1 28)), (69, (m.1 69)), (70, (m.1 70)), (71, (m.1 71)), (72, (m.1 72))]) (a' := [(65, (m.2 65)), (66, (m.2 66)), (67, (m.2 67)), (68, (m.2 68)), (80, (m.2 80))]) rfl rfl rfl rfl rfl ?_
            replace h916 : y912 = 0 → y893 = 0 := h916
            have hf918 : 1 ≤ y912 := by omega
            clear c917
            clear h916
            clear g894 g896 hf899
            refine T_ld 198 (.int (i32 ((m.2 81) w))) rfl (fun _ => rfl) ?_
            refine T_gf 202 (.int (i32 (m.1 69))) rfl rfl rfl rfl rfl rfl ?_
            refine T_iadd 203 rfl rfl ?_
            refine T_sto 204 [(2, .int (i32 (((m.2 81) w) + (m.1 69)))), (5, .int (i32 (m.1 69))), (4, .int (i32 ((m.2 80) w))), (3, .int (i32 ((m.2 82) w))), (0, .ref 189), (1, .int (i32 w))] rfl (fun _ => rfl) ?_
            refine T_goto 261 rfl (fun _ => rfl) ?_
            refine Tm_lv (a := [(0, .ref 189), (1, .int (i32 w)), (2, .int (i32 (((m.2 81) w) + (m.1 69)))), (3, .int (i32 ((m.2 82) w))), (4, .int (i32 ((m.2 80) w))), (5, .int (i32 (m.1 69)))]) rfl rfl ⟨rfl, rfl, rfl, rfl, rfl, rfl, trivial⟩ ?_
            exact J261_746 (((m.2 81) w) + (m.1 69)) y912 y914 (r32 (by omega) (by omega)) g913 g915 (by omega) (fun h => absurd h (by omega))
        · skip
          refine T_ld 162 (.int (i32 1)) rfl (fun _ => rfl) ?_
          refine T_goto 166 rfl (fun _ => rfl) ?_
          refine T_gf 170 (.int (i32 (m.1 70))) rfl rfl rfl rfl rfl rfl ?_
          refine T_call 173 256 [.ref 189, .int (i32 1), .int (i32 (m.1 70))] [] rfl (fun _ => rfl) rfl (c_want w (mO m [(10, y883), (11, y885), (28, (m.1 28)), (69, (m.1 69)), (70, (m.1 70)), (71, (m.1 71)), (72, (m.1 72))] [(65, (m.2 65)), (66, (m.2 66)), (67, (m.2 67)), (68, (m.2 68)), (80, (m.2 80))]) c N D (by omega) (Ty_mO hT rfl rfl ⟨g884, g886, f28, f69, f70, f71, f72, trivial⟩ ⟨(hT.2.1 65), (hT.2.1 66), (hT.2.1 67), (hT.2.1 68), (hT.2.1 80), trivial⟩) 1 (m.1 70) ⟨by decide, by decide⟩ (r32 (by omega) (by omega)) (show 0 ≤ (m.1 70) ∧ (m.1 70) ≤ 4000 by omega) (fun h => absurd h (by omega))) (fun r919 k920 => ?_)
          obtain ⟨y921, y923, g922, g924, h925, c926, rfl⟩ := k920
          refine ⟨_, _, rfl, ?_⟩
          refine T_nf (st' := []) (l' := [(10, y921), (11, y923), (28, (m.1 28)), (69, (m.1 69)), (70, (m.1 70)), (71, (m.1 71)), (72, (m.1 72))]) (a' := [(65, (m.2 65)), (66, (m.2 66)), (67, (m.2 67)), (68, (m.2 68)), (80, (m.2 80))]) rfl rfl rfl rfl rfl ?_
          replace h925 : y921 = 0 → y883 = 0 := h925
          have hf927 : 1 ≤ y921 := by omega
          clear c926
          clear h925
          clear g884 g886 hf889
          refine T_ld 174 (.ref 189) rfl (fun _ => rfl) ?_
          refine T_ld 175 (.int (i32 ((m.2 81) w))) rfl (fun _ => rfl) ?_
          refine T_gf 179 (.int (i32 (m.1 69))) rfl rfl rfl rfl rfl rfl ?_
          refine T_iadd 180 rfl rfl ?_
          refine T_ld 182 (.int (i32 64)) rfl (fun _ => rfl) ?_
          refine T_icmp 189 185 rfl rfl rfl (r32 (by omega) (by omega)) ⟨by decide, by decide⟩ (fun (h928 : (64 : Int) < ((m.2 81) w) + (m.1 69)) => ?_) (fun (h928 : ¬ ((64 : Int) < ((m.2 81) w) + (m.1 69))) => ?_)
          · skip
            refine T_ld 190 (.int (i32 0)) rfl (fun _ => rfl) ?_
            refine T_gf 194 (.int (i32 (m.1 70))) rfl rfl rfl rfl rfl rfl ?_
            refine T_call 197 256 [.ref 189, .int (i32 0), .int (i32 (m.1 70))] [] rfl (fun _ => rfl) rfl (c_want w (mO m [(10, y921), (11, y923), (28, (m.1 28)), (69, (m.1 69)), (70, (m.1 70)), (71, (m.1 71)), (72, (m.1 72))] [(65, (m.2 65)), (66, (m.2 66)), (67, (m.2 67)), (68, (m.2 68)), (80, (m.2 80))]) c N D (by omega) (Ty_mO hT rfl rfl ⟨g922, g924, f28, f69, f70, f71, f72, trivial⟩ ⟨(hT.2.1 65), (hT.2.1 66), (hT.2.1 67), (hT.2.1 68), (hT.2.1 80), trivial⟩) 0 (m.1 70) ⟨by decide, by decide⟩ (r32 (by omega) (by omega)) (show 0 ≤ (m.1 70) ∧ (m.1 70) ≤ 4000 by omega) (fun h => absurd h (by omega))) (fun r929 k930 => ?_)
            obtain ⟨y931, y933, g932, g934, h935, c936, rfl⟩ := k930
            refine ⟨_, _, rfl, ?_⟩
            refine T_nf (st' := []) (l' := [(10, y931), (11, y933), (28, (m.1 28)), (69, (m.1 69)), (70, (m.1 70)), (71, (m.1 71)), (72, (m.1 72))]) (a' := [(65, (m.2 65)), (66, (m.2 66)), (67, (m.2 67)), (68, (m.2 68)), (80, (m.2 80))]) rfl rfl rfl rfl rfl ?_
            replace h935 : y931 = 0 → y921 = 0 := h935
            have hf937 : 1 ≤ y931 := by omega
            clear c936
            clear h935
            clear g922 g924 hf927
            refine T_ld 198 (.int (i32 ((m.2 81) w))) rfl (fun _ => rfl) ?_
            refine T_gf 202 (.int (i32 (m.1 69))) rfl rfl rfl rfl rfl rfl ?_
            refine T_iadd 203 rfl rfl ?_
            refine T_sto 204 [(2, .int (i32 (((m.2 81) w) + (m.1 69)))), (5, .int (i32 (m.1 69))), (4, .int (i32 ((m.2 80) w))), (3, .int (i32 ((m.2 82) w))), (0, .ref 189), (1, .int (i32 w))] rfl (fun _ => rfl) ?_
            refine T_goto 261 rfl (fun _ => rfl) ?_
            refine Tm_lv (a := [(0, .ref 189), (1, .int (i32 w)), (2, .int (i32 (((m.2 81) w) + (m.1 69)))), (3, .int (i32 ((m.2 82) w))), (4, .int (i32 ((m.2 80) w))), (5, .int (i32 (m.1 69)))]) rfl rfl ⟨rfl, rfl, rfl, rfl, rfl, rfl, trivial⟩ ?_
            exact J261_746 (((m.2 81) w) + (m.1 69)) y931 y933 (r32 (by omega) (by omega)) g932 g934 (by omega) (fun h => absurd h (by omega))
          · skip
            refine T_ld 186 (.int (i32 1)) rfl (fun _ => rfl) ?_
            refine T_goto 190 rfl (fun _ => rfl) ?_
            refine T_gf 194 (.int (i32 (m.1 70))) rfl rfl rfl rfl rfl rfl ?_
            refine T_call 197 256 [.ref 189, .int (i32 1), .int (i32 (m.1 70))] [] rfl (fun _ => rfl) rfl (c_want w (mO m [(10, y921), (11, y923), (28, (m.1 28)), (69, (m.1 69)), (70, (m.1 70)), (71, (m.1 71)), (72, (m.1 72))] [(65, (m.2 65)), (66, (m.2 66)), (67, (m.2 67)), (68, (m.2 68)), (80, (m.2 80))]) c N D (by omega) (Ty_mO hT rfl rfl ⟨g922, g924, f28, f69, f70, f71, f72, trivial⟩ ⟨(hT.2.1 65), (hT.2.1 66), (hT.2.1 67), (hT.2.1 68), (hT.2.1 80), trivial⟩) 1 (m.1 70) ⟨by decide, by decide⟩ (r32 (by omega) (by omega)) (show 0 ≤ (m.1 70) ∧ (m.1 70) ≤ 4000 by omega) (fun h => absurd h (by omega))) (fun r938 k939 => ?_)
            obtain ⟨y940, y942, g941, g943, h944, c945, rfl⟩ := k939
            refine ⟨_, _, rfl, ?_⟩
            refine T_nf (st' := []) (l' := [(10, y940), (11, y942), (28, (m.1 28)), (69, (m.1 69)), (70, (m.1 70)), (71, (m.1 71)), (72, (m.1 72))]) (a' := [(65, (m.2 65)), (66, (m.2 66)), (67, (m.2 67)), (68, (m.2 68)), (80, (m.2 80))]) rfl rfl rfl rfl rfl ?_
            replace h944 : y940 = 0 → y921 = 0 := h944
            have hf946 : 1 ≤ y940 := by omega
            clear c945
            clear h944
            clear g922 g924 hf927
            refine T_ld 198 (.int (i32 ((m.2 81) w))) rfl (fun _ => rfl) ?_
            refine T_gf 202 (.int (i32 (m.1 69))) rfl rfl rfl rfl rfl rfl ?_
            refine T_iadd 203 rfl rfl ?_
            refine T_sto 204 [(2, .int (i32 (((m.2 81) w) + (m.1 69)))), (5, .int (i32 (m.1 69))), (4, .int (i32 ((m.2 80) w))), (3, .int (i32 ((m.2 82) w))), (0, .ref 189), (1, .int (i32 w))] rfl (fun _ => rfl) ?_
            refine T_goto 261 rfl (fun _ => rfl) ?_
            refine Tm_lv (a := [(0, .ref 189), (1, .int (i32 w)), (2, .int (i32 (((m.2 81) w) + (m.1 69)))), (3, .int (i32 ((m.2 82) w))), (4, .int (i32 ((m.2 80) w))), (5, .int (i32 (m.1 69)))]) rfl rfl ⟨rfl, rfl, rfl, rfl, rfl, rfl, trivial⟩ ?_
            exact J261_746 (((m.2 81) w) + (m.1 69)) y940 y942 (r32 (by omega) (by omega)) g941 g943 (by omega) (fun h => absurd h (by omega))
      · skip
        refine T_ld 145 (.int (i32 1)) rfl (fun _ => rfl) ?_
        refine T_goto 149 rfl (fun _ => rfl) ?_
        refine T_ld 150 (.int (i32 ((m.2 82) w))) rfl (fun _ => rfl) ?_
        refine T_call 153 256 [.ref 189, .int (i32 1), .int (i32 ((m.2 82) w))] [] rfl (fun _ => rfl) rfl (c_want w (mO m [(10, (m.1 10)), (11, (m.1 11)), (28, (m.1 28)), (69, (m.1 69)), (70, (m.1 70)), (71, (m.1 71)), (72, (m.1 72))] [(65, (m.2 65)), (66, (m.2 66)), (67, (m.2 67)), (68, (m.2 68)), (80, (m.2 80))]) c N D (by omega) (Ty_mO hT rfl rfl ⟨f10, f11, f28, f69, f70, f71, f72, trivial⟩ ⟨(hT.2.1 65), (hT.2.1 66), (hT.2.1 67), (hT.2.1 68), (hT.2.1 80), trivial⟩) 1 ((m.2 82) w) ⟨by decide, by decide⟩ (r32 (by omega) (by omega)) (show 0 ≤ ((m.2 82) w) ∧ ((m.2 82) w) ≤ 4000 by omega) (fun h => absurd h (by omega))) (fun r947 k948 => ?_)
        obtain ⟨y949, y951, g950, g952, h953, c954, rfl⟩ := k948
        refine ⟨_, _, rfl, ?_⟩
        refine T_nf (st' := []) (l' := [(10, y949), (11, y951), (28, (m.1 28)), (69, (m.1 69)), (70, (m.1 70)), (71, (m.1 71)), (72, (m.1 72))]) (a' := [(65, (m.2 65)), (66, (m.2 66)), (67, (m.2 67)), (68, (m.2 68)), (80, (m.2 80))]) rfl rfl rfl rfl rfl ?_
        replace h953 : y949 = 0 → (m.1 10) = 0 := h953
        have hf955 : 1 ≤ y949 := by omega
        clear c954
        clear h953
        clear g741a g741b h742
        refine T_ld 154 (.ref 189) rfl (fun _ => rfl) ?_
        refine T_gf 158 (.int (i32 (m.1 71))) rfl rfl rfl rfl rfl rfl ?_
        refine T_if 165 161 rfl rfl rfl (r32 (by omega) (by omega)) (fun (h956 : (m.1 71) ≠ 0) => ?_) (fun (h956 : ¬ ((m.1 71) ≠ 0)) => ?_)
        · skip
          refine T_ld 166 (.int (i32 0)) rfl (fun _ => rfl) ?_
          refine T_gf 170 (.int (i32 (m.1 70))) rfl rfl rfl rfl rfl rfl ?_
          refine T_call 173 256 [.ref 189, .int (i32 0), .int (i32 (m.1 70))] [] rfl (fun _ => rfl) rfl (c_want w (mO m [(10, y949), (11, y951), (28, (m.1 28)), (69, (m.1 69)), (70, (m.1 70)), (71, (m.1 71)), (72, (m.1 72))] [(65, (m.2 65)), (66, (m.2 66)), (67, (m.2 67)), (68, (m.2 68)), (80, (m.2 80))]) c N D (by omega) (Ty_mO hT rfl rfl ⟨g950, g952, f28, f69, f70, f71, f72, trivial⟩ ⟨(hT.2.1 65), (hT.2.1 66), (hT.2.1 67), (hT.2.1 68), (hT.2.1 80), trivial⟩) 0 (m.1 70) ⟨by decide, by decide⟩ (r32 (by omega) (by omega)) (show 0 ≤ (m.1 70) ∧ (m.1 70) ≤ 4000 by omega) (fun h => absurd h (by omega))) (fun r957 k958 => ?_)
          obtain ⟨y959, y961, g960, g962, h963, c964, rfl⟩ := k958
          refine ⟨_, _, rfl, ?_⟩
          refine T_nf (st' := []) (l' := [(10, y959), (11, y961), (28, (m.1 28)), (69, (m.1 69)), (70, (m.1 70)), (71, (m.1 71)), (72, (m.1 72))]) (a' := [(65, (m.2 65)), (66, (m.2 66)), (67, (m.2 67)), (68, (m.2 68)), (80, (m.2 80))]) rfl rfl rfl rfl rfl ?_
          replace h963 : y959 = 0 → y949 = 0 := h963
          have hf965 : 1 ≤ y959 := by omega
          clear c964
          clear h963
          clear g950 g952 hf955
          refine T_ld 174 (.ref 189) rfl (fun _ => rfl) ?_
          refine T_ld 175 (.int (i32 ((m.2 81) w))) rfl (fun _ => rfl) ?_
          refine T_gf 179 (.int (i32 (m.1 69))) rfl rfl rfl rfl rfl rfl ?_
          refine T_iadd 180 rfl rfl ?_
          refine T_ld 182 (.int (i32 64)) rfl (fun _ => rfl) ?_
          refine T_icmp 189 185 rfl rfl rfl (r32 (by omega) (by omega)) ⟨by decide, by decide⟩ (fun (h966 : (64 : Int) < ((m.2 81) w) + (m.1 69)) => ?_) (fun (h966 : ¬ ((64 : Int) < ((m.2 81) w) + (m.1 69))) => ?_)
          · skip
            refine T_ld 190 (.int (i32 0)) rfl (fun _ => rfl) ?_
            refine T_gf 194 (.int (i32 (m.1 70))) rfl rfl rfl rfl rfl rfl ?_
            refine T_call 197 256 [.ref 189, .int (i32 0), .int (i32 (m.1 70))] [] rfl (fun _ => rfl) rfl (c_want w (mO m [(10, y959), (11, y961), (28, (m.1 28)), (69, (m.1 69)), (70, (m.1 70)), (71, (m.1 71)), (72, (m.1 72))] [(65, (m.2 65)), (66, (m.2 66)), (67, (m.2 67)), (68, (m.2 68)), (80, (m.2 80))]) c N D (by omega) (Ty_mO hT rfl rfl ⟨g960, g962, f28, f69, f70, f71, f72, trivial⟩ ⟨(hT.2.1 65), (hT.2.1 66), (hT.2.1 67), (hT.2.1 68), (hT.2.1 80), trivial⟩) 0 (m.1 70) ⟨by decide, by decide⟩ (r32 (by omega) (by omega)) (show 0 ≤ (m.1 70) ∧ (m.1 70) ≤ 4000 by omega) (fun h => absurd h (by omega))) (fun r967 k968 => ?_)
            obtain ⟨y969, y971, g970, g972, h973, c974, rfl⟩ := k968
            refine ⟨_, _, rfl, ?_⟩
            refine T_nf (st' := []) (l' := [(10, y969), (11, y971), (28, (m.1 28)), (69, (m.1 69)), (70, (m.1 70)), (71, (m.1 71)), (72, (m.1 72))]) (a' := [(65, (m.2 65)), (66, (m.2 66)), (67, (m.2 67)), (68, (m.2 68)), (80, (m.2 80))]) rfl rfl rfl rfl rfl ?_
            replace h973 : y969 = 0 → y959 = 0 := h973
            have hf975 : 1 ≤ y969 := by omega
            clear c974
            clear h973
            clear g960 g962 hf965
            refine T_ld 198 (.int (i32 ((m.2 81) w))) rfl (fun _ => rfl) ?_
            refine T_gf 202 (.int (i32 (m.1 69))) rfl rfl rfl rfl rfl rfl ?_
            refine T_iadd 203 rfl rfl ?_
            refine T_sto 204 [(2, .int (i32 (((m.2 81) w) + (m.1 69)))), (5, .int (i32 (m.1 69))), (4, .int (i32 ((m.2 80) w))), (3, .int (i32 ((m.2 82) w))), (0, .ref 189), (1, .int (i32 w))] rfl (fun _ => rfl) ?_
            refine T_goto 261 rfl (fun _ => rfl) ?_
            refine Tm_lv (a := [(0, .ref 189), (1, .int (i32 w)), (2, .int (i32 (((m.2 81) w) + (m.1 69)))), (3, .int (i32 ((m.2 82) w))), (4, .int (i32 ((m.2 80) w))), (5, .int (i32 (m.1 69)))]) rfl rfl ⟨rfl, rfl, rfl, rfl, rfl, rfl, trivial⟩ ?_
            exact J261_746 (((m.2 81) w) + (m.1 69)) y969 y971 (r32 (by omega) (by omega)) g970 g972 (by omega) (fun h => absurd h (by omega))
          · skip
            refine T_ld 186 (.int (i32 1)) rfl (fun _ => rfl) ?_
            refine T_goto 190 rfl (fun _ => rfl) ?_
            refine T_gf 194 (.int (i32 (m.1 70))) rfl rfl rfl rfl rfl rfl ?_
            refine T_call 197 256 [.ref 189, .int (i32 1), .int (i32 (m.1 70))] [] rfl (fun _ => rfl) rfl (c_want w (mO m [(10, y959), (11, y961), (28, (m.1 28)), (69, (m.1 69)), (70, (m.1 70)), (71, (m.1 71)), (72, (m.1 72))] [(65, (m.2 65)), (66, (m.2 66)), (67, (m.2 67)), (68, (m.2 68)), (80, (m.2 80))]) c N D (by omega) (Ty_mO hT rfl rfl ⟨g960, g962, f28, f69, f70, f71, f72, trivial⟩ ⟨(hT.2.1 65), (hT.2.1 66), (hT.2.1 67), (hT.2.1 68), (hT.2.1 80), trivial⟩) 1 (m.1 70) ⟨by decide, by decide⟩ (r32 (by omega) (by omega)) (show 0 ≤ (m.1 70) ∧ (m.1 70) ≤ 4000 by omega) (fun h => absurd h (by omega))) (fun r976 k977 => ?_)
            obtain ⟨y978, y980, g979, g981, h982, c983, rfl⟩ := k977
            refine ⟨_, _, rfl, ?_⟩
            refine T_nf (st' := []) (l' := [(10, y978), (11, y980), (28, (m.1 28)), (69, (m.1 69)), (70, (m.1 70)), (71, (m.1 71)), (72, (m.1 72))]) (a' := [(65, (m.2 65)), (66, (m.2 66)), (67, (m.2 67)), (68, (m.2 68)), (80, (m.2 80))]) rfl rfl rfl rfl rfl ?_
            replace h982 : y978 = 0 → y959 = 0 := h982
            have hf984 : 1 ≤ y978 := by omega
            clear c983
            clear h982
            clear g960 g962 hf965
            refine T_ld 198 (.int (i32 ((m.2 81) w))) rfl (fun _ => rfl) ?_
            refine T_gf 202 (.int (i32 (m.1 69))) rfl rfl rfl rfl rfl rfl ?_
            refine T_iadd 203 rfl rfl ?_
            refine T_sto 204 [(2, .int (i32 (((m.2 81) w) + (m.1 69)))), (5, .int (i32 (m.1 69))), (4, .int (i32 ((m.2 80) w))), (3, .int (i32 ((m.2 82) w))), (0, .ref 189), (1, .int (i32 w))] rfl (fun _ => rfl) ?_
            refine T_goto 261 rfl (fun _ => rfl) ?_
            refine Tm_lv (a := [(0, .ref 189), (1, .int (i32 w)), (2, .int (i32 (((m.2 81) w) + (m.1 69)))), (3, .int (i32 ((m.2 82) w))), (4, .int (i32 ((m.2 80) w))), (5, .int (i32 (m.1 69)))]) rfl rfl ⟨rfl, rfl, rfl, rfl, rfl, rfl, trivial⟩ ?_
            exact J261_746 (((m.2 81) w) + (m.1 69)) y978 y980 (r32 (by omega) (by omega)) g979 g981 (by omega) (fun h => absurd h (by omega))
        · skip
          refine T_ld 162 (.int (i32 1)) rfl (fun _ => rfl) ?_
          refine T_goto 166 rfl (fun _ => rfl) ?_
          refine T_gf 170 (.int (i32 (m.1 70))) rfl rfl rfl rfl rfl rfl ?_
          refine T_call 173 256 [.ref 189, .int (i32 1), .int (i32 (m.1 70))] [] rfl (fun _ => rfl) rfl (c_want w (mO m [(10, y949), (11, y951), (28, (m.1 28)), (69, (m.1 69)), (70, (m.1 70)), (71, (m.1 71)), (72, (m.1 72))] [(65, (m.2 65)), (66, (m.2 66)), (67, (m.2 67)), (68, (m.2 68)), (80, (m.2 80))]) c N D (by omega) (Ty_mO hT rfl rfl ⟨g950, g952, f28, f69, f70, f71, f72, trivial⟩ ⟨(hT.2.1 65), (hT.2.1 66), (hT.2.1 67), (hT.2.1 68), (hT.2.1 80), trivial⟩) 1 (m.1 70) ⟨by decide, by decide⟩ (r32 (by omega) (by omega)) (show 0 ≤ (m.1 70) ∧ (m.1 70) ≤ 4000 by omega) (fun h => absurd h (by omega))) (fun r985 k986 => ?_)
          obtain ⟨y987, y989, g988, g990, h991, c992, rfl⟩ := k986
          refine ⟨_, _, rfl, ?_⟩
          refine T_nf (st' := []) (l' := [(10, y987), (11, y989), (28, (m.1 28)), (69, (m.1 69)), (70, (m.1 70)), (71, (m.1 71)), (72, (m.1 72))]) (a' := [(65, (m.2 65)), (66, (m.2 66)), (67, (m.2 67)), (68, (m.2 68)), (80, (m.2 80))]) rfl rfl rfl rfl rfl ?_
          replace h991 : y987 = 0 → y949 = 0 := h991
          have hf993 : 1 ≤ y987 := by omega
          clear c992
          clear h991
          clear g950 g952 hf955
          refine T_ld 174 (.ref 189) rfl (fun _ => rfl) ?_
          refine T_ld 175 (.int (i32 ((m.2 81) w))) rfl (fun _ => rfl) ?_
          refine T_gf 179 (.int (i32 (m.1 69))) rfl rfl rfl rfl rfl rfl ?_
          refine T_iadd 180 rfl rfl ?_
          refine T_ld 182 (.int (i32 64)) rfl (fun _ => rfl) ?_
          refine T_icmp 189 185 rfl rfl rfl (r32 (by omega) (by omega)) ⟨by decide, by decide⟩ (fun (h994 : (64 : Int) < ((m.2 81) w) + (m.1 69)) => ?_) (fun (h994 : ¬ ((64 : Int) < ((m.2 81) w) + (m.1 69))) => ?_)
          · skip
            refine T_ld 190 (.int (i32 0)) rfl (fun _ => rfl) ?_
            refine T_gf 194 (.int (i32 (m.1 70))) rfl rfl rfl rfl rfl rfl ?_
            refine T_call 197 256 [.ref 189, .int (i32 0), .int (i32 (m.1 70))] [] rfl (fun _ => rfl) rfl (c_want w (mO m [(10, y987), (11, y989), (28, (m.1 28)), (69, (m.1 69)), (70, (m.1 70)), (71, (m.1 71)), (72, (m.1 72))] [(65, (m.2 65)), (66, (m.2 66)), (67, (m.2 67)), (68, (m.2 68)), (80, (m.2 80))]) c N D (by omega) (Ty_mO hT rfl rfl ⟨g988, g990, f28, f69, f70, f71, f72, trivial⟩ ⟨(hT.2.1 65), (hT.2.1 66), (hT.2.1 67), (hT.2.1 68), (hT.2.1 80), trivial⟩) 0 (m.1 70) ⟨by decide, by decide⟩ (r32 (by omega) (by omega)) (show 0 ≤ (m.1 70) ∧ (m.1 70) ≤ 4000 by omega) (fun h => absurd h (by omega))) (fun r995 k996 => ?_)
            obtain ⟨y997, y999, g998, g1000, h1001, c1002, rfl⟩ := k996
            refine ⟨_, _, rfl, ?_⟩
            refine T_nf (st' := []) (l' := [(10, y997), (11, y999), (28, (m.1 28)), (69, (m.1 69)), (70, (m.1 70)), (71, (m.1 71)), (72, (m.1 72))]) (a' := [(65, (m.2 65)), (66, (m.2 66)), (67, (m.2 67)), (68, (m.2 68)), (80, (m.2 80))]) rfl rfl rfl rfl rfl ?_
            replace h1001 : y997 = 0 → y987 = 0 := h1001
            have hf1003 : 1 ≤ y997 := by omega
            clear c1002
            clear h1001
            clear g988 g990 hf993
            refine T_ld 198 (.int (i32 ((m.2 81) w))) rfl (fun _ => rfl) ?_
            refine T_gf 202 (.int (i32 (m.1 69))) rfl rfl rfl rfl rfl rfl ?_
            refine T_iadd 203 rfl rfl ?_
            refine T_sto 204 [(2, .int (i32 (((m.2 81) w) + (m.1 69)))), (5, .int (i32 (m.1 69))), (4, .int (i32 ((m.2 80) w))), (3, .int (i32 ((m.2 82) w))), (0, .ref 189), (1, .int (i32 w))] rfl (fun _ => rfl) ?_
            refine T_goto 261 rfl (fun _ => rfl) ?_
            refine Tm_lv (a := [(0, .ref 189), (1, .int (i32 w)), (2, .int (i32 (((m.2 81) w) + (m.1 69)))), (3, .int (i32 ((m.2 82) w))), (4, .int (i32 ((m.2 80) w))), (5, .int (i32 (m.1 69)))]) rfl rfl ⟨rfl, rfl, rfl, rfl, rfl, rfl, trivial⟩ ?_
            exact J261_746 (((m.2 81) w) + (m.1 69)) y997 y999 (r32 (by omega) (by omega)) g998 g1000 (by omega) (fun h => absurd h (by omega))
          · skip
            refine T_ld 186 (.int (i32 1)) rfl (fun _ => rfl) ?_
            refine T_goto 190 rfl (fun _ => rfl) ?_
            refine T_gf 194 (.int (i32 (m.1 70))) rfl rfl rfl rfl rfl rfl ?_
            refine T_call 197 256 [.ref 189, .int (i32 1), .int (i32 (m.1 70))] [] rfl (fun _ => rfl) rfl (c_want w (mO m [(10, y987), (11, y989), (28, (m.1 28)), (69, (m.1 69)), (70, (m.1 70)), (71, (m.1 71)), (72, (m.1 72))] [(65, (m.2 65)), (66, (m.2 66)), (67, (m.2 67)), (68, (m.2 68)), (80, (m.2 80))]) c N D (by omega) (Ty_mO hT rfl rfl ⟨g988, g990, f28, f69, f70, f71, f72, trivial⟩ ⟨(hT.2.1 65), (hT.2.1 66), (hT.2.1 67), (hT.2.1 68), (hT.2.1 80), trivial⟩) 1 (m.1 70) ⟨by decide, by decide⟩ (r32 (by omega) (by omega)) (show 0 ≤ (m.1 70) ∧ (m.1 70) ≤ 4000 by omega) (fun h => absurd h (by omega))) (fun r1004 k1005 => ?_)
            obtain ⟨y1006, y1008, g1007, g1009, h1010, c1011, rfl⟩ := k1005
            refine ⟨_, _, rfl, ?_⟩
            refine T_nf (st' := []) (l' := [(10, y1006), (11, y1008), (28, (m.1 28)), (69, (m.1 69)), (70, (m.1 70)), (71, (m.1 71)), (72, (m.1 72))]) (a' := [(65, (m.2 65)), (66, (m.2 66)), (67, (m.2 67)), (68, (m.2 68)), (80, (m.2 80))]) rfl rfl rfl rfl rfl ?_
            replace h1010 : y1006 = 0 → y987 = 0 := h1010
            have hf1012 : 1 ≤ y1006 := by omega
            clear c1011
            clear h1010
            clear g988 g990 hf993
            refine T_ld 198 (.int (i32 ((m.2 81) w))) rfl (fun _ => rfl) ?_
            refine T_gf 202 (.int (i32 (m.1 69))) rfl rfl rfl rfl rfl rfl ?_
            refine T_iadd 203 rfl rfl ?_
            refine T_sto 204 [(2, .int (i32 (((m.2 81) w) + (m.1 69)))), (5, .int (i32 (m.1 69))), (4, .int (i32 ((m.2 80) w))), (3, .int (i32 ((m.2 82) w))), (0, .ref 189), (1, .int (i32 w))] rfl (fun _ => rfl) ?_
            refine T_goto 261 rfl (fun _ => rfl) ?_
            refine Tm_lv (a := [(0, .ref 189), (1, .int (i32 w)), (2, .int (i32 (((m.2 81) w) + (m.1 69)))), (3, .int (i32 ((m.2 82) w))), (4, .int (i32 ((m.2 80) w))), (5, .int (i32 (m.1 69)))]) rfl rfl ⟨rfl, rfl, rfl, rfl, rfl, rfl, trivial⟩ ?_
            exact J261_746 (((m.2 81) w) + (m.1 69)) y1006 y1008 (r32 (by omega) (by omega)) g1007 g1009 (by omega) (fun h => absurd h (by omega))
    by_cases h1013 : x740 = 2
    · skip
      refine T_cast 2 h1013 ?_
      refine T_pop 207 rfl (fun _ => rfl) ?_
      exact T207_853
    by_cases h1014 : x740 = 3
    · skip
      refine T_cast 3 h1014 ?_
      refine T_pop 207 rfl (fun _ => rfl) ?_
      exact T207_853
    by_cases h1015 : x740 = 4
    · skip
      refine T_cast 4 h1015 ?_
      refine T_pop 207 rfl (fun _ => rfl) ?_
      exact T207_853
    by_cases h1016 : x740 = 5
    · skip
      refine T_cast 5 h1016 ?_
      refine T_pop 207 rfl (fun _ => rfl) ?_
      exact T207_853
    by_cases h1017 : x740 = 7
    · skip
      refine T_cast 7 h1017 ?_
      refine T_pop 207 rfl (fun _ => rfl) ?_
      exact T207_853
    refine T_tsd 207 rfl rfl (r32 (by omega) (by omega)) (by omega) ?_
    exact T207_853
