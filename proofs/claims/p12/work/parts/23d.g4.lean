def Q_takeName (m : mR) (c : Nat → Option am_C) (N : Nat) (p : Int) (B : Int) (h : Int) : ag_Re af_T → Prop := fun R => ∃ (y7 : Int) (y8 : Int) (y9 : Int) (y10 : Int) (y11 : Int) (y12 : Int) (y28 : Int) (y69 : Int) (y70 : Int) (y71 : Int) (y72 : Int) (y75 : Int) (F65 : Int → Int) (F66 : Int → Int) (F67 : Int → Int) (F68 : Int → Int), (0 ≤ y7 ∧ y7 ≤ 330) ∧ (0 ≤ y8 ∧ y8 ≤ 4000) ∧ (0 ≤ y9 ∧ y9 ≤ 4000) ∧ (0 ≤ y10 ∧ y10 ≤ 8) ∧ ((-1) ≤ y11 ∧ y11 ≤ 4000) ∧ ((-9223372036854775808) ≤ y12 ∧ y12 ≤ 9223372036854775807) ∧ (0 ≤ y28 ∧ y28 ≤ 800) ∧ (0 ≤ y69 ∧ y69 ≤ 1024) ∧ (0 ≤ y70 ∧ y70 ≤ 4000) ∧ (0 ≤ y71 ∧ y71 ≤ 1) ∧ ((-9223372036854775808) ≤ y72 ∧ y72 ≤ 9223372036854775807) ∧ (0 ≤ y75 ∧ y75 ≤ 3) ∧ (∀ j, 0 ≤ F65 j ∧ F65 j ≤ 408) ∧ (∀ j, 0 ≤ F66 j ∧ F66 j ≤ 64) ∧ (∀ j, 0 ≤ F67 j ∧ F67 j ≤ 191) ∧ (∀ j, (-9223372036854775808) ≤ F68 j ∧ F68 j ≤ 9223372036854775807) ∧ (y10 = 0 → (m.1 10) = 0) ∧ (LxP y7 y8 y9 (m.1 6) y10) ∧ (y10 = 0 → ((m.1 8) + 1 ≤ y8) ∧ (y75 = 1) ∧ (y69 ≤ 64) ∧ (y28 = (m.1 28) + 1) ∧ (EX F65 F67 B y28 (h + 1)) ∧ (agr (m.2 65) F65 (m.1 28))) ∧ R = (.inl (none), (mhp (mO m [(7, y7), (8, y8), (9, y9), (10, y10), (11, y11), (12, y12), (28, y28), (69, y69), (70, y70), (71, y71), (72, y72), (75, y75)] [(65, F65), (66, F66), (67, F67), (68, F68)]) c, N), 0, 0)
set_option maxHeartbeats 8000000 in
theorem c_takeName (w : wX) (m : mR) (c : Nat → Option am_C) (N D : Nat) (hD : 7 ≤ D) (hT : Ty m) (p : Int) (B : Int) (h : Int) (qp : R32 p) (hLx0 : LxP (m.1 7) (m.1 8) (m.1 9) (m.1 6) (m.1 10)) (hNM0 : ∀ k, (m.2 14) k + (m.2 15) k ≤ 4000) (hFA0 : ∀ k, (m.2 31) k + (m.2 32) k ≤ 4000) (hPA0 : ∀ k, (m.2 47) k + (m.2 48) k ≤ 4000) (p4 : 0 ≤ p ∧ p ≤ 4000) (hf0 : m.1 10 = 0) (hC : (PN (m.1 13) (m.1 19) (m.1 20) (m.1 21) (m.1 22) (m.1 23) (m.1 25) (m.1 26) (m.2 16) (m.2 17)) ∧ ((m.1 7) = 1) ∧ (EX (m.2 65) (m.2 67) B (m.1 28) h) ∧ (0 ≤ h)) : TC w D 251 [.ref 189, .int (i32 p)] (mhp m c, N) (Q_takeName m c N p B h) := by
  obtain ⟨D, rfl⟩ : ∃ k, D = k + 1 := ⟨D - 1, by omega⟩
  obtain ⟨qpa, qpb⟩ := id qp
  have hLx := hLx0
  have hNM := hNM0
  have hFA := hFA0
  have hPA := hPA0
  have f7 : 0 ≤ m.1 7 ∧ m.1 7 ≤ 330 := hT.1 7
  have f8 : 0 ≤ m.1 8 ∧ m.1 8 ≤ 4000 := hT.1 8
  have f9 : 0 ≤ m.1 9 ∧ m.1 9 ≤ 4000 := hT.1 9
  have f10 : 0 ≤ m.1 10 ∧ m.1 10 ≤ 8 := hT.1 10
  have f11 : (-1) ≤ m.1 11 ∧ m.1 11 ≤ 4000 := hT.1 11
  have f12 : (-9223372036854775808) ≤ m.1 12 ∧ m.1 12 ≤ 9223372036854775807 := hT.1 12
  have f28 : 0 ≤ m.1 28 ∧ m.1 28 ≤ 800 := hT.1 28
  have f69 : 0 ≤ m.1 69 ∧ m.1 69 ≤ 1024 := hT.1 69
  have f70 : 0 ≤ m.1 70 ∧ m.1 70 ≤ 4000 := hT.1 70
  have f71 : 0 ≤ m.1 71 ∧ m.1 71 ≤ 1 := hT.1 71
  have f72 : (-9223372036854775808) ≤ m.1 72 ∧ m.1 72 ≤ 9223372036854775807 := hT.1 72
  have f75 : 0 ≤ m.1 75 ∧ m.1 75 ≤ 3 := hT.1 75
  have f25 : 0 ≤ m.1 25 ∧ m.1 25 ≤ 16 := hT.1 25
  have f22 : 0 ≤ m.1 22 ∧ m.1 22 ≤ 8 := hT.1 22
  have f19 : 0 ≤ m.1 19 ∧ m.1 19 ≤ 12 := hT.1 19
  have f20 : 0 ≤ m.1 20 ∧ m.1 20 ≤ 12 := hT.1 20
  have f21 : 0 ≤ m.1 21 ∧ m.1 21 ≤ 16 := hT.1 21
  have f13 : 0 ≤ m.1 13 ∧ m.1 13 ≤ 120 := hT.1 13
  have f6 : 0 ≤ m.1 6 ∧ m.1 6 ≤ 4000 := hT.1 6
  have f23 : 0 ≤ m.1 23 ∧ m.1 23 ≤ 16 := hT.1 23
  have f26 : 0 ≤ m.1 26 ∧ m.1 26 ≤ 8 := hT.1 26
  refine Tc_of rfl ?_
  show TT w D pm_251 (0, [(0, .ref 189), (1, .int (i32 p))], [], (mhp m c, N), 0, 0) (Q_takeName m c N p B h)
  rw [show (mhp m c, N) = (mhp (mO m [(7, (m.1 7)), (8, (m.1 8)), (9, (m.1 9)), (10, (m.1 10)), (11, (m.1 11)), (12, (m.1 12)), (28, (m.1 28)), (69, (m.1 69)), (70, (m.1 70)), (71, (m.1 71)), (72, (m.1 72)), (75, (m.1 75))] [(65, (m.2 65)), (66, (m.2 66)), (67, (m.2 67)), (68, (m.2 68))]) c, N) from congrArg (fun M => (mhp M c, N)) (mO_pad m [7, 8, 9, 10, 11, 12, 28, 69, 70, 71, 72, 75] [65, 66, 67, 68])]
  obtain ⟨pPN, c1, hEX, c2⟩ := hC
  have J150_172 : ∀ (v151 : Int) (v152 : Int) (v153 : Int) (v154 : Int) (v155 : Int) (y156 : Int) (y157 : Int) (y158 : Int) (y159 : Int) (y160 : Int) (y161 : Int) (y162 : Int) (y163 : Int) (y164 : Int) (y165 : Int) (y166 : Int) (y167 : Int) (F168 : Int → Int) (F169 : Int → Int) (F170 : Int → Int) (F171 : Int → Int), (R32 v151) → (R32 v152) → (R32 v153) → (R32 v154) → (R32 v155) → (0 ≤ y156 ∧ y156 ≤ 330) → (0 ≤ y157 ∧ y157 ≤ 4000) → (0 ≤ y158 ∧ y158 ≤ 4000) → (0 ≤ y159 ∧ y159 ≤ 8) → ((-1) ≤ y160 ∧ y160 ≤ 4000) → ((-9223372036854775808) ≤ y161 ∧ y161 ≤ 9223372036854775807) → (0 ≤ y162 ∧ y162 ≤ 800) → (0 ≤ y163 ∧ y163 ≤ 1024) → (0 ≤ y164 ∧ y164 ≤ 4000) → (0 ≤ y165 ∧ y165 ≤ 1) → ((-9223372036854775808) ≤ y166 ∧ y166 ≤ 9223372036854775807) → (0 ≤ y167 ∧ y167 ≤ 3) → (∀ j, 0 ≤ F168 j ∧ F168 j ≤ 408) → (∀ j, 0 ≤ F169 j ∧ F169 j ≤ 64) → (∀ j, 0 ≤ F170 j ∧ F170 j ≤ 191) → (∀ j, (-9223372036854775808) ≤ F171 j ∧ F171 j ≤ 9223372036854775807) → ((-2147483648) ≤ v151) → (v151 ≤ 2147483647) → (0 ≤ v153) → (v153 ≤ 64) → (401 ≤ v154) → (v154 ≤ 403) → (1 ≤ y159) → (y159 ≤ 8) → TT w D pm_251 (150, [(0, .ref 189), (1, .int (i32 p)), (2, .int (i32 v151)), (3, .int (i32 v152)), (4, .int (i32 v153)), (5, .int (i32 v154)), (6, .int (i32 v155))], [], (mhp (mO m [(7, y156), (8, y157), (9, y158), (10, y159), (11, y160), (12, y161), (28, y162), (69, y163), (70, y164), (71, y165), (72, y166), (75, y167)] [(65, F168), (66, F169), (67, F170), (68, F171)]) c, N), 0, 0) (Q_takeName m c N p B h) := by
    intro v151 v152 v153 v154 v155 y156 y157 y158 y159 y160 y161 y162 y163 y164 y165 y166 y167 F168 F169 F170 F171 q173 q174 q175 q176 q177 q178 q179 q180 q181 q182 q183 q184 q185 q186 q187 q188 q189 q190 q191 q192 q193 i194 i195 i196 i197 i198 i199 i200 i201
    obtain ⟨q173a, q173b⟩ := id q173
    obtain ⟨q174a, q174b⟩ := id q174
    obtain ⟨q175a, q175b⟩ := id q175
    obtain ⟨q176a, q176b⟩ := id q176
    obtain ⟨q177a, q177b⟩ := id q177
    refine T_ld 151 (.ref 189) rfl (fun _ => rfl) ?_
    refine T_ld 153 (.int (i32 v153)) rfl (fun _ => rfl) ?_
    refine T_ld 154 (.int (i32 p)) rfl (fun _ => rfl) ?_
    refine T_call 157 249 [.ref 189, .int (i32 v153), .int (i32 p)] [] rfl (fun _ => rfl) rfl (c_atom w (mO m [(7, y156), (8, y157), (9, y158), (10, y159), (11, y160), (12, y161), (28, y162), (69, y163), (70, y164), (71, y165), (72, y166), (75, y167)] [(65, F168), (66, F169), (67, F170), (68, F171)]) c N D (by omega) (Ty_mO hT rfl rfl ⟨q178, q179, q180, q181, q182, q183, q184, q185, q186, q187, q188, q189, trivial⟩ ⟨q190, q191, q192, q193, trivial⟩) v153 p (r32 (by omega) (by omega)) (r32 (by omega) (by omega)) (show 0 ≤ v153 ∧ v153 ≤ 64 by omega) (show 0 ≤ p ∧ p ≤ 4000 by omega)) (fun r203 k204 => ?_)
    obtain ⟨y205, y207, y209, y211, y213, g206, g208, g210, g212, g214, h215, rfl⟩ := k204
    refine ⟨_, _, rfl, ?_⟩
    refine T_nf (st' := []) (l' := [(7, y156), (8, y157), (9, y158), (10, y159), (11, y160), (12, y161), (28, y162), (69, y205), (70, y207), (71, y209), (72, y211), (75, y213)]) (a' := [(65, F168), (66, F169), (67, F170), (68, F171)]) rfl rfl rfl rfl rfl ?_
    replace h215 : y159 = 0 → y213 = 1 ∧ y205 = v153 := h215
    clear q185 q186 q187 q188 q189
    refine T_ret rfl (fun _ => rfl) ?_
    exact ⟨y156, y157, y158, y159, y160, y161, y162, y205, y207, y209, y211, y213, F168, F169, F170, F171, q178, q179, q180, q181, q182, q183, q184, g206, g208, g210, g212, g214, q190, q191, q192, q193, (by omega), (by first | exact hLx | (intro h9; exfalso; omega)), (fun h => absurd h (by omega)), rfl⟩
  have J109_238 : ∀ (v216 : Int) (v217 : Int) (v218 : Int) (v219 : Int) (v220 : Int) (s221 : Int) (y222 : Int) (y223 : Int) (y224 : Int) (y225 : Int) (y226 : Int) (y227 : Int) (y228 : Int) (y229 : Int) (y230 : Int) (y231 : Int) (y232 : Int) (y233 : Int) (F234 : Int → Int) (F235 : Int → Int) (F236 : Int → Int) (F237 : Int → Int), (R32 v216) → (R32 v217) → (R32 v218) → (R32 v219) → (R32 v220) → (R32 s221) → (0 ≤ y222 ∧ y222 ≤ 330) → (0 ≤ y223 ∧ y223 ≤ 4000) → (0 ≤ y224 ∧ y224 ≤ 4000) → (0 ≤ y225 ∧ y225 ≤ 8) → ((-1) ≤ y226 ∧ y226 ≤ 4000) → ((-9223372036854775808) ≤ y227 ∧ y227 ≤ 9223372036854775807) → (0 ≤ y228 ∧ y228 ≤ 800) → (0 ≤ y229 ∧ y229 ≤ 1024) → (0 ≤ y230 ∧ y230 ≤ 4000) → (0 ≤ y231 ∧ y231 ≤ 1) → ((-9223372036854775808) ≤ y232 ∧ y232 ≤ 9223372036854775807) → (0 ≤ y233 ∧ y233 ≤ 3) → (∀ j, 0 ≤ F234 j ∧ F234 j ≤ 408) → (∀ j, 0 ≤ F235 j ∧ F235 j ≤ 64) → (∀ j, 0 ≤ F236 j ∧ F236 j ≤ 191) → (∀ j, (-9223372036854775808) ≤ F237 j ∧ F237 j ≤ 9223372036854775807) → ((-2147483648) ≤ v216) → (v216 ≤ (-1)) → (2 ≤ v217) → (v217 ≤ 2) → (1 ≤ v218) → (v218 ≤ 1) → (401 ≤ v219) → (v219 ≤ 401) → (0 ≤ s221) → (s221 ≤ 191) → (1 ≤ y225) → (y225 ≤ 8) → TT w D pm_251 (109, [(0, .ref 189), (1, .int (i32 p)), (2, .int (i32 v216)), (3, .int (i32 v217)), (4, .int (i32 v218)), (5, .int (i32 v219)), (6, .int (i32 v220))], [.int (i32 s221)], (mhp (mO m [(7, y222), (8, y223), (9, y224), (10, y225), (11, y226), (12, y227), (28, y228), (69, y229), (70, y230), (71, y231), (72, y232), (75, y233)] [(65, F234), (66, F235), (67, F236), (68, F237)]) c, N), 0, 0) (Q_takeName m c N p B h) := by
    intro v216 v217 v218 v219 v220 s221 y222 y223 y224 y225 y226 y227 y228 y229 y230 y231 y232 y233 F234 F235 F236 F237 q239 q240 q241 q242 q243 q244 q245 q246 q247 q248 q249 q250 q251 q252 q253 q254 q255 q256 q257 q258 q259 q260 i261 i262 i263 i264 i265 i266 i267 i268 i269 i270 i271 i272
    obtain ⟨q239a, q239b⟩ := id q239
    obtain ⟨q240a, q240b⟩ := id q240
    obtain ⟨q241a, q241b⟩ := id q241
    obtain ⟨q242a, q242b⟩ := id q242
    obtain ⟨q243a, q243b⟩ := id q243
    obtain ⟨q244a, q244b⟩ := id q244
    refine T_sto 111 [(6, .int (i32 s221)), (0, .ref 189), (1, .int (i32 p)), (2, .int (i32 v216)), (3, .int (i32 v217)), (4, .int (i32 v218)), (5, .int (i32 v219))] rfl (fun _ => rfl) ?_
    refine T_gf 115 (.int (i32 y225)) rfl rfl rfl rfl rfl rfl ?_
    refine T_if 139 118 rfl rfl rfl (r32 (by omega) (by omega)) (fun (h274 : y225 ≠ 0) => ?_) (fun (h274 : ¬ (y225 ≠ 0)) => by exfalso; omega)
    refine T_ld 140 (.ref 189) rfl (fun _ => rfl) ?_
    refine T_ld 142 (.int (i32 v219)) rfl (fun _ => rfl) ?_
    refine T_ld 144 (.int (i32 v218)) rfl (fun _ => rfl) ?_
    refine T_ld 146 (.int (i32 s221)) rfl (fun _ => rfl) ?_
    refine T_ld 147 (.long (i64 0)) rfl (fun _ => rfl) ?_
    refine T_call 150 248 [.ref 189, .int (i32 v219), .int (i32 v218), .int (i32 s221), .long (i64 0)] [] rfl (fun _ => rfl) rfl (c_node w (mO m [(7, y222), (8, y223), (9, y224), (10, y225), (11, y226), (12, y227), (28, y228), (69, y229), (70, y230), (71, y231), (72, y232), (75, y233)] [(65, F234), (66, F235), (67, F236), (68, F237)]) c N D (by omega) (Ty_mO hT rfl rfl ⟨q245, q246, q247, q248, q249, q250, q251, q252, q253, q254, q255, q256, trivial⟩ ⟨q257, q258, q259, q260, trivial⟩) v219 v218 s221 0 ($B) h (r32 (by omega) (by omega)) (r32 (by omega) (by omega)) (r32 (by omega) (by omega)) ⟨by decide, by decide⟩ (fun h => absurd h (by omega))) (fun r275 k276 => ?_)
    obtain ⟨y277, y279, y281, F283, F285, F287, F289, g278, g280, g282, G284, G286, G288, G290, h291, c292, rfl⟩ := k276
    refine ⟨_, _, rfl, ?_⟩
    refine T_nf (st' := []) (l' := [(7, y222), (8, y223), (9, y224), (10, y277), (11, y279), (12, y227), (28, y281), (69, y229), (70, y230), (71, y231), (72, y232), (75, y233)]) (a' := [(65, F283), (66, F285), (67, F287), (68, F289)]) rfl rfl rfl rfl rfl ?_
    replace h291 : y277 = 0 → y225 = 0 := h291
    have hf293 : 1 ≤ y277 := by omega
    clear c292
    clear h291
    clear q243a q243b q243 q248 q249 q251 i271 i272 h274
    refine Tm_lv (a := [(0, .ref 189), (1, .int (i32 p)), (2, .int (i32 v216)), (3, .int (i32 v217)), (4, .int (i32 v218)), (5, .int (i32 v219)), (6, .int (i32 s221))]) rfl rfl ⟨rfl, rfl, rfl, rfl, rfl, rfl, rfl, trivial⟩ ?_
    exact J150_172 v216 v217 v218 v219 s221 y222 y223 y224 y277 y279 y227 y281 y229 y230 y231 y232 y233 F283 F285 F287 F289 (r32 (by omega) (by omega)) (r32 (by omega) (by omega)) (r32 (by omega) (by omega)) (r32 (by omega) (by omega)) (r32 (by omega) (by omega)) q245 q246 q247 g278 g280 q250 g282 q252 q253 q254 q255 q256 G284 G286 G288 G290 (by omega) (by omega) (by omega) (by omega) (by omega) (by omega) (by omega) (by omega)
  have J103_315 : ∀ (v294 : Int) (v295 : Int) (v296 : Int) (v297 : Int) (v298 : Int) (y299 : Int) (y300 : Int) (y301 : Int) (y302 : Int) (y303 : Int) (y304 : Int) (y305 : Int) (y306 : Int) (y307 : Int) (y308 : Int) (y309 : Int) (y310 : Int) (F311 : Int → Int) (F312 : Int → Int) (F313 : Int → Int) (F314 : Int → Int), (R32 v294) → (R32 v295) → (R32 v296) → (R32 v297) → (R32 v298) → (0 ≤ y299 ∧ y299 ≤ 330) → (0 ≤ y300 ∧ y300 ≤ 4000) → (0 ≤ y301 ∧ y301 ≤ 4000) → (0 ≤ y302 ∧ y302 ≤ 8) → ((-1) ≤ y303 ∧ y303 ≤ 4000) → ((-9223372036854775808) ≤ y304 ∧ y304 ≤ 9223372036854775807) → (0 ≤ y305 ∧ y305 ≤ 800) → (0 ≤ y306 ∧ y306 ≤ 1024) → (0 ≤ y307 ∧ y307 ≤ 4000) → (0 ≤ y308 ∧ y308 ≤ 1) → ((-9223372036854775808) ≤ y309 ∧ y309 ≤ 9223372036854775807) → (0 ≤ y310 ∧ y310 ≤ 3) → (∀ j, 0 ≤ F311 j ∧ F311 j ≤ 408) → (∀ j, 0 ≤ F312 j ∧ F312 j ≤ 64) → (∀ j, 0 ≤ F313 j ∧ F313 j ≤ 191) → (∀ j, (-9223372036854775808) ≤ F314 j ∧ F314 j ≤ 9223372036854775807) → ((-2147483648) ≤ v294) → (v294 ≤ (-1)) → (2 ≤ v295) → (v295 ≤ 2) → (1 ≤ v296) → (v296 ≤ 1) → (401 ≤ v297) → (v297 ≤ 401) → (1 ≤ y302) → (y302 ≤ 8) → TT w D pm_251 (103, [(0, .ref 189), (1, .int (i32 p)), (2, .int (i32 v294)), (3, .int (i32 v295)), (4, .int (i32 v296)), (5, .int (i32 v297)), (6, .int (i32 v298))], [], (mhp (mO m [(7, y299), (8, y300), (9, y301), (10, y302), (11, y303), (12, y304), (28, y305), (69, y306), (70, y307), (71, y308), (72, y309), (75, y310)] [(65, F311), (66, F312), (67, F313), (68, F314)]) c, N), 0, 0) (Q_takeName m c N p B h) := by
    intro v294 v295 v296 v297 v298 y299 y300 y301 y302 y303 y304 y305 y306 y307 y308 y309 y310 F311 F312 F313 F314 q316 q317 q318 q319 q320 q321 q322 q323 q324 q325 q326 q327 q328 q329 q330 q331 q332 q333 q334 q335 q336 i337 i338 i339 i340 i341 i342 i343 i344 i345 i346
    obtain ⟨q316a, q316b⟩ := id q316
    obtain ⟨q317a, q317b⟩ := id q317
    obtain ⟨q318a, q318b⟩ := id q318
    obtain ⟨q319a, q319b⟩ := id q319
    obtain ⟨q320a, q320b⟩ := id q320
    refine T_ld 104 (.ref 189) rfl (fun _ => rfl) ?_
    refine T_ld 106 (.int (i32 v298)) rfl (fun _ => rfl) ?_
    refine T_call 109 253 [.ref 189, .int (i32 v298)] [] rfl (fun _ => rfl) rfl (c_takeField w (mO m [(7, y299), (8, y300), (9, y301), (10, y302), (11, y303), (12, y304), (28, y305), (69, y306), (70, y307), (71, y308), (72, y309), (75, y310)] [(65, F311), (66, F312), (67, F313), (68, F314)]) c N D (by omega) (Ty_mO hT rfl rfl ⟨q321, q322, q323, q324, q325, q326, q327, q328, q329, q330, q331, q332, trivial⟩ ⟨q333, q334, q335, q336, trivial⟩) v298 (r32 (by omega) (by omega)) (show LxP y299 y300 y301 (m.1 6) y302 by first | exact hLx | (intro h9; exfalso; omega)) (show ∀ k, (m.2 31) k + (m.2 32) k ≤ 4000 by assumption) (show 0 ≤ v298 ∧ v298 ≤ 11 by omega) (fun h => absurd h (by omega))) (fun r348 k349 => ?_)
    obtain ⟨y350, y352, y354, y356, y358, y360, tf, g351, g353, g355, g357, g359, g361, g362, h363, h364, c365, rfl⟩ := k349
    refine ⟨_, _, rfl, ?_⟩
    refine T_nf (st' := [.int (i32 tf)]) (l' := [(7, y350), (8, y352), (9, y354), (10, y356), (11, y358), (12, y360), (28, y305), (69, y306), (70, y307), (71, y308), (72, y309), (75, y310)]) (a' := [(65, F311), (66, F312), (67, F313), (68, F314)]) rfl rfl rfl rfl rfl ?_
    obtain ⟨g362a, g362b⟩ := g362
    replace h363 : y356 = 0 → y302 = 0 := h363
    replace h364 : LxP y350 y352 y354 (m.1 6) y356 := h364
    have hf366 : 1 ≤ y356 := by omega
    clear c365
    clear h363
    have hLx := h364
    clear q321 q322 q323 q324 q325 q326 i345 i346
    exact J109_238 v294 v295 v296 v297 v298 tf y350 y352 y354 y356 y358 y360 y305 y306 y307 y308 y309 y310 F311 F312 F313 F314 (r32 (by omega) (by omega)) (r32 (by omega) (by omega)) (r32 (by omega) (by omega)) (r32 (by omega) (by omega)) (r32 (by omega) (by omega)) (r32 (by omega) (by omega)) g351 g353 g355 g357 g359 g361 q327 q328 q329 q330 q331 q332 q333 q334 q335 q336 (by omega) (by omega) (by omega) (by omega) (by omega) (by omega) (by omega) (by omega) (by omega) (by omega) (by omega) (by omega)
  refine T_ld 1 (.ref 189) rfl (fun _ => rfl) ?_
  have h7 := hLx (by omega)
  refine T_call 4 252 [.ref 189] [] rfl (fun _ => rfl) rfl (c_parameterHere w (mO m [(7, (m.1 7)), (8, (m.1 8)), (9, (m.1 9)), (10, (m.1 10)), (11, (m.1 11)), (12, (m.1 12)), (28, (m.1 28)), (69, (m.1 69)), (70, (m.1 70)), (71, (m.1 71)), (72, (m.1 72)), (75, (m.1 75))] [(65, (m.2 65)), (66, (m.2 66)), (67, (m.2 67)), (68, (m.2 68))]) c N D (by omega) (Ty_mO hT rfl rfl ⟨f7, f8, f9, f10, f11, f12, f28, f69, f70, f71, f72, f75, trivial⟩ ⟨(hT.2.1 65), (hT.2.1 66), (hT.2.1 67), (hT.2.1 68), trivial⟩) (show 1 ≤ (m.1 9) ∧ (m.1 8) + (m.1 9) ≤ (m.1 6) by first | omega | (have h8 := hLx (by omega); omega)) (show ∀ k, (m.2 47) k + (m.2 48) k ≤ 4000 by exact hPA)) (fun r367 k368 => ?_)
  obtain ⟨pq, g369, h370, rfl⟩ := k368
  refine ⟨_, _, rfl, ?_⟩
  refine T_nf (st' := [.int (i32 pq)]) (l' := [(7, (m.1 7)), (8, (m.1 8)), (9, (m.1 9)), (10, (m.1 10)), (11, (m.1 11)), (12, (m.1 12)), (28, (m.1 28)), (69, (m.1 69)), (70, (m.1 70)), (71, (m.1 71)), (72, (m.1 72)), (75, (m.1 75))]) (a' := [(65, (m.2 65)), (66, (m.2 66)), (67, (m.2 67)), (68, (m.2 68))]) rfl rfl rfl rfl rfl ?_
  obtain ⟨g369a, g369b⟩ := g369
  replace h370 : -1 ≤ pq ∧ pq ≤ 63 := h370
  have u371 : (m.1 8) ≤ (m.1 8) := by omega
  refine T_sto 5 [(2, .int (i32 pq)), (0, .ref 189), (1, .int (i32 p))] rfl (fun _ => rfl) ?_
  refine T_ld 6 (.ref 189) rfl (fun _ => rfl) ?_
  refine T_call 9 227 [.ref 189] [] rfl (fun _ => rfl) rfl (c_sortHere w (mO m [(7, (m.1 7)), (8, (m.1 8)), (9, (m.1 9)), (10, (m.1 10)), (11, (m.1 11)), (12, (m.1 12)), (28, (m.1 28)), (69, (m.1 69)), (70, (m.1 70)), (71, (m.1 71)), (72, (m.1 72)), (75, (m.1 75))] [(65, (m.2 65)), (66, (m.2 66)), (67, (m.2 67)), (68, (m.2 68))]) c N D (by omega) (Ty_mO hT rfl rfl ⟨f7, f8, f9, f10, f11, f12, f28, f69, f70, f71, f72, f75, trivial⟩ ⟨(hT.2.1 65), (hT.2.1 66), (hT.2.1 67), (hT.2.1 68), trivial⟩) (show 1 ≤ (m.1 9) ∧ (m.1 8) + (m.1 9) ≤ (m.1 6) by first | omega | (have h8 := hLx (by omega); omega)) (show ∀ k, (m.2 14) k + (m.2 15) k ≤ 4000 by first | exact hNM | exact p1)) (fun r372 k373 => ?_)
  obtain ⟨so, g374, h375, h376, rfl⟩ := k373
  refine ⟨_, _, rfl, ?_⟩
  refine T_nf (st' := [.int (i32 so)]) (l' := [(7, (m.1 7)), (8, (m.1 8)), (9, (m.1 9)), (10, (m.1 10)), (11, (m.1 11)), (12, (m.1 12)), (28, (m.1 28)), (69, (m.1 69)), (70, (m.1 70)), (71, (m.1 71)), (72, (m.1 72)), (75, (m.1 75))]) (a' := [(65, (m.2 65)), (66, (m.2 66)), (67, (m.2 67)), (68, (m.2 68))]) rfl rfl rfl rfl rfl ?_
  obtain ⟨g374a, g374b⟩ := g374
  replace h375 : ∃ g k, isGH (m.2 4) (m.1 8) (m.1 9) g ∧ (g < 0 → isFH (m.2 4) (m.2 14) (m.2 15) (m.1 8) (m.1 9) (m.1 13) k) ∧ so = sortV (m.2 16) g k := h375
  have hSo := h375
  replace h376 : -1 ≤ so ∧ so ≤ 7 := h376
  have u377 : (m.1 8) ≤ (m.1 8) := by omega
  refine T_sto 10 [(3, .int (i32 so)), (2, .int (i32 pq)), (0, .ref 189), (1, .int (i32 p))] rfl (fun _ => rfl) ?_
  refine T_ld 11 (.int (i32 1)) rfl (fun _ => rfl) ?_
  refine T_sto 13 [(4, .int (i32 1)), (3, .int (i32 so)), (2, .int (i32 pq)), (0, .ref 189), (1, .int (i32 p))] rfl (fun _ => rfl) ?_
  refine T_ld 16 (.int (i32 403)) rfl (fun _ => rfl) ?_
  refine T_sto 18 [(5, .int (i32 403)), (4, .int (i32 1)), (3, .int (i32 so)), (2, .int (i32 pq)), (0, .ref 189), (1, .int (i32 p))] rfl (fun _ => rfl) ?_
  refine T_ld 19 (.int (i32 0)) rfl (fun _ => rfl) ?_
  refine T_sto 21 [(6, .int (i32 0)), (5, .int (i32 403)), (4, .int (i32 1)), (3, .int (i32 so)), (2, .int (i32 pq)), (0, .ref 189), (1, .int (i32 p))] rfl (fun _ => rfl) ?_
  refine T_ld 22 (.int (i32 pq)) rfl (fun _ => rfl) ?_
  refine T_if 45 25 rfl rfl rfl (r32 (by omega) (by omega)) (fun (h378 : pq < 0) => ?_) (fun (h378 : ¬ (pq < 0)) => ?_)
  · skip
    refine T_ld 46 (.int (i32 so)) rfl (fun _ => rfl) ?_
    refine T_ld 47 (.int (i32 3)) rfl (fun _ => rfl) ?_
    refine T_icmp 77 50 rfl rfl rfl (r32 (by omega) (by omega)) ⟨by decide, by decide⟩ (fun (h379 : so ≠ 3) => ?_) (fun (h379 : ¬ (so ≠ 3)) => ?_)
    · skip
      refine T_ld 78 (.int (i32 so)) rfl (fun _ => rfl) ?_
      refine T_ld 79 (.int (i32 2)) rfl (fun _ => rfl) ?_
      refine T_icmp 129 82 rfl rfl rfl (r32 (by omega) (by omega)) ⟨by decide, by decide⟩ (fun (h380 : so ≠ 2) => ?_) (fun (h380 : ¬ (so ≠ 2)) => ?_)
      · skip
        refine T_ld 130 (.ref 189) rfl (fun _ => rfl) ?_
        refine T_ld 132 (.int (i32 6)) rfl (fun _ => rfl) ?_
        refine T_gf 136 (.int (i32 (m.1 8))) rfl rfl rfl rfl rfl rfl ?_
        refine T_call 139 222 [.ref 189, .int (i32 6), .int (i32 (m.1 8))] [] rfl (fun _ => rfl) rfl (c_wrong w (mO m [(7, (m.1 7)), (8, (m.1 8)), (9, (m.1 9)), (10, (m.1 10)), (11, (m.1 11)), (12, (m.1 12)), (28, (m.1 28)), (69, (m.1 69)), (70, (m.1 70)), (71, (m.1 71)), (72, (m.1 72)), (75, (m.1 75))] [(65, (m.2 65)), (66, (m.2 66)), (67, (m.2 67)), (68, (m.2 68))]) c N D (by omega) (Ty_mO hT rfl rfl ⟨f7, f8, f9, f10, f11, f12, f28, f69, f70, f71, f72, f75, trivial⟩ ⟨(hT.2.1 65), (hT.2.1 66), (hT.2.1 67), (hT.2.1 68), trivial⟩) 6 (m.1 8) ⟨by decide, by decide⟩ (r32 (by omega) (by omega)) (show 1 ≤ 6 ∧ 6 ≤ 8 by omega) (show 0 ≤ (m.1 8) ∧ (m.1 8) ≤ 4000 by omega)) (fun r381 k382 => ?_)
        obtain ⟨y383, y385, g384, g386, h387, rfl⟩ := k382
        refine ⟨_, _, rfl, ?_⟩
        refine T_nf (st' := []) (l' := [(7, (m.1 7)), (8, (m.1 8)), (9, (m.1 9)), (10, y383), (11, y385), (12, (m.1 12)), (28, (m.1 28)), (69, (m.1 69)), (70, (m.1 70)), (71, (m.1 71)), (72, (m.1 72)), (75, (m.1 75))]) (a' := [(65, (m.2 65)), (66, (m.2 66)), (67, (m.2 67)), (68, (m.2 68))]) rfl rfl rfl rfl rfl ?_
        replace h387 : (0 < (m.1 10) → y383 = (m.1 10) ∧ y385 = (m.1 11)) ∧ ((m.1 10) ≤ 0 → y383 = 6 ∧ y385 = (m.1 8)) := h387
        have hf388 : 1 ≤ y383 := by omega
        refine T_ld 140 (.ref 189) rfl (fun _ => rfl) ?_
        refine T_ld 142 (.int (i32 403)) rfl (fun _ => rfl) ?_
        refine T_ld 144 (.int (i32 1)) rfl (fun _ => rfl) ?_
        refine T_ld 146 (.int (i32 0)) rfl (fun _ => rfl) ?_
        refine T_ld 147 (.long (i64 0)) rfl (fun _ => rfl) ?_
        refine T_call 150 248 [.ref 189, .int (i32 403), .int (i32 1), .int (i32 0), .long (i64 0)] [] rfl (fun _ => rfl) rfl (c_node w (mO m [(7, (m.1 7)), (8, (m.1 8)), (9, (m.1 9)), (10, y383), (11, y385), (12, (m.1 12)), (28, (m.1 28)), (69, (m.1 69)), (70, (m.1 70)), (71, (m.1 71)), (72, (m.1 72)), (75, (m.1 75))] [(65, (m.2 65)), (66, (m.2 66)), (67, (m.2 67)), (68, (m.2 68))]) c N D (by omega) (Ty_mO hT rfl rfl ⟨f7, f8, f9, g384, g386, f12, f28, f69, f70, f71, f72, f75, trivial⟩ ⟨(hT.2.1 65), (hT.2.1 66), (hT.2.1 67), (hT.2.1 68), trivial⟩) 403 1 0 0 ($B) h ⟨by decide, by decide⟩ ⟨by decide, by decide⟩ ⟨by decide, by decide⟩ ⟨by decide, by decide⟩ (fun h => absurd h (by omega))) (fun r389 k390 => ?_)
        obtain ⟨y391, y393, y395, F397, F399, F401, F403, g392, g394, g396, G398, G400, G402, G404, h405, c406, rfl⟩ := k390
        refine ⟨_, _, rfl, ?_⟩
        refine T_nf (st' := []) (l' := [(7, (m.1 7)), (8, (m.1 8)), (9, (m.1 9)), (10, y391), (11, y393), (12, (m.1 12)), (28, y395), (69, (m.1 69)), (70, (m.1 70)), (71, (m.1 71)), (72, (m.1 72)), (75, (m.1 75))]) (a' := [(65, F397), (66, F399), (67, F401), (68, F403)]) rfl rfl rfl rfl rfl ?_
        replace h405 : y391 = 0 → y383 = 0 := h405
        have hf407 : 1 ≤ y391 := by omega
        clear c406
        clear h405
        clear g384 g386 hf388 h387
        refine Tm_lv (a := [(0, .ref 189), (1, .int (i32 p)), (2, .int (i32 pq)), (3, .int (i32 so)), (4, .int (i32 1)), (5, .int (i32 403)), (6, .int (i32 0))]) rfl rfl ⟨rfl, rfl, rfl, rfl, rfl, rfl, rfl, trivial⟩ ?_
        exact J150_172 pq so 1 403 0 (m.1 7) (m.1 8) (m.1 9) y391 y393 (m.1 12) y395 (m.1 69) (m.1 70) (m.1 71) (m.1 72) (m.1 75) F397 F399 F401 F403 (r32 (by omega) (by omega)) (r32 (by omega) (by omega)) ⟨by decide, by decide⟩ ⟨by decide, by decide⟩ ⟨by decide, by decide⟩ f7 f8 f9 g392 g394 f12 g396 f69 f70 f71 f72 f75 G398 G400 G402 G404 (by omega) (by omega) (by omega) (by omega) (by omega) (by omega) (by omega) (by omega)
      · skip
        refine T_ld 85 (.int (i32 401)) rfl (fun _ => rfl) ?_
        refine T_sto 87 [(5, .int (i32 401)), (6, .int (i32 0)), (4, .int (i32 1)), (3, .int (i32 so)), (2, .int (i32 pq)), (0, .ref 189), (1, .int (i32 p))] rfl (fun _ => rfl) ?_
        refine T_ld 88 (.ref 189) rfl (fun _ => rfl) ?_
        refine T_call 91 237 [.ref 189] [] rfl (fun _ => rfl) rfl (c_whichHere w (mO m [(7, (m.1 7)), (8, (m.1 8)), (9, (m.1 9)), (10, (m.1 10)), (11, (m.1 11)), (12, (m.1 12)), (28, (m.1 28)), (69, (m.1 69)), (70, (m.1 70)), (71, (m.1 71)), (72, (m.1 72)), (75, (m.1 75))] [(65, (m.2 65)), (66, (m.2 66)), (67, (m.2 67)), (68, (m.2 68))]) c N D (by omega) (Ty_mO hT rfl rfl ⟨f7, f8, f9, f10, f11, f12, f28, f69, f70, f71, f72, f75, trivial⟩ ⟨(hT.2.1 65), (hT.2.1 66), (hT.2.1 67), (hT.2.1 68), trivial⟩) (show 1 ≤ (m.1 9) ∧ (m.1 8) + (m.1 9) ≤ (m.1 6) by first | omega | (have h8 := hLx (by omega); omega)) (show ∀ k, (m.2 14) k + (m.2 15) k ≤ 4000 by first | exact hNM | exact p1) (show ∀ g k, isGH (m.2 4) (m.1 8) (m.1 9) g → g < 0 → isFH (m.2 4) (m.2 14) (m.2 15) (m.1 8) (m.1 9) (m.1 13) k → 0 ≤ k by exact old_ok hSo (by omega))) (fun r408 k409 => ?_)
        obtain ⟨wi, g410, h411, rfl⟩ := k409
        refine ⟨_, _, rfl, ?_⟩
        refine T_nf (st' := [.int (i32 wi)]) (l' := [(7, (m.1 7)), (8, (m.1 8)), (9, (m.1 9)), (10, (m.1 10)), (11, (m.1 11)), (12, (m.1 12)), (28, (m.1 28)), (69, (m.1 69)), (70, (m.1 70)), (71, (m.1 71)), (72, (m.1 72)), (75, (m.1 75))]) (a' := [(65, (m.2 65)), (66, (m.2 66)), (67, (m.2 67)), (68, (m.2 68))]) rfl rfl rfl rfl rfl ?_
        obtain ⟨g410a, g410b⟩ := g410
        replace h411 : ∃ g k, isGH (m.2 4) (m.1 8) (m.1 9) g ∧ (g < 0 → isFH (m.2 4) (m.2 14) (m.2 15) (m.1 8) (m.1 9) (m.1 13) k) ∧ wi = whichV (m.2 17) g k := h411
        have hWi := h411
        have u412 : (m.1 8) ≤ (m.1 8) := by omega
        obtain ⟨hw0, hw1⟩ : 0 ≤ wi ∧ wi < (m.1 20) := old_rg hSo hWi (by omega) (by omega) (by omega) (PNl_2 pPN) (by omega)
        refine T_sto 93 [(6, .int (i32 wi)), (5, .int (i32 401)), (4, .int (i32 1)), (3, .int (i32 so)), (2, .int (i32 pq)), (0, .ref 189), (1, .int (i32 p))] rfl (fun _ => rfl) ?_
        refine T_ld 94 (.ref 189) rfl (fun _ => rfl) ?_
        refine T_call 97 212 [.ref 189] [] rfl (fun _ => rfl) rfl (c_next w (mO m [(7, (m.1 7)), (8, (m.1 8)), (9, (m.1 9)), (10, (m.1 10)), (11, (m.1 11)), (12, (m.1 12)), (28, (m.1 28)), (69, (m.1 69)), (70, (m.1 70)), (71, (m.1 71)), (72, (m.1 72)), (75, (m.1 75))] [(65, (m.2 65)), (66, (m.2 66)), (67, (m.2 67)), (68, (m.2 68))]) c N D (by omega) (Ty_mO hT rfl rfl ⟨f7, f8, f9, f10, f11, f12, f28, f69, f70, f71, f72, f75, trivial⟩ ⟨(hT.2.1 65), (hT.2.1 66), (hT.2.1 67), (hT.2.1 68), trivial⟩) (show (m.1 10) = 0 → (m.1 8) + (m.1 9) ≤ (m.1 6) by first | omega | (intro h9; have h8 := hLx h9; omega))) (fun r413 k414 => ?_)
        obtain ⟨y415, y417, y419, y421, y423, y425, g416, g418, g420, g422, g424, g426, h427, h428, h429, h430, rfl⟩ := k414
        refine ⟨_, _, rfl, ?_⟩
        refine T_nf (st' := []) (l' := [(7, y415), (8, y417), (9, y419), (10, y421), (11, y423), (12, y425), (28, (m.1 28)), (69, (m.1 69)), (70, (m.1 70)), (71, (m.1 71)), (72, (m.1 72)), (75, (m.1 75))]) (a' := [(65, (m.2 65)), (66, (m.2 66)), (67, (m.2 67)), (68, (m.2 68))]) rfl rfl rfl rfl rfl ?_
        by_cases hf431 : y421 = 0
        · skip
          subst hf431
          replace h427 : LxP y415 y417 y419 (m.1 6) 0 := h427
          have hLx := h427
          replace h428 : (m.1 10) = 0 := h428 rfl
          replace h429 : (m.1 8) ≤ y417 := h429
          replace h430 : (m.1 8) + (m.1 9) ≤ y417 := h430 rfl
          have u432 : (m.1 8) ≤ y417 := by omega
          clear g422
          refine T_ld 98 (.ref 189) rfl (fun _ => rfl) ?_
          refine T_ld 100 (.int (i32 46)) rfl (fun _ => rfl) ?_
          refine T_call 103 232 [.ref 189, .int (i32 46)] [] rfl (fun _ => rfl) rfl (c_need w (mO m [(7, y415), (8, y417), (9, y419), (10, 0), (11, y423), (12, y425), (28, (m.1 28)), (69, (m.1 69)), (70, (m.1 70)), (71, (m.1 71)), (72, (m.1 72)), (75, (m.1 75))] [(65, (m.2 65)), (66, (m.2 66)), (67, (m.2 67)), (68, (m.2 68))]) c N D (by omega) (Ty_mO hT rfl rfl ⟨g416, g418, g420, ⟨(by omega : (0 : Int) ≤ 0), (by omega : (0 : Int) ≤ 8)⟩, g424, g426, f28, f69, f70, f71, f72, f75, trivial⟩ ⟨(hT.2.1 65), (hT.2.1 66), (hT.2.1 67), (hT.2.1 68), trivial⟩) 46 ⟨by decide, by decide⟩ (show 1 ≤ 46 by omega) (show LxP y415 y417 y419 (m.1 6) 0 by first | exact hLx | (intro h9; exfalso; omega) | (intro h9; have h8 := hLx (by omega); omega))) (fun r433 k434 => ?_)
          obtain ⟨y435, y437, y439, y441, y443, y445, g436, g438, g440, g442, g444, g446, h447, h448, h449, h450, rfl⟩ := k434
          refine ⟨_, _, rfl, ?_⟩
          refine T_nf (st' := []) (l' := [(7, y435), (8, y437), (9, y439), (10, y441), (11, y443), (12, y445), (28, (m.1 28)), (69, (m.1 69)), (70, (m.1 70)), (71, (m.1 71)), (72, (m.1 72)), (75, (m.1 75))]) (a' := [(65, (m.2 65)), (66, (m.2 66)), (67, (m.2 67)), (68, (m.2 68))]) rfl rfl rfl rfl rfl ?_
          by_cases hf451 : y441 = 0
          · skip
            subst hf451
            replace h447 : LxP y435 y437 y439 (m.1 6) 0 := h447
            have hLx := h447
            replace h448 : 0 = 0 ∧ y415 = 46 := h448 rfl
            replace h449 : y417 ≤ y437 := h449
            replace h450 : y417 + y419 ≤ y437 := h450 rfl
            have u452 : (m.1 8) ≤ y437 := by omega
            clear g416 g418 g420 g424 g426 h427 h429 h430 u432 g442 h448 h449 h450
            refine T_ld 104 (.ref 189) rfl (fun _ => rfl) ?_
            refine T_ld 106 (.int (i32 wi)) rfl (fun _ => rfl) ?_
            refine T_call 109 253 [.ref 189, .int (i32 wi)] [] rfl (fun _ => rfl) rfl (c_takeField w (mO m [(7, y435), (8, y437), (9, y439), (10, 0), (11, y443), (12, y445), (28, (m.1 28)), (69, (m.1 69)), (70, (m.1 70)), (71, (m.1 71)), (72, (m.1 72)), (75, (m.1 75))] [(65, (m.2 65)), (66, (m.2 66)), (67, (m.2 67)), (68, (m.2 68))]) c N D (by omega) (Ty_mO hT rfl rfl ⟨g436, g438, g440, ⟨(by omega : (0 : Int) ≤ 0), (by omega : (0 : Int) ≤ 8)⟩, g444, g446, f28, f69, f70, f71, f72, f75, trivial⟩ ⟨(hT.2.1 65), (hT.2.1 66), (hT.2.1 67), (hT.2.1 68), trivial⟩) wi (r32 (by omega) (by omega)) (show LxP y435 y437 y439 (m.1 6) 0 by first | exact hLx | (intro h9; exfalso; omega)) (show ∀ k, (m.2 31) k + (m.2 32) k ≤ 4000 by assumption) (show 0 ≤ wi ∧ wi ≤ 11 by omega) (fun _ => trivial)) (fun r453 k454 => ?_)
            obtain ⟨y455, y457, y459, y461, y463, y465, tf, g456, g458, g460, g462, g464, g466, g467, h468, h469, c470, rfl⟩ := k454
            refine ⟨_, _, rfl, ?_⟩
            refine T_nf (st' := [.int (i32 tf)]) (l' := [(7, y455), (8, y457), (9, y459), (10, y461), (11, y463), (12, y465), (28, (m.1 28)), (69, (m.1 69)), (70, (m.1 70)), (71, (m.1 71)), (72, (m.1 72)), (75, (m.1 75))]) (a' := [(65, (m.2 65)), (66, (m.2 66)), (67, (m.2 67)), (68, (m.2 68))]) rfl rfl rfl rfl rfl ?_
            obtain ⟨g467a, g467b⟩ := g467
            by_cases hf471 : y461 = 0
            · skip
              subst hf471
              replace h468 : 0 = 0 := h468 rfl
              replace h469 : LxP y455 y457 y459 (m.1 6) 0 := h469
              have hLx := h469
              obtain ⟨c472, c473⟩ := c470 rfl
              replace c472 : y437 + 1 ≤ y457 := c472
              replace c473 : y435 = 1 := c473
              have u474 : (m.1 8) ≤ y457 := by omega
              clear g436 g438 g440 g444 g446 h447 u452 g462 c472 c473
              refine T_sto 111 [(6, .int (i32 tf)), (5, .int (i32 401)), (4, .int (i32 1)), (3, .int (i32 so)), (2, .int (i32 pq)), (0, .ref 189), (1, .int (i32 p))] rfl (fun _ => rfl) ?_
              refine T_gf 115 (.int (i32 0)) rfl rfl rfl rfl rfl rfl ?_
              refine T_if 139 118 rfl rfl rfl ⟨by decide, by decide⟩ (fun h475 => absurd (show (0 : Int) ≠ 0 from h475) (by decide)) (fun _ => ?_)
              refine T_ld 119 (.ref 189) rfl (fun _ => rfl) ?_
              refine T_ld 121 (.int (i32 tf)) rfl (fun _ => rfl) ?_
              refine T_call 124 254 [.ref 189, .int (i32 tf)] [] rfl (fun _ => rfl) rfl (c_bitsOfField w (mO m [(7, y455), (8, y457), (9, y459), (10, 0), (11, y463), (12, y465), (28, (m.1 28)), (69, (m.1 69)), (70, (m.1 70)), (71, (m.1 71)), (72, (m.1 72)), (75, (m.1 75))] [(65, (m.2 65)), (66, (m.2 66)), (67, (m.2 67)), (68, (m.2 68))]) c N D (by omega) (Ty_mO hT rfl rfl ⟨g456, g458, g460, ⟨(by omega : (0 : Int) ≤ 0), (by omega : (0 : Int) ≤ 8)⟩, g464, g466, f28, f69, f70, f71, f72, f75, trivial⟩ ⟨(hT.2.1 65), (hT.2.1 66), (hT.2.1 67), (hT.2.1 68), trivial⟩) tf (r32 (by omega) (by omega)) (show 0 ≤ tf ∧ tf ≤ 191 by omega)) (fun r476 k477 => ?_)
              obtain ⟨x478, g479, rfl⟩ := k477
              refine ⟨_, _, rfl, ?_⟩
              refine T_nf (st' := [.int (i32 x478)]) (l' := [(7, y455), (8, y457), (9, y459), (10, 0), (11, y463), (12, y465), (28, (m.1 28)), (69, (m.1 69)), (70, (m.1 70)), (71, (m.1 71)), (72, (m.1 72)), (75, (m.1 75))]) (a' := [(65, (m.2 65)), (66, (m.2 66)), (67, (m.2 67)), (68, (m.2 68))]) rfl rfl rfl rfl rfl ?_
              obtain ⟨g479a, g479b⟩ := g479
              have u480 : (m.1 8) ≤ y457 := by omega
              clear g410a g410b h411
              refine T_sto 126 [(4, .int (i32 x478)), (6, .int (i32 tf)), (5, .int (i32 401)), (3, .int (i32 so)), (2, .int (i32 pq)), (0, .ref 189), (1, .int (i32 p))] rfl (fun _ => rfl) ?_
              refine T_goto 139 rfl (fun _ => rfl) ?_
              have hA : ar 401 = 0 := by first | (have e : 401 = 403 := by omega) | skip; first | (rw [show 401 = 403 by omega]; decide) | (rw [show 401 = 402 by omega]; decide) | (rw [show 401 = 401 by omega]; decide)
              have hAr : ar 401 ≤ h := by omega
              have hCk : CNk 401 tf := by refine ⟨?_, ?_, ?_, ?_⟩ <;> omega
              refine T_ld 140 (.ref 189) rfl (fun _ => rfl) ?_
              refine T_ld 142 (.int (i32 401)) rfl (fun _ => rfl) ?_
              refine T_ld 144 (.int (i32 x478)) rfl (fun _ => rfl) ?_
              refine T_ld 146 (.int (i32 tf)) rfl (fun _ => rfl) ?_
              refine T_ld 147 (.long (i64 0)) rfl (fun _ => rfl) ?_
              refine T_call 150 248 [.ref 189, .int (i32 401), .int (i32 x478), .int (i32 tf), .long (i64 0)] [] rfl (fun _ => rfl) rfl (c_node w (mO m [(7, y455), (8, y457), (9, y459), (10, 0), (11, y463), (12, y465), (28, (m.1 28)), (69, (m.1 69)), (70, (m.1 70)), (71, (m.1 71)), (72, (m.1 72)), (75, (m.1 75))] [(65, (m.2 65)), (66, (m.2 66)), (67, (m.2 67)), (68, (m.2 68))]) c N D (by omega) (Ty_mO hT rfl rfl ⟨g456, g458, g460, ⟨(by omega : (0 : Int) ≤ 0), (by omega : (0 : Int) ≤ 8)⟩, g464, g466, f28, f69, f70, f71, f72, f75, trivial⟩ ⟨(hT.2.1 65), (hT.2.1 66), (hT.2.1 67), (hT.2.1 68), trivial⟩) 401 x478 tf 0 ($B) h ⟨by decide, by decide⟩ (r32 (by omega) (by omega)) (r32 (by omega) (by omega)) ⟨by decide, by decide⟩ (fun _ => ⟨(show 0 ≤ 401 ∧ 401 ≤ 408 by first | omega | decide), (show 0 ≤ x478 ∧ x478 ≤ 64 by first | omega | decide), (show 0 ≤ tf ∧ tf ≤ 191 by first | omega | decide), (show CNk 401 tf by first | exact hCk | (refine ⟨?_, ?_, ?_, ?_⟩ <;> omega)), (show ar 401 ≤ h by first | exact hAr | omega), (show EX (m.2 65) (m.2 67) ($B) (m.1 28) h by first | exact hEX | assumption)⟩)) (fun r481 k482 => ?_)
              obtain ⟨y483, y485, y487, F489, F491, F493, F495, g484, g486, g488, G490, G492, G494, G496, h497, c498, rfl⟩ := k482
              refine ⟨_, _, rfl, ?_⟩
              refine T_nf (st' := []) (l' := [(7, y455), (8, y457), (9, y459), (10, y483), (11, y485), (12, y465), (28, y487), (69, (m.1 69)), (70, (m.1 70)), (71, (m.1 71)), (72, (m.1 72)), (75, (m.1 75))]) (a' := [(65, F489), (66, F491), (67, F493), (68, F495)]) rfl rfl rfl rfl rfl ?_
              by_cases hf499 : y483 = 0
              · skip
                subst hf499
                replace h497 : 0 = 0 := h497 rfl
                obtain ⟨c500, c501, c502⟩ := c498 rfl
                replace c500 : y487 = (m.1 28) + 1 := c500
                replace c501 : EX F489 F493 ($B) y487 (h + 1 - ar 401) := c501
                have hEX := c501
                replace c502 : agr (m.2 65) F489 (m.1 28) := c502
                have hAg := c502
                have u503 : (m.1 8) ≤ y457 := by omega
                clear g464 g484
                refine T_ld 151 (.ref 189) rfl (fun _ => rfl) ?_
                refine T_ld 153 (.int (i32 x478)) rfl (fun _ => rfl) ?_
                refine T_ld 154 (.int (i32 p)) rfl (fun _ => rfl) ?_
                refine T_call 157 249 [.ref 189, .int (i32 x478), .int (i32 p)] [] rfl (fun _ => rfl) rfl (c_atom w (mO m [(7, y455), (8, y457), (9, y459), (10, 0), (11, y485), (12, y465), (28, y487), (69, (m.1 69)), (70, (m.1 70)), (71, (m.1 71)), (72, (m.1 72)), (75, (m.1 75))] [(65, F489), (66, F491), (67, F493), (68, F495)]) c N D (by omega) (Ty_mO hT rfl rfl ⟨g456, g458, g460, ⟨(by omega : (0 : Int) ≤ 0), (by omega : (0 : Int) ≤ 8)⟩, g486, g466, g488, f69, f70, f71, f72, f75, trivial⟩ ⟨G490, G492, G494, G496, trivial⟩) x478 p (r32 (by omega) (by omega)) (r32 (by omega) (by omega)) (show 0 ≤ x478 ∧ x478 ≤ 64 by omega) (show 0 ≤ p ∧ p ≤ 4000 by omega)) (fun r504 k505 => ?_)
                obtain ⟨y506, y508, y510, y512, y514, g507, g509, g511, g513, g515, h516, rfl⟩ := k505
                refine ⟨_, _, rfl, ?_⟩
                refine T_nf (st' := []) (l' := [(7, y455), (8, y457), (9, y459), (10, 0), (11, y485), (12, y465), (28, y487), (69, y506), (70, y508), (71, y510), (72, y512), (75, y514)]) (a' := [(65, F489), (66, F491), (67, F493), (68, F495)]) rfl rfl rfl rfl rfl ?_
                replace h516 : 0 = 0 → y514 = 1 ∧ y506 = x478 := h516
                have u517 : (m.1 8) ≤ y457 := by omega
                refine T_ret rfl (fun _ => rfl) ?_
                exact ⟨y455, y457, y459, 0, y485, y465, y487, y506, y508, y510, y512, y514, F489, F491, F493, F495, g456, g458, g460, ⟨by omega, by omega⟩, g486, g466, g488, g507, g509, g511, g513, g515, G490, G492, G494, G496, (by omega), (by first | exact hLx | (intro h9; exfalso; omega)), (fun _ => ⟨(by omega), (by omega), (by omega), (by omega), (by exact EX_w hEX (by omega)), (by exact hAg)⟩), rfl⟩
              · skip
                clear c498
                clear h497
                have hf518 : 1 ≤ y483 := by omega
                clear g464
                refine Tm_lv (a := [(0, .ref 189), (1, .int (i32 p)), (2, .int (i32 pq)), (3, .int (i32 so)), (4, .int (i32 x478)), (5, .int (i32 401)), (6, .int (i32 tf))]) rfl rfl ⟨rfl, rfl, rfl, rfl, rfl, rfl, rfl, trivial⟩ ?_
                exact J150_172 pq so x478 401 tf y455 y457 y459 y483 y485 y465 y487 (m.1 69) (m.1 70) (m.1 71) (m.1 72) (m.1 75) F489 F491 F493 F495 (r32 (by omega) (by omega)) (r32 (by omega) (by omega)) (r32 (by omega) (by omega)) ⟨by decide, by decide⟩ (r32 (by omega) (by omega)) g456 g458 g460 g484 g486 g466 g488 f69 f70 f71 f72 f75 G490 G492 G494 G496 (by omega) (by omega) (by omega) (by omega) (by omega) (by omega) (by omega) (by omega)
            · skip
              clear c470
              clear h468
              replace h469 : LxP y455 y457 y459 (m.1 6) y461 := h469
              have hLx := h469
              have hf519 : 1 ≤ y461 := by omega
              clear g436 g438 g440 g444 g446 h447 u452
              refine Tm_lv (a := [(0, .ref 189), (1, .int (i32 p)), (2, .int (i32 pq)), (3, .int (i32 so)), (4, .int (i32 1)), (5, .int (i32 401)), (6, .int (i32 wi))]) rfl rfl ⟨rfl, rfl, rfl, rfl, rfl, rfl, rfl, trivial⟩ ?_
              exact J109_238 pq so 1 401 wi tf y455 y457 y459 y461 y463 y465 (m.1 28) (m.1 69) (m.1 70) (m.1 71) (m.1 72) (m.1 75) (m.2 65) (m.2 66) (m.2 67) (m.2 68) (r32 (by omega) (by omega)) (r32 (by omega) (by omega)) ⟨by decide, by decide⟩ ⟨by decide, by decide⟩ (r32 (by omega) (by omega)) (r32 (by omega) (by omega)) g456 g458 g460 g462 g464 g466 f28 f69 f70 f71 f72 f75 (hT.2.1 65) (hT.2.1 66) (hT.2.1 67) (hT.2.1 68) (by omega) (by omega) (by omega) (by omega) (by omega) (by omega) (by omega) (by omega) (by omega) (by omega) (by omega) (by omega)
          · skip
            replace h447 : LxP y435 y437 y439 (m.1 6) y441 := h447
            have hLx := h447
            clear h448
            replace h449 : y417 ≤ y437 := h449
            clear h450
            have hf520 : 1 ≤ y441 := by omega
            clear g416 g418 g420 g424 g426 h427 h429 h430 u432 h449
            refine Tm_lv (a := [(0, .ref 189), (1, .int (i32 p)), (2, .int (i32 pq)), (3, .int (i32 so)), (4, .int (i32 1)), (5, .int (i32 401)), (6, .int (i32 wi))]) rfl rfl ⟨rfl, rfl, rfl, rfl, rfl, rfl, rfl, trivial⟩ ?_
            exact J103_315 pq so 1 401 wi y435 y437 y439 y441 y443 y445 (m.1 28) (m.1 69) (m.1 70) (m.1 71) (m.1 72) (m.1 75) (m.2 65) (m.2 66) (m.2 67) (m.2 68) (r32 (by omega) (by omega)) (r32 (by omega) (by omega)) ⟨by decide, by decide⟩ ⟨by decide, by decide⟩ (r32 (by omega) (by omega)) g436 g438 g440 g442 g444 g446 f28 f69 f70 f71 f72 f75 (hT.2.1 65) (hT.2.1 66) (hT.2.1 67) (hT.2.1 68) (by omega) (by omega) (by omega) (by omega) (by omega) (by omega) (by omega) (by omega) (by omega) (by omega)
        · skip
          replace h427 : LxP y415 y417 y419 (m.1 6) y421 := h427
          have hLx := h427
          clear h428
          replace h429 : (m.1 8) ≤ y417 := h429
          clear h430
          have hf521 : 1 ≤ y421 := by omega
          refine T_ld 98 (.ref 189) rfl (fun _ => rfl) ?_
          refine T_ld 100 (.int (i32 46)) rfl (fun _ => rfl) ?_
          refine T_call 103 232 [.ref 189, .int (i32 46)] [] rfl (fun _ => rfl) rfl (c_need w (mO m [(7, y415), (8, y417), (9, y419), (10, y421), (11, y423), (12, y425), (28, (m.1 28)), (69, (m.1 69)), (70, (m.1 70)), (71, (m.1 71)), (72, (m.1 72)), (75, (m.1 75))] [(65, (m.2 65)), (66, (m.2 66)), (67, (m.2 67)), (68, (m.2 68))]) c N D (by omega) (Ty_mO hT rfl rfl ⟨g416, g418, g420, g422, g424, g426, f28, f69, f70, f71, f72, f75, trivial⟩ ⟨(hT.2.1 65), (hT.2.1 66), (hT.2.1 67), (hT.2.1 68), trivial⟩) 46 ⟨by decide, by decide⟩ (show 1 ≤ 46 by omega) (show LxP y415 y417 y419 (m.1 6) y421 by first | exact hLx | (intro h9; exfalso; omega) | (intro h9; have h8 := hLx (by omega); omega))) (fun r522 k523 => ?_)
          obtain ⟨y524, y526, y528, y530, y532, y534, g525, g527, g529, g531, g533, g535, h536, h537, h538, h539, rfl⟩ := k523
          refine ⟨_, _, rfl, ?_⟩
          refine T_nf (st' := []) (l' := [(7, y524), (8, y526), (9, y528), (10, y530), (11, y532), (12, y534), (28, (m.1 28)), (69, (m.1 69)), (70, (m.1 70)), (71, (m.1 71)), (72, (m.1 72)), (75, (m.1 75))]) (a' := [(65, (m.2 65)), (66, (m.2 66)), (67, (m.2 67)), (68, (m.2 68))]) rfl rfl rfl rfl rfl ?_
          replace h536 : LxP y524 y526 y528 (m.1 6) y530 := h536
          replace h537 : y530 = 0 → y421 = 0 ∧ y415 = 46 := h537
          replace h538 : y417 ≤ y526 := h538
          replace h539 : y530 = 0 → y417 + y419 ≤ y526 := h539
          have hf540 : 1 ≤ y530 := by omega
          clear h537
          clear h539
          have hLx := h536
          clear g416 g418 g420 g422 g424 g426 h427 h429 hf521 h538
          refine Tm_lv (a := [(0, .ref 189), (1, .int (i32 p)), (2, .int (i32 pq)), (3, .int (i32 so)), (4, .int (i32 1)), (5, .int (i32 401)), (6, .int (i32 wi))]) rfl rfl ⟨rfl, rfl, rfl, rfl, rfl, rfl, rfl, trivial⟩ ?_
          exact J103_315 pq so 1 401 wi y524 y526 y528 y530 y532 y534 (m.1 28) (m.1 69) (m.1 70) (m.1 71) (m.1 72) (m.1 75) (m.2 65) (m.2 66) (m.2 67) (m.2 68) (r32 (by omega) (by omega)) (r32 (by omega) (by omega)) ⟨by decide, by decide⟩ ⟨by decide, by decide⟩ (r32 (by omega) (by omega)) g525 g527 g529 g531 g533 g535 f28 f69 f70 f71 f72 f75 (hT.2.1 65) (hT.2.1 66) (hT.2.1 67) (hT.2.1 68) (by omega) (by omega) (by omega) (by omega) (by omega) (by omega) (by omega) (by omega) (by omega) (by omega)
    · skip
      refine T_ld 53 (.int (i32 402)) rfl (fun _ => rfl) ?_
      refine T_sto 55 [(5, .int (i32 402)), (6, .int (i32 0)), (4, .int (i32 1)), (3, .int (i32 so)), (2, .int (i32 pq)), (0, .ref 189), (1, .int (i32 p))] rfl (fun _ => rfl) ?_
      refine T_ld 56 (.ref 189) rfl (fun _ => rfl) ?_
      refine T_call 59 237 [.ref 189] [] rfl (fun _ => rfl) rfl (c_whichHere w (mO m [(7, (m.1 7)), (8, (m.1 8)), (9, (m.1 9)), (10, (m.1 10)), (11, (m.1 11)), (12, (m.1 12)), (28, (m.1 28)), (69, (m.1 69)), (70, (m.1 70)), (71, (m.1 71)), (72, (m.1 72)), (75, (m.1 75))] [(65, (m.2 65)), (66, (m.2 66)), (67, (m.2 67)), (68, (m.2 68))]) c N D (by omega) (Ty_mO hT rfl rfl ⟨f7, f8, f9, f10, f11, f12, f28, f69, f70, f71, f72, f75, trivial⟩ ⟨(hT.2.1 65), (hT.2.1 66), (hT.2.1 67), (hT.2.1 68), trivial⟩) (show 1 ≤ (m.1 9) ∧ (m.1 8) + (m.1 9) ≤ (m.1 6) by first | omega | (have h8 := hLx (by omega); omega)) (show ∀ k, (m.2 14) k + (m.2 15) k ≤ 4000 by first | exact hNM | exact p1) (show ∀ g k, isGH (m.2 4) (m.1 8) (m.1 9) g → g < 0 → isFH (m.2 4) (m.2 14) (m.2 15) (m.1 8) (m.1 9) (m.1 13) k → 0 ≤ k by exact old_ok hSo (by omega))) (fun r541 k542 => ?_)
      obtain ⟨wi, g543, h544, rfl⟩ := k542
      refine ⟨_, _, rfl, ?_⟩
      refine T_nf (st' := [.int (i32 wi)]) (l' := [(7, (m.1 7)), (8, (m.1 8)), (9, (m.1 9)), (10, (m.1 10)), (11, (m.1 11)), (12, (m.1 12)), (28, (m.1 28)), (69, (m.1 69)), (70, (m.1 70)), (71, (m.1 71)), (72, (m.1 72)), (75, (m.1 75))]) (a' := [(65, (m.2 65)), (66, (m.2 66)), (67, (m.2 67)), (68, (m.2 68))]) rfl rfl rfl rfl rfl ?_
      obtain ⟨g543a, g543b⟩ := g543
      replace h544 : ∃ g k, isGH (m.2 4) (m.1 8) (m.1 9) g ∧ (g < 0 → isFH (m.2 4) (m.2 14) (m.2 15) (m.1 8) (m.1 9) (m.1 13) k) ∧ wi = whichV (m.2 17) g k := h544
      have hWi := h544
      have u545 : (m.1 8) ≤ (m.1 8) := by omega
      obtain ⟨hw0, hw1⟩ : 0 ≤ wi ∧ wi < (m.1 21) := old_rg hSo hWi (by omega) (by omega) (by omega) (PNl_3 pPN) (by omega)
      have pmt := pPN.2.1
      refine T_sto 61 [(6, .int (i32 wi)), (5, .int (i32 402)), (4, .int (i32 1)), (3, .int (i32 so)), (2, .int (i32 pq)), (0, .ref 189), (1, .int (i32 p))] rfl (fun _ => rfl) ?_
      refine T_gf 65 (.ref 205) rfl rfl rfl rfl rfl rfl ?_
      refine T_ld 67 (.int (i32 wi)) rfl (fun _ => rfl) ?_
      refine T_iald 68 35 (m.2 35) rfl rfl rfl (by omega) (show wi < (16 : Int) by omega) rfl ?_
      have e546 : 0 ≤ m.2 35 wi ∧ m.2 35 wi ≤ 64 := hT.2.1 35 wi
      refine T_sto 70 [(4, .int (i32 ((m.2 35) wi))), (6, .int (i32 wi)), (5, .int (i32 402)), (3, .int (i32 so)), (2, .int (i32 pq)), (0, .ref 189), (1, .int (i32 p))] rfl (fun _ => rfl) ?_
      refine T_ld 71 (.ref 189) rfl (fun _ => rfl) ?_
      refine T_call 74 212 [.ref 189] [] rfl (fun _ => rfl) rfl (c_next w (mO m [(7, (m.1 7)), (8, (m.1 8)), (9, (m.1 9)), (10, (m.1 10)), (11, (m.1 11)), (12, (m.1 12)), (28, (m.1 28)), (69, (m.1 69)), (70, (m.1 70)), (71, (m.1 71)), (72, (m.1 72)), (75, (m.1 75))] [(65, (m.2 65)), (66, (m.2 66)), (67, (m.2 67)), (68, (m.2 68))]) c N D (by omega) (Ty_mO hT rfl rfl ⟨f7, f8, f9, f10, f11, f12, f28, f69, f70, f71, f72, f75, trivial⟩ ⟨(hT.2.1 65), (hT.2.1 66), (hT.2.1 67), (hT.2.1 68), trivial⟩) (show (m.1 10) = 0 → (m.1 8) + (m.1 9) ≤ (m.1 6) by first | omega | (intro h9; have h8 := hLx h9; omega))) (fun r547 k548 => ?_)
      obtain ⟨y549, y551, y553, y555, y557, y559, g550, g552, g554, g556, g558, g560, h561, h562, h563, h564, rfl⟩ := k548
      refine ⟨_, _, rfl, ?_⟩
      refine T_nf (st' := []) (l' := [(7, y549), (8, y551), (9, y553), (10, y555), (11, y557), (12, y559), (28, (m.1 28)), (69, (m.1 69)), (70, (m.1 70)), (71, (m.1 71)), (72, (m.1 72)), (75, (m.1 75))]) (a' := [(65, (m.2 65)), (66, (m.2 66)), (67, (m.2 67)), (68, (m.2 68))]) rfl rfl rfl rfl rfl ?_
      by_cases hf565 : y555 = 0
      · skip
        subst hf565
        replace h561 : LxP y549 y551 y553 (m.1 6) 0 := h561
        have hLx := h561
        replace h562 : (m.1 10) = 0 := h562 rfl
        replace h563 : (m.1 8) ≤ y551 := h563
        replace h564 : (m.1 8) + (m.1 9) ≤ y551 := h564 rfl
        have u566 : (m.1 8) ≤ y551 := by omega
        clear g556
        refine T_goto 139 rfl (fun _ => rfl) ?_
        have hA : ar 402 = 0 := by first | (have e : 402 = 403 := by omega) | skip; first | (rw [show 402 = 403 by omega]; decide) | (rw [show 402 = 402 by omega]; decide) | (rw [show 402 = 401 by omega]; decide)
        have hAr : ar 402 ≤ h := by omega
        have hCk : CNk 402 wi := by refine ⟨?_, ?_, ?_, ?_⟩ <;> omega
        refine T_ld 140 (.ref 189) rfl (fun _ => rfl) ?_
        refine T_ld 142 (.int (i32 402)) rfl (fun _ => rfl) ?_
        refine T_ld 144 (.int (i32 ((m.2 35) wi))) rfl (fun _ => rfl) ?_
        refine T_ld 146 (.int (i32 wi)) rfl (fun _ => rfl) ?_
        refine T_ld 147 (.long (i64 0)) rfl (fun _ => rfl) ?_
        refine T_call 150 248 [.ref 189, .int (i32 402), .int (i32 ((m.2 35) wi)), .int (i32 wi), .long (i64 0)] [] rfl (fun _ => rfl) rfl (c_node w (mO m [(7, y549), (8, y551), (9, y553), (10, 0), (11, y557), (12, y559), (28, (m.1 28)), (69, (m.1 69)), (70, (m.1 70)), (71, (m.1 71)), (72, (m.1 72)), (75, (m.1 75))] [(65, (m.2 65)), (66, (m.2 66)), (67, (m.2 67)), (68, (m.2 68))]) c N D (by omega) (Ty_mO hT rfl rfl ⟨g550, g552, g554, ⟨(by omega : (0 : Int) ≤ 0), (by omega : (0 : Int) ≤ 8)⟩, g558, g560, f28, f69, f70, f71, f72, f75, trivial⟩ ⟨(hT.2.1 65), (hT.2.1 66), (hT.2.1 67), (hT.2.1 68), trivial⟩) 402 ((m.2 35) wi) wi 0 ($B) h ⟨by decide, by decide⟩ (r32 (by omega) (by omega)) (r32 (by omega) (by omega)) ⟨by decide, by decide⟩ (fun _ => ⟨(show 0 ≤ 402 ∧ 402 ≤ 408 by first | omega | decide), (show 0 ≤ ((m.2 35) wi) ∧ ((m.2 35) wi) ≤ 64 by first | omega | decide), (show 0 ≤ wi ∧ wi ≤ 191 by first | omega | decide), (show CNk 402 wi by first | exact hCk | (refine ⟨?_, ?_, ?_, ?_⟩ <;> omega)), (show ar 402 ≤ h by first | exact hAr | omega), (show EX (m.2 65) (m.2 67) ($B) (m.1 28) h by first | exact hEX | assumption)⟩)) (fun r567 k568 => ?_)
        obtain ⟨y569, y571, y573, F575, F577, F579, F581, g570, g572, g574, G576, G578, G580, G582, h583, c584, rfl⟩ := k568
        refine ⟨_, _, rfl, ?_⟩
        refine T_nf (st' := []) (l' := [(7, y549), (8, y551), (9, y553), (10, y569), (11, y571), (12, y559), (28, y573), (69, (m.1 69)), (70, (m.1 70)), (71, (m.1 71)), (72, (m.1 72)), (75, (m.1 75))]) (a' := [(65, F575), (66, F577), (67, F579), (68, F581)]) rfl rfl rfl rfl rfl ?_
        by_cases hf585 : y569 = 0
        · skip
          subst hf585
          replace h583 : 0 = 0 := h583 rfl
          obtain ⟨c586, c587, c588⟩ := c584 rfl
          replace c586 : y573 = (m.1 28) + 1 := c586
          replace c587 : EX F575 F579 ($B) y573 (h + 1 - ar 402) := c587
          have hEX := c587
          replace c588 : agr (m.2 65) F575 (m.1 28) := c588
          have hAg := c588
          have u589 : (m.1 8) ≤ y551 := by omega
          clear g558 g570
          refine T_ld 151 (.ref 189) rfl (fun _ => rfl) ?_
          refine T_ld 153 (.int (i32 ((m.2 35) wi))) rfl (fun _ => rfl) ?_
          refine T_ld 154 (.int (i32 p)) rfl (fun _ => rfl) ?_
          refine T_call 157 249 [.ref 189, .int (i32 ((m.2 35) wi)), .int (i32 p)] [] rfl (fun _ => rfl) rfl (c_atom w (mO m [(7, y549), (8, y551), (9, y553), (10, 0), (11, y571), (12, y559), (28, y573), (69, (m.1 69)), (70, (m.1 70)), (71, (m.1 71)), (72, (m.1 72)), (75, (m.1 75))] [(65, F575), (66, F577), (67, F579), (68, F581)]) c N D (by omega) (Ty_mO hT rfl rfl ⟨g550, g552, g554, ⟨(by omega : (0 : Int) ≤ 0), (by omega : (0 : Int) ≤ 8)⟩, g572, g560, g574, f69, f70, f71, f72, f75, trivial⟩ ⟨G576, G578, G580, G582, trivial⟩) ((m.2 35) wi) p (r32 (by omega) (by omega)) (r32 (by omega) (by omega)) (show 0 ≤ ((m.2 35) wi) ∧ ((m.2 35) wi) ≤ 64 by omega) (show 0 ≤ p ∧ p ≤ 4000 by omega)) (fun r590 k591 => ?_)
          obtain ⟨y592, y594, y596, y598, y600, g593, g595, g597, g599, g601, h602, rfl⟩ := k591
          refine ⟨_, _, rfl, ?_⟩
          refine T_nf (st' := []) (l' := [(7, y549), (8, y551), (9, y553), (10, 0), (11, y571), (12, y559), (28, y573), (69, y592), (70, y594), (71, y596), (72, y598), (75, y600)]) (a' := [(65, F575), (66, F577), (67, F579), (68, F581)]) rfl rfl rfl rfl rfl ?_
          replace h602 : 0 = 0 → y600 = 1 ∧ y592 = ((m.2 35) wi) := h602
          have u603 : (m.1 8) ≤ y551 := by omega
          refine T_ret rfl (fun _ => rfl) ?_
          exact ⟨y549, y551, y553, 0, y571, y559, y573, y592, y594, y596, y598, y600, F575, F577, F579, F581, g550, g552, g554, ⟨by omega, by omega⟩, g572, g560, g574, g593, g595, g597, g599, g601, G576, G578, G580, G582, (by omega), (by first | exact hLx | (intro h9; exfalso; omega)), (fun _ => ⟨(by omega), (by omega), (by omega), (by omega), (by exact EX_w hEX (by omega)), (by exact hAg)⟩), rfl⟩
        · skip
          clear c584
          clear h583
          have hf604 : 1 ≤ y569 := by omega
          clear g558
          refine Tm_lv (a := [(0, .ref 189), (1, .int (i32 p)), (2, .int (i32 pq)), (3, .int (i32 so)), (4, .int (i32 ((m.2 35) wi))), (5, .int (i32 402)), (6, .int (i32 wi))]) rfl rfl ⟨rfl, rfl, rfl, rfl, rfl, rfl, rfl, trivial⟩ ?_
          exact J150_172 pq so ((m.2 35) wi) 402 wi y549 y551 y553 y569 y571 y559 y573 (m.1 69) (m.1 70) (m.1 71) (m.1 72) (m.1 75) F575 F577 F579 F581 (r32 (by omega) (by omega)) (r32 (by omega) (by omega)) (r32 (by omega) (by omega)) ⟨by decide, by decide⟩ (r32 (by omega) (by omega)) g550 g552 g554 g570 g572 g560 g574 f69 f70 f71 f72 f75 G576 G578 G580 G582 (by omega) (by omega) (by omega) (by omega) (by omega) (by omega) (by omega) (by omega)
      · skip
        replace h561 : LxP y549 y551 y553 (m.1 6) y555 := h561
        have hLx := h561
        clear h562
        replace h563 : (m.1 8) ≤ y551 := h563
        clear h564
        have hf605 : 1 ≤ y555 := by omega
        refine T_goto 139 rfl (fun _ => rfl) ?_
        refine T_ld 140 (.ref 189) rfl (fun _ => rfl) ?_
        refine T_ld 142 (.int (i32 402)) rfl (fun _ => rfl) ?_
        refine T_ld 144 (.int (i32 ((m.2 35) wi))) rfl (fun _ => rfl) ?_
        refine T_ld 146 (.int (i32 wi)) rfl (fun _ => rfl) ?_
        refine T_ld 147 (.long (i64 0)) rfl (fun _ => rfl) ?_
        refine T_call 150 248 [.ref 189, .int (i32 402), .int (i32 ((m.2 35) wi)), .int (i32 wi), .long (i64 0)] [] rfl (fun _ => rfl) rfl (c_node w (mO m [(7, y549), (8, y551), (9, y553), (10, y555), (11, y557), (12, y559), (28, (m.1 28)), (69, (m.1 69)), (70, (m.1 70)), (71, (m.1 71)), (72, (m.1 72)), (75, (m.1 75))] [(65, (m.2 65)), (66, (m.2 66)), (67, (m.2 67)), (68, (m.2 68))]) c N D (by omega) (Ty_mO hT rfl rfl ⟨g550, g552, g554, g556, g558, g560, f28, f69, f70, f71, f72, f75, trivial⟩ ⟨(hT.2.1 65), (hT.2.1 66), (hT.2.1 67), (hT.2.1 68), trivial⟩) 402 ((m.2 35) wi) wi 0 ($B) h ⟨by decide, by decide⟩ (r32 (by omega) (by omega)) (r32 (by omega) (by omega)) ⟨by decide, by decide⟩ (fun h => absurd h (by omega))) (fun r606 k607 => ?_)
        obtain ⟨y608, y610, y612, F614, F616, F618, F620, g609, g611, g613, G615, G617, G619, G621, h622, c623, rfl⟩ := k607
        refine ⟨_, _, rfl, ?_⟩
        refine T_nf (st' := []) (l' := [(7, y549), (8, y551), (9, y553), (10, y608), (11, y610), (12, y559), (28, y612), (69, (m.1 69)), (70, (m.1 70)), (71, (m.1 71)), (72, (m.1 72)), (75, (m.1 75))]) (a' := [(65, F614), (66, F616), (67, F618), (68, F620)]) rfl rfl rfl rfl rfl ?_
        replace h622 : y608 = 0 → y555 = 0 := h622
        have hf624 : 1 ≤ y608 := by omega
        clear c623
        clear h622
        clear g556 g558 h561 hf605
        refine Tm_lv (a := [(0, .ref 189), (1, .int (i32 p)), (2, .int (i32 pq)), (3, .int (i32 so)), (4, .int (i32 ((m.2 35) wi))), (5, .int (i32 402)), (6, .int (i32 wi))]) rfl rfl ⟨rfl, rfl, rfl, rfl, rfl, rfl, rfl, trivial⟩ ?_
        exact J150_172 pq so ((m.2 35) wi) 402 wi y549 y551 y553 y608 y610 y559 y612 (m.1 69) (m.1 70) (m.1 71) (m.1 72) (m.1 75) F614 F616 F618 F620 (r32 (by omega) (by omega)) (r32 (by omega) (by omega)) (r32 (by omega) (by omega)) ⟨by decide, by decide⟩ (r32 (by omega) (by omega)) g550 g552 g554 g609 g611 g560 g613 f69 f70 f71 f72 f75 G615 G617 G619 G621 (by omega) (by omega) (by omega) (by omega) (by omega) (by omega) (by omega) (by omega)
  · skip
    refine T_gf 29 (.ref 219) rfl rfl rfl rfl rfl rfl ?_
    refine T_ld 30 (.int (i32 pq)) rfl (fun _ => rfl) ?_
    refine T_iald 31 49 (m.2 49) rfl rfl rfl (by omega) (show pq < (64 : Int) by omega) rfl ?_
    have e625 : 0 ≤ m.2 49 pq ∧ m.2 49 pq ≤ 64 := hT.2.1 49 pq
    refine T_sto 33 [(4, .int (i32 ((m.2 49) pq))), (6, .int (i32 0)), (5, .int (i32 403)), (3, .int (i32 so)), (2, .int (i32 pq)), (0, .ref 189), (1, .int (i32 p))] rfl (fun _ => rfl) ?_
    refine T_ld 34 (.int (i32 pq)) rfl (fun _ => rfl) ?_
    refine T_ld 35 (.int (i32 4)) rfl (fun _ => rfl) ?_
    refine T_irem 36 rfl rfl (by omega) (by omega) (by omega) (by omega) ?_
    refine T_sto 38 [(6, .int (i32 (pq % 4))), (4, .int (i32 ((m.2 49) pq))), (5, .int (i32 403)), (3, .int (i32 so)), (2, .int (i32 pq)), (0, .ref 189), (1, .int (i32 p))] rfl (fun _ => rfl) ?_
    refine T_ld 39 (.ref 189) rfl (fun _ => rfl) ?_
    refine T_call 42 212 [.ref 189] [] rfl (fun _ => rfl) rfl (c_next w (mO m [(7, (m.1 7)), (8, (m.1 8)), (9, (m.1 9)), (10, (m.1 10)), (11, (m.1 11)), (12, (m.1 12)), (28, (m.1 28)), (69, (m.1 69)), (70, (m.1 70)), (71, (m.1 71)), (72, (m.1 72)), (75, (m.1 75))] [(65, (m.2 65)), (66, (m.2 66)), (67, (m.2 67)), (68, (m.2 68))]) c N D (by omega) (Ty_mO hT rfl rfl ⟨f7, f8, f9, f10, f11, f12, f28, f69, f70, f71, f72, f75, trivial⟩ ⟨(hT.2.1 65), (hT.2.1 66), (hT.2.1 67), (hT.2.1 68), trivial⟩) (show (m.1 10) = 0 → (m.1 8) + (m.1 9) ≤ (m.1 6) by first | omega | (intro h9; have h8 := hLx h9; omega))) (fun r626 k627 => ?_)
    obtain ⟨y628, y630, y632, y634, y636, y638, g629, g631, g633, g635, g637, g639, h640, h641, h642, h643, rfl⟩ := k627
    refine ⟨_, _, rfl, ?_⟩
    refine T_nf (st' := []) (l' := [(7, y628), (8, y630), (9, y632), (10, y634), (11, y636), (12, y638), (28, (m.1 28)), (69, (m.1 69)), (70, (m.1 70)), (71, (m.1 71)), (72, (m.1 72)), (75, (m.1 75))]) (a' := [(65, (m.2 65)), (66, (m.2 66)), (67, (m.2 67)), (68, (m.2 68))]) rfl rfl rfl rfl rfl ?_
    by_cases hf644 : y634 = 0
    · skip
      subst hf644
      replace h640 : LxP y628 y630 y632 (m.1 6) 0 := h640
      have hLx := h640
      replace h641 : (m.1 10) = 0 := h641 rfl
      replace h642 : (m.1 8) ≤ y630 := h642
      replace h643 : (m.1 8) + (m.1 9) ≤ y630 := h643 rfl
      have u645 : (m.1 8) ≤ y630 := by omega
      clear g635
      refine T_goto 139 rfl (fun _ => rfl) ?_
      have hA : ar 403 = 0 := by first | (have e : 403 = 403 := by omega) | skip; first | (rw [show 403 = 403 by omega]; decide) | (rw [show 403 = 402 by omega]; decide) | (rw [show 403 = 401 by omega]; decide)
      have hAr : ar 403 ≤ h := by omega
      have hCk : CNk 403 (pq % 4) := by refine ⟨?_, ?_, ?_, ?_⟩ <;> omega
      refine T_ld 140 (.ref 189) rfl (fun _ => rfl) ?_
      refine T_ld 142 (.int (i32 403)) rfl (fun _ => rfl) ?_
      refine T_ld 144 (.int (i32 ((m.2 49) pq))) rfl (fun _ => rfl) ?_
      refine T_ld 146 (.int (i32 (pq % 4))) rfl (fun _ => rfl) ?_
      refine T_ld 147 (.long (i64 0)) rfl (fun _ => rfl) ?_
      refine T_call 150 248 [.ref 189, .int (i32 403), .int (i32 ((m.2 49) pq)), .int (i32 (pq % 4)), .long (i64 0)] [] rfl (fun _ => rfl) rfl (c_node w (mO m [(7, y628), (8, y630), (9, y632), (10, 0), (11, y636), (12, y638), (28, (m.1 28)), (69, (m.1 69)), (70, (m.1 70)), (71, (m.1 71)), (72, (m.1 72)), (75, (m.1 75))] [(65, (m.2 65)), (66, (m.2 66)), (67, (m.2 67)), (68, (m.2 68))]) c N D (by omega) (Ty_mO hT rfl rfl ⟨g629, g631, g633, ⟨(by omega : (0 : Int) ≤ 0), (by omega : (0 : Int) ≤ 8)⟩, g637, g639, f28, f69, f70, f71, f72, f75, trivial⟩ ⟨(hT.2.1 65), (hT.2.1 66), (hT.2.1 67), (hT.2.1 68), trivial⟩) 403 ((m.2 49) pq) (pq % 4) 0 ($B) h ⟨by decide, by decide⟩ (r32 (by omega) (by omega)) (r32 (by omega) (by omega)) ⟨by decide, by decide⟩ (fun _ => ⟨(show 0 ≤ 403 ∧ 403 ≤ 408 by first | omega | decide), (show 0 ≤ ((m.2 49) pq) ∧ ((m.2 49) pq) ≤ 64 by first | omega | decide), (show 0 ≤ (pq % 4) ∧ (pq % 4) ≤ 191 by first | omega | decide), (show CNk 403 (pq % 4) by first | exact hCk | (refine ⟨?_, ?_, ?_, ?_⟩ <;> omega)), (show ar 403 ≤ h by first | exact hAr | omega), (show EX (m.2 65) (m.2 67) ($B) (m.1 28) h by first | exact hEX | assumption)⟩)) (fun r646 k647 => ?_)
      obtain ⟨y648, y650, y652, F654, F656, F658, F660, g649, g651, g653, G655, G657, G659, G661, h662, c663, rfl⟩ := k647
      refine ⟨_, _, rfl, ?_⟩
      refine T_nf (st' := []) (l' := [(7, y628), (8, y630), (9, y632), (10, y648), (11, y650), (12, y638), (28, y652), (69, (m.1 69)), (70, (m.1 70)), (71, (m.1 71)), (72, (m.1 72)), (75, (m.1 75))]) (a' := [(65, F654), (66, F656), (67, F658), (68, F660)]) rfl rfl rfl rfl rfl ?_
      by_cases hf664 : y648 = 0
      · skip
        subst hf664
        replace h662 : 0 = 0 := h662 rfl
        obtain ⟨c665, c666, c667⟩ := c663 rfl
        replace c665 : y652 = (m.1 28) + 1 := c665
        replace c666 : EX F654 F658 ($B) y652 (h + 1 - ar 403) := c666
        have hEX := c666
        replace c667 : agr (m.2 65) F654 (m.1 28) := c667
        have hAg := c667
        have u668 : (m.1 8) ≤ y630 := by omega
        clear g637 g649
        refine T_ld 151 (.ref 189) rfl (fun _ => rfl) ?_
        refine T_ld 153 (.int (i32 ((m.2 49) pq))) rfl (fun _ => rfl) ?_
        refine T_ld 154 (.int (i32 p)) rfl (fun _ => rfl) ?_
        refine T_call 157 249 [.ref 189, .int (i32 ((m.2 49) pq)), .int (i32 p)] [] rfl (fun _ => rfl) rfl (c_atom w (mO m [(7, y628), (8, y630), (9, y632), (10, 0), (11, y650), (12, y638), (28, y652), (69, (m.1 69)), (70, (m.1 70)), (71, (m.1 71)), (72, (m.1 72)), (75, (m.1 75))] [(65, F654), (66, F656), (67, F658), (68, F660)]) c N D (by omega) (Ty_mO hT rfl rfl ⟨g629, g631, g633, ⟨(by omega : (0 : Int) ≤ 0), (by omega : (0 : Int) ≤ 8)⟩, g651, g639, g653, f69, f70, f71, f72, f75, trivial⟩ ⟨G655, G657, G659, G661, trivial⟩) ((m.2 49) pq) p (r32 (by omega) (by omega)) (r32 (by omega) (by omega)) (show 0 ≤ ((m.2 49) pq) ∧ ((m.2 49) pq) ≤ 64 by omega) (show 0 ≤ p ∧ p ≤ 4000 by omega)) (fun r669 k670 => ?_)
        obtain ⟨y671, y673, y675, y677, y679, g672, g674, g676, g678, g680, h681, rfl⟩ := k670
        refine ⟨_, _, rfl, ?_⟩
        refine T_nf (st' := []) (l' := [(7, y628), (8, y630), (9, y632), (10, 0), (11, y650), (12, y638), (28, y652), (69, y671), (70, y673), (71, y675), (72, y677), (75, y679)]) (a' := [(65, F654), (66, F656), (67, F658), (68, F660)]) rfl rfl rfl rfl rfl ?_
        replace h681 : 0 = 0 → y679 = 1 ∧ y671 = ((m.2 49) pq) := h681
        have u682 : (m.1 8) ≤ y630 := by omega
        refine T_ret rfl (fun _ => rfl) ?_
        exact ⟨y628, y630, y632, 0, y650, y638, y652, y671, y673, y675, y677, y679, F654, F656, F658, F660, g629, g631, g633, ⟨by omega, by omega⟩, g651, g639, g653, g672, g674, g676, g678, g680, G655, G657, G659, G661, (by omega), (by first | exact hLx | (intro h9; exfalso; omega)), (fun _ => ⟨(by omega), (by omega), (by omega), (by omega), (by exact EX_w hEX (by omega)), (by exact hAg)⟩), rfl⟩
      · skip
        clear c663
        clear h662
        have hf683 : 1 ≤ y648 := by omega
        clear g637
        refine Tm_lv (a := [(0, .ref 189), (1, .int (i32 p)), (2, .int (i32 pq)), (3, .int (i32 so)), (4, .int (i32 ((m.2 49) pq))), (5, .int (i32 403)), (6, .int (i32 (pq % 4)))]) rfl rfl ⟨rfl, rfl, rfl, rfl, rfl, rfl, rfl, trivial⟩ ?_
        exact J150_172 pq so ((m.2 49) pq) 403 (pq % 4) y628 y630 y632 y648 y650 y638 y652 (m.1 69) (m.1 70) (m.1 71) (m.1 72) (m.1 75) F654 F656 F658 F660 (r32 (by omega) (by omega)) (r32 (by omega) (by omega)) (r32 (by omega) (by omega)) ⟨by decide, by decide⟩ (r32 (by omega) (by omega)) g629 g631 g633 g649 g651 g639 g653 f69 f70 f71 f72 f75 G655 G657 G659 G661 (by omega) (by omega) (by omega) (by omega) (by omega) (by omega) (by omega) (by omega)
    · skip
      replace h640 : LxP y628 y630 y632 (m.1 6) y634 := h640
      have hLx := h640
      clear h641
      replace h642 : (m.1 8) ≤ y630 := h642
      clear h643
      have hf684 : 1 ≤ y634 := by omega
      refine T_goto 139 rfl (fun _ => rfl) ?_
      refine T_ld 140 (.ref 189) rfl (fun _ => rfl) ?_
      refine T_ld 142 (.int (i32 403)) rfl (fun _ => rfl) ?_
      refine T_ld 144 (.int (i32 ((m.2 49) pq))) rfl (fun _ => rfl) ?_
      refine T_ld 146 (.int (i32 (pq % 4))) rfl (fun _ => rfl) ?_
      refine T_ld 147 (.long (i64 0)) rfl (fun _ => rfl) ?_
      refine T_call 150 248 [.ref 189, .int (i32 403), .int (i32 ((m.2 49) pq)), .int (i32 (pq % 4)), .long (i64 0)] [] rfl (fun _ => rfl) rfl (c_node w (mO m [(7, y628), (8, y630), (9, y632), (10, y634), (11, y636), (12, y638), (28, (m.1 28)), (69, (m.1 69)), (70, (m.1 70)), (71, (m.1 71)), (72, (m.1 72)), (75, (m.1 75))] [(65, (m.2 65)), (66, (m.2 66)), (67, (m.2 67)), (68, (m.2 68))]) c N D (by omega) (Ty_mO hT rfl rfl ⟨g629, g631, g633, g635, g637, g639, f28, f69, f70, f71, f72, f75, trivial⟩ ⟨(hT.2.1 65), (hT.2.1 66), (hT.2.1 67), (hT.2.1 68), trivial⟩) 403 ((m.2 49) pq) (pq % 4) 0 ($B) h ⟨by decide, by decide⟩ (r32 (by omega) (by omega)) (r32 (by omega) (by omega)) ⟨by decide, by decide⟩ (fun h => absurd h (by omega))) (fun r685 k686 => ?_)
      obtain ⟨y687, y689, y691, F693, F695, F697, F699, g688, g690, g692, G694, G696, G698, G700, h701, c702, rfl⟩ := k686
      refine ⟨_, _, rfl, ?_⟩
      refine T_nf (st' := []) (l' := [(7, y628), (8, y630), (9, y632), (10, y687), (11, y689), (12, y638), (28, y691), (69, (m.1 69)), (70, (m.1 70)), (71, (m.1 71)), (72, (m.1 72)), (75, (m.1 75))]) (a' := [(65, F693), (66, F695), (67, F697), (68, F699)]) rfl rfl rfl rfl rfl ?_
      replace h701 : y687 = 0 → y634 = 0 := h701
      have hf703 : 1 ≤ y687 := by omega
      clear c702
      clear h701
      clear g635 g637 h640 hf684
      refine Tm_lv (a := [(0, .ref 189), (1, .int (i32 p)), (2, .int (i32 pq)), (3, .int (i32 so)), (4, .int (i32 ((m.2 49) pq))), (5, .int (i32 403)), (6, .int (i32 (pq % 4)))]) rfl rfl ⟨rfl, rfl, rfl, rfl, rfl, rfl, rfl, trivial⟩ ?_
      exact J150_172 pq so ((m.2 49) pq) 403 (pq % 4) y628 y630 y632 y687 y689 y638 y691 (m.1 69) (m.1 70) (m.1 71) (m.1 72) (m.1 75) F693 F695 F697 F699 (r32 (by omega) (by omega)) (r32 (by omega) (by omega)) (r32 (by omega) (by omega)) ⟨by decide, by decide⟩ (r32 (by omega) (by omega)) g629 g631 g633 g688 g690 g639 g692 f69 f70 f71 f72 f75 G694 G696 G698 G700 (by omega) (by omega) (by omega) (by omega) (by omega) (by omega) (by omega) (by omega)
def Q_wantUnit (m : mR) (c : Nat → Option am_C) (N : Nat) (B : Int) : ag_Re af_T → Prop := fun R => ∃ (y7 : Int) (y8 : Int) (y9 : Int) (y10 : Int) (y11 : Int) (y12 : Int) (y28 : Int) (y69 : Int) (y70 : Int) (y71 : Int) (y72 : Int) (y73 : Int) (y74 : Int) (y75 : Int) (F65 : Int → Int) (F66 : Int → Int) (F67 : Int → Int) (F68 : Int → Int) (F76 : Int → Int) (F77 : Int → Int) (F78 : Int → Int) (F79 : Int → Int) (F80 : Int → Int), (0 ≤ y7 ∧ y7 ≤ 330) ∧ (0 ≤ y8 ∧ y8 ≤ 4000) ∧ (0 ≤ y9 ∧ y9 ≤ 4000) ∧ (0 ≤ y10 ∧ y10 ≤ 8) ∧ ((-1) ≤ y11 ∧ y11 ≤ 4000) ∧ ((-9223372036854775808) ≤ y12 ∧ y12 ≤ 9223372036854775807) ∧ (0 ≤ y28 ∧ y28 ≤ 800) ∧ (0 ≤ y69 ∧ y69 ≤ 1024) ∧ (0 ≤ y70 ∧ y70 ≤ 4000) ∧ (0 ≤ y71 ∧ y71 ≤ 1) ∧ ((-9223372036854775808) ≤ y72 ∧ y72 ≤ 9223372036854775807) ∧ (0 ≤ y73 ∧ y73 ≤ 60) ∧ (0 ≤ y74 ∧ y74 ≤ 24) ∧ (0 ≤ y75 ∧ y75 ≤ 3) ∧ (∀ j, 0 ≤ F65 j ∧ F65 j ≤ 408) ∧ (∀ j, 0 ≤ F66 j ∧ F66 j ≤ 64) ∧ (∀ j, 0 ≤ F67 j ∧ F67 j ≤ 191) ∧ (∀ j, (-9223372036854775808) ≤ F68 j ∧ F68 j ≤ 9223372036854775807) ∧ (∀ j, 0 ≤ F76 j ∧ F76 j ≤ 2) ∧ (∀ j, 0 ≤ F77 j ∧ F77 j ≤ 4000) ∧ (∀ j, 0 ≤ F78 j ∧ F78 j ≤ 330) ∧ (∀ j, 0 ≤ F79 j ∧ F79 j ≤ 2) ∧ (∀ j, (-1) ≤ F80 j ∧ F80 j ≤ 330) ∧ (y10 = 0 → (m.1 10) = 0) ∧ (LxP y7 y8 y9 (m.1 6) y10) ∧ (y10 = 0 → ((m.1 8) + 1 ≤ y8) ∧ (y75 = 0 ∨ (y75 = 1 ∧ y69 ≤ 64)) ∧ (1 ≤ y73) ∧ ((m.1 28) ≤ y28) ∧ (XS F65 F67 F76 F78 F79 F80 B y28 y73 y74 (um y75)) ∧ (agr (m.2 65) F65 (m.1 28))) ∧ R = (.inl (none), (mhp (mO m [(7, y7), (8, y8), (9, y9), (10, y10), (11, y11), (12, y12), (28, y28), (69, y69), (70, y70), (71, y71), (72, y72), (73, y73), (74, y74), (75, y75)] [(65, F65), (66, F66), (67, F67), (68, F68), (76, F76), (77, F77), (78, F78), (79, F79), (80, F80)]) c, N), 0, 0)
set_option maxHeartbeats 8000000 in
theorem c_wantUnit (w : wX) (m : mR) (c : Nat → Option am_C) (N D : Nat) (hD : 8 ≤ D) (hT : Ty m) (B : Int) (hLx0 : LxP (m.1 7) (m.1 8) (m.1 9) (m.1 6) (m.1 10)) (hNM0 : ∀ k, (m.2 14) k + (m.2 15) k ≤ 4000) (hFA0 : ∀ k, (m.2 31) k + (m.2 32) k ≤ 4000) (hPA0 : ∀ k, (m.2 47) k + (m.2 48) k ≤ 4000) (hf0 : m.1 10 = 0) (hC : (PN (m.1 13) (m.1 19) (m.1 20) (m.1 21) (m.1 22) (m.1 23) (m.1 25) (m.1 26) (m.2 16) (m.2 17)) ∧ (XS (m.2 65) (m.2 67) (m.2 76) (m.2 78) (m.2 79) (m.2 80) B (m.1 28) (m.1 73) (m.1 74) 0) ∧ (1 ≤ (m.1 73)) ∧ ((m.1 75) = 0)) : TC w D 247 [.ref 189] (mhp m c, N) (Q_wantUnit m c N B) := by
  obtain ⟨D, rfl⟩ : ∃ k, D = k + 1 := ⟨D - 1, by omega⟩
  have hLx := hLx0
  have hNM := hNM0
  have hFA := hFA0
  have hPA := hPA0
  have f7 : 0 ≤ m.1 7 ∧ m.1 7 ≤ 330 := hT.1 7
  have f8 : 0 ≤ m.1 8 ∧ m.1 8 ≤ 4000 := hT.1 8
  have f9 : 0 ≤ m.1 9 ∧ m.1 9 ≤ 4000 := hT.1 9
  have f10 : 0 ≤ m.1 10 ∧ m.1 10 ≤ 8 := hT.1 10
  have f11 : (-1) ≤ m.1 11 ∧ m.1 11 ≤ 4000 := hT.1 11
  have f12 : (-9223372036854775808) ≤ m.1 12 ∧ m.1 12 ≤ 9223372036854775807 := hT.1 12
  have f28 : 0 ≤ m.1 28 ∧ m.1 28 ≤ 800 := hT.1 28
  have f69 : 0 ≤ m.1 69 ∧ m.1 69 ≤ 1024 := hT.1 69
  have f70 : 0 ≤ m.1 70 ∧ m.1 70 ≤ 4000 := hT.1 70
  have f71 : 0 ≤ m.1 71 ∧ m.1 71 ≤ 1 := hT.1 71
  have f72 : (-9223372036854775808) ≤ m.1 72 ∧ m.1 72 ≤ 9223372036854775807 := hT.1 72
  have f73 : 0 ≤ m.1 73 ∧ m.1 73 ≤ 60 := hT.1 73
  have f74 : 0 ≤ m.1 74 ∧ m.1 74 ≤ 24 := hT.1 74
  have f75 : 0 ≤ m.1 75 ∧ m.1 75 ≤ 3 := hT.1 75
  have f25 : 0 ≤ m.1 25 ∧ m.1 25 ≤ 16 := hT.1 25
  have f22 : 0 ≤ m.1 22 ∧ m.1 22 ≤ 8 := hT.1 22
  have f19 : 0 ≤ m.1 19 ∧ m.1 19 ≤ 12 := hT.1 19
  have f20 : 0 ≤ m.1 20 ∧ m.1 20 ≤ 12 := hT.1 20
  have f21 : 0 ≤ m.1 21 ∧ m.1 21 ≤ 16 := hT.1 21
  have f13 : 0 ≤ m.1 13 ∧ m.1 13 ≤ 120 := hT.1 13
  have f6 : 0 ≤ m.1 6 ∧ m.1 6 ≤ 4000 := hT.1 6
  have f23 : 0 ≤ m.1 23 ∧ m.1 23 ≤ 16 := hT.1 23
  have f26 : 0 ≤ m.1 26 ∧ m.1 26 ≤ 8 := hT.1 26
  refine Tc_of rfl ?_
  show TT w D pm_247 (0, [(0, .ref 189)], [], (mhp m c, N), 0, 0) (Q_wantUnit m c N B)
  rw [show (mhp m c, N) = (mhp (mO m [(7, (m.1 7)), (8, (m.1 8)), (9, (m.1 9)), (10, (m.1 10)), (11, (m.1 11)), (12, (m.1 12)), (28, (m.1 28)), (69, (m.1 69)), (70, (m.1 70)), (71, (m.1 71)), (72, (m.1 72)), (73, (m.1 73)), (74, (m.1 74)), (75, (m.1 75))] [(65, (m.2 65)), (66, (m.2 66)), (67, (m.2 67)), (68, (m.2 68)), (76, (m.2 76)), (77, (m.2 77)), (78, (m.2 78)), (79, (m.2 79)), (80, (m.2 80))]) c, N) from congrArg (fun M => (mhp M c, N)) (mO_pad m [7, 8, 9, 10, 11, 12, 28, 69, 70, 71, 72, 73, 74, 75] [65, 66, 67, 68, 76, 77, 78, 79, 80])]
  obtain ⟨pPN, hXS, c1, c2⟩ := hC
  have hb := OS_hi hXS.1.2
  have hEX := hXS.1.1
  have hl0 : 0 ≤ lh (m.2 79) (m.2 80) (m.1 73) := lh_0 (hT.2.1 79) _ _
  have J212_295 : ∀ (v271 : Int) (y272 : Int) (y273 : Int) (y274 : Int) (y275 : Int) (y276 : Int) (y277 : Int) (y278 : Int) (y279 : Int) (y280 : Int) (y281 : Int) (y282 : Int) (y283 : Int) (y284 : Int) (y285 : Int) (F286 : Int → Int) (F287 : Int → Int) (F288 : Int → Int) (F289 : Int → Int) (F290 : Int → Int) (F291 : Int → Int) (F292 : Int → Int) (F293 : Int → Int) (F294 : Int → Int), (R32 v271) → (0 ≤ y272 ∧ y272 ≤ 330) → (0 ≤ y273 ∧ y273 ≤ 4000) → (0 ≤ y274 ∧ y274 ≤ 4000) → (0 ≤ y275 ∧ y275 ≤ 8) → ((-1) ≤ y276 ∧ y276 ≤ 4000) → ((-9223372036854775808) ≤ y277 ∧ y277 ≤ 9223372036854775807) → (0 ≤ y278 ∧ y278 ≤ 800) → (0 ≤ y279 ∧ y279 ≤ 1024) → (0 ≤ y280 ∧ y280 ≤ 4000) → (0 ≤ y281 ∧ y281 ≤ 1) → ((-9223372036854775808) ≤ y282 ∧ y282 ≤ 9223372036854775807) → (0 ≤ y283 ∧ y283 ≤ 60) → (0 ≤ y284 ∧ y284 ≤ 24) → (0 ≤ y285 ∧ y285 ≤ 3) → (∀ j, 0 ≤ F286 j ∧ F286 j ≤ 408) → (∀ j, 0 ≤ F287 j ∧ F287 j ≤ 64) → (∀ j, 0 ≤ F288 j ∧ F288 j ≤ 191) → (∀ j, (-9223372036854775808) ≤ F289 j ∧ F289 j ≤ 9223372036854775807) → (∀ j, 0 ≤ F290 j ∧ F290 j ≤ 2) → (∀ j, 0 ≤ F291 j ∧ F291 j ≤ 4000) → (∀ j, 0 ≤ F292 j ∧ F292 j ≤ 330) → (∀ j, 0 ≤ F293 j ∧ F293 j ≤ 2) → (∀ j, (-1) ≤ F294 j ∧ F294 j ≤ 330) → (0 ≤ v271) → (v271 ≤ 4000) → (1 ≤ y275) → (y275 ≤ 8) → TT w D pm_247 (212, [(0, .ref 189), (1, .int (i32 v271))], [], (mhp (mO m [(7, y272), (8, y273), (9, y274), (10, y275), (11, y276), (12, y277), (28, y278), (69, y279), (70, y280), (71, y281), (72, y282), (73, y283), (74, y284), (75, y285)] [(65, F286), (66, F287), (67, F288), (68, F289), (76, F290), (77, F291), (78, F292), (79, F293), (80, F294)]) c, N), 0, 0) (Q_wantUnit m c N B) := by
    intro v271 y272 y273 y274 y275 y276 y277 y278 y279 y280 y281 y282 y283 y284 y285 F286 F287 F288 F289 F290 F291 F292 F293 F294 q296 q297 q298 q299 q300 q301 q302 q303 q304 q305 q306 q307 q308 q309 q310 q311 q312 q313 q314 q315 q316 q317 q318 q319 i320 i321 i322 i323
    obtain ⟨q296a, q296b⟩ := id q296
    refine T_goto 219 rfl (fun _ => rfl) ?_
    refine T_ret rfl (fun _ => rfl) ?_
    exact ⟨y272, y273, y274, y275, y276, y277, y278, y279, y280, y281, y282, y283, y284, y285, F286, F287, F288, F289, F290, F291, F292, F293, F294, q297, q298, q299, q300, q301, q302, q303, q304, q305, q306, q307, q308, q309, q310, q311, q312, q313, q314, q315, q316, q317, q318, q319, (by omega), (by first | exact hLx | (intro h9; exfalso; omega)), (fun h => absurd h (by omega)), rfl⟩
  have J179_350 : ∀ (v325 : Int) (v326 : Int) (y327 : Int) (y328 : Int) (y329 : Int) (y330 : Int) (y331 : Int) (y332 : Int) (y333 : Int) (y334 : Int) (y335 : Int) (y336 : Int) (y337 : Int) (y338 : Int) (y339 : Int) (y340 : Int) (F341 : Int → Int) (F342 : Int → Int) (F343 : Int → Int) (F344 : Int → Int) (F345 : Int → Int) (F346 : Int → Int) (F347 : Int → Int) (F348 : Int → Int) (F349 : Int → Int), (R32 v325) → (R32 v326) → (0 ≤ y327 ∧ y327 ≤ 330) → (0 ≤ y328 ∧ y328 ≤ 4000) → (0 ≤ y329 ∧ y329 ≤ 4000) → (0 ≤ y330 ∧ y330 ≤ 8) → ((-1) ≤ y331 ∧ y331 ≤ 4000) → ((-9223372036854775808) ≤ y332 ∧ y332 ≤ 9223372036854775807) → (0 ≤ y333 ∧ y333 ≤ 800) → (0 ≤ y334 ∧ y334 ≤ 1024) → (0 ≤ y335 ∧ y335 ≤ 4000) → (0 ≤ y336 ∧ y336 ≤ 1) → ((-9223372036854775808) ≤ y337 ∧ y337 ≤ 9223372036854775807) → (0 ≤ y338 ∧ y338 ≤ 60) → (0 ≤ y339 ∧ y339 ≤ 24) → (0 ≤ y340 ∧ y340 ≤ 3) → (∀ j, 0 ≤ F341 j ∧ F341 j ≤ 408) → (∀ j, 0 ≤ F342 j ∧ F342 j ≤ 64) → (∀ j, 0 ≤ F343 j ∧ F343 j ≤ 191) → (∀ j, (-9223372036854775808) ≤ F344 j ∧ F344 j ≤ 9223372036854775807) → (∀ j, 0 ≤ F345 j ∧ F345 j ≤ 2) → (∀ j, 0 ≤ F346 j ∧ F346 j ≤ 4000) → (∀ j, 0 ≤ F347 j ∧ F347 j ≤ 330) → (∀ j, 0 ≤ F348 j ∧ F348 j ≤ 2) → (∀ j, (-1) ≤ F349 j ∧ F349 j ≤ 330) → (0 ≤ v325) → (v325 ≤ 4000) → (1 ≤ y330) → (y330 ≤ 8) → TT w D pm_247 (179, [(0, .ref 189), (1, .int (i32 v325)), (2, .int (i32 v326))], [], (mhp (mO m [(7, y327), (8, y328), (9, y329), (10, y330), (11, y331), (12, y332), (28, y333), (69, y334), (70, y335), (71, y336), (72, y337), (73, y338), (74, y339), (75, y340)] [(65, F341), (66, F342), (67, F343), (68, F344), (76, F345), (77, F346), (78, F347), (79, F348), (80, F349)]) c, N), 0, 0) (Q_wantUnit m c N B) := by
    intro v325 v326 y327 y328 y329 y330 y331 y332 y333 y334 y335 y336 y337 y338 y339 y340 F341 F342 F343 F344 F345 F346 F347 F348 F349 q351 q352 q353 q354 q355 q356 q357 q358 q359 q360 q361 q362 q363 q364 q365 q366 q367 q368 q369 q370 q371 q372 q373 q374 q375 i376 i377 i378 i379
    obtain ⟨q351a, q351b⟩ := id q351
    obtain ⟨q352a, q352b⟩ := id q352
    refine T_ld 180 (.ref 189) rfl (fun _ => rfl) ?_
    refine T_ld 181 (.int (i32 1)) rfl (fun _ => rfl) ?_
    refine T_ld 182 (.int (i32 v325)) rfl (fun _ => rfl) ?_
    refine T_call 185 249 [.ref 189, .int (i32 1), .int (i32 v325)] [] rfl (fun _ => rfl) rfl (c_atom w (mO m [(7, y327), (8, y328), (9, y329), (10, y330), (11, y331), (12, y332), (28, y333), (69, y334), (70, y335), (71, y336), (72, y337), (73, y338), (74, y339), (75, y340)] [(65, F341), (66, F342), (67, F343), (68, F344), (76, F345), (77, F346), (78, F347), (79, F348), (80, F349)]) c N D (by omega) (Ty_mO hT rfl rfl ⟨q353, q354, q355, q356, q357, q358, q359, q360, q361, q362, q363, q364, q365, q366, trivial⟩ ⟨q367, q368, q369, q370, q371, q372, q373, q374, q375, trivial⟩) 1 v325 ⟨by decide, by decide⟩ (r32 (by omega) (by omega)) (show 0 ≤ 1 ∧ 1 ≤ 64 by omega) (show 0 ≤ v325 ∧ v325 ≤ 4000 by omega)) (fun r381 k382 => ?_)
    obtain ⟨y383, y385, y387, y389, y391, g384, g386, g388, g390, g392, h393, rfl⟩ := k382
    refine ⟨_, _, rfl, ?_⟩
    refine T_nf (st' := []) (l' := [(7, y327), (8, y328), (9, y329), (10, y330), (11, y331), (12, y332), (28, y333), (69, y383), (70, y385), (71, y387), (72, y389), (73, y338), (74, y339), (75, y391)]) (a' := [(65, F341), (66, F342), (67, F343), (68, F344), (76, F345), (77, F346), (78, F347), (79, F348), (80, F349)]) rfl rfl rfl rfl rfl ?_
    replace h393 : y330 = 0 → y391 = 1 ∧ y383 = 1 := h393
    clear q360 q361 q362 q363 q366
    refine T_goto 219 rfl (fun _ => rfl) ?_
    refine T_ret rfl (fun _ => rfl) ?_
    exact ⟨y327, y328, y329, y330, y331, y332, y333, y383, y385, y387, y389, y338, y339, y391, F341, F342, F343, F344, F345, F346, F347, F348, F349, q353, q354, q355, q356, q357, q358, q359, g384, g386, g388, g390, q364, q365, g392, q367, q368, q369, q370, q371, q372, q373, q374, q375, (by omega), (by first | exact hLx | (intro h9; exfalso; omega)), (fun h => absurd h (by omega)), rfl⟩
  have J168_419 : ∀ (v394 : Int) (s395 : Int) (y396 : Int) (y397 : Int) (y398 : Int) (y399 : Int) (y400 : Int) (y401 : Int) (y402 : Int) (y403 : Int) (y404 : Int) (y405 : Int) (y406 : Int) (y407 : Int) (y408 : Int) (y409 : Int) (F410 : Int → Int) (F411 : Int → Int) (F412 : Int → Int) (F413 : Int → Int) (F414 : Int → Int) (F415 : Int → Int) (F416 : Int → Int) (F417 : Int → Int) (F418 : Int → Int), (R32 v394) → (R32 s395) → (0 ≤ y396 ∧ y396 ≤ 330) → (0 ≤ y397 ∧ y397 ≤ 4000) → (0 ≤ y398 ∧ y398 ≤ 4000) → (0 ≤ y399 ∧ y399 ≤ 8) → ((-1) ≤ y400 ∧ y400 ≤ 4000) → ((-9223372036854775808) ≤ y401 ∧ y401 ≤ 9223372036854775807) → (0 ≤ y402 ∧ y402 ≤ 800) → (0 ≤ y403 ∧ y403 ≤ 1024) → (0 ≤ y404 ∧ y404 ≤ 4000) → (0 ≤ y405 ∧ y405 ≤ 1) → ((-9223372036854775808) ≤ y406 ∧ y406 ≤ 9223372036854775807) → (0 ≤ y407 ∧ y407 ≤ 60) → (0 ≤ y408 ∧ y408 ≤ 24) → (0 ≤ y409 ∧ y409 ≤ 3) → (∀ j, 0 ≤ F410 j ∧ F410 j ≤ 408) → (∀ j, 0 ≤ F411 j ∧ F411 j ≤ 64) → (∀ j, 0 ≤ F412 j ∧ F412 j ≤ 191) → (∀ j, (-9223372036854775808) ≤ F413 j ∧ F413 j ≤ 9223372036854775807) → (∀ j, 0 ≤ F414 j ∧ F414 j ≤ 2) → (∀ j, 0 ≤ F415 j ∧ F415 j ≤ 4000) → (∀ j, 0 ≤ F416 j ∧ F416 j ≤ 330) → (∀ j, 0 ≤ F417 j ∧ F417 j ≤ 2) → (∀ j, (-1) ≤ F418 j ∧ F418 j ≤ 330) → (0 ≤ v394) → (v394 ≤ 4000) → (1 ≤ y399) → (y399 ≤ 8) → TT w D pm_247 (168, [(0, .ref 189), (1, .int (i32 v394))], [.int (i32 s395)], (mhp (mO m [(7, y396), (8, y397), (9, y398), (10, y399), (11, y400), (12, y401), (28, y402), (69, y403), (70, y404), (71, y405), (72, y406), (73, y407), (74, y408), (75, y409)] [(65, F410), (66, F411), (67, F412), (68, F413), (76, F414), (77, F415), (78, F416), (79, F417), (80, F418)]) c, N), 0, 0) (Q_wantUnit m c N B) := by
    intro v394 s395 y396 y397 y398 y399 y400 y401 y402 y403 y404 y405 y406 y407 y408 y409 F410 F411 F412 F413 F414 F415 F416 F417 F418 q420 q421 q422 q423 q424 q425 q426 q427 q428 q429 q430 q431 q432 q433 q434 q435 q436 q437 q438 q439 q440 q441 q442 q443 q444 i445 i446 i447 i448
    obtain ⟨q420a, q420b⟩ := id q420
    obtain ⟨q421a, q421b⟩ := id q421
    refine T_sto 169 [(2, .int (i32 s395)), (0, .ref 189), (1, .int (i32 v394))] rfl (fun _ => rfl) ?_
    refine T_ld 170 (.ref 189) rfl (fun _ => rfl) ?_
    refine T_ld 173 (.int (i32 404)) rfl (fun _ => rfl) ?_
    refine T_ld 174 (.int (i32 1)) rfl (fun _ => rfl) ?_
    refine T_ld 175 (.int (i32 s395)) rfl (fun _ => rfl) ?_
    refine T_ld 176 (.long (i64 0)) rfl (fun _ => rfl) ?_
    refine T_call 179 248 [.ref 189, .int (i32 404), .int (i32 1), .int (i32 s395), .long (i64 0)] [] rfl (fun _ => rfl) rfl (c_node w (mO m [(7, y396), (8, y397), (9, y398), (10, y399), (11, y400), (12, y401), (28, y402), (69, y403), (70, y404), (71, y405), (72, y406), (73, y407), (74, y408), (75, y409)] [(65, F410), (66, F411), (67, F412), (68, F413), (76, F414), (77, F415), (78, F416), (79, F417), (80, F418)]) c N D (by omega) (Ty_mO hT rfl rfl ⟨q422, q423, q424, q425, q426, q427, q428, q429, q430, q431, q432, q433, q434, q435, trivial⟩ ⟨q436, q437, q438, q439, q440, q441, q442, q443, q444, trivial⟩) 404 1 s395 0 ($B) (0 + lh (m.2 79) (m.2 80) (m.1 73)) ⟨by decide, by decide⟩ ⟨by decide, by decide⟩ (r32 (by omega) (by omega)) ⟨by decide, by decide⟩ (fun h => absurd h (by omega))) (fun r450 k451 => ?_)
    obtain ⟨y452, y454, y456, F458, F460, F462, F464, g453, g455, g457, G459, G461, G463, G465, h466, c467, rfl⟩ := k451
    refine ⟨_, _, rfl, ?_⟩
    refine T_nf (st' := []) (l' := [(7, y396), (8, y397), (9, y398), (10, y452), (11, y454), (12, y401), (28, y456), (69, y403), (70, y404), (71, y405), (72, y406), (73, y407), (74, y408), (75, y409)]) (a' := [(65, F458), (66, F460), (67, F462), (68, F464), (76, F414), (77, F415), (78, F416), (79, F417), (80, F418)]) rfl rfl rfl rfl rfl ?_
    replace h466 : y452 = 0 → y399 = 0 := h466
    have hf468 : 1 ≤ y452 := by omega
    clear c467
    clear h466
    clear q425 q426 q428 i447 i448
    refine Tm_lv (a := [(0, .ref 189), (1, .int (i32 v394)), (2, .int (i32 s395))]) rfl rfl ⟨rfl, rfl, rfl, trivial⟩ ?_
    exact J179_350 v394 s395 y396 y397 y398 y452 y454 y401 y456 y403 y404 y405 y406 y407 y408 y409 F458 F460 F462 F464 F414 F415 F416 F417 F418 (r32 (by omega) (by omega)) (r32 (by omega) (by omega)) q422 q423 q424 g453 g455 q427 g457 q429 q430 q431 q432 q433 q434 q435 G459 G461 G463 G465 q440 q441 q442 q443 q444 (by omega) (by omega) (by omega) (by omega)
  have J113_494 : ∀ (v469 : Int) (v470 : Int) (y471 : Int) (y472 : Int) (y473 : Int) (y474 : Int) (y475 : Int) (y476 : Int) (y477 : Int) (y478 : Int) (y479 : Int) (y480 : Int) (y481 : Int) (y482 : Int) (y483 : Int) (y484 : Int) (F485 : Int → Int) (F486 : Int → Int) (F487 : Int → Int) (F488 : Int → Int) (F489 : Int → Int) (F490 : Int → Int) (F491 : Int → Int) (F492 : Int → Int) (F493 : Int → Int), (R32 v469) → (R64 v470) → (0 ≤ y471 ∧ y471 ≤ 330) → (0 ≤ y472 ∧ y472 ≤ 4000) → (0 ≤ y473 ∧ y473 ≤ 4000) → (0 ≤ y474 ∧ y474 ≤ 8) → ((-1) ≤ y475 ∧ y475 ≤ 4000) → ((-9223372036854775808) ≤ y476 ∧ y476 ≤ 9223372036854775807) → (0 ≤ y477 ∧ y477 ≤ 800) → (0 ≤ y478 ∧ y478 ≤ 1024) → (0 ≤ y479 ∧ y479 ≤ 4000) → (0 ≤ y480 ∧ y480 ≤ 1) → ((-9223372036854775808) ≤ y481 ∧ y481 ≤ 9223372036854775807) → (0 ≤ y482 ∧ y482 ≤ 60) → (0 ≤ y483 ∧ y483 ≤ 24) → (0 ≤ y484 ∧ y484 ≤ 3) → (∀ j, 0 ≤ F485 j ∧ F485 j ≤ 408) → (∀ j, 0 ≤ F486 j ∧ F486 j ≤ 64) → (∀ j, 0 ≤ F487 j ∧ F487 j ≤ 191) → (∀ j, (-9223372036854775808) ≤ F488 j ∧ F488 j ≤ 9223372036854775807) → (∀ j, 0 ≤ F489 j ∧ F489 j ≤ 2) → (∀ j, 0 ≤ F490 j ∧ F490 j ≤ 4000) → (∀ j, 0 ≤ F491 j ∧ F491 j ≤ 330) → (∀ j, 0 ≤ F492 j ∧ F492 j ≤ 2) → (∀ j, (-1) ≤ F493 j ∧ F493 j ≤ 330) → (0 ≤ v469) → (v469 ≤ 4000) → (1 ≤ y474) → (y474 ≤ 8) → TT w D pm_247 (113, [(0, .ref 189), (1, .int (i32 v469)), (2, .long (i64 v470))], [], (mhp (mO m [(7, y471), (8, y472), (9, y473), (10, y474), (11, y475), (12, y476), (28, y477), (69, y478), (70, y479), (71, y480), (72, y481), (73, y482), (74, y483), (75, y484)] [(65, F485), (66, F486), (67, F487), (68, F488), (76, F489), (77, F490), (78, F491), (79, F492), (80, F493)]) c, N), 0, 0) (Q_wantUnit m c N B) := by
    intro v469 v470 y471 y472 y473 y474 y475 y476 y477 y478 y479 y480 y481 y482 y483 y484 F485 F486 F487 F488 F489 F490 F491 F492 F493 q495 q496 q497 q498 q499 q500 q501 q502 q503 q504 q505 q506 q507 q508 q509 q510 q511 q512 q513 q514 q515 q516 q517 q518 q519 i520 i521 i522 i523
    obtain ⟨q495a, q495b⟩ := id q495
    obtain ⟨q496a, q496b⟩ := id q496
    refine T_ld 114 (.ref 189) rfl (fun _ => rfl) ?_
    refine T_ld 116 (.int (i32 64)) rfl (fun _ => rfl) ?_
    refine T_ld 117 (.int (i32 v469)) rfl (fun _ => rfl) ?_
    refine T_call 120 249 [.ref 189, .int (i32 64), .int (i32 v469)] [] rfl (fun _ => rfl) rfl (c_atom w (mO m [(7, y471), (8, y472), (9, y473), (10, y474), (11, y475), (12, y476), (28, y477), (69, y478), (70, y479), (71, y480), (72, y481), (73, y482), (74, y483), (75, y484)] [(65, F485), (66, F486), (67, F487), (68, F488), (76, F489), (77, F490), (78, F491), (79, F492), (80, F493)]) c N D (by omega) (Ty_mO hT rfl rfl ⟨q497, q498, q499, q500, q501, q502, q503, q504, q505, q506, q507, q508, q509, q510, trivial⟩ ⟨q511, q512, q513, q514, q515, q516, q517, q518, q519, trivial⟩) 64 v469 ⟨by decide, by decide⟩ (r32 (by omega) (by omega)) (show 0 ≤ 64 ∧ 64 ≤ 64 by omega) (show 0 ≤ v469 ∧ v469 ≤ 4000 by omega)) (fun r525 k526 => ?_)
    obtain ⟨y527, y529, y531, y533, y535, g528, g530, g532, g534, g536, h537, rfl⟩ := k526
    refine ⟨_, _, rfl, ?_⟩
    refine T_nf (st' := []) (l' := [(7, y471), (8, y472), (9, y473), (10, y474), (11, y475), (12, y476), (28, y477), (69, y527), (70, y529), (71, y531), (72, y533), (73, y482), (74, y483), (75, y535)]) (a' := [(65, F485), (66, F486), (67, F487), (68, F488), (76, F489), (77, F490), (78, F491), (79, F492), (80, F493)]) rfl rfl rfl rfl rfl ?_
    replace h537 : y474 = 0 → y535 = 1 ∧ y527 = 64 := h537
    clear q504 q505 q506 q507 q510
    refine T_ld 121 (.ref 189) rfl (fun _ => rfl) ?_
    refine T_ld 122 (.int (i32 1)) rfl (fun _ => rfl) ?_
    refine T_pf (l' := [(7, y471), (8, y472), (9, y473), (10, y474), (11, y475), (12, y476), (28, y477), (69, y527), (70, y529), (71, 1), (72, y533), (73, y482), (74, y483), (75, y535)]) 125 1 rfl rfl rfl rfl rfl rfl ?_
    refine T_ld 126 (.ref 189) rfl (fun _ => rfl) ?_
    refine T_ld 127 (.long (i64 v470)) rfl (fun _ => rfl) ?_
    refine T_pf (l' := [(7, y471), (8, y472), (9, y473), (10, y474), (11, y475), (12, y476), (28, y477), (69, y527), (70, y529), (71, 1), (72, v470), (73, y482), (74, y483), (75, y535)]) 130 v470 rfl rfl rfl rfl rfl rfl ?_
    have g538 : (-9223372036854775808) ≤ v470 ∧ v470 ≤ 9223372036854775807 := ⟨by omega, by omega⟩
    refine T_goto 219 rfl (fun _ => rfl) ?_
    refine T_ret rfl (fun _ => rfl) ?_
    exact ⟨y471, y472, y473, y474, y475, y476, y477, y527, y529, 1, v470, y482, y483, y535, F485, F486, F487, F488, F489, F490, F491, F492, F493, q497, q498, q499, q500, q501, q502, q503, g528, g530, ⟨by omega, by omega⟩, g538, q508, q509, g536, q511, q512, q513, q514, q515, q516, q517, q518, q519, (by omega), (by first | exact hLx | (intro h9; exfalso; omega)), (fun h => absurd h (by omega)), rfl⟩
  have J82_563 : ∀ (v539 : Int) (y540 : Int) (y541 : Int) (y542 : Int) (y543 : Int) (y544 : Int) (y545 : Int) (y546 : Int) (y547 : Int) (y548 : Int) (y549 : Int) (y550 : Int) (y551 : Int) (y552 : Int) (y553 : Int) (F554 : Int → Int) (F555 : Int → Int) (F556 : Int → Int) (F557 : Int → Int) (F558 : Int → Int) (F559 : Int → Int) (F560 : Int → Int) (F561 : Int → Int) (F562 : Int → Int), (R32 v539) → (0 ≤ y540 ∧ y540 ≤ 330) → (0 ≤ y541 ∧ y541 ≤ 4000) → (0 ≤ y542 ∧ y542 ≤ 4000) → (0 ≤ y543 ∧ y543 ≤ 8) → ((-1) ≤ y544 ∧ y544 ≤ 4000) → ((-9223372036854775808) ≤ y545 ∧ y545 ≤ 9223372036854775807) → (0 ≤ y546 ∧ y546 ≤ 800) → (0 ≤ y547 ∧ y547 ≤ 1024) → (0 ≤ y548 ∧ y548 ≤ 4000) → (0 ≤ y549 ∧ y549 ≤ 1) → ((-9223372036854775808) ≤ y550 ∧ y550 ≤ 9223372036854775807) → (0 ≤ y551 ∧ y551 ≤ 60) → (0 ≤ y552 ∧ y552 ≤ 24) → (0 ≤ y553 ∧ y553 ≤ 3) → (∀ j, 0 ≤ F554 j ∧ F554 j ≤ 408) → (∀ j, 0 ≤ F555 j ∧ F555 j ≤ 64) → (∀ j, 0 ≤ F556 j ∧ F556 j ≤ 191) → (∀ j, (-9223372036854775808) ≤ F557 j ∧ F557 j ≤ 9223372036854775807) → (∀ j, 0 ≤ F558 j ∧ F558 j ≤ 2) → (∀ j, 0 ≤ F559 j ∧ F559 j ≤ 4000) → (∀ j, 0 ≤ F560 j ∧ F560 j ≤ 330) → (∀ j, 0 ≤ F561 j ∧ F561 j ≤ 2) → (∀ j, (-1) ≤ F562 j ∧ F562 j ≤ 330) → (0 ≤ v539) → (v539 ≤ 4000) → (1 ≤ y543) → (y543 ≤ 8) → TT w D pm_247 (82, [(0, .ref 189), (1, .int (i32 v539))], [], (mhp (mO m [(7, y540), (8, y541), (9, y542), (10, y543), (11, y544), (12, y545), (28, y546), (69, y547), (70, y548), (71, y549), (72, y550), (73, y551), (74, y552), (75, y553)] [(65, F554), (66, F555), (67, F556), (68, F557), (76, F558), (77, F559), (78, F560), (79, F561), (80, F562)]) c, N), 0, 0) (Q_wantUnit m c N B) := by
    intro v539 y540 y541 y542 y543 y544 y545 y546 y547 y548 y549 y550 y551 y552 y553 F554 F555 F556 F557 F558 F559 F560 F561 F562 q564 q565 q566 q567 q568 q569 q570 q571 q572 q573 q574 q575 q576 q577 q578 q579 q580 q581 q582 q583 q584 q585 q586 q587 i588 i589 i590 i591
    obtain ⟨q564a, q564b⟩ := id q564
    refine T_goto 219 rfl (fun _ => rfl) ?_
    refine T_ret rfl (fun _ => rfl) ?_
    exact ⟨y540, y541, y542, y543, y544, y545, y546, y547, y548, y549, y550, y551, y552, y553, F554, F555, F556, F557, F558, F559, F560, F561, F562, q565, q566, q567, q568, q569, q570, q571, q572, q573, q574, q575, q576, q577, q578, q579, q580, q581, q582, q583, q584, q585, q586, q587, (by omega), (by first | exact hLx | (intro h9; exfalso; omega)), (fun h => absurd h (by omega)), rfl⟩
  have J50_617 : ∀ (v593 : Int) (y594 : Int) (y595 : Int) (y596 : Int) (y597 : Int) (y598 : Int) (y599 : Int) (y600 : Int) (y601 : Int) (y602 : Int) (y603 : Int) (y604 : Int) (y605 : Int) (y606 : Int) (y607 : Int) (F608 : Int → Int) (F609 : Int → Int) (F610 : Int → Int) (F611 : Int → Int) (F612 : Int → Int) (F613 : Int → Int) (F614 : Int → Int) (F615 : Int → Int) (F616 : Int → Int), (R32 v593) → (0 ≤ y594 ∧ y594 ≤ 330) → (0 ≤ y595 ∧ y595 ≤ 4000) → (0 ≤ y596 ∧ y596 ≤ 4000) → (0 ≤ y597 ∧ y597 ≤ 8) → ((-1) ≤ y598 ∧ y598 ≤ 4000) → ((-9223372036854775808) ≤ y599 ∧ y599 ≤ 9223372036854775807) → (0 ≤ y600 ∧ y600 ≤ 800) → (0 ≤ y601 ∧ y601 ≤ 1024) → (0 ≤ y602 ∧ y602 ≤ 4000) → (0 ≤ y603 ∧ y603 ≤ 1) → ((-9223372036854775808) ≤ y604 ∧ y604 ≤ 9223372036854775807) → (0 ≤ y605 ∧ y605 ≤ 60) → (0 ≤ y606 ∧ y606 ≤ 24) → (0 ≤ y607 ∧ y607 ≤ 3) → (∀ j, 0 ≤ F608 j ∧ F608 j ≤ 408) → (∀ j, 0 ≤ F609 j ∧ F609 j ≤ 64) → (∀ j, 0 ≤ F610 j ∧ F610 j ≤ 191) → (∀ j, (-9223372036854775808) ≤ F611 j ∧ F611 j ≤ 9223372036854775807) → (∀ j, 0 ≤ F612 j ∧ F612 j ≤ 2) → (∀ j, 0 ≤ F613 j ∧ F613 j ≤ 4000) → (∀ j, 0 ≤ F614 j ∧ F614 j ≤ 330) → (∀ j, 0 ≤ F615 j ∧ F615 j ≤ 2) → (∀ j, (-1) ≤ F616 j ∧ F616 j ≤ 330) → (0 ≤ v593) → (v593 ≤ 4000) → (1 ≤ y597) → (y597 ≤ 8) → TT w D pm_247 (50, [(0, .ref 189), (1, .int (i32 v593))], [], (mhp (mO m [(7, y594), (8, y595), (9, y596), (10, y597), (11, y598), (12, y599), (28, y600), (69, y601), (70, y602), (71, y603), (72, y604), (73, y605), (74, y606), (75, y607)] [(65, F608), (66, F609), (67, F610), (68, F611), (76, F612), (77, F613), (78, F614), (79, F615), (80, F616)]) c, N), 0, 0) (Q_wantUnit m c N B) := by
    intro v593 y594 y595 y596 y597 y598 y599 y600 y601 y602 y603 y604 y605 y606 y607 F608 F609 F610 F611 F612 F613 F614 F615 F616 q618 q619 q620 q621 q622 q623 q624 q625 q626 q627 q628 q629 q630 q631 q632 q633 q634 q635 q636 q637 q638 q639 q640 q641 i642 i643 i644 i645
    obtain ⟨q618a, q618b⟩ := id q618
    refine T_gf 54 (.int (i32 y597)) rfl rfl rfl rfl rfl rfl ?_
    refine T_if 58 57 rfl rfl rfl (r32 (by omega) (by omega)) (fun (h647 : y597 ≤ 0) => by exfalso; omega) (fun (h647 : ¬ (y597 ≤ 0)) => ?_)
    refine T_ret rfl (fun _ => rfl) ?_
    exact ⟨y594, y595, y596, y597, y598, y599, y600, y601, y602, y603, y604, y605, y606, y607, F608, F609, F610, F611, F612, F613, F614, F615, F616, q619, q620, q621, q622, q623, q624, q625, q626, q627, q628, q629, q630, q631, q632, q633, q634, q635, q636, q637, q638, q639, q640, q641, (by omega), (by first | exact hLx | (intro h9; exfalso; omega)), (fun h => absurd h (by omega)), rfl⟩
  refine T_gf 4 (.int (i32 (m.1 8))) rfl rfl rfl rfl rfl rfl ?_
  refine T_sto 5 [(1, .int (i32 (m.1 8))), (0, .ref 189)] rfl (fun _ => rfl) ?_
  refine T_gf 9 (.int (i32 (m.1 7))) rfl rfl rfl rfl rfl rfl ?_
  refine T_ld 11 (.int (i32 126)) rfl (fun _ => rfl) ?_
  refine T_icmp 32 14 rfl rfl rfl (r32 (by omega) (by omega)) ⟨by decide, by decide⟩ (fun (h648 : (m.1 7) = 126) => ?_) (fun (h648 : ¬ ((m.1 7) = 126)) => ?_)
  · skip
    refine T_gf 36 (.int (i32 (m.1 74))) rfl rfl rfl rfl rfl rfl ?_
    refine T_ld 38 (.int (i32 24)) rfl (fun _ => rfl) ?_
    refine T_icmp 50 41 rfl rfl rfl (r32 (by omega) (by omega)) ⟨by decide, by decide⟩ (fun (h649 : (m.1 74) ≠ 24) => ?_) (fun (h649 : ¬ ((m.1 74) ≠ 24)) => ?_)
    · skip
      refine T_gf 54 (.int (i32 (m.1 10))) rfl rfl rfl rfl rfl rfl ?_
      refine T_if 58 57 rfl rfl rfl (r32 (by omega) (by omega)) (fun (h650 : (m.1 10) ≤ 0) => ?_) (fun (h650 : ¬ ((m.1 10) ≤ 0)) => by exfalso; omega)
      refine T_ld 59 (.ref 189) rfl (fun _ => rfl) ?_
      refine T_ld 60 (.ref 189) rfl (fun _ => rfl) ?_
      refine T_gf1 63 (.int (i32 (m.1 74))) rfl rfl rfl rfl ?_
      refine T_ld 64 (.int (i32 1)) rfl (fun _ => rfl) ?_
      refine T_iadd 65 rfl rfl ?_
      refine T_pf (l' := [(7, (m.1 7)), (8, (m.1 8)), (9, (m.1 9)), (10, (m.1 10)), (11, (m.1 11)), (12, (m.1 12)), (28, (m.1 28)), (69, (m.1 69)), (70, (m.1 70)), (71, (m.1 71)), (72, (m.1 72)), (73, (m.1 73)), (74, (m.1 74) + 1), (75, (m.1 75))]) 68 ((m.1 74) + 1) rfl rfl rfl rfl rfl rfl ?_
      have g651 : 0 ≤ (m.1 74) + 1 ∧ (m.1 74) + 1 ≤ 24 := ⟨by omega, by omega⟩
      refine T_ld 69 (.ref 189) rfl (fun _ => rfl) ?_
      refine T_ld 70 (.int (i32 1)) rfl (fun _ => rfl) ?_
      refine T_ld 71 (.int (i32 (m.1 8))) rfl (fun _ => rfl) ?_
      refine T_gf 75 (.int (i32 (m.1 7))) rfl rfl rfl rfl rfl rfl ?_
      refine T_call 78 246 [.ref 189, .int (i32 1), .int (i32 (m.1 8)), .int (i32 (m.1 7))] [] rfl (fun _ => rfl) rfl (c_open w (mO m [(7, (m.1 7)), (8, (m.1 8)), (9, (m.1 9)), (10, (m.1 10)), (11, (m.1 11)), (12, (m.1 12)), (28, (m.1 28)), (69, (m.1 69)), (70, (m.1 70)), (71, (m.1 71)), (72, (m.1 72)), (73, (m.1 73)), (74, (m.1 74) + 1), (75, (m.1 75))] [(65, (m.2 65)), (66, (m.2 66)), (67, (m.2 67)), (68, (m.2 68)), (76, (m.2 76)), (77, (m.2 77)), (78, (m.2 78)), (79, (m.2 79)), (80, (m.2 80))]) c N D (by omega) (Ty_mO hT rfl rfl ⟨f7, f8, f9, f10, f11, f12, f28, f69, f70, f71, f72, f73, g651, f75, trivial⟩ ⟨(hT.2.1 65), (hT.2.1 66), (hT.2.1 67), (hT.2.1 68), (hT.2.1 76), (hT.2.1 77), (hT.2.1 78), (hT.2.1 79), (hT.2.1 80), trivial⟩) 1 (m.1 8) (m.1 7) ⟨by decide, by decide⟩ (r32 (by omega) (by omega)) (r32 (by omega) (by omega)) (show (m.1 73) ≤ 59 by omega) (show 0 ≤ 1 ∧ 1 ≤ 2 by omega) (show 0 ≤ (m.1 8) ∧ (m.1 8) ≤ 4000 by omega) (show 0 ≤ (m.1 7) ∧ (m.1 7) ≤ 330 by omega)) (fun r652 k653 => ?_)
      obtain ⟨y654, F656, F658, F660, F662, F664, g655, G657, G659, G661, G663, G665, h666, h667, h668, h669, h670, h671, rfl⟩ := k653
      refine ⟨_, _, rfl, ?_⟩
      refine T_nf (st' := []) (l' := [(7, (m.1 7)), (8, (m.1 8)), (9, (m.1 9)), (10, (m.1 10)), (11, (m.1 11)), (12, (m.1 12)), (28, (m.1 28)), (69, (m.1 69)), (70, (m.1 70)), (71, (m.1 71)), (72, (m.1 72)), (73, y654), (74, (m.1 74) + 1), (75, (m.1 75))]) (a' := [(65, (m.2 65)), (66, (m.2 66)), (67, (m.2 67)), (68, (m.2 68)), (76, F656), (77, F658), (78, F660), (79, F662), (80, F664)]) rfl rfl rfl rfl rfl ?_
      replace h666 : y654 = (m.1 73) + 1 := h666
      replace h667 : F656 = upI (m.2 76) (m.1 73) 1 := h667
      have hO1 := h667
      replace h668 : F660 = upI (m.2 78) (m.1 73) (m.1 7) := h668
      have hO2 := h668
      replace h669 : F662 = upI (m.2 79) (m.1 73) 0 := h669
      have hO3 := h669
      replace h670 : ∀ j, j < 9 * (m.1 73) → F664 j = (m.2 80) j := h670
      have hW1 := h670
      replace h671 : ∀ j, 9 * (m.1 73) ≤ j → j < 9 * (m.1 73) + 9 → F664 j = -1 := h671
      have hW2 := h671
      have u672 : (m.1 8) ≤ (m.1 8) := by omega
      have hAgC : agr (m.2 65) (m.2 65) (m.1 28) := by first | exact agr_r _ _ | exact hAgC | exact agr_t hAgC hAg (by omega)
      refine T_ld 79 (.ref 189) rfl (fun _ => rfl) ?_
      refine T_call 82 212 [.ref 189] [] rfl (fun _ => rfl) rfl (c_next w (mO m [(7, (m.1 7)), (8, (m.1 8)), (9, (m.1 9)), (10, (m.1 10)), (11, (m.1 11)), (12, (m.1 12)), (28, (m.1 28)), (69, (m.1 69)), (70, (m.1 70)), (71, (m.1 71)), (72, (m.1 72)), (73, y654), (74, (m.1 74) + 1), (75, (m.1 75))] [(65, (m.2 65)), (66, (m.2 66)), (67, (m.2 67)), (68, (m.2 68)), (76, F656), (77, F658), (78, F660), (79, F662), (80, F664)]) c N D (by omega) (Ty_mO hT rfl rfl ⟨f7, f8, f9, f10, f11, f12, f28, f69, f70, f71, f72, g655, g651, f75, trivial⟩ ⟨(hT.2.1 65), (hT.2.1 66), (hT.2.1 67), (hT.2.1 68), G657, G659, G661, G663, G665, trivial⟩) (show (m.1 10) = 0 → (m.1 8) + (m.1 9) ≤ (m.1 6) by first | omega | (intro h9; have h8 := hLx h9; omega))) (fun r673 k674 => ?_)
      obtain ⟨y675, y677, y679, y681, y683, y685, g676, g678, g680, g682, g684, g686, h687, h688, h689, h690, rfl⟩ := k674
      refine ⟨_, _, rfl, ?_⟩
      refine T_nf (st' := []) (l' := [(7, y675), (8, y677), (9, y679), (10, y681), (11, y683), (12, y685), (28, (m.1 28)), (69, (m.1 69)), (70, (m.1 70)), (71, (m.1 71)), (72, (m.1 72)), (73, y654), (74, (m.1 74) + 1), (75, (m.1 75))]) (a' := [(65, (m.2 65)), (66, (m.2 66)), (67, (m.2 67)), (68, (m.2 68)), (76, F656), (77, F658), (78, F660), (79, F662), (80, F664)]) rfl rfl rfl rfl rfl ?_
      by_cases hf691 : y681 = 0
      · skip
        subst hf691
        replace h687 : LxP y675 y677 y679 (m.1 6) 0 := h687
        have hLx := h687
        replace h688 : (m.1 10) = 0 := h688 rfl
        replace h689 : (m.1 8) ≤ y677 := h689
        replace h690 : (m.1 8) + (m.1 9) ≤ y677 := h690 rfl
        have u692 : (m.1 8) ≤ y677 := by omega
        have hAgC : agr (m.2 65) (m.2 65) (m.1 28) := by first | exact agr_r _ _ | exact hAgC | exact agr_t hAgC hAg (by omega)
        clear g682
        have hXE : XS (m.2 65) (m.2 67) F656 F660 F662 F664 $B (m.1 28) y654 ((m.1 74) + 1) (um (m.1 75)) := by
          rw [hO1, hO2, hO3, show um (m.1 75) = 0 from if_pos (by omega)]
          exact XS_pre hXS (by omega) (by omega) hW1 hW2
        refine T_goto 219 rfl (fun _ => rfl) ?_
        refine T_ret rfl (fun _ => rfl) ?_
        exact ⟨y675, y677, y679, 0, y683, y685, (m.1 28), (m.1 69), (m.1 70), (m.1 71), (m.1 72), y654, (m.1 74) + 1, (m.1 75), (m.2 65), (m.2 66), (m.2 67), (m.2 68), F656, F658, F660, F662, F664, g676, g678, g680, ⟨by omega, by omega⟩, g684, g686, f28, f69, f70, f71, f72, g655, g651, f75, (hT.2.1 65), (hT.2.1 66), (hT.2.1 67), (hT.2.1 68), G657, G659, G661, G663, G665, (by omega), (by first | exact hLx | (intro h9; exfalso; omega)), (fun _ => ⟨(by omega), (by omega), (by omega), (by omega), (by exact hXE), (by exact hAgC)⟩), rfl⟩
      · skip
        replace h687 : LxP y675 y677 y679 (m.1 6) y681 := h687
        have hLx := h687
        clear h688
        replace h689 : (m.1 8) ≤ y677 := h689
        clear h690
        have hf693 : 1 ≤ y681 := by omega
        refine Tm_lv (a := [(0, .ref 189), (1, .int (i32 (m.1 8)))]) rfl rfl ⟨rfl, rfl, trivial⟩ ?_
        exact J82_563 (m.1 8) y675 y677 y679 y681 y683 y685 (m.1 28) (m.1 69) (m.1 70) (m.1 71) (m.1 72) y654 ((m.1 74) + 1) (m.1 75) (m.2 65) (m.2 66) (m.2 67) (m.2 68) F656 F658 F660 F662 F664 (r32 (by omega) (by omega)) g676 g678 g680 g682 g684 g686 f28 f69 f70 f71 f72 g655 g651 f75 (hT.2.1 65) (hT.2.1 66) (hT.2.1 67) (hT.2.1 68) G657 G659 G661 G663 G665 (by omega) (by omega) (by omega) (by omega)
    · skip
      refine T_ld 42 (.ref 189) rfl (fun _ => rfl) ?_
      refine T_ld 43 (.int (i32 4)) rfl (fun _ => rfl) ?_
      refine T_gf 47 (.int (i32 (m.1 8))) rfl rfl rfl rfl rfl rfl ?_
      refine T_call 50 222 [.ref 189, .int (i32 4), .int (i32 (m.1 8))] [] rfl (fun _ => rfl) rfl (c_wrong w (mO m [(7, (m.1 7)), (8, (m.1 8)), (9, (m.1 9)), (10, (m.1 10)), (11, (m.1 11)), (12, (m.1 12)), (28, (m.1 28)), (69, (m.1 69)), (70, (m.1 70)), (71, (m.1 71)), (72, (m.1 72)), (73, (m.1 73)), (74, (m.1 74)), (75, (m.1 75))] [(65, (m.2 65)), (66, (m.2 66)), (67, (m.2 67)), (68, (m.2 68)), (76, (m.2 76)), (77, (m.2 77)), (78, (m.2 78)), (79, (m.2 79)), (80, (m.2 80))]) c N D (by omega) (Ty_mO hT rfl rfl ⟨f7, f8, f9, f10, f11, f12, f28, f69, f70, f71, f72, f73, f74, f75, trivial⟩ ⟨(hT.2.1 65), (hT.2.1 66), (hT.2.1 67), (hT.2.1 68), (hT.2.1 76), (hT.2.1 77), (hT.2.1 78), (hT.2.1 79), (hT.2.1 80), trivial⟩) 4 (m.1 8) ⟨by decide, by decide⟩ (r32 (by omega) (by omega)) (show 1 ≤ 4 ∧ 4 ≤ 8 by omega) (show 0 ≤ (m.1 8) ∧ (m.1 8) ≤ 4000 by omega)) (fun r694 k695 => ?_)
      obtain ⟨y696, y698, g697, g699, h700, rfl⟩ := k695
      refine ⟨_, _, rfl, ?_⟩
      refine T_nf (st' := []) (l' := [(7, (m.1 7)), (8, (m.1 8)), (9, (m.1 9)), (10, y696), (11, y698), (12, (m.1 12)), (28, (m.1 28)), (69, (m.1 69)), (70, (m.1 70)), (71, (m.1 71)), (72, (m.1 72)), (73, (m.1 73)), (74, (m.1 74)), (75, (m.1 75))]) (a' := [(65, (m.2 65)), (66, (m.2 66)), (67, (m.2 67)), (68, (m.2 68)), (76, (m.2 76)), (77, (m.2 77)), (78, (m.2 78)), (79, (m.2 79)), (80, (m.2 80))]) rfl rfl rfl rfl rfl ?_
      replace h700 : (0 < (m.1 10) → y696 = (m.1 10) ∧ y698 = (m.1 11)) ∧ ((m.1 10) ≤ 0 → y696 = 4 ∧ y698 = (m.1 8)) := h700
      have hf701 : 1 ≤ y696 := by omega
      refine Tm_lv (a := [(0, .ref 189), (1, .int (i32 (m.1 8)))]) rfl rfl ⟨rfl, rfl, trivial⟩ ?_
      exact J50_617 (m.1 8) (m.1 7) (m.1 8) (m.1 9) y696 y698 (m.1 12) (m.1 28) (m.1 69) (m.1 70) (m.1 71) (m.1 72) (m.1 73) (m.1 74) (m.1 75) (m.2 65) (m.2 66) (m.2 67) (m.2 68) (m.2 76) (m.2 77) (m.2 78) (m.2 79) (m.2 80) (r32 (by omega) (by omega)) f7 f8 f9 g697 g699 f12 f28 f69 f70 f71 f72 f73 f74 f75 (hT.2.1 65) (hT.2.1 66) (hT.2.1 67) (hT.2.1 68) (hT.2.1 76) (hT.2.1 77) (hT.2.1 78) (hT.2.1 79) (hT.2.1 80) (by omega) (by omega) (by omega) (by omega)
  · skip
    refine T_gf 18 (.int (i32 (m.1 7))) rfl rfl rfl rfl rfl rfl ?_
    refine T_ld 20 (.int (i32 33)) rfl (fun _ => rfl) ?_
    refine T_icmp 32 23 rfl rfl rfl (r32 (by omega) (by omega)) ⟨by decide, by decide⟩ (fun (h702 : (m.1 7) = 33) => ?_) (fun (h702 : ¬ ((m.1 7) = 33)) => ?_)
    · skip
      refine T_gf 36 (.int (i32 (m.1 74))) rfl rfl rfl rfl rfl rfl ?_
      refine T_ld 38 (.int (i32 24)) rfl (fun _ => rfl) ?_
      refine T_icmp 50 41 rfl rfl rfl (r32 (by omega) (by omega)) ⟨by decide, by decide⟩ (fun (h703 : (m.1 74) ≠ 24) => ?_) (fun (h703 : ¬ ((m.1 74) ≠ 24)) => ?_)
      · skip
        refine T_gf 54 (.int (i32 (m.1 10))) rfl rfl rfl rfl rfl rfl ?_
        refine T_if 58 57 rfl rfl rfl (r32 (by omega) (by omega)) (fun (h704 : (m.1 10) ≤ 0) => ?_) (fun (h704 : ¬ ((m.1 10) ≤ 0)) => by exfalso; omega)
        refine T_ld 59 (.ref 189) rfl (fun _ => rfl) ?_
        refine T_ld 60 (.ref 189) rfl (fun _ => rfl) ?_
        refine T_gf1 63 (.int (i32 (m.1 74))) rfl rfl rfl rfl ?_
        refine T_ld 64 (.int (i32 1)) rfl (fun _ => rfl) ?_
        refine T_iadd 65 rfl rfl ?_
        refine T_pf (l' := [(7, (m.1 7)), (8, (m.1 8)), (9, (m.1 9)), (10, (m.1 10)), (11, (m.1 11)), (12, (m.1 12)), (28, (m.1 28)), (69, (m.1 69)), (70, (m.1 70)), (71, (m.1 71)), (72, (m.1 72)), (73, (m.1 73)), (74, (m.1 74) + 1), (75, (m.1 75))]) 68 ((m.1 74) + 1) rfl rfl rfl rfl rfl rfl ?_
        have g705 : 0 ≤ (m.1 74) + 1 ∧ (m.1 74) + 1 ≤ 24 := ⟨by omega, by omega⟩
        refine T_ld 69 (.ref 189) rfl (fun _ => rfl) ?_
        refine T_ld 70 (.int (i32 1)) rfl (fun _ => rfl) ?_
        refine T_ld 71 (.int (i32 (m.1 8))) rfl (fun _ => rfl) ?_
        refine T_gf 75 (.int (i32 (m.1 7))) rfl rfl rfl rfl rfl rfl ?_
        refine T_call 78 246 [.ref 189, .int (i32 1), .int (i32 (m.1 8)), .int (i32 (m.1 7))] [] rfl (fun _ => rfl) rfl (c_open w (mO m [(7, (m.1 7)), (8, (m.1 8)), (9, (m.1 9)), (10, (m.1 10)), (11, (m.1 11)), (12, (m.1 12)), (28, (m.1 28)), (69, (m.1 69)), (70, (m.1 70)), (71, (m.1 71)), (72, (m.1 72)), (73, (m.1 73)), (74, (m.1 74) + 1), (75, (m.1 75))] [(65, (m.2 65)), (66, (m.2 66)), (67, (m.2 67)), (68, (m.2 68)), (76, (m.2 76)), (77, (m.2 77)), (78, (m.2 78)), (79, (m.2 79)), (80, (m.2 80))]) c N D (by omega) (Ty_mO hT rfl rfl ⟨f7, f8, f9, f10, f11, f12, f28, f69, f70, f71, f72, f73, g705, f75, trivial⟩ ⟨(hT.2.1 65), (hT.2.1 66), (hT.2.1 67), (hT.2.1 68), (hT.2.1 76), (hT.2.1 77), (hT.2.1 78), (hT.2.1 79), (hT.2.1 80), trivial⟩) 1 (m.1 8) (m.1 7) ⟨by decide, by decide⟩ (r32 (by omega) (by omega)) (r32 (by omega) (by omega)) (show (m.1 73) ≤ 59 by omega) (show 0 ≤ 1 ∧ 1 ≤ 2 by omega) (show 0 ≤ (m.1 8) ∧ (m.1 8) ≤ 4000 by omega) (show 0 ≤ (m.1 7) ∧ (m.1 7) ≤ 330 by omega)) (fun r706 k707 => ?_)
        obtain ⟨y708, F710, F712, F714, F716, F718, g709, G711, G713, G715, G717, G719, h720, h721, h722, h723, h724, h725, rfl⟩ := k707
        refine ⟨_, _, rfl, ?_⟩
        refine T_nf (st' := []) (l' := [(7, (m.1 7)), (8, (m.1 8)), (9, (m.1 9)), (10, (m.1 10)), (11, (m.1 11)), (12, (m.1 12)), (28, (m.1 28)), (69, (m.1 69)), (70, (m.1 70)), (71, (m.1 71)), (72, (m.1 72)), (73, y708), (74, (m.1 74) + 1), (75, (m.1 75))]) (a' := [(65, (m.2 65)), (66, (m.2 66)), (67, (m.2 67)), (68, (m.2 68)), (76, F710), (77, F712), (78, F714), (79, F716), (80, F718)]) rfl rfl rfl rfl rfl ?_
        replace h720 : y708 = (m.1 73) + 1 := h720
        replace h721 : F710 = upI (m.2 76) (m.1 73) 1 := h721
        have hO1 := h721
        replace h722 : F714 = upI (m.2 78) (m.1 73) (m.1 7) := h722
        have hO2 := h722
        replace h723 : F716 = upI (m.2 79) (m.1 73) 0 := h723
        have hO3 := h723
        replace h724 : ∀ j, j < 9 * (m.1 73) → F718 j = (m.2 80) j := h724
        have hW1 := h724
        replace h725 : ∀ j, 9 * (m.1 73) ≤ j → j < 9 * (m.1 73) + 9 → F718 j = -1 := h725
        have hW2 := h725
        have u726 : (m.1 8) ≤ (m.1 8) := by omega
        have hAgC : agr (m.2 65) (m.2 65) (m.1 28) := by first | exact agr_r _ _ | exact hAgC | exact agr_t hAgC hAg (by omega)
        refine T_ld 79 (.ref 189) rfl (fun _ => rfl) ?_
        refine T_call 82 212 [.ref 189] [] rfl (fun _ => rfl) rfl (c_next w (mO m [(7, (m.1 7)), (8, (m.1 8)), (9, (m.1 9)), (10, (m.1 10)), (11, (m.1 11)), (12, (m.1 12)), (28, (m.1 28)), (69, (m.1 69)), (70, (m.1 70)), (71, (m.1 71)), (72, (m.1 72)), (73, y708), (74, (m.1 74) + 1), (75, (m.1 75))] [(65, (m.2 65)), (66, (m.2 66)), (67, (m.2 67)), (68, (m.2 68)), (76, F710), (77, F712), (78, F714), (79, F716), (80, F718)]) c N D (by omega) (Ty_mO hT rfl rfl ⟨f7, f8, f9, f10, f11, f12, f28, f69, f70, f71, f72, g709, g705, f75, trivial⟩ ⟨(hT.2.1 65), (hT.2.1 66), (hT.2.1 67), (hT.2.1 68), G711, G713, G715, G717, G719, trivial⟩) (show (m.1 10) = 0 → (m.1 8) + (m.1 9) ≤ (m.1 6) by first | omega | (intro h9; have h8 := hLx h9; omega))) (fun r727 k728 => ?_)
        obtain ⟨y729, y731, y733, y735, y737, y739, g730, g732, g734, g736, g738, g740, h741, h742, h743, h744, rfl⟩ := k728
        refine ⟨_, _, rfl, ?_⟩
        refine T_nf (st' := []) (l' := [(7, y729), (8, y731), (9, y733), (10, y735), (11, y737), (12, y739), (28, (m.1 28)), (69, (m.1 69)), (70, (m.1 70)), (71, (m.1 71)), (72, (m.1 72)), (73, y708), (74, (m.1 74) + 1), (75, (m.1 75))]) (a' := [(65, (m.2 65)), (66, (m.2 66)), (67, (m.2 67)), (68, (m.2 68)), (76, F710), (77, F712), (78, F714), (79, F716), (80, F718)]) rfl rfl rfl rfl rfl ?_
        by_cases hf745 : y735 = 0
        · skip
          subst hf745
          replace h741 : LxP y729 y731 y733 (m.1 6) 0 := h741
          have hLx := h741
          replace h742 : (m.1 10) = 0 := h742 rfl
          replace h743 : (m.1 8) ≤ y731 := h743
          replace h744 : (m.1 8) + (m.1 9) ≤ y731 := h744 rfl
          have u746 : (m.1 8) ≤ y731 := by omega
          have hAgC : agr (m.2 65) (m.2 65) (m.1 28) := by first | exact agr_r _ _ | exact hAgC | exact agr_t hAgC hAg (by omega)
          clear g736
          have hXE : XS (m.2 65) (m.2 67) F710 F714 F716 F718 $B (m.1 28) y708 ((m.1 74) + 1) (um (m.1 75)) := by
            rw [hO1, hO2, hO3, show um (m.1 75) = 0 from if_pos (by omega)]
            exact XS_pre hXS (by omega) (by omega) hW1 hW2
          refine T_goto 219 rfl (fun _ => rfl) ?_
          refine T_ret rfl (fun _ => rfl) ?_
          exact ⟨y729, y731, y733, 0, y737, y739, (m.1 28), (m.1 69), (m.1 70), (m.1 71), (m.1 72), y708, (m.1 74) + 1, (m.1 75), (m.2 65), (m.2 66), (m.2 67), (m.2 68), F710, F712, F714, F716, F718, g730, g732, g734, ⟨by omega, by omega⟩, g738, g740, f28, f69, f70, f71, f72, g709, g705, f75, (hT.2.1 65), (hT.2.1 66), (hT.2.1 67), (hT.2.1 68), G711, G713, G715, G717, G719, (by omega), (by first | exact hLx | (intro h9; exfalso; omega)), (fun _ => ⟨(by omega), (by omega), (by omega), (by omega), (by exact hXE), (by exact hAgC)⟩), rfl⟩
        · skip
          replace h741 : LxP y729 y731 y733 (m.1 6) y735 := h741
          have hLx := h741
          clear h742
          replace h743 : (m.1 8) ≤ y731 := h743
          clear h744
          have hf747 : 1 ≤ y735 := by omega
          refine Tm_lv (a := [(0, .ref 189), (1, .int (i32 (m.1 8)))]) rfl rfl ⟨rfl, rfl, trivial⟩ ?_
          exact J82_563 (m.1 8) y729 y731 y733 y735 y737 y739 (m.1 28) (m.1 69) (m.1 70) (m.1 71) (m.1 72) y708 ((m.1 74) + 1) (m.1 75) (m.2 65) (m.2 66) (m.2 67) (m.2 68) F710 F712 F714 F716 F718 (r32 (by omega) (by omega)) g730 g732 g734 g736 g738 g740 f28 f69 f70 f71 f72 g709 g705 f75 (hT.2.1 65) (hT.2.1 66) (hT.2.1 67) (hT.2.1 68) G711 G713 G715 G717 G719 (by omega) (by omega) (by omega) (by omega)
      · skip
        refine T_ld 42 (.ref 189) rfl (fun _ => rfl) ?_
        refine T_ld 43 (.int (i32 4)) rfl (fun _ => rfl) ?_
        refine T_gf 47 (.int (i32 (m.1 8))) rfl rfl rfl rfl rfl rfl ?_
        refine T_call 50 222 [.ref 189, .int (i32 4), .int (i32 (m.1 8))] [] rfl (fun _ => rfl) rfl (c_wrong w (mO m [(7, (m.1 7)), (8, (m.1 8)), (9, (m.1 9)), (10, (m.1 10)), (11, (m.1 11)), (12, (m.1 12)), (28, (m.1 28)), (69, (m.1 69)), (70, (m.1 70)), (71, (m.1 71)), (72, (m.1 72)), (73, (m.1 73)), (74, (m.1 74)), (75, (m.1 75))] [(65, (m.2 65)), (66, (m.2 66)), (67, (m.2 67)), (68, (m.2 68)), (76, (m.2 76)), (77, (m.2 77)), (78, (m.2 78)), (79, (m.2 79)), (80, (m.2 80))]) c N D (by omega) (Ty_mO hT rfl rfl ⟨f7, f8, f9, f10, f11, f12, f28, f69, f70, f71, f72, f73, f74, f75, trivial⟩ ⟨(hT.2.1 65), (hT.2.1 66), (hT.2.1 67), (hT.2.1 68), (hT.2.1 76), (hT.2.1 77), (hT.2.1 78), (hT.2.1 79), (hT.2.1 80), trivial⟩) 4 (m.1 8) ⟨by decide, by decide⟩ (r32 (by omega) (by omega)) (show 1 ≤ 4 ∧ 4 ≤ 8 by omega) (show 0 ≤ (m.1 8) ∧ (m.1 8) ≤ 4000 by omega)) (fun r748 k749 => ?_)
        obtain ⟨y750, y752, g751, g753, h754, rfl⟩ := k749
        refine ⟨_, _, rfl, ?_⟩
        refine T_nf (st' := []) (l' := [(7, (m.1 7)), (8, (m.1 8)), (9, (m.1 9)), (10, y750), (11, y752), (12, (m.1 12)), (28, (m.1 28)), (69, (m.1 69)), (70, (m.1 70)), (71, (m.1 71)), (72, (m.1 72)), (73, (m.1 73)), (74, (m.1 74)), (75, (m.1 75))]) (a' := [(65, (m.2 65)), (66, (m.2 66)), (67, (m.2 67)), (68, (m.2 68)), (76, (m.2 76)), (77, (m.2 77)), (78, (m.2 78)), (79, (m.2 79)), (80, (m.2 80))]) rfl rfl rfl rfl rfl ?_
        replace h754 : (0 < (m.1 10) → y750 = (m.1 10) ∧ y752 = (m.1 11)) ∧ ((m.1 10) ≤ 0 → y750 = 4 ∧ y752 = (m.1 8)) := h754
        have hf755 : 1 ≤ y750 := by omega
        refine Tm_lv (a := [(0, .ref 189), (1, .int (i32 (m.1 8)))]) rfl rfl ⟨rfl, rfl, trivial⟩ ?_
        exact J50_617 (m.1 8) (m.1 7) (m.1 8) (m.1 9) y750 y752 (m.1 12) (m.1 28) (m.1 69) (m.1 70) (m.1 71) (m.1 72) (m.1 73) (m.1 74) (m.1 75) (m.2 65) (m.2 66) (m.2 67) (m.2 68) (m.2 76) (m.2 77) (m.2 78) (m.2 79) (m.2 80) (r32 (by omega) (by omega)) f7 f8 f9 g751 g753 f12 f28 f69 f70 f71 f72 f73 f74 f75 (hT.2.1 65) (hT.2.1 66) (hT.2.1 67) (hT.2.1 68) (hT.2.1 76) (hT.2.1 77) (hT.2.1 78) (hT.2.1 79) (hT.2.1 80) (by omega) (by omega) (by omega) (by omega)
    · skip
      refine T_gf 27 (.int (i32 (m.1 7))) rfl rfl rfl rfl rfl rfl ?_
      refine T_ld 29 (.int (i32 45)) rfl (fun _ => rfl) ?_
      refine T_icmp 85 32 rfl rfl rfl (r32 (by omega) (by omega)) ⟨by decide, by decide⟩ (fun (h756 : (m.1 7) ≠ 45) => ?_) (fun (h756 : ¬ ((m.1 7) ≠ 45)) => ?_)
      · skip
        refine T_gf 89 (.int (i32 (m.1 7))) rfl rfl rfl rfl rfl rfl ?_
        refine T_ld 90 (.int (i32 2)) rfl (fun _ => rfl) ?_
        refine T_icmp 133 93 rfl rfl rfl (r32 (by omega) (by omega)) ⟨by decide, by decide⟩ (fun (h757 : (m.1 7) ≠ 2) => ?_) (fun (h757 : ¬ ((m.1 7) ≠ 2)) => ?_)
        · skip
          refine T_gf 137 (.int (i32 (m.1 7))) rfl rfl rfl rfl rfl rfl ?_
          refine T_ld 138 (.int (i32 1)) rfl (fun _ => rfl) ?_
          refine T_icmp 149 141 rfl rfl rfl (r32 (by omega) (by omega)) ⟨by decide, by decide⟩ (fun (h758 : (m.1 7) ≠ 1) => ?_) (fun (h758 : ¬ ((m.1 7) ≠ 1)) => ?_)
          · skip
            refine T_gf 153 (.int (i32 (m.1 7))) rfl rfl rfl rfl rfl rfl ?_
            refine T_ld 156 (.int (i32 329)) rfl (fun _ => rfl) ?_
            refine T_icmp 188 159 rfl rfl rfl (r32 (by omega) (by omega)) ⟨by decide, by decide⟩ (fun (h759 : (m.1 7) ≠ 329) => ?_) (fun (h759 : ¬ ((m.1 7) ≠ 329)) => ?_)
            · skip
              refine T_gf 192 (.int (i32 (m.1 7))) rfl rfl rfl rfl rfl rfl ?_
              refine T_ld 194 (.int (i32 40)) rfl (fun _ => rfl) ?_
              refine T_icmp 215 197 rfl rfl rfl (r32 (by omega) (by omega)) ⟨by decide, by decide⟩ (fun (h760 : (m.1 7) ≠ 40) => ?_) (fun (h760 : ¬ ((m.1 7) ≠ 40)) => ?_)
              · skip
                refine T_ld 216 (.ref 189) rfl (fun _ => rfl) ?_
                refine T_call 219 226 [.ref 189] [] rfl (fun _ => rfl) rfl (c_bad w (mO m [(7, (m.1 7)), (8, (m.1 8)), (9, (m.1 9)), (10, (m.1 10)), (11, (m.1 11)), (12, (m.1 12)), (28, (m.1 28)), (69, (m.1 69)), (70, (m.1 70)), (71, (m.1 71)), (72, (m.1 72)), (73, (m.1 73)), (74, (m.1 74)), (75, (m.1 75))] [(65, (m.2 65)), (66, (m.2 66)), (67, (m.2 67)), (68, (m.2 68)), (76, (m.2 76)), (77, (m.2 77)), (78, (m.2 78)), (79, (m.2 79)), (80, (m.2 80))]) c N D (by omega) (Ty_mO hT rfl rfl ⟨f7, f8, f9, f10, f11, f12, f28, f69, f70, f71, f72, f73, f74, f75, trivial⟩ ⟨(hT.2.1 65), (hT.2.1 66), (hT.2.1 67), (hT.2.1 68), (hT.2.1 76), (hT.2.1 77), (hT.2.1 78), (hT.2.1 79), (hT.2.1 80), trivial⟩) ) (fun r761 k762 => ?_)
                obtain ⟨y763, y765, g764, g766, h767, rfl⟩ := k762
                refine ⟨_, _, rfl, ?_⟩
                refine T_nf (st' := []) (l' := [(7, (m.1 7)), (8, (m.1 8)), (9, (m.1 9)), (10, y763), (11, y765), (12, (m.1 12)), (28, (m.1 28)), (69, (m.1 69)), (70, (m.1 70)), (71, (m.1 71)), (72, (m.1 72)), (73, (m.1 73)), (74, (m.1 74)), (75, (m.1 75))]) (a' := [(65, (m.2 65)), (66, (m.2 66)), (67, (m.2 67)), (68, (m.2 68)), (76, (m.2 76)), (77, (m.2 77)), (78, (m.2 78)), (79, (m.2 79)), (80, (m.2 80))]) rfl rfl rfl rfl rfl ?_
                replace h767 : (0 < (m.1 10) → y763 = (m.1 10) ∧ y765 = (m.1 11)) ∧ ((m.1 10) ≤ 0 → y763 = 1 ∧ y765 = (m.1 8)) := h767
                have hf768 : 1 ≤ y763 := by omega
                refine T_ret rfl (fun _ => rfl) ?_
                exact ⟨(m.1 7), (m.1 8), (m.1 9), y763, y765, (m.1 12), (m.1 28), (m.1 69), (m.1 70), (m.1 71), (m.1 72), (m.1 73), (m.1 74), (m.1 75), (m.2 65), (m.2 66), (m.2 67), (m.2 68), (m.2 76), (m.2 77), (m.2 78), (m.2 79), (m.2 80), f7, f8, f9, g764, g766, f12, f28, f69, f70, f71, f72, f73, f74, f75, (hT.2.1 65), (hT.2.1 66), (hT.2.1 67), (hT.2.1 68), (hT.2.1 76), (hT.2.1 77), (hT.2.1 78), (hT.2.1 79), (hT.2.1 80), (by omega), (by first | exact hLx | (intro h9; exfalso; omega)), (fun h => absurd h (by omega)), rfl⟩
              · skip
                refine T_ld 198 (.ref 189) rfl (fun _ => rfl) ?_
                refine T_ld 199 (.int (i32 2)) rfl (fun _ => rfl) ?_
                refine T_ld 200 (.int (i32 (m.1 8))) rfl (fun _ => rfl) ?_
                refine T_ld 201 (.int (i32 0)) rfl (fun _ => rfl) ?_
                refine T_call 204 246 [.ref 189, .int (i32 2), .int (i32 (m.1 8)), .int (i32 0)] [] rfl (fun _ => rfl) rfl (c_open w (mO m [(7, (m.1 7)), (8, (m.1 8)), (9, (m.1 9)), (10, (m.1 10)), (11, (m.1 11)), (12, (m.1 12)), (28, (m.1 28)), (69, (m.1 69)), (70, (m.1 70)), (71, (m.1 71)), (72, (m.1 72)), (73, (m.1 73)), (74, (m.1 74)), (75, (m.1 75))] [(65, (m.2 65)), (66, (m.2 66)), (67, (m.2 67)), (68, (m.2 68)), (76, (m.2 76)), (77, (m.2 77)), (78, (m.2 78)), (79, (m.2 79)), (80, (m.2 80))]) c N D (by omega) (Ty_mO hT rfl rfl ⟨f7, f8, f9, f10, f11, f12, f28, f69, f70, f71, f72, f73, f74, f75, trivial⟩ ⟨(hT.2.1 65), (hT.2.1 66), (hT.2.1 67), (hT.2.1 68), (hT.2.1 76), (hT.2.1 77), (hT.2.1 78), (hT.2.1 79), (hT.2.1 80), trivial⟩) 2 (m.1 8) 0 ⟨by decide, by decide⟩ (r32 (by omega) (by omega)) ⟨by decide, by decide⟩ (show (m.1 73) ≤ 59 by omega) (show 0 ≤ 2 ∧ 2 ≤ 2 by omega) (show 0 ≤ (m.1 8) ∧ (m.1 8) ≤ 4000 by omega) (show 0 ≤ 0 ∧ 0 ≤ 330 by omega)) (fun r769 k770 => ?_)
                obtain ⟨y771, F773, F775, F777, F779, F781, g772, G774, G776, G778, G780, G782, h783, h784, h785, h786, h787, h788, rfl⟩ := k770
                refine ⟨_, _, rfl, ?_⟩
                refine T_nf (st' := []) (l' := [(7, (m.1 7)), (8, (m.1 8)), (9, (m.1 9)), (10, (m.1 10)), (11, (m.1 11)), (12, (m.1 12)), (28, (m.1 28)), (69, (m.1 69)), (70, (m.1 70)), (71, (m.1 71)), (72, (m.1 72)), (73, y771), (74, (m.1 74)), (75, (m.1 75))]) (a' := [(65, (m.2 65)), (66, (m.2 66)), (67, (m.2 67)), (68, (m.2 68)), (76, F773), (77, F775), (78, F777), (79, F779), (80, F781)]) rfl rfl rfl rfl rfl ?_
                replace h783 : y771 = (m.1 73) + 1 := h783
                replace h784 : F773 = upI (m.2 76) (m.1 73) 2 := h784
                have hO1 := h784
                replace h785 : F777 = upI (m.2 78) (m.1 73) 0 := h785
                have hO2 := h785
                replace h786 : F779 = upI (m.2 79) (m.1 73) 0 := h786
                have hO3 := h786
                replace h787 : ∀ j, j < 9 * (m.1 73) → F781 j = (m.2 80) j := h787
                have hW1 := h787
                replace h788 : ∀ j, 9 * (m.1 73) ≤ j → j < 9 * (m.1 73) + 9 → F781 j = -1 := h788
                have hW2 := h788
                have u789 : (m.1 8) ≤ (m.1 8) := by omega
                have hAgC : agr (m.2 65) (m.2 65) (m.1 28) := by first | exact agr_r _ _ | exact hAgC | exact agr_t hAgC hAg (by omega)
                refine T_ld 205 (.ref 189) rfl (fun _ => rfl) ?_
                refine T_call 208 212 [.ref 189] [] rfl (fun _ => rfl) rfl (c_next w (mO m [(7, (m.1 7)), (8, (m.1 8)), (9, (m.1 9)), (10, (m.1 10)), (11, (m.1 11)), (12, (m.1 12)), (28, (m.1 28)), (69, (m.1 69)), (70, (m.1 70)), (71, (m.1 71)), (72, (m.1 72)), (73, y771), (74, (m.1 74)), (75, (m.1 75))] [(65, (m.2 65)), (66, (m.2 66)), (67, (m.2 67)), (68, (m.2 68)), (76, F773), (77, F775), (78, F777), (79, F779), (80, F781)]) c N D (by omega) (Ty_mO hT rfl rfl ⟨f7, f8, f9, f10, f11, f12, f28, f69, f70, f71, f72, g772, f74, f75, trivial⟩ ⟨(hT.2.1 65), (hT.2.1 66), (hT.2.1 67), (hT.2.1 68), G774, G776, G778, G780, G782, trivial⟩) (show (m.1 10) = 0 → (m.1 8) + (m.1 9) ≤ (m.1 6) by first | omega | (intro h9; have h8 := hLx h9; omega))) (fun r790 k791 => ?_)
                obtain ⟨y792, y794, y796, y798, y800, y802, g793, g795, g797, g799, g801, g803, h804, h805, h806, h807, rfl⟩ := k791
                refine ⟨_, _, rfl, ?_⟩
                refine T_nf (st' := []) (l' := [(7, y792), (8, y794), (9, y796), (10, y798), (11, y800), (12, y802), (28, (m.1 28)), (69, (m.1 69)), (70, (m.1 70)), (71, (m.1 71)), (72, (m.1 72)), (73, y771), (74, (m.1 74)), (75, (m.1 75))]) (a' := [(65, (m.2 65)), (66, (m.2 66)), (67, (m.2 67)), (68, (m.2 68)), (76, F773), (77, F775), (78, F777), (79, F779), (80, F781)]) rfl rfl rfl rfl rfl ?_
                by_cases hf808 : y798 = 0
                · skip
                  subst hf808
                  replace h804 : LxP y792 y794 y796 (m.1 6) 0 := h804
                  have hLx := h804
                  replace h805 : (m.1 10) = 0 := h805 rfl
                  replace h806 : (m.1 8) ≤ y794 := h806
                  replace h807 : (m.1 8) + (m.1 9) ≤ y794 := h807 rfl
                  have u809 : (m.1 8) ≤ y794 := by omega
                  have hAgC : agr (m.2 65) (m.2 65) (m.1 28) := by first | exact agr_r _ _ | exact hAgC | exact agr_t hAgC hAg (by omega)
                  clear g799
                  have hXT : XT (m.2 65) (m.2 67) F773 F777 F779 F781 $B (m.1 28) y771 (m.1 74) 0 := by
                    rw [hO1, hO2, hO3]
                    exact XT_bra hXS (by omega) hW1 hW2
                  have hTop : y771 = 0 ∨ F773 (y771 - 1) = 2 ∨ (F773 (y771 - 1) = 0 ∧ F779 (y771 - 1) = 2) := Or.inr (Or.inl (by rw [hO1, show y771 - 1 = (m.1 73) by omega, upI_s]))
                  refine T_ld 209 (.ref 189) rfl (fun _ => rfl) ?_
                  refine T_call 212 245 [.ref 189] [] rfl (fun _ => rfl) rfl (c_beginChoice w (mO m [(7, y792), (8, y794), (9, y796), (10, 0), (11, y800), (12, y802), (28, (m.1 28)), (69, (m.1 69)), (70, (m.1 70)), (71, (m.1 71)), (72, (m.1 72)), (73, y771), (74, (m.1 74)), (75, (m.1 75))] [(65, (m.2 65)), (66, (m.2 66)), (67, (m.2 67)), (68, (m.2 68)), (76, F773), (77, F775), (78, F777), (79, F779), (80, F781)]) c N D (by omega) (Ty_mO hT rfl rfl ⟨g793, g795, g797, ⟨(by omega : (0 : Int) ≤ 0), (by omega : (0 : Int) ≤ 8)⟩, g801, g803, f28, f69, f70, f71, f72, g772, f74, f75, trivial⟩ ⟨(hT.2.1 65), (hT.2.1 66), (hT.2.1 67), (hT.2.1 68), G774, G776, G778, G780, G782, trivial⟩) ($B) 0 (fun _ => ⟨(show XT (m.2 65) (m.2 67) F773 F777 F779 F781 ($B) (m.1 28) y771 (m.1 74) 0 by first | exact hXT | exact hXS.1), (show y771 = 0 ∨ F773 (y771 - 1) = 2 ∨ (F773 (y771 - 1) = 0 ∧ F779 (y771 - 1) = 2) by first | exact hTop | omega)⟩)) (fun r810 k811 => ?_)
                  obtain ⟨y812, y814, y816, y818, y820, F822, F824, F826, F828, F830, g813, g815, g817, g819, g821, G823, G825, G827, G829, G831, h832, c833, rfl⟩ := k811
                  refine ⟨_, _, rfl, ?_⟩
                  refine T_nf (st' := []) (l' := [(7, y792), (8, y794), (9, y796), (10, y812), (11, y814), (12, y802), (28, (m.1 28)), (69, (m.1 69)), (70, (m.1 70)), (71, (m.1 71)), (72, (m.1 72)), (73, y816), (74, y818), (75, y820)]) (a' := [(65, (m.2 65)), (66, (m.2 66)), (67, (m.2 67)), (68, (m.2 68)), (76, F822), (77, F824), (78, F826), (79, F828), (80, F830)]) rfl rfl rfl rfl rfl ?_
                  by_cases hf834 : y812 = 0
                  · skip
                    subst hf834
                    replace h832 : 0 = 0 := h832 rfl
                    obtain ⟨c835, c836, c837⟩ := c833 rfl
                    replace c835 : XS (m.2 65) (m.2 67) F822 F826 F828 F830 ($B) (m.1 28) y816 y818 0 := c835
                    have hXS := c835
                    replace c836 : y816 = y771 + 1 := c836
                    replace c837 : y820 = 0 := c837
                    have u838 : (m.1 8) ≤ y794 := by omega
                    have hAgC : agr (m.2 65) (m.2 65) (m.1 28) := by first | exact agr_r _ _ | exact hAgC | exact agr_t hAgC hAg (by omega)
                    clear g772 h783 h784 h785 h786 h787 h788 g801 g813 c836
                    have hXE : XS (m.2 65) (m.2 67) F822 F826 F828 F830 $B (m.1 28) y816 y818 (um y820) := by
                      rw [show um y820 = 0 from if_pos (by omega)]
                      exact hXS
                    refine T_goto 219 rfl (fun _ => rfl) ?_
                    refine T_ret rfl (fun _ => rfl) ?_
                    exact ⟨y792, y794, y796, 0, y814, y802, (m.1 28), (m.1 69), (m.1 70), (m.1 71), (m.1 72), y816, y818, y820, (m.2 65), (m.2 66), (m.2 67), (m.2 68), F822, F824, F826, F828, F830, g793, g795, g797, ⟨by omega, by omega⟩, g815, g803, f28, f69, f70, f71, f72, g817, g819, g821, (hT.2.1 65), (hT.2.1 66), (hT.2.1 67), (hT.2.1 68), G823, G825, G827, G829, G831, (by omega), (by first | exact hLx | (intro h9; exfalso; omega)), (fun _ => ⟨(by omega), (by omega), (by omega), (by omega), (by exact hXE), (by exact hAgC)⟩), rfl⟩
                  · skip
                    clear c833
                    clear h832
                    have hf839 : 1 ≤ y812 := by omega
                    clear g772 h783 h784 h785 h786 h787 h788 g801
                    refine Tm_lv (a := [(0, .ref 189), (1, .int (i32 (m.1 8)))]) rfl rfl ⟨rfl, rfl, trivial⟩ ?_
                    exact J212_295 (m.1 8) y792 y794 y796 y812 y814 y802 (m.1 28) (m.1 69) (m.1 70) (m.1 71) (m.1 72) y816 y818 y820 (m.2 65) (m.2 66) (m.2 67) (m.2 68) F822 F824 F826 F828 F830 (r32 (by omega) (by omega)) g793 g795 g797 g813 g815 g803 f28 f69 f70 f71 f72 g817 g819 g821 (hT.2.1 65) (hT.2.1 66) (hT.2.1 67) (hT.2.1 68) G823 G825 G827 G829 G831 (by omega) (by omega) (by omega) (by omega)
                · skip
                  replace h804 : LxP y792 y794 y796 (m.1 6) y798 := h804
                  have hLx := h804
                  clear h805
                  replace h806 : (m.1 8) ≤ y794 := h806
                  clear h807
                  have hf840 : 1 ≤ y798 := by omega
                  refine T_ld 209 (.ref 189) rfl (fun _ => rfl) ?_
                  refine T_call 212 245 [.ref 189] [] rfl (fun _ => rfl) rfl (c_beginChoice w (mO m [(7, y792), (8, y794), (9, y796), (10, y798), (11, y800), (12, y802), (28, (m.1 28)), (69, (m.1 69)), (70, (m.1 70)), (71, (m.1 71)), (72, (m.1 72)), (73, y771), (74, (m.1 74)), (75, (m.1 75))] [(65, (m.2 65)), (66, (m.2 66)), (67, (m.2 67)), (68, (m.2 68)), (76, F773), (77, F775), (78, F777), (79, F779), (80, F781)]) c N D (by omega) (Ty_mO hT rfl rfl ⟨g793, g795, g797, g799, g801, g803, f28, f69, f70, f71, f72, g772, f74, f75, trivial⟩ ⟨(hT.2.1 65), (hT.2.1 66), (hT.2.1 67), (hT.2.1 68), G774, G776, G778, G780, G782, trivial⟩) ($B) 0 (fun h => absurd h (by omega))) (fun r841 k842 => ?_)
                  obtain ⟨y843, y845, y847, y849, y851, F853, F855, F857, F859, F861, g844, g846, g848, g850, g852, G854, G856, G858, G860, G862, h863, c864, rfl⟩ := k842
                  refine ⟨_, _, rfl, ?_⟩
                  refine T_nf (st' := []) (l' := [(7, y792), (8, y794), (9, y796), (10, y843), (11, y845), (12, y802), (28, (m.1 28)), (69, (m.1 69)), (70, (m.1 70)), (71, (m.1 71)), (72, (m.1 72)), (73, y847), (74, y849), (75, y851)]) (a' := [(65, (m.2 65)), (66, (m.2 66)), (67, (m.2 67)), (68, (m.2 68)), (76, F853), (77, F855), (78, F857), (79, F859), (80, F861)]) rfl rfl rfl rfl rfl ?_
                  replace h863 : y843 = 0 → y798 = 0 := h863
                  have hf865 : 1 ≤ y843 := by omega
                  clear c864
                  clear h863
                  clear g772 h783 h784 h785 h786 h787 h788 g799 g801 h804 hf840
                  refine Tm_lv (a := [(0, .ref 189), (1, .int (i32 (m.1 8)))]) rfl rfl ⟨rfl, rfl, trivial⟩ ?_
                  exact J212_295 (m.1 8) y792 y794 y796 y843 y845 y802 (m.1 28) (m.1 69) (m.1 70) (m.1 71) (m.1 72) y847 y849 y851 (m.2 65) (m.2 66) (m.2 67) (m.2 68) F853 F855 F857 F859 F861 (r32 (by omega) (by omega)) g793 g795 g797 g844 g846 g803 f28 f69 f70 f71 f72 g848 g850 g852 (hT.2.1 65) (hT.2.1 66) (hT.2.1 67) (hT.2.1 68) G854 G856 G858 G860 G862 (by omega) (by omega) (by omega) (by omega)
            · skip
              refine T_ld 160 (.ref 189) rfl (fun _ => rfl) ?_
              refine T_call 163 212 [.ref 189] [] rfl (fun _ => rfl) rfl (c_next w (mO m [(7, (m.1 7)), (8, (m.1 8)), (9, (m.1 9)), (10, (m.1 10)), (11, (m.1 11)), (12, (m.1 12)), (28, (m.1 28)), (69, (m.1 69)), (70, (m.1 70)), (71, (m.1 71)), (72, (m.1 72)), (73, (m.1 73)), (74, (m.1 74)), (75, (m.1 75))] [(65, (m.2 65)), (66, (m.2 66)), (67, (m.2 67)), (68, (m.2 68)), (76, (m.2 76)), (77, (m.2 77)), (78, (m.2 78)), (79, (m.2 79)), (80, (m.2 80))]) c N D (by omega) (Ty_mO hT rfl rfl ⟨f7, f8, f9, f10, f11, f12, f28, f69, f70, f71, f72, f73, f74, f75, trivial⟩ ⟨(hT.2.1 65), (hT.2.1 66), (hT.2.1 67), (hT.2.1 68), (hT.2.1 76), (hT.2.1 77), (hT.2.1 78), (hT.2.1 79), (hT.2.1 80), trivial⟩) (show (m.1 10) = 0 → (m.1 8) + (m.1 9) ≤ (m.1 6) by first | omega | (intro h9; have h8 := hLx h9; omega))) (fun r866 k867 => ?_)
              obtain ⟨y868, y870, y872, y874, y876, y878, g869, g871, g873, g875, g877, g879, h880, h881, h882, h883, rfl⟩ := k867
              refine ⟨_, _, rfl, ?_⟩
              refine T_nf (st' := []) (l' := [(7, y868), (8, y870), (9, y872), (10, y874), (11, y876), (12, y878), (28, (m.1 28)), (69, (m.1 69)), (70, (m.1 70)), (71, (m.1 71)), (72, (m.1 72)), (73, (m.1 73)), (74, (m.1 74)), (75, (m.1 75))]) (a' := [(65, (m.2 65)), (66, (m.2 66)), (67, (m.2 67)), (68, (m.2 68)), (76, (m.2 76)), (77, (m.2 77)), (78, (m.2 78)), (79, (m.2 79)), (80, (m.2 80))]) rfl rfl rfl rfl rfl ?_
              by_cases hf884 : y874 = 0
              · skip
                subst hf884
                replace h880 : LxP y868 y870 y872 (m.1 6) 0 := h880
                have hLx := h880
                replace h881 : (m.1 10) = 0 := h881 rfl
                replace h882 : (m.1 8) ≤ y870 := h882
                replace h883 : (m.1 8) + (m.1 9) ≤ y870 := h883 rfl
                have u885 : (m.1 8) ≤ y870 := by omega
                have hAgC : agr (m.2 65) (m.2 65) (m.1 28) := by first | exact agr_r _ _ | exact hAgC | exact agr_t hAgC hAg (by omega)
                clear g875
                refine T_ld 164 (.ref 189) rfl (fun _ => rfl) ?_
                refine T_ld 165 (.int (i32 2)) rfl (fun _ => rfl) ?_
                have hOL : 0 = 0 → ∀ k, 0 ≤ k → k < (m.1 13) → (m.2 16) k = 2 → 0 ≤ (m.2 17) k ∧ (m.2 17) k < 12 := fun _ k h1 h2 h3 => by
                  have h4 := PNl_2 pPN k h1 h2 h3
                  omega
                refine T_call 168 236 [.ref 189, .int (i32 2)] [] rfl (fun _ => rfl) rfl (c_oldName w (mO m [(7, y868), (8, y870), (9, y872), (10, 0), (11, y876), (12, y878), (28, (m.1 28)), (69, (m.1 69)), (70, (m.1 70)), (71, (m.1 71)), (72, (m.1 72)), (73, (m.1 73)), (74, (m.1 74)), (75, (m.1 75))] [(65, (m.2 65)), (66, (m.2 66)), (67, (m.2 67)), (68, (m.2 68)), (76, (m.2 76)), (77, (m.2 77)), (78, (m.2 78)), (79, (m.2 79)), (80, (m.2 80))]) c N D (by omega) (Ty_mO hT rfl rfl ⟨g869, g871, g873, ⟨(by omega : (0 : Int) ≤ 0), (by omega : (0 : Int) ≤ 8)⟩, g877, g879, f28, f69, f70, f71, f72, f73, f74, f75, trivial⟩ ⟨(hT.2.1 65), (hT.2.1 66), (hT.2.1 67), (hT.2.1 68), (hT.2.1 76), (hT.2.1 77), (hT.2.1 78), (hT.2.1 79), (hT.2.1 80), trivial⟩) 2 0 ⟨by decide, by decide⟩ (show LxP y868 y870 y872 (m.1 6) 0 by first | exact hLx | (intro h9; exfalso; omega) | (intro h9; have h8 := hLx (by omega); omega)) (show ∀ k, (m.2 14) k + (m.2 15) k ≤ 4000 by first | exact p1 | exact hNM) (show 1 ≤ 2 ∧ 2 ≤ 7 ∧ 2 ≠ 5 by omega) (show 0 ≤ 16 by omega) (show 0 = 0 → ∀ k, 0 ≤ k → k < (m.1 13) → (m.2 16) k = 2 → 0 ≤ (m.2 17) k ∧ (m.2 17) k < 0 by first | exact hOL | (intro h; exfalso; omega)) (show 2 = 3 → 3 ≤ 0 by omega)) (fun r886 k887 => ?_)
                obtain ⟨y888, y890, y892, y894, y896, y898, oo, g889, g891, g893, g895, g897, g899, g900, h901, h902, h903, h904, h905, h906, rfl⟩ := k887
                refine ⟨_, _, rfl, ?_⟩
                refine T_nf (st' := [.int (i32 oo)]) (l' := [(7, y888), (8, y890), (9, y892), (10, y894), (11, y896), (12, y898), (28, (m.1 28)), (69, (m.1 69)), (70, (m.1 70)), (71, (m.1 71)), (72, (m.1 72)), (73, (m.1 73)), (74, (m.1 74)), (75, (m.1 75))]) (a' := [(65, (m.2 65)), (66, (m.2 66)), (67, (m.2 67)), (68, (m.2 68)), (76, (m.2 76)), (77, (m.2 77)), (78, (m.2 78)), (79, (m.2 79)), (80, (m.2 80))]) rfl rfl rfl rfl rfl ?_
                obtain ⟨g900a, g900b⟩ := g900
                by_cases hf907 : y894 = 0
                · skip
                  subst hf907
                  replace h901 : LxP y888 y890 y892 (m.1 6) 0 := h901
                  have hLx := h901
                  replace h902 : y870 ≤ y890 := h902
                  replace h903 : 0 = 0 ∧ y870 + y872 ≤ y890 := h903 rfl
                  replace h904 : y868 = 1 := h904 rfl
                  replace h905 : 0 ≤ oo ∧ (oo < 0 ∨ oo = 0) := h905
                  replace h906 : oo < 0 := h906 rfl
                  have u908 : (m.1 8) ≤ y890 := by omega
                  have hAgC : agr (m.2 65) (m.2 65) (m.1 28) := by first | exact agr_r _ _ | exact hAgC | exact agr_t hAgC hAg (by omega)
                  clear g869 g871 g873 g877 g879 h880 h882 h883 u885 g895 h902 h903 h904
                  refine T_sto 169 [(2, .int (i32 oo)), (1, .int (i32 (m.1 8))), (0, .ref 189)] rfl (fun _ => rfl) ?_
                  have hAr : ar 404 ≤ 0 + lh (m.2 79) (m.2 80) (m.1 73) := by rw [show ar 404 = 0 from rfl]; omega
                  have hCk : CNk 404 oo := by refine ⟨?_, ?_, ?_, ?_⟩ <;> omega
                  refine T_ld 170 (.ref 189) rfl (fun _ => rfl) ?_
                  refine T_ld 173 (.int (i32 404)) rfl (fun _ => rfl) ?_
                  refine T_ld 174 (.int (i32 1)) rfl (fun _ => rfl) ?_
                  refine T_ld 175 (.int (i32 oo)) rfl (fun _ => rfl) ?_
                  refine T_ld 176 (.long (i64 0)) rfl (fun _ => rfl) ?_
                  refine T_call 179 248 [.ref 189, .int (i32 404), .int (i32 1), .int (i32 oo), .long (i64 0)] [] rfl (fun _ => rfl) rfl (c_node w (mO m [(7, y888), (8, y890), (9, y892), (10, 0), (11, y896), (12, y898), (28, (m.1 28)), (69, (m.1 69)), (70, (m.1 70)), (71, (m.1 71)), (72, (m.1 72)), (73, (m.1 73)), (74, (m.1 74)), (75, (m.1 75))] [(65, (m.2 65)), (66, (m.2 66)), (67, (m.2 67)), (68, (m.2 68)), (76, (m.2 76)), (77, (m.2 77)), (78, (m.2 78)), (79, (m.2 79)), (80, (m.2 80))]) c N D (by omega) (Ty_mO hT rfl rfl ⟨g889, g891, g893, ⟨(by omega : (0 : Int) ≤ 0), (by omega : (0 : Int) ≤ 8)⟩, g897, g899, f28, f69, f70, f71, f72, f73, f74, f75, trivial⟩ ⟨(hT.2.1 65), (hT.2.1 66), (hT.2.1 67), (hT.2.1 68), (hT.2.1 76), (hT.2.1 77), (hT.2.1 78), (hT.2.1 79), (hT.2.1 80), trivial⟩) 404 1 oo 0 ($B) (0 + lh (m.2 79) (m.2 80) (m.1 73)) ⟨by decide, by decide⟩ ⟨by decide, by decide⟩ (r32 (by omega) (by omega)) ⟨by decide, by decide⟩ (fun _ => ⟨(show 0 ≤ 404 ∧ 404 ≤ 408 by first | omega | decide), (show 0 ≤ 1 ∧ 1 ≤ 64 by first | omega | decide), (show 0 ≤ oo ∧ oo ≤ 191 by first | omega | decide), (show CNk 404 oo by first | exact hCk | (refine ⟨?_, ?_, ?_, ?_⟩ <;> omega)), (show ar 404 ≤ (0 + lh (m.2 79) (m.2 80) (m.1 73)) by first | exact hAr | omega), (show EX (m.2 65) (m.2 67) ($B) (m.1 28) (0 + lh (m.2 79) (m.2 80) (m.1 73)) by first | exact hEX | assumption)⟩)) (fun r909 k910 => ?_)
                  obtain ⟨y911, y913, y915, F917, F919, F921, F923, g912, g914, g916, G918, G920, G922, G924, h925, c926, rfl⟩ := k910
                  refine ⟨_, _, rfl, ?_⟩
                  refine T_nf (st' := []) (l' := [(7, y888), (8, y890), (9, y892), (10, y911), (11, y913), (12, y898), (28, y915), (69, (m.1 69)), (70, (m.1 70)), (71, (m.1 71)), (72, (m.1 72)), (73, (m.1 73)), (74, (m.1 74)), (75, (m.1 75))]) (a' := [(65, F917), (66, F919), (67, F921), (68, F923), (76, (m.2 76)), (77, (m.2 77)), (78, (m.2 78)), (79, (m.2 79)), (80, (m.2 80))]) rfl rfl rfl rfl rfl ?_
                  by_cases hf927 : y911 = 0
                  · skip
                    subst hf927
                    replace h925 : 0 = 0 := h925 rfl
                    obtain ⟨c928, c929, c930⟩ := c926 rfl
                    replace c928 : y915 = (m.1 28) + 1 := c928
                    replace c929 : EX F917 F921 ($B) y915 ((0 + lh (m.2 79) (m.2 80) (m.1 73)) + 1 - ar 404) := c929
                    have hEX := c929
                    replace c930 : agr (m.2 65) F917 (m.1 28) := c930
                    have hAg := c930
                    have u931 : (m.1 8) ≤ y890 := by omega
                    have hAgC : agr (m.2 65) F917 (m.1 28) := by first | exact agr_r _ _ | exact hAgC | exact agr_t hAgC hAg (by omega)
                    clear g897 g912
                    refine T_ld 180 (.ref 189) rfl (fun _ => rfl) ?_
                    refine T_ld 181 (.int (i32 1)) rfl (fun _ => rfl) ?_
                    refine T_ld 182 (.int (i32 (m.1 8))) rfl (fun _ => rfl) ?_
                    refine T_call 185 249 [.ref 189, .int (i32 1), .int (i32 (m.1 8))] [] rfl (fun _ => rfl) rfl (c_atom w (mO m [(7, y888), (8, y890), (9, y892), (10, 0), (11, y913), (12, y898), (28, y915), (69, (m.1 69)), (70, (m.1 70)), (71, (m.1 71)), (72, (m.1 72)), (73, (m.1 73)), (74, (m.1 74)), (75, (m.1 75))] [(65, F917), (66, F919), (67, F921), (68, F923), (76, (m.2 76)), (77, (m.2 77)), (78, (m.2 78)), (79, (m.2 79)), (80, (m.2 80))]) c N D (by omega) (Ty_mO hT rfl rfl ⟨g889, g891, g893, ⟨(by omega : (0 : Int) ≤ 0), (by omega : (0 : Int) ≤ 8)⟩, g914, g899, g916, f69, f70, f71, f72, f73, f74, f75, trivial⟩ ⟨G918, G920, G922, G924, (hT.2.1 76), (hT.2.1 77), (hT.2.1 78), (hT.2.1 79), (hT.2.1 80), trivial⟩) 1 (m.1 8) ⟨by decide, by decide⟩ (r32 (by omega) (by omega)) (show 0 ≤ 1 ∧ 1 ≤ 64 by omega) (show 0 ≤ (m.1 8) ∧ (m.1 8) ≤ 4000 by omega)) (fun r932 k933 => ?_)
                    obtain ⟨y934, y936, y938, y940, y942, g935, g937, g939, g941, g943, h944, rfl⟩ := k933
                    refine ⟨_, _, rfl, ?_⟩
                    refine T_nf (st' := []) (l' := [(7, y888), (8, y890), (9, y892), (10, 0), (11, y913), (12, y898), (28, y915), (69, y934), (70, y936), (71, y938), (72, y940), (73, (m.1 73)), (74, (m.1 74)), (75, y942)]) (a' := [(65, F917), (66, F919), (67, F921), (68, F923), (76, (m.2 76)), (77, (m.2 77)), (78, (m.2 78)), (79, (m.2 79)), (80, (m.2 80))]) rfl rfl rfl rfl rfl ?_
                    replace h944 : 0 = 0 → y942 = 1 ∧ y934 = 1 := h944
                    have u945 : (m.1 8) ≤ y890 := by omega
                    have hAgC : agr (m.2 65) F917 (m.1 28) := by first | exact agr_r _ _ | exact hAgC | exact agr_t hAgC hAg (by omega)
                    have hXE : XS F917 F921 (m.2 76) (m.2 78) (m.2 79) (m.2 80) $B y915 (m.1 73) (m.1 74) (um y942) := by
                      rw [show um y942 = 1 from if_neg (by omega)]
                      exact XS_of hXS hEX (by rw [show ar 404 = 0 from rfl]; omega)
                    refine T_goto 219 rfl (fun _ => rfl) ?_
                    refine T_ret rfl (fun _ => rfl) ?_
                    exact ⟨y888, y890, y892, 0, y913, y898, y915, y934, y936, y938, y940, (m.1 73), (m.1 74), y942, F917, F919, F921, F923, (m.2 76), (m.2 77), (m.2 78), (m.2 79), (m.2 80), g889, g891, g893, ⟨by omega, by omega⟩, g914, g899, g916, g935, g937, g939, g941, f73, f74, g943, G918, G920, G922, G924, (hT.2.1 76), (hT.2.1 77), (hT.2.1 78), (hT.2.1 79), (hT.2.1 80), (by omega), (by first | exact hLx | (intro h9; exfalso; omega)), (fun _ => ⟨(by omega), (by omega), (by omega), (by omega), (by exact hXE), (by exact hAgC)⟩), rfl⟩
                  · skip
                    clear c926
                    clear h925
                    have hf946 : 1 ≤ y911 := by omega
                    clear g897
                    refine Tm_lv (a := [(0, .ref 189), (1, .int (i32 (m.1 8))), (2, .int (i32 oo))]) rfl rfl ⟨rfl, rfl, rfl, trivial⟩ ?_
                    exact J179_350 (m.1 8) oo y888 y890 y892 y911 y913 y898 y915 (m.1 69) (m.1 70) (m.1 71) (m.1 72) (m.1 73) (m.1 74) (m.1 75) F917 F919 F921 F923 (m.2 76) (m.2 77) (m.2 78) (m.2 79) (m.2 80) (r32 (by omega) (by omega)) (r32 (by omega) (by omega)) g889 g891 g893 g912 g914 g899 g916 f69 f70 f71 f72 f73 f74 f75 G918 G920 G922 G924 (hT.2.1 76) (hT.2.1 77) (hT.2.1 78) (hT.2.1 79) (hT.2.1 80) (by omega) (by omega) (by omega) (by omega)
                · skip
                  replace h901 : LxP y888 y890 y892 (m.1 6) y894 := h901
                  have hLx := h901
                  replace h902 : y870 ≤ y890 := h902
                  clear h903
                  clear h904
                  replace h905 : 0 ≤ oo ∧ (oo < 0 ∨ oo = 0) := h905
                  clear h906
                  have hf947 : 1 ≤ y894 := by omega
                  clear g869 g871 g873 g877 g879 h880 h882 h883 u885 h902
                  refine Tm_lv (a := [(0, .ref 189), (1, .int (i32 (m.1 8)))]) rfl rfl ⟨rfl, rfl, trivial⟩ ?_
                  exact J168_419 (m.1 8) oo y888 y890 y892 y894 y896 y898 (m.1 28) (m.1 69) (m.1 70) (m.1 71) (m.1 72) (m.1 73) (m.1 74) (m.1 75) (m.2 65) (m.2 66) (m.2 67) (m.2 68) (m.2 76) (m.2 77) (m.2 78) (m.2 79) (m.2 80) (r32 (by omega) (by omega)) (r32 (by omega) (by omega)) g889 g891 g893 g895 g897 g899 f28 f69 f70 f71 f72 f73 f74 f75 (hT.2.1 65) (hT.2.1 66) (hT.2.1 67) (hT.2.1 68) (hT.2.1 76) (hT.2.1 77) (hT.2.1 78) (hT.2.1 79) (hT.2.1 80) (by omega) (by omega) (by omega) (by omega)
              · skip
                replace h880 : LxP y868 y870 y872 (m.1 6) y874 := h880
                have hLx := h880
                clear h881
                replace h882 : (m.1 8) ≤ y870 := h882
                clear h883
                have hf948 : 1 ≤ y874 := by omega
                refine T_ld 164 (.ref 189) rfl (fun _ => rfl) ?_
                refine T_ld 165 (.int (i32 2)) rfl (fun _ => rfl) ?_
                refine T_call 168 236 [.ref 189, .int (i32 2)] [] rfl (fun _ => rfl) rfl (c_oldName w (mO m [(7, y868), (8, y870), (9, y872), (10, y874), (11, y876), (12, y878), (28, (m.1 28)), (69, (m.1 69)), (70, (m.1 70)), (71, (m.1 71)), (72, (m.1 72)), (73, (m.1 73)), (74, (m.1 74)), (75, (m.1 75))] [(65, (m.2 65)), (66, (m.2 66)), (67, (m.2 67)), (68, (m.2 68)), (76, (m.2 76)), (77, (m.2 77)), (78, (m.2 78)), (79, (m.2 79)), (80, (m.2 80))]) c N D (by omega) (Ty_mO hT rfl rfl ⟨g869, g871, g873, g875, g877, g879, f28, f69, f70, f71, f72, f73, f74, f75, trivial⟩ ⟨(hT.2.1 65), (hT.2.1 66), (hT.2.1 67), (hT.2.1 68), (hT.2.1 76), (hT.2.1 77), (hT.2.1 78), (hT.2.1 79), (hT.2.1 80), trivial⟩) 2 0 ⟨by decide, by decide⟩ (show LxP y868 y870 y872 (m.1 6) y874 by first | exact hLx | (intro h9; exfalso; omega) | (intro h9; have h8 := hLx (by omega); omega)) (show ∀ k, (m.2 14) k + (m.2 15) k ≤ 4000 by first | exact p1 | exact hNM) (show 1 ≤ 2 ∧ 2 ≤ 7 ∧ 2 ≠ 5 by omega) (show 0 ≤ 16 by omega) (show y874 = 0 → ∀ k, 0 ≤ k → k < (m.1 13) → (m.2 16) k = 2 → 0 ≤ (m.2 17) k ∧ (m.2 17) k < 0 by first | exact hOL | (intro h; exfalso; omega)) (show 2 = 3 → 3 ≤ 0 by omega)) (fun r949 k950 => ?_)
                obtain ⟨y951, y953, y955, y957, y959, y961, oo, g952, g954, g956, g958, g960, g962, g963, h964, h965, h966, h967, h968, h969, rfl⟩ := k950
                refine ⟨_, _, rfl, ?_⟩
                refine T_nf (st' := [.int (i32 oo)]) (l' := [(7, y951), (8, y953), (9, y955), (10, y957), (11, y959), (12, y961), (28, (m.1 28)), (69, (m.1 69)), (70, (m.1 70)), (71, (m.1 71)), (72, (m.1 72)), (73, (m.1 73)), (74, (m.1 74)), (75, (m.1 75))]) (a' := [(65, (m.2 65)), (66, (m.2 66)), (67, (m.2 67)), (68, (m.2 68)), (76, (m.2 76)), (77, (m.2 77)), (78, (m.2 78)), (79, (m.2 79)), (80, (m.2 80))]) rfl rfl rfl rfl rfl ?_
                obtain ⟨g963a, g963b⟩ := g963
                replace h964 : LxP y951 y953 y955 (m.1 6) y957 := h964
                replace h965 : y870 ≤ y953 := h965
                replace h966 : y957 = 0 → y874 = 0 ∧ y870 + y872 ≤ y953 := h966
                replace h967 : y957 = 0 → y868 = 1 := h967
                replace h968 : 0 ≤ oo ∧ (oo < 0 ∨ oo = 0) := h968
                replace h969 : y957 = 0 → oo < 0 := h969
                have hf970 : 1 ≤ y957 := by omega
                clear h966
                clear h967
                clear h969
                have hLx := h964
                clear g869 g871 g873 g875 g877 g879 h880 h882 hf948 h965
                refine Tm_lv (a := [(0, .ref 189), (1, .int (i32 (m.1 8)))]) rfl rfl ⟨rfl, rfl, trivial⟩ ?_
                exact J168_419 (m.1 8) oo y951 y953 y955 y957 y959 y961 (m.1 28) (m.1 69) (m.1 70) (m.1 71) (m.1 72) (m.1 73) (m.1 74) (m.1 75) (m.2 65) (m.2 66) (m.2 67) (m.2 68) (m.2 76) (m.2 77) (m.2 78) (m.2 79) (m.2 80) (r32 (by omega) (by omega)) (r32 (by omega) (by omega)) g952 g954 g956 g958 g960 g962 f28 f69 f70 f71 f72 f73 f74 f75 (hT.2.1 65) (hT.2.1 66) (hT.2.1 67) (hT.2.1 68) (hT.2.1 76) (hT.2.1 77) (hT.2.1 78) (hT.2.1 79) (hT.2.1 80) (by omega) (by omega) (by omega) (by omega)
          · skip
            refine T_ld 142 (.ref 189) rfl (fun _ => rfl) ?_
            refine T_ld 143 (.int (i32 (m.1 8))) rfl (fun _ => rfl) ?_
            refine T_call 146 251 [.ref 189, .int (i32 (m.1 8))] [] rfl (fun _ => rfl) rfl (c_takeName w (mO m [(7, (m.1 7)), (8, (m.1 8)), (9, (m.1 9)), (10, (m.1 10)), (11, (m.1 11)), (12, (m.1 12)), (28, (m.1 28)), (69, (m.1 69)), (70, (m.1 70)), (71, (m.1 71)), (72, (m.1 72)), (73, (m.1 73)), (74, (m.1 74)), (75, (m.1 75))] [(65, (m.2 65)), (66, (m.2 66)), (67, (m.2 67)), (68, (m.2 68)), (76, (m.2 76)), (77, (m.2 77)), (78, (m.2 78)), (79, (m.2 79)), (80, (m.2 80))]) c N D (by omega) (Ty_mO hT rfl rfl ⟨f7, f8, f9, f10, f11, f12, f28, f69, f70, f71, f72, f73, f74, f75, trivial⟩ ⟨(hT.2.1 65), (hT.2.1 66), (hT.2.1 67), (hT.2.1 68), (hT.2.1 76), (hT.2.1 77), (hT.2.1 78), (hT.2.1 79), (hT.2.1 80), trivial⟩) (m.1 8) ($B) (0 + lh (m.2 79) (m.2 80) (m.1 73)) (r32 (by omega) (by omega)) (show LxP (m.1 7) (m.1 8) (m.1 9) (m.1 6) (m.1 10) by first | exact hLx | (intro h9; exfalso; omega)) (show ∀ k, (m.2 14) k + (m.2 15) k ≤ 4000 by assumption) (show ∀ k, (m.2 31) k + (m.2 32) k ≤ 4000 by assumption) (show ∀ k, (m.2 47) k + (m.2 48) k ≤ 4000 by assumption) (show 0 ≤ (m.1 8) ∧ (m.1 8) ≤ 4000 by omega) (show (m.1 10) = 0 by omega) ⟨(show PN (m.1 13) (m.1 19) (m.1 20) (m.1 21) (m.1 22) (m.1 23) (m.1 25) (m.1 26) (m.2 16) (m.2 17) by assumption), (show (m.1 7) = 1 by omega), (show EX (m.2 65) (m.2 67) ($B) (m.1 28) (0 + lh (m.2 79) (m.2 80) (m.1 73)) by exact hEX), (show 0 ≤ (0 + lh (m.2 79) (m.2 80) (m.1 73)) by omega)⟩) (fun r971 k972 => ?_)
            obtain ⟨y973, y975, y977, y979, y981, y983, y985, y987, y989, y991, y993, y995, F997, F999, F1001, F1003, g974, g976, g978, g980, g982, g984, g986, g988, g990, g992, g994, g996, G998, G1000, G1002, G1004, h1005, h1006, c1007, rfl⟩ := k972
            refine ⟨_, _, rfl, ?_⟩
            refine T_nf (st' := []) (l' := [(7, y973), (8, y975), (9, y977), (10, y979), (11, y981), (12, y983), (28, y985), (69, y987), (70, y989), (71, y991), (72, y993), (73, (m.1 73)), (74, (m.1 74)), (75, y995)]) (a' := [(65, F997), (66, F999), (67, F1001), (68, F1003), (76, (m.2 76)), (77, (m.2 77)), (78, (m.2 78)), (79, (m.2 79)), (80, (m.2 80))]) rfl rfl rfl rfl rfl ?_
            by_cases hf1008 : y979 = 0
            · skip
              subst hf1008
              replace h1005 : (m.1 10) = 0 := h1005 rfl
              replace h1006 : LxP y973 y975 y977 (m.1 6) 0 := h1006
              have hLx := h1006
              obtain ⟨c1009, c1010, c1011, c1012, c1013, c1014⟩ := c1007 rfl
              replace c1009 : (m.1 8) + 1 ≤ y975 := c1009
              replace c1010 : y995 = 1 := c1010
              replace c1011 : y987 ≤ 64 := c1011
              replace c1012 : y985 = (m.1 28) + 1 := c1012
              replace c1013 : EX F997 F1001 ($B) y985 ((0 + lh (m.2 79) (m.2 80) (m.1 73)) + 1) := c1013
              have hEX := c1013
              replace c1014 : agr (m.2 65) F997 (m.1 28) := c1014
              have hAg := c1014
              have u1015 : (m.1 8) ≤ y975 := by omega
              have hAgC : agr (m.2 65) F997 (m.1 28) := by first | exact agr_r _ _ | exact hAgC | exact agr_t hAgC hAg (by omega)
              clear g980
              have hXE : XS F997 F1001 (m.2 76) (m.2 78) (m.2 79) (m.2 80) $B y985 (m.1 73) (m.1 74) (um y995) := by
                rw [show um y995 = 1 from if_neg (by omega)]
                exact XS_of hXS hEX (by omega)
              refine T_goto 219 rfl (fun _ => rfl) ?_
              refine T_ret rfl (fun _ => rfl) ?_
              exact ⟨y973, y975, y977, 0, y981, y983, y985, y987, y989, y991, y993, (m.1 73), (m.1 74), y995, F997, F999, F1001, F1003, (m.2 76), (m.2 77), (m.2 78), (m.2 79), (m.2 80), g974, g976, g978, ⟨by omega, by omega⟩, g982, g984, g986, g988, g990, g992, g994, f73, f74, g996, G998, G1000, G1002, G1004, (hT.2.1 76), (hT.2.1 77), (hT.2.1 78), (hT.2.1 79), (hT.2.1 80), (by omega), (by first | exact hLx | (intro h9; exfalso; omega)), (fun _ => ⟨(by omega), (by omega), (by omega), (by omega), (by exact hXE), (by exact hAgC)⟩), rfl⟩
            · skip
              clear c1007
              clear h1005
              replace h1006 : LxP y973 y975 y977 (m.1 6) y979 := h1006
              have hLx := h1006
              have hf1016 : 1 ≤ y979 := by omega
              refine T_goto 219 rfl (fun _ => rfl) ?_
              refine T_ret rfl (fun _ => rfl) ?_
              exact ⟨y973, y975, y977, y979, y981, y983, y985, y987, y989, y991, y993, (m.1 73), (m.1 74), y995, F997, F999, F1001, F1003, (m.2 76), (m.2 77), (m.2 78), (m.2 79), (m.2 80), g974, g976, g978, g980, g982, g984, g986, g988, g990, g992, g994, f73, f74, g996, G998, G1000, G1002, G1004, (hT.2.1 76), (hT.2.1 77), (hT.2.1 78), (hT.2.1 79), (hT.2.1 80), (by omega), (by first | exact hLx | (intro h9; exfalso; omega)), (fun h => absurd h (by omega)), rfl⟩
        · skip
          refine T_gf 97 (.long (i64 (m.1 12))) rfl rfl rfl rfl rfl rfl ?_
          refine T_sto 98 [(2, .long (i64 (m.1 12))), (1, .int (i32 (m.1 8))), (0, .ref 189)] rfl (fun _ => rfl) ?_
          refine T_ld 99 (.ref 189) rfl (fun _ => rfl) ?_
          refine T_call 102 212 [.ref 189] [] rfl (fun _ => rfl) rfl (c_next w (mO m [(7, (m.1 7)), (8, (m.1 8)), (9, (m.1 9)), (10, (m.1 10)), (11, (m.1 11)), (12, (m.1 12)), (28, (m.1 28)), (69, (m.1 69)), (70, (m.1 70)), (71, (m.1 71)), (72, (m.1 72)), (73, (m.1 73)), (74, (m.1 74)), (75, (m.1 75))] [(65, (m.2 65)), (66, (m.2 66)), (67, (m.2 67)), (68, (m.2 68)), (76, (m.2 76)), (77, (m.2 77)), (78, (m.2 78)), (79, (m.2 79)), (80, (m.2 80))]) c N D (by omega) (Ty_mO hT rfl rfl ⟨f7, f8, f9, f10, f11, f12, f28, f69, f70, f71, f72, f73, f74, f75, trivial⟩ ⟨(hT.2.1 65), (hT.2.1 66), (hT.2.1 67), (hT.2.1 68), (hT.2.1 76), (hT.2.1 77), (hT.2.1 78), (hT.2.1 79), (hT.2.1 80), trivial⟩) (show (m.1 10) = 0 → (m.1 8) + (m.1 9) ≤ (m.1 6) by first | omega | (intro h9; have h8 := hLx h9; omega))) (fun r1017 k1018 => ?_)
          obtain ⟨y1019, y1021, y1023, y1025, y1027, y1029, g1020, g1022, g1024, g1026, g1028, g1030, h1031, h1032, h1033, h1034, rfl⟩ := k1018
          refine ⟨_, _, rfl, ?_⟩
          refine T_nf (st' := []) (l' := [(7, y1019), (8, y1021), (9, y1023), (10, y1025), (11, y1027), (12, y1029), (28, (m.1 28)), (69, (m.1 69)), (70, (m.1 70)), (71, (m.1 71)), (72, (m.1 72)), (73, (m.1 73)), (74, (m.1 74)), (75, (m.1 75))]) (a' := [(65, (m.2 65)), (66, (m.2 66)), (67, (m.2 67)), (68, (m.2 68)), (76, (m.2 76)), (77, (m.2 77)), (78, (m.2 78)), (79, (m.2 79)), (80, (m.2 80))]) rfl rfl rfl rfl rfl ?_
          by_cases hf1035 : y1025 = 0
          · skip
            subst hf1035
            replace h1031 : LxP y1019 y1021 y1023 (m.1 6) 0 := h1031
            have hLx := h1031
            replace h1032 : (m.1 10) = 0 := h1032 rfl
            replace h1033 : (m.1 8) ≤ y1021 := h1033
            replace h1034 : (m.1 8) + (m.1 9) ≤ y1021 := h1034 rfl
            have u1036 : (m.1 8) ≤ y1021 := by omega
            have hAgC : agr (m.2 65) (m.2 65) (m.1 28) := by first | exact agr_r _ _ | exact hAgC | exact agr_t hAgC hAg (by omega)
            clear g1026
            have hAr : ar 400 ≤ 0 + lh (m.2 79) (m.2 80) (m.1 73) := by rw [show ar 400 = 0 from rfl]; omega
            have hCk : CNk 400 0 := by refine ⟨?_, ?_, ?_, ?_⟩ <;> omega
            refine T_ld 103 (.ref 189) rfl (fun _ => rfl) ?_
            refine T_ld 106 (.int (i32 400)) rfl (fun _ => rfl) ?_
            refine T_ld 108 (.int (i32 64)) rfl (fun _ => rfl) ?_
            refine T_ld 109 (.int (i32 0)) rfl (fun _ => rfl) ?_
            refine T_ld 110 (.long (i64 (m.1 12))) rfl (fun _ => rfl) ?_
            refine T_call 113 248 [.ref 189, .int (i32 400), .int (i32 64), .int (i32 0), .long (i64 (m.1 12))] [] rfl (fun _ => rfl) rfl (c_node w (mO m [(7, y1019), (8, y1021), (9, y1023), (10, 0), (11, y1027), (12, y1029), (28, (m.1 28)), (69, (m.1 69)), (70, (m.1 70)), (71, (m.1 71)), (72, (m.1 72)), (73, (m.1 73)), (74, (m.1 74)), (75, (m.1 75))] [(65, (m.2 65)), (66, (m.2 66)), (67, (m.2 67)), (68, (m.2 68)), (76, (m.2 76)), (77, (m.2 77)), (78, (m.2 78)), (79, (m.2 79)), (80, (m.2 80))]) c N D (by omega) (Ty_mO hT rfl rfl ⟨g1020, g1022, g1024, ⟨(by omega : (0 : Int) ≤ 0), (by omega : (0 : Int) ≤ 8)⟩, g1028, g1030, f28, f69, f70, f71, f72, f73, f74, f75, trivial⟩ ⟨(hT.2.1 65), (hT.2.1 66), (hT.2.1 67), (hT.2.1 68), (hT.2.1 76), (hT.2.1 77), (hT.2.1 78), (hT.2.1 79), (hT.2.1 80), trivial⟩) 400 64 0 (m.1 12) ($B) (0 + lh (m.2 79) (m.2 80) (m.1 73)) ⟨by decide, by decide⟩ ⟨by decide, by decide⟩ ⟨by decide, by decide⟩ (r64 (by omega) (by omega)) (fun _ => ⟨(show 0 ≤ 400 ∧ 400 ≤ 408 by first | omega | decide), (show 0 ≤ 64 ∧ 64 ≤ 64 by first | omega | decide), (show 0 ≤ 0 ∧ 0 ≤ 191 by first | omega | decide), (show CNk 400 0 by first | exact hCk | (refine ⟨?_, ?_, ?_, ?_⟩ <;> omega)), (show ar 400 ≤ (0 + lh (m.2 79) (m.2 80) (m.1 73)) by first | exact hAr | omega), (show EX (m.2 65) (m.2 67) ($B) (m.1 28) (0 + lh (m.2 79) (m.2 80) (m.1 73)) by first | exact hEX | assumption)⟩)) (fun r1037 k1038 => ?_)
            obtain ⟨y1039, y1041, y1043, F1045, F1047, F1049, F1051, g1040, g1042, g1044, G1046, G1048, G1050, G1052, h1053, c1054, rfl⟩ := k1038
            refine ⟨_, _, rfl, ?_⟩
            refine T_nf (st' := []) (l' := [(7, y1019), (8, y1021), (9, y1023), (10, y1039), (11, y1041), (12, y1029), (28, y1043), (69, (m.1 69)), (70, (m.1 70)), (71, (m.1 71)), (72, (m.1 72)), (73, (m.1 73)), (74, (m.1 74)), (75, (m.1 75))]) (a' := [(65, F1045), (66, F1047), (67, F1049), (68, F1051), (76, (m.2 76)), (77, (m.2 77)), (78, (m.2 78)), (79, (m.2 79)), (80, (m.2 80))]) rfl rfl rfl rfl rfl ?_
            by_cases hf1055 : y1039 = 0
            · skip
              subst hf1055
              replace h1053 : 0 = 0 := h1053 rfl
              obtain ⟨c1056, c1057, c1058⟩ := c1054 rfl
              replace c1056 : y1043 = (m.1 28) + 1 := c1056
              replace c1057 : EX F1045 F1049 ($B) y1043 ((0 + lh (m.2 79) (m.2 80) (m.1 73)) + 1 - ar 400) := c1057
              have hEX := c1057
              replace c1058 : agr (m.2 65) F1045 (m.1 28) := c1058
              have hAg := c1058
              have u1059 : (m.1 8) ≤ y1021 := by omega
              have hAgC : agr (m.2 65) F1045 (m.1 28) := by first | exact agr_r _ _ | exact hAgC | exact agr_t hAgC hAg (by omega)
              clear g1028 g1040
              refine T_ld 114 (.ref 189) rfl (fun _ => rfl) ?_
              refine T_ld 116 (.int (i32 64)) rfl (fun _ => rfl) ?_
              refine T_ld 117 (.int (i32 (m.1 8))) rfl (fun _ => rfl) ?_
              refine T_call 120 249 [.ref 189, .int (i32 64), .int (i32 (m.1 8))] [] rfl (fun _ => rfl) rfl (c_atom w (mO m [(7, y1019), (8, y1021), (9, y1023), (10, 0), (11, y1041), (12, y1029), (28, y1043), (69, (m.1 69)), (70, (m.1 70)), (71, (m.1 71)), (72, (m.1 72)), (73, (m.1 73)), (74, (m.1 74)), (75, (m.1 75))] [(65, F1045), (66, F1047), (67, F1049), (68, F1051), (76, (m.2 76)), (77, (m.2 77)), (78, (m.2 78)), (79, (m.2 79)), (80, (m.2 80))]) c N D (by omega) (Ty_mO hT rfl rfl ⟨g1020, g1022, g1024, ⟨(by omega : (0 : Int) ≤ 0), (by omega : (0 : Int) ≤ 8)⟩, g1042, g1030, g1044, f69, f70, f71, f72, f73, f74, f75, trivial⟩ ⟨G1046, G1048, G1050, G1052, (hT.2.1 76), (hT.2.1 77), (hT.2.1 78), (hT.2.1 79), (hT.2.1 80), trivial⟩) 64 (m.1 8) ⟨by decide, by decide⟩ (r32 (by omega) (by omega)) (show 0 ≤ 64 ∧ 64 ≤ 64 by omega) (show 0 ≤ (m.1 8) ∧ (m.1 8) ≤ 4000 by omega)) (fun r1060 k1061 => ?_)
              obtain ⟨y1062, y1064, y1066, y1068, y1070, g1063, g1065, g1067, g1069, g1071, h1072, rfl⟩ := k1061
              refine ⟨_, _, rfl, ?_⟩
              refine T_nf (st' := []) (l' := [(7, y1019), (8, y1021), (9, y1023), (10, 0), (11, y1041), (12, y1029), (28, y1043), (69, y1062), (70, y1064), (71, y1066), (72, y1068), (73, (m.1 73)), (74, (m.1 74)), (75, y1070)]) (a' := [(65, F1045), (66, F1047), (67, F1049), (68, F1051), (76, (m.2 76)), (77, (m.2 77)), (78, (m.2 78)), (79, (m.2 79)), (80, (m.2 80))]) rfl rfl rfl rfl rfl ?_
              replace h1072 : 0 = 0 → y1070 = 1 ∧ y1062 = 64 := h1072
              have u1073 : (m.1 8) ≤ y1021 := by omega
              have hAgC : agr (m.2 65) F1045 (m.1 28) := by first | exact agr_r _ _ | exact hAgC | exact agr_t hAgC hAg (by omega)
              refine T_ld 121 (.ref 189) rfl (fun _ => rfl) ?_
              refine T_ld 122 (.int (i32 1)) rfl (fun _ => rfl) ?_
              refine T_pf (l' := [(7, y1019), (8, y1021), (9, y1023), (10, 0), (11, y1041), (12, y1029), (28, y1043), (69, y1062), (70, y1064), (71, 1), (72, y1068), (73, (m.1 73)), (74, (m.1 74)), (75, y1070)]) 125 1 rfl rfl rfl rfl rfl rfl ?_
              refine T_ld 126 (.ref 189) rfl (fun _ => rfl) ?_
              refine T_ld 127 (.long (i64 (m.1 12))) rfl (fun _ => rfl) ?_
              refine T_pf (l' := [(7, y1019), (8, y1021), (9, y1023), (10, 0), (11, y1041), (12, y1029), (28, y1043), (69, y1062), (70, y1064), (71, 1), (72, (m.1 12)), (73, (m.1 73)), (74, (m.1 74)), (75, y1070)]) 130 (m.1 12) rfl rfl rfl rfl rfl rfl ?_
              have g1074 : (-9223372036854775808) ≤ (m.1 12) ∧ (m.1 12) ≤ 9223372036854775807 := ⟨by omega, by omega⟩
              have hXE : XS F1045 F1049 (m.2 76) (m.2 78) (m.2 79) (m.2 80) $B y1043 (m.1 73) (m.1 74) (um y1070) := by
                rw [show um y1070 = 1 from if_neg (by omega)]
                exact XS_of hXS hEX (by rw [show ar 400 = 0 from rfl]; omega)
              refine T_goto 219 rfl (fun _ => rfl) ?_
              refine T_ret rfl (fun _ => rfl) ?_
              exact ⟨y1019, y1021, y1023, 0, y1041, y1029, y1043, y1062, y1064, 1, (m.1 12), (m.1 73), (m.1 74), y1070, F1045, F1047, F1049, F1051, (m.2 76), (m.2 77), (m.2 78), (m.2 79), (m.2 80), g1020, g1022, g1024, ⟨by omega, by omega⟩, g1042, g1030, g1044, g1063, g1065, ⟨by omega, by omega⟩, g1074, f73, f74, g1071, G1046, G1048, G1050, G1052, (hT.2.1 76), (hT.2.1 77), (hT.2.1 78), (hT.2.1 79), (hT.2.1 80), (by omega), (by first | exact hLx | (intro h9; exfalso; omega)), (fun _ => ⟨(by omega), (by omega), (by omega), (by omega), (by exact hXE), (by exact hAgC)⟩), rfl⟩
            · skip
              clear c1054
              clear h1053
              have hf1075 : 1 ≤ y1039 := by omega
              clear g1028
              refine Tm_lv (a := [(0, .ref 189), (1, .int (i32 (m.1 8))), (2, .long (i64 (m.1 12)))]) rfl rfl ⟨rfl, rfl, rfl, trivial⟩ ?_
              exact J113_494 (m.1 8) (m.1 12) y1019 y1021 y1023 y1039 y1041 y1029 y1043 (m.1 69) (m.1 70) (m.1 71) (m.1 72) (m.1 73) (m.1 74) (m.1 75) F1045 F1047 F1049 F1051 (m.2 76) (m.2 77) (m.2 78) (m.2 79) (m.2 80) (r32 (by omega) (by omega)) (r64 (by omega) (by omega)) g1020 g1022 g1024 g1040 g1042 g1030 g1044 f69 f70 f71 f72 f73 f74 f75 G1046 G1048 G1050 G1052 (hT.2.1 76) (hT.2.1 77) (hT.2.1 78) (hT.2.1 79) (hT.2.1 80) (by omega) (by omega) (by omega) (by omega)
          · skip
            replace h1031 : LxP y1019 y1021 y1023 (m.1 6) y1025 := h1031
            have hLx := h1031
            clear h1032
            replace h1033 : (m.1 8) ≤ y1021 := h1033
            clear h1034
            have hf1076 : 1 ≤ y1025 := by omega
            refine T_ld 103 (.ref 189) rfl (fun _ => rfl) ?_
            refine T_ld 106 (.int (i32 400)) rfl (fun _ => rfl) ?_
            refine T_ld 108 (.int (i32 64)) rfl (fun _ => rfl) ?_
            refine T_ld 109 (.int (i32 0)) rfl (fun _ => rfl) ?_
            refine T_ld 110 (.long (i64 (m.1 12))) rfl (fun _ => rfl) ?_
            refine T_call 113 248 [.ref 189, .int (i32 400), .int (i32 64), .int (i32 0), .long (i64 (m.1 12))] [] rfl (fun _ => rfl) rfl (c_node w (mO m [(7, y1019), (8, y1021), (9, y1023), (10, y1025), (11, y1027), (12, y1029), (28, (m.1 28)), (69, (m.1 69)), (70, (m.1 70)), (71, (m.1 71)), (72, (m.1 72)), (73, (m.1 73)), (74, (m.1 74)), (75, (m.1 75))] [(65, (m.2 65)), (66, (m.2 66)), (67, (m.2 67)), (68, (m.2 68)), (76, (m.2 76)), (77, (m.2 77)), (78, (m.2 78)), (79, (m.2 79)), (80, (m.2 80))]) c N D (by omega) (Ty_mO hT rfl rfl ⟨g1020, g1022, g1024, g1026, g1028, g1030, f28, f69, f70, f71, f72, f73, f74, f75, trivial⟩ ⟨(hT.2.1 65), (hT.2.1 66), (hT.2.1 67), (hT.2.1 68), (hT.2.1 76), (hT.2.1 77), (hT.2.1 78), (hT.2.1 79), (hT.2.1 80), trivial⟩) 400 64 0 (m.1 12) ($B) (0 + lh (m.2 79) (m.2 80) (m.1 73)) ⟨by decide, by decide⟩ ⟨by decide, by decide⟩ ⟨by decide, by decide⟩ (r64 (by omega) (by omega)) (fun h => absurd h (by omega))) (fun r1077 k1078 => ?_)
            obtain ⟨y1079, y1081, y1083, F1085, F1087, F1089, F1091, g1080, g1082, g1084, G1086, G1088, G1090, G1092, h1093, c1094, rfl⟩ := k1078
            refine ⟨_, _, rfl, ?_⟩
            refine T_nf (st' := []) (l' := [(7, y1019), (8, y1021), (9, y1023), (10, y1079), (11, y1081), (12, y1029), (28, y1083), (69, (m.1 69)), (70, (m.1 70)), (71, (m.1 71)), (72, (m.1 72)), (73, (m.1 73)), (74, (m.1 74)), (75, (m.1 75))]) (a' := [(65, F1085), (66, F1087), (67, F1089), (68, F1091), (76, (m.2 76)), (77, (m.2 77)), (78, (m.2 78)), (79, (m.2 79)), (80, (m.2 80))]) rfl rfl rfl rfl rfl ?_
            replace h1093 : y1079 = 0 → y1025 = 0 := h1093
            have hf1095 : 1 ≤ y1079 := by omega
            clear c1094
            clear h1093
            clear g1026 g1028 h1031 hf1076
            refine Tm_lv (a := [(0, .ref 189), (1, .int (i32 (m.1 8))), (2, .long (i64 (m.1 12)))]) rfl rfl ⟨rfl, rfl, rfl, trivial⟩ ?_
            exact J113_494 (m.1 8) (m.1 12) y1019 y1021 y1023 y1079 y1081 y1029 y1083 (m.1 69) (m.1 70) (m.1 71) (m.1 72) (m.1 73) (m.1 74) (m.1 75) F1085 F1087 F1089 F1091 (m.2 76) (m.2 77) (m.2 78) (m.2 79) (m.2 80) (r32 (by omega) (by omega)) (r64 (by omega) (by omega)) g1020 g1022 g1024 g1080 g1082 g1030 g1084 f69 f70 f71 f72 f73 f74 f75 G1086 G1088 G1090 G1092 (hT.2.1 76) (hT.2.1 77) (hT.2.1 78) (hT.2.1 79) (hT.2.1 80) (by omega) (by omega) (by omega) (by omega)
      · skip
        refine T_gf 36 (.int (i32 (m.1 74))) rfl rfl rfl rfl rfl rfl ?_
        refine T_ld 38 (.int (i32 24)) rfl (fun _ => rfl) ?_
        refine T_icmp 50 41 rfl rfl rfl (r32 (by omega) (by omega)) ⟨by decide, by decide⟩ (fun (h1096 : (m.1 74) ≠ 24) => ?_) (fun (h1096 : ¬ ((m.1 74) ≠ 24)) => ?_)
        · skip
          refine T_gf 54 (.int (i32 (m.1 10))) rfl rfl rfl rfl rfl rfl ?_
          refine T_if 58 57 rfl rfl rfl (r32 (by omega) (by omega)) (fun (h1097 : (m.1 10) ≤ 0) => ?_) (fun (h1097 : ¬ ((m.1 10) ≤ 0)) => by exfalso; omega)
          refine T_ld 59 (.ref 189) rfl (fun _ => rfl) ?_
          refine T_ld 60 (.ref 189) rfl (fun _ => rfl) ?_
          refine T_gf1 63 (.int (i32 (m.1 74))) rfl rfl rfl rfl ?_
          refine T_ld 64 (.int (i32 1)) rfl (fun _ => rfl) ?_
          refine T_iadd 65 rfl rfl ?_
          refine T_pf (l' := [(7, (m.1 7)), (8, (m.1 8)), (9, (m.1 9)), (10, (m.1 10)), (11, (m.1 11)), (12, (m.1 12)), (28, (m.1 28)), (69, (m.1 69)), (70, (m.1 70)), (71, (m.1 71)), (72, (m.1 72)), (73, (m.1 73)), (74, (m.1 74) + 1), (75, (m.1 75))]) 68 ((m.1 74) + 1) rfl rfl rfl rfl rfl rfl ?_
          have g1098 : 0 ≤ (m.1 74) + 1 ∧ (m.1 74) + 1 ≤ 24 := ⟨by omega, by omega⟩
          refine T_ld 69 (.ref 189) rfl (fun _ => rfl) ?_
          refine T_ld 70 (.int (i32 1)) rfl (fun _ => rfl) ?_
          refine T_ld 71 (.int (i32 (m.1 8))) rfl (fun _ => rfl) ?_
          refine T_gf 75 (.int (i32 (m.1 7))) rfl rfl rfl rfl rfl rfl ?_
          refine T_call 78 246 [.ref 189, .int (i32 1), .int (i32 (m.1 8)), .int (i32 (m.1 7))] [] rfl (fun _ => rfl) rfl (c_open w (mO m [(7, (m.1 7)), (8, (m.1 8)), (9, (m.1 9)), (10, (m.1 10)), (11, (m.1 11)), (12, (m.1 12)), (28, (m.1 28)), (69, (m.1 69)), (70, (m.1 70)), (71, (m.1 71)), (72, (m.1 72)), (73, (m.1 73)), (74, (m.1 74) + 1), (75, (m.1 75))] [(65, (m.2 65)), (66, (m.2 66)), (67, (m.2 67)), (68, (m.2 68)), (76, (m.2 76)), (77, (m.2 77)), (78, (m.2 78)), (79, (m.2 79)), (80, (m.2 80))]) c N D (by omega) (Ty_mO hT rfl rfl ⟨f7, f8, f9, f10, f11, f12, f28, f69, f70, f71, f72, f73, g1098, f75, trivial⟩ ⟨(hT.2.1 65), (hT.2.1 66), (hT.2.1 67), (hT.2.1 68), (hT.2.1 76), (hT.2.1 77), (hT.2.1 78), (hT.2.1 79), (hT.2.1 80), trivial⟩) 1 (m.1 8) (m.1 7) ⟨by decide, by decide⟩ (r32 (by omega) (by omega)) (r32 (by omega) (by omega)) (show (m.1 73) ≤ 59 by omega) (show 0 ≤ 1 ∧ 1 ≤ 2 by omega) (show 0 ≤ (m.1 8) ∧ (m.1 8) ≤ 4000 by omega) (show 0 ≤ (m.1 7) ∧ (m.1 7) ≤ 330 by omega)) (fun r1099 k1100 => ?_)
          obtain ⟨y1101, F1103, F1105, F1107, F1109, F1111, g1102, G1104, G1106, G1108, G1110, G1112, h1113, h1114, h1115, h1116, h1117, h1118, rfl⟩ := k1100
          refine ⟨_, _, rfl, ?_⟩
          refine T_nf (st' := []) (l' := [(7, (m.1 7)), (8, (m.1 8)), (9, (m.1 9)), (10, (m.1 10)), (11, (m.1 11)), (12, (m.1 12)), (28, (m.1 28)), (69, (m.1 69)), (70, (m.1 70)), (71, (m.1 71)), (72, (m.1 72)), (73, y1101), (74, (m.1 74) + 1), (75, (m.1 75))]) (a' := [(65, (m.2 65)), (66, (m.2 66)), (67, (m.2 67)), (68, (m.2 68)), (76, F1103), (77, F1105), (78, F1107), (79, F1109), (80, F1111)]) rfl rfl rfl rfl rfl ?_
          replace h1113 : y1101 = (m.1 73) + 1 := h1113
          replace h1114 : F1103 = upI (m.2 76) (m.1 73) 1 := h1114
          have hO1 := h1114
          replace h1115 : F1107 = upI (m.2 78) (m.1 73) (m.1 7) := h1115
          have hO2 := h1115
          replace h1116 : F1109 = upI (m.2 79) (m.1 73) 0 := h1116
          have hO3 := h1116
          replace h1117 : ∀ j, j < 9 * (m.1 73) → F1111 j = (m.2 80) j := h1117
          have hW1 := h1117
          replace h1118 : ∀ j, 9 * (m.1 73) ≤ j → j < 9 * (m.1 73) + 9 → F1111 j = -1 := h1118
          have hW2 := h1118
          have u1119 : (m.1 8) ≤ (m.1 8) := by omega
          have hAgC : agr (m.2 65) (m.2 65) (m.1 28) := by first | exact agr_r _ _ | exact hAgC | exact agr_t hAgC hAg (by omega)
          refine T_ld 79 (.ref 189) rfl (fun _ => rfl) ?_
          refine T_call 82 212 [.ref 189] [] rfl (fun _ => rfl) rfl (c_next w (mO m [(7, (m.1 7)), (8, (m.1 8)), (9, (m.1 9)), (10, (m.1 10)), (11, (m.1 11)), (12, (m.1 12)), (28, (m.1 28)), (69, (m.1 69)), (70, (m.1 70)), (71, (m.1 71)), (72, (m.1 72)), (73, y1101), (74, (m.1 74) + 1), (75, (m.1 75))] [(65, (m.2 65)), (66, (m.2 66)), (67, (m.2 67)), (68, (m.2 68)), (76, F1103), (77, F1105), (78, F1107), (79, F1109), (80, F1111)]) c N D (by omega) (Ty_mO hT rfl rfl ⟨f7, f8, f9, f10, f11, f12, f28, f69, f70, f71, f72, g1102, g1098, f75, trivial⟩ ⟨(hT.2.1 65), (hT.2.1 66), (hT.2.1 67), (hT.2.1 68), G1104, G1106, G1108, G1110, G1112, trivial⟩) (show (m.1 10) = 0 → (m.1 8) + (m.1 9) ≤ (m.1 6) by first | omega | (intro h9; have h8 := hLx h9; omega))) (fun r1120 k1121 => ?_)
          obtain ⟨y1122, y1124, y1126, y1128, y1130, y1132, g1123, g1125, g1127, g1129, g1131, g1133, h1134, h1135, h1136, h1137, rfl⟩ := k1121
          refine ⟨_, _, rfl, ?_⟩
          refine T_nf (st' := []) (l' := [(7, y1122), (8, y1124), (9, y1126), (10, y1128), (11, y1130), (12, y1132), (28, (m.1 28)), (69, (m.1 69)), (70, (m.1 70)), (71, (m.1 71)), (72, (m.1 72)), (73, y1101), (74, (m.1 74) + 1), (75, (m.1 75))]) (a' := [(65, (m.2 65)), (66, (m.2 66)), (67, (m.2 67)), (68, (m.2 68)), (76, F1103), (77, F1105), (78, F1107), (79, F1109), (80, F1111)]) rfl rfl rfl rfl rfl ?_
          by_cases hf1138 : y1128 = 0
          · skip
            subst hf1138
            replace h1134 : LxP y1122 y1124 y1126 (m.1 6) 0 := h1134
            have hLx := h1134
            replace h1135 : (m.1 10) = 0 := h1135 rfl
            replace h1136 : (m.1 8) ≤ y1124 := h1136
            replace h1137 : (m.1 8) + (m.1 9) ≤ y1124 := h1137 rfl
            have u1139 : (m.1 8) ≤ y1124 := by omega
            have hAgC : agr (m.2 65) (m.2 65) (m.1 28) := by first | exact agr_r _ _ | exact hAgC | exact agr_t hAgC hAg (by omega)
            clear g1129
            have hXE : XS (m.2 65) (m.2 67) F1103 F1107 F1109 F1111 $B (m.1 28) y1101 ((m.1 74) + 1) (um (m.1 75)) := by
              rw [hO1, hO2, hO3, show um (m.1 75) = 0 from if_pos (by omega)]
              exact XS_pre hXS (by omega) (by omega) hW1 hW2
            refine T_goto 219 rfl (fun _ => rfl) ?_
            refine T_ret rfl (fun _ => rfl) ?_
            exact ⟨y1122, y1124, y1126, 0, y1130, y1132, (m.1 28), (m.1 69), (m.1 70), (m.1 71), (m.1 72), y1101, (m.1 74) + 1, (m.1 75), (m.2 65), (m.2 66), (m.2 67), (m.2 68), F1103, F1105, F1107, F1109, F1111, g1123, g1125, g1127, ⟨by omega, by omega⟩, g1131, g1133, f28, f69, f70, f71, f72, g1102, g1098, f75, (hT.2.1 65), (hT.2.1 66), (hT.2.1 67), (hT.2.1 68), G1104, G1106, G1108, G1110, G1112, (by omega), (by first | exact hLx | (intro h9; exfalso; omega)), (fun _ => ⟨(by omega), (by omega), (by omega), (by omega), (by exact hXE), (by exact hAgC)⟩), rfl⟩
          · skip
            replace h1134 : LxP y1122 y1124 y1126 (m.1 6) y1128 := h1134
            have hLx := h1134
            clear h1135
            replace h1136 : (m.1 8) ≤ y1124 := h1136
            clear h1137
            have hf1140 : 1 ≤ y1128 := by omega
            refine Tm_lv (a := [(0, .ref 189), (1, .int (i32 (m.1 8)))]) rfl rfl ⟨rfl, rfl, trivial⟩ ?_
            exact J82_563 (m.1 8) y1122 y1124 y1126 y1128 y1130 y1132 (m.1 28) (m.1 69) (m.1 70) (m.1 71) (m.1 72) y1101 ((m.1 74) + 1) (m.1 75) (m.2 65) (m.2 66) (m.2 67) (m.2 68) F1103 F1105 F1107 F1109 F1111 (r32 (by omega) (by omega)) g1123 g1125 g1127 g1129 g1131 g1133 f28 f69 f70 f71 f72 g1102 g1098 f75 (hT.2.1 65) (hT.2.1 66) (hT.2.1 67) (hT.2.1 68) G1104 G1106 G1108 G1110 G1112 (by omega) (by omega) (by omega) (by omega)
        · skip
          refine T_ld 42 (.ref 189) rfl (fun _ => rfl) ?_
          refine T_ld 43 (.int (i32 4)) rfl (fun _ => rfl) ?_
          refine T_gf 47 (.int (i32 (m.1 8))) rfl rfl rfl rfl rfl rfl ?_
          refine T_call 50 222 [.ref 189, .int (i32 4), .int (i32 (m.1 8))] [] rfl (fun _ => rfl) rfl (c_wrong w (mO m [(7, (m.1 7)), (8, (m.1 8)), (9, (m.1 9)), (10, (m.1 10)), (11, (m.1 11)), (12, (m.1 12)), (28, (m.1 28)), (69, (m.1 69)), (70, (m.1 70)), (71, (m.1 71)), (72, (m.1 72)), (73, (m.1 73)), (74, (m.1 74)), (75, (m.1 75))] [(65, (m.2 65)), (66, (m.2 66)), (67, (m.2 67)), (68, (m.2 68)), (76, (m.2 76)), (77, (m.2 77)), (78, (m.2 78)), (79, (m.2 79)), (80, (m.2 80))]) c N D (by omega) (Ty_mO hT rfl rfl ⟨f7, f8, f9, f10, f11, f12, f28, f69, f70, f71, f72, f73, f74, f75, trivial⟩ ⟨(hT.2.1 65), (hT.2.1 66), (hT.2.1 67), (hT.2.1 68), (hT.2.1 76), (hT.2.1 77), (hT.2.1 78), (hT.2.1 79), (hT.2.1 80), trivial⟩) 4 (m.1 8) ⟨by decide, by decide⟩ (r32 (by omega) (by omega)) (show 1 ≤ 4 ∧ 4 ≤ 8 by omega) (show 0 ≤ (m.1 8) ∧ (m.1 8) ≤ 4000 by omega)) (fun r1141 k1142 => ?_)
          obtain ⟨y1143, y1145, g1144, g1146, h1147, rfl⟩ := k1142
          refine ⟨_, _, rfl, ?_⟩
          refine T_nf (st' := []) (l' := [(7, (m.1 7)), (8, (m.1 8)), (9, (m.1 9)), (10, y1143), (11, y1145), (12, (m.1 12)), (28, (m.1 28)), (69, (m.1 69)), (70, (m.1 70)), (71, (m.1 71)), (72, (m.1 72)), (73, (m.1 73)), (74, (m.1 74)), (75, (m.1 75))]) (a' := [(65, (m.2 65)), (66, (m.2 66)), (67, (m.2 67)), (68, (m.2 68)), (76, (m.2 76)), (77, (m.2 77)), (78, (m.2 78)), (79, (m.2 79)), (80, (m.2 80))]) rfl rfl rfl rfl rfl ?_
          replace h1147 : (0 < (m.1 10) → y1143 = (m.1 10) ∧ y1145 = (m.1 11)) ∧ ((m.1 10) ≤ 0 → y1143 = 4 ∧ y1145 = (m.1 8)) := h1147
          have hf1148 : 1 ≤ y1143 := by omega
          refine Tm_lv (a := [(0, .ref 189), (1, .int (i32 (m.1 8)))]) rfl rfl ⟨rfl, rfl, trivial⟩ ?_
          exact J50_617 (m.1 8) (m.1 7) (m.1 8) (m.1 9) y1143 y1145 (m.1 12) (m.1 28) (m.1 69) (m.1 70) (m.1 71) (m.1 72) (m.1 73) (m.1 74) (m.1 75) (m.2 65) (m.2 66) (m.2 67) (m.2 68) (m.2 76) (m.2 77) (m.2 78) (m.2 79) (m.2 80) (r32 (by omega) (by omega)) f7 f8 f9 g1144 g1146 f12 f28 f69 f70 f71 f72 f73 f74 f75 (hT.2.1 65) (hT.2.1 66) (hT.2.1 67) (hT.2.1 68) (hT.2.1 76) (hT.2.1 77) (hT.2.1 78) (hT.2.1 79) (hT.2.1 80) (by omega) (by omega) (by omega) (by omega)
