def fF_fm_add : List Nat := [213, 220, 229]
def fA_fm_add : List Nat := [18, 19, 20, 22, 23, 70]
def Q_fm_add (m : mR) (c : Nat → Option am_C) (N : Nat) (k : Int) (l : Int) (r : Int) (u : Int) (p : Int) : ag_Re af_T → Prop := fun R => (∃ (M : mR) (r : Int), KTy M ∧ fr fF_fm_add fA_fm_add m M ∧ (0 ≤ r ∧ r ≤ 1089) ∧ ((M.1 229) = (m.1 229) + 1) ∧ (NKp (M.2 18) (M.2 19)) ∧ R = (.inl (some (.int (i32 r))), (khp M c, N), 0, 0))
set_option maxHeartbeats 3000000 in
theorem c_fm_add (w : wX) (m : mR) (c : Nat → Option am_C) (N D : Nat) (hD : 2 ≤ D) (hT : KTy m) (k : Int) (l : Int) (r : Int) (u : Int) (p : Int) (qk : R32 k) (ql : R32 l) (qr : R32 r) (qu : R32 u) (qp : R32 p) (p0 : 0 ≤ (m.1 229) ∧ (m.1 229) ≤ 575) (p1 : 0 ≤ k ∧ k ≤ 65535) (p2 : 0 ≤ l ∧ l ≤ 1089) (p3 : 0 ≤ r ∧ r ≤ 1089) (p4 : 0 ≤ u ∧ u ≤ 64) (p5 : 0 ≤ p ∧ p ≤ 4001) (p6 : k ≠ 400 ∨ l ≤ 220) (p7 : k ≠ 401 ∨ l ≤ 3) (hNK : NKp (m.2 18) (m.2 19)) : TC w D 97 [.ref 181, .int (i32 k), .int (i32 l), .int (i32 r), .int (i32 u), .int (i32 p)] (khp m c, N) (Q_fm_add m c N k l r u p) := by
  obtain ⟨D, rfl⟩ : ∃ k, D = k + 1 := ⟨D - 1, by omega⟩
  obtain ⟨qka, qkb⟩ := id qk
  obtain ⟨qla, qlb⟩ := id ql
  obtain ⟨qra, qrb⟩ := id qr
  obtain ⟨qua, qub⟩ := id qu
  obtain ⟨qpa, qpb⟩ := id qp
  have f220 : 0 ≤ m.1 220 ∧ m.1 220 ≤ 1090 := hT.1 220
  have f229 : 0 ≤ m.1 229 ∧ m.1 229 ≤ 576 := hT.1 229
  refine Tc_of rfl ?_
  rw [show (khp m c, N) = (khp (mO m [] []) c, N) from by rw [mO_nil m]]
  show TT w D pm_97 (0, [(0, .ref 181), (1, .int (i32 k)), (2, .int (i32 l)), (3, .int (i32 r)), (4, .int (i32 u)), (5, .int (i32 p))], [], (khp (mO m [] []) c, N), 0, 0) (Q_fm_add m c N k l r u p)
  refine T_ld 1 (.ref 181) rfl (fun _ => rfl) ?_
  refine K_gf 4 (.ref 22) rfl rfl kd_181 rfl rfl rfl ?_
  refine K_gf 7 (.int (i32 (m.1 220))) rfl rfl kd_22 rfl rfl rfl ?_
  refine T_ld 10 (.int (i32 1089)) rfl (fun _ => rfl) ?_
  refine T_callx 13 62 [.int (i32 (m.1 220)), .int (i32 1089)] [] rfl (fun _ => rfl) rfl rfl (c_Math_min w (mO m [] []) c N D (by omega) hT (m.1 220) 1089 (r32 (by omega) (by omega)) ⟨by decide, by decide⟩) (fun rr1 k2 => ?_)
  obtain ⟨x3, g4, h5, h6, rfl⟩ := k2
  refine Or.inl ⟨_, _, _, _, rfl, ?_⟩
  refine T_ns (st' := [.int (i32 x3)]) rfl ?_
  obtain ⟨g4a, g4b⟩ := g4
  replace h5 : x3 = (m.1 220) ∨ x3 = (1089 : Int) := h5
  replace h6 : x3 ≤ (m.1 220) ∧ x3 ≤ (1089 : Int) := h6
  refine T_sto 15 [(6, .int (i32 x3)), (0, .ref 181), (1, .int (i32 k)), (2, .int (i32 l)), (3, .int (i32 r)), (4, .int (i32 u)), (5, .int (i32 p))] rfl (fun _ => rfl) ?_
  refine T_ld 16 (.ref 181) rfl (fun _ => rfl) ?_
  refine K_gf 19 (.ref 22) rfl rfl kd_181 rfl rfl rfl ?_
  refine K_gf 22 (.ref 23) rfl rfl kd_22 rfl rfl rfl ?_
  refine T_ld 24 (.int (i32 x3)) rfl (fun _ => rfl) ?_
  refine T_ld 25 (.int (i32 k)) rfl (fun _ => rfl) ?_
  have G7 : ∀ j, 0 ≤ (upI (m.2 18) x3 k) j ∧ (upI (m.2 18) x3 k) j ≤ 65535 := upI_rg (hT.2.1 18) ⟨by omega, by omega⟩
  refine K_iast (a' := [(18, upI (m.2 18) x3 k)]) 26 18 (m.2 18) rfl rfl rfl (by omega) (show x3 < (1090 : Int) by omega) rfl rfl ?_
  refine T_ld 27 (.ref 181) rfl (fun _ => rfl) ?_
  refine K_gf 30 (.ref 22) rfl rfl kd_181 rfl rfl rfl ?_
  refine K_gf 33 (.ref 24) rfl rfl kd_22 rfl rfl rfl ?_
  refine T_ld 35 (.int (i32 x3)) rfl (fun _ => rfl) ?_
  refine T_ld 36 (.int (i32 l)) rfl (fun _ => rfl) ?_
  have G8 : ∀ j, 0 ≤ (upI (m.2 19) x3 l) j ∧ (upI (m.2 19) x3 l) j ≤ 1089 := upI_rg (hT.2.1 19) ⟨by omega, by omega⟩
  refine K_iast (a' := [(18, upI (m.2 18) x3 k), (19, upI (m.2 19) x3 l)]) 37 19 (m.2 19) rfl rfl rfl (by omega) (show x3 < (1090 : Int) by omega) rfl rfl ?_
  refine T_ld 38 (.ref 181) rfl (fun _ => rfl) ?_
  refine K_gf 41 (.ref 22) rfl rfl kd_181 rfl rfl rfl ?_
  refine K_gf 44 (.ref 25) rfl rfl kd_22 rfl rfl rfl ?_
  refine T_ld 46 (.int (i32 x3)) rfl (fun _ => rfl) ?_
  refine T_ld 47 (.int (i32 r)) rfl (fun _ => rfl) ?_
  have G9 : ∀ j, 0 ≤ (upI (m.2 20) x3 r) j ∧ (upI (m.2 20) x3 r) j ≤ 1089 := upI_rg (hT.2.1 20) ⟨by omega, by omega⟩
  refine K_iast (a' := [(18, upI (m.2 18) x3 k), (19, upI (m.2 19) x3 l), (20, upI (m.2 20) x3 r)]) 48 20 (m.2 20) rfl rfl rfl (by omega) (show x3 < (1090 : Int) by omega) rfl rfl ?_
  refine T_ld 49 (.ref 181) rfl (fun _ => rfl) ?_
  refine K_gf 52 (.ref 22) rfl rfl kd_181 rfl rfl rfl ?_
  refine K_gf 55 (.ref 27) rfl rfl kd_22 rfl rfl rfl ?_
  refine T_ld 57 (.int (i32 x3)) rfl (fun _ => rfl) ?_
  refine T_ld 59 (.int (i32 u)) rfl (fun _ => rfl) ?_
  have G10 : ∀ j, 0 ≤ (upI (m.2 22) x3 u) j ∧ (upI (m.2 22) x3 u) j ≤ 64 := upI_rg (hT.2.1 22) ⟨by omega, by omega⟩
  refine K_iast (a' := [(18, upI (m.2 18) x3 k), (19, upI (m.2 19) x3 l), (20, upI (m.2 20) x3 r), (22, upI (m.2 22) x3 u)]) 60 22 (m.2 22) rfl rfl rfl (by omega) (show x3 < (1090 : Int) by omega) rfl rfl ?_
  refine T_ld 61 (.ref 181) rfl (fun _ => rfl) ?_
  refine K_gf 64 (.ref 22) rfl rfl kd_181 rfl rfl rfl ?_
  refine K_gf 67 (.ref 28) rfl rfl kd_22 rfl rfl rfl ?_
  refine T_ld 69 (.int (i32 x3)) rfl (fun _ => rfl) ?_
  refine T_ld 71 (.int (i32 p)) rfl (fun _ => rfl) ?_
  have G11 : ∀ j, 0 ≤ (upI (m.2 23) x3 p) j ∧ (upI (m.2 23) x3 p) j ≤ 4001 := upI_rg (hT.2.1 23) ⟨by omega, by omega⟩
  refine K_iast (a' := [(18, upI (m.2 18) x3 k), (19, upI (m.2 19) x3 l), (20, upI (m.2 20) x3 r), (22, upI (m.2 22) x3 u), (23, upI (m.2 23) x3 p)]) 72 23 (m.2 23) rfl rfl rfl (by omega) (show x3 < (1090 : Int) by omega) rfl rfl ?_
  refine T_ld 73 (.ref 181) rfl (fun _ => rfl) ?_
  refine K_gf 76 (.ref 22) rfl rfl kd_181 rfl rfl rfl ?_
  refine T_ld 78 (.int (i32 x3)) rfl (fun _ => rfl) ?_
  refine T_ld 79 (.int (i32 1)) rfl (fun _ => rfl) ?_
  refine T_iadd 80 rfl rfl ?_
  refine K_pf (l' := [(220, x3 + 1)]) 83 (x3 + 1) rfl rfl kd_22 rfl rfl rfl rfl rfl rfl rfl ?_
  have g12 : 0 ≤ x3 + 1 ∧ x3 + 1 ≤ 1090 := ⟨by omega, by omega⟩
  refine T_ld 84 (.ref 181) rfl (fun _ => rfl) ?_
  refine K_gf 87 (.ref 6) rfl rfl kd_181 rfl rfl rfl ?_
  refine T_ld 88 (.ref 181) rfl (fun _ => rfl) ?_
  refine K_gf 91 (.ref 22) rfl rfl kd_181 rfl rfl rfl ?_
  refine K_gf 94 (.int (i32 (x3 + 1))) rfl rfl kd_22 rfl rfl rfl ?_
  refine T_ld 97 (.int (i32 800)) rfl (fun _ => rfl) ?_
  refine T_icmp 104 100 rfl rfl rfl (r32 (by omega) (by omega)) ⟨by decide, by decide⟩ (fun (h13 : x3 + 1 ≤ 800) => ?_) (fun (h13 : ¬ (x3 + 1 ≤ 800)) => ?_)
  · skip
    refine T_ld 105 (.int (i32 0)) rfl (fun _ => rfl) ?_
    refine K_pf (l' := [(213, 0), (220, x3 + 1)]) 108 0 rfl rfl kd_6 rfl rfl rfl rfl rfl rfl rfl ?_
    refine T_ld 109 (.ref 181) rfl (fun _ => rfl) ?_
    refine K_gf 112 (.ref 184) rfl rfl kd_181 rfl rfl rfl ?_
    refine T_ld 113 (.ref 181) rfl (fun _ => rfl) ?_
    refine K_gf 116 (.int (i32 (m.1 229))) rfl rfl kd_181 rfl rfl rfl ?_
    refine T_ld 118 (.int (i32 x3)) rfl (fun _ => rfl) ?_
    have G14 : ∀ j, 0 ≤ (upI (m.2 70) (m.1 229) x3) j ∧ (upI (m.2 70) (m.1 229) x3) j ≤ 1089 := upI_rg (hT.2.1 70) ⟨by omega, by omega⟩
    refine K_iast (a' := [(18, upI (m.2 18) x3 k), (19, upI (m.2 19) x3 l), (20, upI (m.2 20) x3 r), (22, upI (m.2 22) x3 u), (23, upI (m.2 23) x3 p), (70, upI (m.2 70) (m.1 229) x3)]) 119 70 (m.2 70) rfl rfl rfl (by omega) (show (m.1 229) < (576 : Int) by omega) rfl rfl ?_
    refine T_ld 120 (.ref 181) rfl (fun _ => rfl) ?_
    refine T_ld 121 (.ref 181) rfl (fun _ => rfl) ?_
    refine K_gf 124 (.int (i32 (m.1 229))) rfl rfl kd_181 rfl rfl rfl ?_
    refine T_ld 125 (.int (i32 1)) rfl (fun _ => rfl) ?_
    refine T_iadd 126 rfl rfl ?_
    refine K_pf (l' := [(213, 0), (220, x3 + 1), (229, (m.1 229) + 1)]) 129 ((m.1 229) + 1) rfl rfl kd_181 rfl rfl rfl rfl rfl rfl rfl ?_
    have g15 : 0 ≤ (m.1 229) + 1 ∧ (m.1 229) + 1 ≤ 576 := ⟨by omega, by omega⟩
    refine T_ld 131 (.int (i32 x3)) rfl (fun _ => rfl) ?_
    refine T_ret rfl (fun _ => rfl) ?_
    exact ⟨(mO m [(213, 0), (220, x3 + 1), (229, (m.1 229) + 1)] [(18, upI (m.2 18) x3 k), (19, upI (m.2 19) x3 l), (20, upI (m.2 20) x3 r), (22, upI (m.2 22) x3 u), (23, upI (m.2 23) x3 p), (70, upI (m.2 70) (m.1 229) x3)]), x3, (KTy_mO hT rfl rfl ⟨⟨(by omega : (0 : Int) ≤ 0), (by omega : (0 : Int) ≤ 1)⟩, g12, g15, trivial⟩ ⟨G7, G8, G9, G10, G11, G14, trivial⟩), (fr_m fr_0 rfl rfl), ⟨by omega, by omega⟩, (show ((m.1 229) + 1) = (m.1 229) + 1 by omega), (show NKp (upI (m.2 18) x3 k) (upI (m.2 19) x3 l) by first | (exact NKp_up hNK (by omega)) | (exfalso; omega)), rfl⟩
  · skip
    refine T_ld 101 (.int (i32 1)) rfl (fun _ => rfl) ?_
    refine T_goto 105 rfl (fun _ => rfl) ?_
    refine K_pf (l' := [(213, 1), (220, x3 + 1)]) 108 1 rfl rfl kd_6 rfl rfl rfl rfl rfl rfl rfl ?_
    refine T_ld 109 (.ref 181) rfl (fun _ => rfl) ?_
    refine K_gf 112 (.ref 184) rfl rfl kd_181 rfl rfl rfl ?_
    refine T_ld 113 (.ref 181) rfl (fun _ => rfl) ?_
    refine K_gf 116 (.int (i32 (m.1 229))) rfl rfl kd_181 rfl rfl rfl ?_
    refine T_ld 118 (.int (i32 x3)) rfl (fun _ => rfl) ?_
    have G16 : ∀ j, 0 ≤ (upI (m.2 70) (m.1 229) x3) j ∧ (upI (m.2 70) (m.1 229) x3) j ≤ 1089 := upI_rg (hT.2.1 70) ⟨by omega, by omega⟩
    refine K_iast (a' := [(18, upI (m.2 18) x3 k), (19, upI (m.2 19) x3 l), (20, upI (m.2 20) x3 r), (22, upI (m.2 22) x3 u), (23, upI (m.2 23) x3 p), (70, upI (m.2 70) (m.1 229) x3)]) 119 70 (m.2 70) rfl rfl rfl (by omega) (show (m.1 229) < (576 : Int) by omega) rfl rfl ?_
    refine T_ld 120 (.ref 181) rfl (fun _ => rfl) ?_
    refine T_ld 121 (.ref 181) rfl (fun _ => rfl) ?_
    refine K_gf 124 (.int (i32 (m.1 229))) rfl rfl kd_181 rfl rfl rfl ?_
    refine T_ld 125 (.int (i32 1)) rfl (fun _ => rfl) ?_
    refine T_iadd 126 rfl rfl ?_
    refine K_pf (l' := [(213, 1), (220, x3 + 1), (229, (m.1 229) + 1)]) 129 ((m.1 229) + 1) rfl rfl kd_181 rfl rfl rfl rfl rfl rfl rfl ?_
    have g17 : 0 ≤ (m.1 229) + 1 ∧ (m.1 229) + 1 ≤ 576 := ⟨by omega, by omega⟩
    refine T_ld 131 (.int (i32 x3)) rfl (fun _ => rfl) ?_
    refine T_ret rfl (fun _ => rfl) ?_
    exact ⟨(mO m [(213, 1), (220, x3 + 1), (229, (m.1 229) + 1)] [(18, upI (m.2 18) x3 k), (19, upI (m.2 19) x3 l), (20, upI (m.2 20) x3 r), (22, upI (m.2 22) x3 u), (23, upI (m.2 23) x3 p), (70, upI (m.2 70) (m.1 229) x3)]), x3, (KTy_mO hT rfl rfl ⟨⟨(by omega : (0 : Int) ≤ 1), (by omega : (1 : Int) ≤ 1)⟩, g12, g17, trivial⟩ ⟨G7, G8, G9, G10, G11, G16, trivial⟩), (fr_m fr_0 rfl rfl), ⟨by omega, by omega⟩, (show ((m.1 229) + 1) = (m.1 229) + 1 by omega), (show NKp (upI (m.2 18) x3 k) (upI (m.2 19) x3 l) by first | (exact NKp_up hNK (by omega)) | (exfalso; omega)), rfl⟩
def fF_fm_open : List Nat := [205, 206, 207, 208, 209, 210, 211, 212, 228]
def fA_fm_open : List Nat := [68, 69]
def Q_fm_open (m : mR) (c : Nat → Option am_C) (N : Nat) (x : Int) : ag_Re af_T → Prop := fun R => (∃ (M : mR), KTy M ∧ fr fF_fm_open fA_fm_open m M ∧ ((M.1 228) = (m.1 228) + 1) ∧ ((m.1 228) ≤ 287) ∧ ((M.2 68) = upI (m.2 68) (m.1 228) x) ∧ R = (.inl (none), (khp M c, N), 0, 0)) ∨ (∃ (x : Nat) (M : mR), (x = 0) ∧ (KTy M) ∧ (fr fF_fm_open fA_fm_open m M) ∧ R = (.inr x, (khp M c, N), 1, 6))
set_option maxHeartbeats 3000000 in
theorem c_fm_open (w : wX) (m : mR) (c : Nat → Option am_C) (N D : Nat) (hD : 8 ≤ D) (hT : KTy m) (x : Int) (qx : R32 x) (p0 : (-1) ≤ x ∧ x ≤ 65535) : TC w D 94 [.ref 181, .int (i32 x)] (khp m c, N) (Q_fm_open m c N x) := by
  obtain ⟨D, rfl⟩ : ∃ k, D = k + 1 := ⟨D - 1, by omega⟩
  obtain ⟨qxa, qxb⟩ := id qx
  have f207 : 0 ≤ m.1 207 ∧ m.1 207 ≤ 4001 := hT.1 207
  have f228 : 0 ≤ m.1 228 ∧ m.1 228 ≤ 288 := hT.1 228
  have f213 : 0 ≤ m.1 213 ∧ m.1 213 ≤ 1 := hT.1 213
  refine Tc_of rfl ?_
  rw [show (khp m c, N) = (khp (mO m [] []) c, N) from by rw [mO_nil m]]
  show TT w D pm_94 (0, [(0, .ref 181), (1, .int (i32 x))], [], (khp (mO m [] []) c, N), 0, 0) (Q_fm_open m c N x)
  refine T_ld 1 (.ref 181) rfl (fun _ => rfl) ?_
  refine K_gf 4 (.int (i32 (m.1 228))) rfl rfl kd_181 rfl rfl rfl ?_
  refine T_ld 7 (.int (i32 288)) rfl (fun _ => rfl) ?_
  refine T_icmp 25 10 rfl rfl rfl (r32 (by omega) (by omega)) ⟨by decide, by decide⟩ (fun (h1 : (m.1 228) < 288) => ?_) (fun (h1 : ¬ ((m.1 228) < 288)) => ?_)
  · skip
    refine T_ld 26 (.ref 181) rfl (fun _ => rfl) ?_
    refine K_gf 29 (.ref 182) rfl rfl kd_181 rfl rfl rfl ?_
    refine T_ld 30 (.ref 181) rfl (fun _ => rfl) ?_
    refine K_gf 33 (.int (i32 (m.1 228))) rfl rfl kd_181 rfl rfl rfl ?_
    refine T_ld 34 (.int (i32 x)) rfl (fun _ => rfl) ?_
    have G2 : ∀ j, (-1) ≤ (upI (m.2 68) (m.1 228) x) j ∧ (upI (m.2 68) (m.1 228) x) j ≤ 65535 := upI_rg (hT.2.1 68) ⟨by omega, by omega⟩
    refine K_iast (a' := [(68, upI (m.2 68) (m.1 228) x)]) 35 68 (m.2 68) rfl rfl rfl (by omega) (show (m.1 228) < (288 : Int) by omega) rfl rfl ?_
    refine T_ld 36 (.ref 181) rfl (fun _ => rfl) ?_
    refine K_gf 39 (.ref 183) rfl rfl kd_181 rfl rfl rfl ?_
    refine T_ld 40 (.ref 181) rfl (fun _ => rfl) ?_
    refine K_gf 43 (.int (i32 (m.1 228))) rfl rfl kd_181 rfl rfl rfl ?_
    refine T_ld 44 (.ref 181) rfl (fun _ => rfl) ?_
    refine K_gf 47 (.ref 6) rfl rfl kd_181 rfl rfl rfl ?_
    refine K_gf 50 (.int (i32 (m.1 207))) rfl rfl kd_6 rfl rfl rfl ?_
    have G3 : ∀ j, 0 ≤ (upI (m.2 69) (m.1 228) (m.1 207)) j ∧ (upI (m.2 69) (m.1 228) (m.1 207)) j ≤ 4001 := upI_rg (hT.2.1 69) ⟨by omega, by omega⟩
    refine K_iast (a' := [(68, upI (m.2 68) (m.1 228) x), (69, upI (m.2 69) (m.1 228) (m.1 207))]) 51 69 (m.2 69) rfl rfl rfl (by omega) (show (m.1 228) < (288 : Int) by omega) rfl rfl ?_
    refine T_ld 52 (.ref 181) rfl (fun _ => rfl) ?_
    refine T_ld 53 (.ref 181) rfl (fun _ => rfl) ?_
    refine K_gf 56 (.int (i32 (m.1 228))) rfl rfl kd_181 rfl rfl rfl ?_
    refine T_ld 57 (.int (i32 1)) rfl (fun _ => rfl) ?_
    refine T_iadd 58 rfl rfl ?_
    refine K_pf (l' := [(228, (m.1 228) + 1)]) 61 ((m.1 228) + 1) rfl rfl kd_181 rfl rfl rfl rfl rfl rfl rfl ?_
    have g4 : 0 ≤ (m.1 228) + 1 ∧ (m.1 228) + 1 ≤ 288 := ⟨by omega, by omega⟩
    refine T_ld 62 (.ref 181) rfl (fun _ => rfl) ?_
    refine K_gf 65 (.ref 6) rfl rfl kd_181 rfl rfl rfl ?_
    refine T_callx 68 50 [.ref 6] [] rfl (fun _ => rfl) rfl rfl (c_tx_advance w (mO m [(228, (m.1 228) + 1)] [(68, upI (m.2 68) (m.1 228) x), (69, upI (m.2 69) (m.1 228) (m.1 207))]) c N D (by omega) (KTy_mO hT rfl rfl ⟨g4, trivial⟩ ⟨G2, G3, trivial⟩) ) (fun rr5 k6 => ?_)
    rcases k6 with ⟨m7, Tm7, Fm7, h8, rfl⟩ | ⟨xx11, m9, hx10, Tm9, Fm9, rfl⟩
    rotate_left
    · skip
      refine Or.inr ⟨_, _, _, _, rfl, ?_⟩
      exact Or.inr ⟨xx11, (mO m9 [] []), (hx10), Tm9, (fr_m (fr_s Fm9 (fr_m fr_0 rfl rfl) rfl rfl) rfl rfl), rfl⟩
    refine Or.inl ⟨_, _, _, _, rfl, ?_⟩
    refine K_nb (st' := []) rfl ?_
    have g12 : 0 ≤ m7.1 207 ∧ m7.1 207 ≤ 4001 := Tm7.1 207
    replace h8 : (m.1 213) = 0 := h8
    refine T_ret rfl (fun _ => rfl) ?_
    exact Or.inl ⟨(mO m7 [] []), Tm7, (fr_m (fr_s Fm7 (fr_m fr_0 rfl rfl) rfl rfl) rfl rfl), (show (m7.1 228) = (m.1 228) + 1 by rewrite [(show (m7.1 228) = ((m.1 228) + 1) from (fr1 Fm7 228 rfl))]; omega), (show (m.1 228) ≤ 287 by omega), (show (m7.2 68) = upI (m.2 68) (m.1 228) x by rewrite [(show (m7.2 68) = (upI (m.2 68) (m.1 228) x) from (fr2 Fm7 68 rfl))]; rfl), rfl⟩
  · skip
    refine T_ld 11 (.ref 181) rfl (fun _ => rfl) ?_
    refine K_gf 14 (.ref 6) rfl rfl kd_181 rfl rfl rfl ?_
    refine T_ld 15 (.int (i32 4)) rfl (fun _ => rfl) ?_
    refine T_ld 16 (.ref 181) rfl (fun _ => rfl) ?_
    refine K_gf 19 (.ref 6) rfl rfl kd_181 rfl rfl rfl ?_
    refine K_gf 22 (.int (i32 (m.1 207))) rfl rfl kd_6 rfl rfl rfl ?_
    refine T_callx 25 51 [.ref 6, .int (i32 4), .int (i32 (m.1 207))] [] rfl (fun _ => rfl) rfl rfl (c_tx_fail w (mO m [] []) c N D (by omega) hT 4 (m.1 207) ⟨by decide, by decide⟩ (r32 (by omega) (by omega)) (show 1 ≤ (4 : Int) ∧ (4 : Int) ≤ 8 by omega) (show 0 ≤ (m.1 207) ∧ (m.1 207) ≤ 4001 by omega)) (fun rr13 k14 => ?_)
    rcases k14 with ⟨m15, Tm15, Fm15, h16, rfl⟩ | ⟨xx19, m17, hx18, Tm17, Fm17, rfl⟩
    rotate_left
    · skip
      refine Or.inr ⟨_, _, _, _, rfl, ?_⟩
      exact Or.inr ⟨xx19, (mO m17 [] []), (hx18), Tm17, (fr_m (fr_s Fm17 (fr_m fr_0 rfl rfl) rfl rfl) rfl rfl), rfl⟩
    exact h16.elim
def fF_fm_deepen : List Nat := [211, 212, 230]
def fA_fm_deepen : List Nat := []
def Q_fm_deepen (m : mR) (c : Nat → Option am_C) (N : Nat) : ag_Re af_T → Prop := fun R => (∃ (M : mR), KTy M ∧ fr fF_fm_deepen fA_fm_deepen m M ∧ ((M.1 230) = (m.1 230) + 1) ∧ (DPp (M.1 230) (m.1 206)) ∧ R = (.inl (none), (khp M c, N), 0, 0)) ∨ (∃ (x : Nat) (M : mR), (x = 0) ∧ (KTy M) ∧ (fr fF_fm_deepen fA_fm_deepen m M) ∧ R = (.inr x, (khp M c, N), 1, 6))
set_option maxHeartbeats 3000000 in
theorem c_fm_deepen (w : wX) (m : mR) (c : Nat → Option am_C) (N D : Nat) (hD : 7 ≤ D) (hT : KTy m) (p0 : (m.1 230) ≤ 24) : TC w D 95 [.ref 181] (khp m c, N) (Q_fm_deepen m c N) := by
  obtain ⟨D, rfl⟩ : ∃ k, D = k + 1 := ⟨D - 1, by omega⟩
  have f230 : 0 ≤ m.1 230 ∧ m.1 230 ≤ 30 := hT.1 230
  have f206 : (-1) ≤ m.1 206 ∧ m.1 206 ≤ 65535 := hT.1 206
  have f207 : 0 ≤ m.1 207 ∧ m.1 207 ≤ 4001 := hT.1 207
  refine Tc_of rfl ?_
  rw [show (khp m c, N) = (khp (mO m [] []) c, N) from by rw [mO_nil m]]
  show TT w D pm_95 (0, [(0, .ref 181)], [], (khp (mO m [] []) c, N), 0, 0) (Q_fm_deepen m c N)
  refine T_ld 1 (.ref 181) rfl (fun _ => rfl) ?_
  refine T_ld 2 (.ref 181) rfl (fun _ => rfl) ?_
  refine K_gf 5 (.int (i32 (m.1 230))) rfl rfl kd_181 rfl rfl rfl ?_
  refine T_ld 6 (.int (i32 1)) rfl (fun _ => rfl) ?_
  refine T_iadd 7 rfl rfl ?_
  refine K_pf (l' := [(230, (m.1 230) + 1)]) 10 ((m.1 230) + 1) rfl rfl kd_181 rfl rfl rfl rfl rfl rfl rfl ?_
  have g1 : 0 ≤ (m.1 230) + 1 ∧ (m.1 230) + 1 ≤ 30 := ⟨by omega, by omega⟩
  refine T_ld 11 (.ref 181) rfl (fun _ => rfl) ?_
  refine K_gf 14 (.ref 6) rfl rfl kd_181 rfl rfl rfl ?_
  refine K_gf 17 (.int (i32 (m.1 206))) rfl rfl kd_6 rfl rfl rfl ?_
  refine T_ld 20 (.int (i32 257)) rfl (fun _ => rfl) ?_
  refine T_icmp 97 23 rfl rfl rfl (r32 (by omega) (by omega)) ⟨by decide, by decide⟩ (fun (h2 : (m.1 206) = 257) => ?_) (fun (h2 : ¬ ((m.1 206) = 257)) => ?_)
  · skip
    refine T_ld 98 (.int (i32 1)) rfl (fun _ => rfl) ?_
    refine T_goto 102 rfl (fun _ => rfl) ?_
    refine T_sto 103 [(1, .int (i32 1)), (0, .ref 181)] rfl (fun _ => rfl) ?_
    refine T_ld 104 (.ref 181) rfl (fun _ => rfl) ?_
    refine K_gf 107 (.int (i32 ((m.1 230) + 1))) rfl rfl kd_181 rfl rfl rfl ?_
    refine T_ld 109 (.int (i32 24)) rfl (fun _ => rfl) ?_
    refine T_icmp 131 112 rfl rfl rfl (r32 (by omega) (by omega)) ⟨by decide, by decide⟩ (fun (h3 : (m.1 230) + 1 ≤ 24) => ?_) (fun (h3 : ¬ ((m.1 230) + 1 ≤ 24)) => ?_)
    · skip
      refine T_ret rfl (fun _ => rfl) ?_
      exact Or.inl ⟨(mO m [(230, (m.1 230) + 1)] []), (KTy_mO hT rfl rfl ⟨g1, trivial⟩ trivial), (fr_m fr_0 rfl rfl), (show ((m.1 230) + 1) = (m.1 230) + 1 by omega), (show DPp ((m.1 230) + 1) (m.1 206) by first | (first | exact Or.inl (by omega) | exact Or.inr (by omega)) | (exfalso; omega)), rfl⟩
    · skip
      refine T_ld 113 (.int (i32 1)) rfl (fun _ => rfl) ?_
      refine T_if 131 116 rfl rfl rfl ⟨by decide, by decide⟩ (fun h4 => absurd (show (1 : Int) = 0 from h4) (by decide)) (fun _ => ?_)
      refine T_ld 117 (.ref 181) rfl (fun _ => rfl) ?_
      refine K_gf 120 (.ref 6) rfl rfl kd_181 rfl rfl rfl ?_
      refine T_ld 121 (.int (i32 4)) rfl (fun _ => rfl) ?_
      refine T_ld 122 (.ref 181) rfl (fun _ => rfl) ?_
      refine K_gf 125 (.ref 6) rfl rfl kd_181 rfl rfl rfl ?_
      refine K_gf 128 (.int (i32 (m.1 207))) rfl rfl kd_6 rfl rfl rfl ?_
      refine T_callx 131 51 [.ref 6, .int (i32 4), .int (i32 (m.1 207))] [] rfl (fun _ => rfl) rfl rfl (c_tx_fail w (mO m [(230, (m.1 230) + 1)] []) c N D (by omega) (KTy_mO hT rfl rfl ⟨g1, trivial⟩ trivial) 4 (m.1 207) ⟨by decide, by decide⟩ (r32 (by omega) (by omega)) (show 1 ≤ (4 : Int) ∧ (4 : Int) ≤ 8 by omega) (show 0 ≤ (m.1 207) ∧ (m.1 207) ≤ 4001 by omega)) (fun rr5 k6 => ?_)
      rcases k6 with ⟨m7, Tm7, Fm7, h8, rfl⟩ | ⟨xx11, m9, hx10, Tm9, Fm9, rfl⟩
      rotate_left
      · skip
        refine Or.inr ⟨_, _, _, _, rfl, ?_⟩
        exact Or.inr ⟨xx11, (mO m9 [] []), (hx10), Tm9, (fr_m (fr_s Fm9 (fr_m fr_0 rfl rfl) rfl rfl) rfl rfl), rfl⟩
      exact h8.elim
  · skip
    refine T_ld 24 (.ref 181) rfl (fun _ => rfl) ?_
    refine K_gf 27 (.ref 6) rfl rfl kd_181 rfl rfl rfl ?_
    refine K_gf 30 (.int (i32 (m.1 206))) rfl rfl kd_6 rfl rfl rfl ?_
    refine T_ld 33 (.int (i32 256)) rfl (fun _ => rfl) ?_
    refine T_icmp 97 36 rfl rfl rfl (r32 (by omega) (by omega)) ⟨by decide, by decide⟩ (fun (h12 : (m.1 206) = 256) => ?_) (fun (h12 : ¬ ((m.1 206) = 256)) => ?_)
    · skip
      refine T_ld 98 (.int (i32 1)) rfl (fun _ => rfl) ?_
      refine T_goto 102 rfl (fun _ => rfl) ?_
      refine T_sto 103 [(1, .int (i32 1)), (0, .ref 181)] rfl (fun _ => rfl) ?_
      refine T_ld 104 (.ref 181) rfl (fun _ => rfl) ?_
      refine K_gf 107 (.int (i32 ((m.1 230) + 1))) rfl rfl kd_181 rfl rfl rfl ?_
      refine T_ld 109 (.int (i32 24)) rfl (fun _ => rfl) ?_
      refine T_icmp 131 112 rfl rfl rfl (r32 (by omega) (by omega)) ⟨by decide, by decide⟩ (fun (h13 : (m.1 230) + 1 ≤ 24) => ?_) (fun (h13 : ¬ ((m.1 230) + 1 ≤ 24)) => ?_)
      · skip
        refine T_ret rfl (fun _ => rfl) ?_
        exact Or.inl ⟨(mO m [(230, (m.1 230) + 1)] []), (KTy_mO hT rfl rfl ⟨g1, trivial⟩ trivial), (fr_m fr_0 rfl rfl), (show ((m.1 230) + 1) = (m.1 230) + 1 by omega), (show DPp ((m.1 230) + 1) (m.1 206) by first | (first | exact Or.inl (by omega) | exact Or.inr (by omega)) | (exfalso; omega)), rfl⟩
      · skip
        refine T_ld 113 (.int (i32 1)) rfl (fun _ => rfl) ?_
        refine T_if 131 116 rfl rfl rfl ⟨by decide, by decide⟩ (fun h14 => absurd (show (1 : Int) = 0 from h14) (by decide)) (fun _ => ?_)
        refine T_ld 117 (.ref 181) rfl (fun _ => rfl) ?_
        refine K_gf 120 (.ref 6) rfl rfl kd_181 rfl rfl rfl ?_
        refine T_ld 121 (.int (i32 4)) rfl (fun _ => rfl) ?_
        refine T_ld 122 (.ref 181) rfl (fun _ => rfl) ?_
        refine K_gf 125 (.ref 6) rfl rfl kd_181 rfl rfl rfl ?_
        refine K_gf 128 (.int (i32 (m.1 207))) rfl rfl kd_6 rfl rfl rfl ?_
        refine T_callx 131 51 [.ref 6, .int (i32 4), .int (i32 (m.1 207))] [] rfl (fun _ => rfl) rfl rfl (c_tx_fail w (mO m [(230, (m.1 230) + 1)] []) c N D (by omega) (KTy_mO hT rfl rfl ⟨g1, trivial⟩ trivial) 4 (m.1 207) ⟨by decide, by decide⟩ (r32 (by omega) (by omega)) (show 1 ≤ (4 : Int) ∧ (4 : Int) ≤ 8 by omega) (show 0 ≤ (m.1 207) ∧ (m.1 207) ≤ 4001 by omega)) (fun rr15 k16 => ?_)
        rcases k16 with ⟨m17, Tm17, Fm17, h18, rfl⟩ | ⟨xx21, m19, hx20, Tm19, Fm19, rfl⟩
        rotate_left
        · skip
          refine Or.inr ⟨_, _, _, _, rfl, ?_⟩
          exact Or.inr ⟨xx21, (mO m19 [] []), (hx20), Tm19, (fr_m (fr_s Fm19 (fr_m fr_0 rfl rfl) rfl rfl) rfl rfl), rfl⟩
        exact h18.elim
    · skip
      refine T_ld 37 (.ref 181) rfl (fun _ => rfl) ?_
      refine K_gf 40 (.ref 6) rfl rfl kd_181 rfl rfl rfl ?_
      refine K_gf 43 (.int (i32 (m.1 206))) rfl rfl kd_6 rfl rfl rfl ?_
      refine T_ld 46 (.int (i32 329)) rfl (fun _ => rfl) ?_
      refine T_icmp 97 49 rfl rfl rfl (r32 (by omega) (by omega)) ⟨by decide, by decide⟩ (fun (h22 : (m.1 206) = 329) => ?_) (fun (h22 : ¬ ((m.1 206) = 329)) => ?_)
      · skip
        refine T_ld 98 (.int (i32 1)) rfl (fun _ => rfl) ?_
        refine T_goto 102 rfl (fun _ => rfl) ?_
        refine T_sto 103 [(1, .int (i32 1)), (0, .ref 181)] rfl (fun _ => rfl) ?_
        refine T_ld 104 (.ref 181) rfl (fun _ => rfl) ?_
        refine K_gf 107 (.int (i32 ((m.1 230) + 1))) rfl rfl kd_181 rfl rfl rfl ?_
        refine T_ld 109 (.int (i32 24)) rfl (fun _ => rfl) ?_
        refine T_icmp 131 112 rfl rfl rfl (r32 (by omega) (by omega)) ⟨by decide, by decide⟩ (fun (h23 : (m.1 230) + 1 ≤ 24) => ?_) (fun (h23 : ¬ ((m.1 230) + 1 ≤ 24)) => ?_)
        · skip
          refine T_ret rfl (fun _ => rfl) ?_
          exact Or.inl ⟨(mO m [(230, (m.1 230) + 1)] []), (KTy_mO hT rfl rfl ⟨g1, trivial⟩ trivial), (fr_m fr_0 rfl rfl), (show ((m.1 230) + 1) = (m.1 230) + 1 by omega), (show DPp ((m.1 230) + 1) (m.1 206) by first | (first | exact Or.inl (by omega) | exact Or.inr (by omega)) | (exfalso; omega)), rfl⟩
        · skip
          refine T_ld 113 (.int (i32 1)) rfl (fun _ => rfl) ?_
          refine T_if 131 116 rfl rfl rfl ⟨by decide, by decide⟩ (fun h24 => absurd (show (1 : Int) = 0 from h24) (by decide)) (fun _ => ?_)
          refine T_ld 117 (.ref 181) rfl (fun _ => rfl) ?_
          refine K_gf 120 (.ref 6) rfl rfl kd_181 rfl rfl rfl ?_
          refine T_ld 121 (.int (i32 4)) rfl (fun _ => rfl) ?_
          refine T_ld 122 (.ref 181) rfl (fun _ => rfl) ?_
          refine K_gf 125 (.ref 6) rfl rfl kd_181 rfl rfl rfl ?_
          refine K_gf 128 (.int (i32 (m.1 207))) rfl rfl kd_6 rfl rfl rfl ?_
          refine T_callx 131 51 [.ref 6, .int (i32 4), .int (i32 (m.1 207))] [] rfl (fun _ => rfl) rfl rfl (c_tx_fail w (mO m [(230, (m.1 230) + 1)] []) c N D (by omega) (KTy_mO hT rfl rfl ⟨g1, trivial⟩ trivial) 4 (m.1 207) ⟨by decide, by decide⟩ (r32 (by omega) (by omega)) (show 1 ≤ (4 : Int) ∧ (4 : Int) ≤ 8 by omega) (show 0 ≤ (m.1 207) ∧ (m.1 207) ≤ 4001 by omega)) (fun rr25 k26 => ?_)
          rcases k26 with ⟨m27, Tm27, Fm27, h28, rfl⟩ | ⟨xx31, m29, hx30, Tm29, Fm29, rfl⟩
          rotate_left
          · skip
            refine Or.inr ⟨_, _, _, _, rfl, ?_⟩
            exact Or.inr ⟨xx31, (mO m29 [] []), (hx30), Tm29, (fr_m (fr_s Fm29 (fr_m fr_0 rfl rfl) rfl rfl) rfl rfl), rfl⟩
          exact h28.elim
      · skip
        refine T_ld 50 (.ref 181) rfl (fun _ => rfl) ?_
        refine K_gf 53 (.ref 6) rfl rfl kd_181 rfl rfl rfl ?_
        refine K_gf 56 (.int (i32 (m.1 206))) rfl rfl kd_6 rfl rfl rfl ?_
        refine T_ld 58 (.int (i32 40)) rfl (fun _ => rfl) ?_
        refine T_icmp 97 61 rfl rfl rfl (r32 (by omega) (by omega)) ⟨by decide, by decide⟩ (fun (h32 : (m.1 206) = 40) => ?_) (fun (h32 : ¬ ((m.1 206) = 40)) => ?_)
        · skip
          refine T_ld 98 (.int (i32 1)) rfl (fun _ => rfl) ?_
          refine T_goto 102 rfl (fun _ => rfl) ?_
          refine T_sto 103 [(1, .int (i32 1)), (0, .ref 181)] rfl (fun _ => rfl) ?_
          refine T_ld 104 (.ref 181) rfl (fun _ => rfl) ?_
          refine K_gf 107 (.int (i32 ((m.1 230) + 1))) rfl rfl kd_181 rfl rfl rfl ?_
          refine T_ld 109 (.int (i32 24)) rfl (fun _ => rfl) ?_
          refine T_icmp 131 112 rfl rfl rfl (r32 (by omega) (by omega)) ⟨by decide, by decide⟩ (fun (h33 : (m.1 230) + 1 ≤ 24) => ?_) (fun (h33 : ¬ ((m.1 230) + 1 ≤ 24)) => ?_)
          · skip
            refine T_ret rfl (fun _ => rfl) ?_
            exact Or.inl ⟨(mO m [(230, (m.1 230) + 1)] []), (KTy_mO hT rfl rfl ⟨g1, trivial⟩ trivial), (fr_m fr_0 rfl rfl), (show ((m.1 230) + 1) = (m.1 230) + 1 by omega), (show DPp ((m.1 230) + 1) (m.1 206) by first | (first | exact Or.inl (by omega) | exact Or.inr (by omega)) | (exfalso; omega)), rfl⟩
          · skip
            refine T_ld 113 (.int (i32 1)) rfl (fun _ => rfl) ?_
            refine T_if 131 116 rfl rfl rfl ⟨by decide, by decide⟩ (fun h34 => absurd (show (1 : Int) = 0 from h34) (by decide)) (fun _ => ?_)
            refine T_ld 117 (.ref 181) rfl (fun _ => rfl) ?_
            refine K_gf 120 (.ref 6) rfl rfl kd_181 rfl rfl rfl ?_
            refine T_ld 121 (.int (i32 4)) rfl (fun _ => rfl) ?_
            refine T_ld 122 (.ref 181) rfl (fun _ => rfl) ?_
            refine K_gf 125 (.ref 6) rfl rfl kd_181 rfl rfl rfl ?_
            refine K_gf 128 (.int (i32 (m.1 207))) rfl rfl kd_6 rfl rfl rfl ?_
            refine T_callx 131 51 [.ref 6, .int (i32 4), .int (i32 (m.1 207))] [] rfl (fun _ => rfl) rfl rfl (c_tx_fail w (mO m [(230, (m.1 230) + 1)] []) c N D (by omega) (KTy_mO hT rfl rfl ⟨g1, trivial⟩ trivial) 4 (m.1 207) ⟨by decide, by decide⟩ (r32 (by omega) (by omega)) (show 1 ≤ (4 : Int) ∧ (4 : Int) ≤ 8 by omega) (show 0 ≤ (m.1 207) ∧ (m.1 207) ≤ 4001 by omega)) (fun rr35 k36 => ?_)
            rcases k36 with ⟨m37, Tm37, Fm37, h38, rfl⟩ | ⟨xx41, m39, hx40, Tm39, Fm39, rfl⟩
            rotate_left
            · skip
              refine Or.inr ⟨_, _, _, _, rfl, ?_⟩
              exact Or.inr ⟨xx41, (mO m39 [] []), (hx40), Tm39, (fr_m (fr_s Fm39 (fr_m fr_0 rfl rfl) rfl rfl) rfl rfl), rfl⟩
            exact h38.elim
        · skip
          refine T_ld 62 (.ref 181) rfl (fun _ => rfl) ?_
          refine K_gf 65 (.ref 6) rfl rfl kd_181 rfl rfl rfl ?_
          refine K_gf 68 (.int (i32 (m.1 206))) rfl rfl kd_6 rfl rfl rfl ?_
          refine T_ld 70 (.int (i32 126)) rfl (fun _ => rfl) ?_
          refine T_icmp 97 73 rfl rfl rfl (r32 (by omega) (by omega)) ⟨by decide, by decide⟩ (fun (h42 : (m.1 206) = 126) => ?_) (fun (h42 : ¬ ((m.1 206) = 126)) => ?_)
          · skip
            refine T_ld 98 (.int (i32 1)) rfl (fun _ => rfl) ?_
            refine T_goto 102 rfl (fun _ => rfl) ?_
            refine T_sto 103 [(1, .int (i32 1)), (0, .ref 181)] rfl (fun _ => rfl) ?_
            refine T_ld 104 (.ref 181) rfl (fun _ => rfl) ?_
            refine K_gf 107 (.int (i32 ((m.1 230) + 1))) rfl rfl kd_181 rfl rfl rfl ?_
            refine T_ld 109 (.int (i32 24)) rfl (fun _ => rfl) ?_
            refine T_icmp 131 112 rfl rfl rfl (r32 (by omega) (by omega)) ⟨by decide, by decide⟩ (fun (h43 : (m.1 230) + 1 ≤ 24) => ?_) (fun (h43 : ¬ ((m.1 230) + 1 ≤ 24)) => ?_)
            · skip
              refine T_ret rfl (fun _ => rfl) ?_
              exact Or.inl ⟨(mO m [(230, (m.1 230) + 1)] []), (KTy_mO hT rfl rfl ⟨g1, trivial⟩ trivial), (fr_m fr_0 rfl rfl), (show ((m.1 230) + 1) = (m.1 230) + 1 by omega), (show DPp ((m.1 230) + 1) (m.1 206) by first | (first | exact Or.inl (by omega) | exact Or.inr (by omega)) | (exfalso; omega)), rfl⟩
            · skip
              refine T_ld 113 (.int (i32 1)) rfl (fun _ => rfl) ?_
              refine T_if 131 116 rfl rfl rfl ⟨by decide, by decide⟩ (fun h44 => absurd (show (1 : Int) = 0 from h44) (by decide)) (fun _ => ?_)
              refine T_ld 117 (.ref 181) rfl (fun _ => rfl) ?_
              refine K_gf 120 (.ref 6) rfl rfl kd_181 rfl rfl rfl ?_
              refine T_ld 121 (.int (i32 4)) rfl (fun _ => rfl) ?_
              refine T_ld 122 (.ref 181) rfl (fun _ => rfl) ?_
              refine K_gf 125 (.ref 6) rfl rfl kd_181 rfl rfl rfl ?_
              refine K_gf 128 (.int (i32 (m.1 207))) rfl rfl kd_6 rfl rfl rfl ?_
              refine T_callx 131 51 [.ref 6, .int (i32 4), .int (i32 (m.1 207))] [] rfl (fun _ => rfl) rfl rfl (c_tx_fail w (mO m [(230, (m.1 230) + 1)] []) c N D (by omega) (KTy_mO hT rfl rfl ⟨g1, trivial⟩ trivial) 4 (m.1 207) ⟨by decide, by decide⟩ (r32 (by omega) (by omega)) (show 1 ≤ (4 : Int) ∧ (4 : Int) ≤ 8 by omega) (show 0 ≤ (m.1 207) ∧ (m.1 207) ≤ 4001 by omega)) (fun rr45 k46 => ?_)
              rcases k46 with ⟨m47, Tm47, Fm47, h48, rfl⟩ | ⟨xx51, m49, hx50, Tm49, Fm49, rfl⟩
              rotate_left
              · skip
                refine Or.inr ⟨_, _, _, _, rfl, ?_⟩
                exact Or.inr ⟨xx51, (mO m49 [] []), (hx50), Tm49, (fr_m (fr_s Fm49 (fr_m fr_0 rfl rfl) rfl rfl) rfl rfl), rfl⟩
              exact h48.elim
          · skip
            refine T_ld 74 (.ref 181) rfl (fun _ => rfl) ?_
            refine K_gf 77 (.ref 6) rfl rfl kd_181 rfl rfl rfl ?_
            refine K_gf 80 (.int (i32 (m.1 206))) rfl rfl kd_6 rfl rfl rfl ?_
            refine T_ld 82 (.int (i32 33)) rfl (fun _ => rfl) ?_
            refine T_icmp 97 85 rfl rfl rfl (r32 (by omega) (by omega)) ⟨by decide, by decide⟩ (fun (h52 : (m.1 206) = 33) => ?_) (fun (h52 : ¬ ((m.1 206) = 33)) => ?_)
            · skip
              refine T_ld 98 (.int (i32 1)) rfl (fun _ => rfl) ?_
              refine T_goto 102 rfl (fun _ => rfl) ?_
              refine T_sto 103 [(1, .int (i32 1)), (0, .ref 181)] rfl (fun _ => rfl) ?_
              refine T_ld 104 (.ref 181) rfl (fun _ => rfl) ?_
              refine K_gf 107 (.int (i32 ((m.1 230) + 1))) rfl rfl kd_181 rfl rfl rfl ?_
              refine T_ld 109 (.int (i32 24)) rfl (fun _ => rfl) ?_
              refine T_icmp 131 112 rfl rfl rfl (r32 (by omega) (by omega)) ⟨by decide, by decide⟩ (fun (h53 : (m.1 230) + 1 ≤ 24) => ?_) (fun (h53 : ¬ ((m.1 230) + 1 ≤ 24)) => ?_)
              · skip
                refine T_ret rfl (fun _ => rfl) ?_
                exact Or.inl ⟨(mO m [(230, (m.1 230) + 1)] []), (KTy_mO hT rfl rfl ⟨g1, trivial⟩ trivial), (fr_m fr_0 rfl rfl), (show ((m.1 230) + 1) = (m.1 230) + 1 by omega), (show DPp ((m.1 230) + 1) (m.1 206) by first | (first | exact Or.inl (by omega) | exact Or.inr (by omega)) | (exfalso; omega)), rfl⟩
              · skip
                refine T_ld 113 (.int (i32 1)) rfl (fun _ => rfl) ?_
                refine T_if 131 116 rfl rfl rfl ⟨by decide, by decide⟩ (fun h54 => absurd (show (1 : Int) = 0 from h54) (by decide)) (fun _ => ?_)
                refine T_ld 117 (.ref 181) rfl (fun _ => rfl) ?_
                refine K_gf 120 (.ref 6) rfl rfl kd_181 rfl rfl rfl ?_
                refine T_ld 121 (.int (i32 4)) rfl (fun _ => rfl) ?_
                refine T_ld 122 (.ref 181) rfl (fun _ => rfl) ?_
                refine K_gf 125 (.ref 6) rfl rfl kd_181 rfl rfl rfl ?_
                refine K_gf 128 (.int (i32 (m.1 207))) rfl rfl kd_6 rfl rfl rfl ?_
                refine T_callx 131 51 [.ref 6, .int (i32 4), .int (i32 (m.1 207))] [] rfl (fun _ => rfl) rfl rfl (c_tx_fail w (mO m [(230, (m.1 230) + 1)] []) c N D (by omega) (KTy_mO hT rfl rfl ⟨g1, trivial⟩ trivial) 4 (m.1 207) ⟨by decide, by decide⟩ (r32 (by omega) (by omega)) (show 1 ≤ (4 : Int) ∧ (4 : Int) ≤ 8 by omega) (show 0 ≤ (m.1 207) ∧ (m.1 207) ≤ 4001 by omega)) (fun rr55 k56 => ?_)
                rcases k56 with ⟨m57, Tm57, Fm57, h58, rfl⟩ | ⟨xx61, m59, hx60, Tm59, Fm59, rfl⟩
                rotate_left
                · skip
                  refine Or.inr ⟨_, _, _, _, rfl, ?_⟩
                  exact Or.inr ⟨xx61, (mO m59 [] []), (hx60), Tm59, (fr_m (fr_s Fm59 (fr_m fr_0 rfl rfl) rfl rfl) rfl rfl), rfl⟩
                exact h58.elim
            · skip
              refine T_ld 86 (.ref 181) rfl (fun _ => rfl) ?_
              refine K_gf 89 (.ref 6) rfl rfl kd_181 rfl rfl rfl ?_
              refine K_gf 92 (.int (i32 (m.1 206))) rfl rfl kd_6 rfl rfl rfl ?_
              refine T_ld 94 (.int (i32 45)) rfl (fun _ => rfl) ?_
              refine T_icmp 101 97 rfl rfl rfl (r32 (by omega) (by omega)) ⟨by decide, by decide⟩ (fun (h62 : (m.1 206) ≠ 45) => ?_) (fun (h62 : ¬ ((m.1 206) ≠ 45)) => ?_)
              · skip
                refine T_ld 102 (.int (i32 0)) rfl (fun _ => rfl) ?_
                refine T_sto 103 [(1, .int (i32 0)), (0, .ref 181)] rfl (fun _ => rfl) ?_
                refine T_ld 104 (.ref 181) rfl (fun _ => rfl) ?_
                refine K_gf 107 (.int (i32 ((m.1 230) + 1))) rfl rfl kd_181 rfl rfl rfl ?_
                refine T_ld 109 (.int (i32 24)) rfl (fun _ => rfl) ?_
                refine T_icmp 131 112 rfl rfl rfl (r32 (by omega) (by omega)) ⟨by decide, by decide⟩ (fun (h63 : (m.1 230) + 1 ≤ 24) => ?_) (fun (h63 : ¬ ((m.1 230) + 1 ≤ 24)) => ?_)
                · skip
                  refine T_ret rfl (fun _ => rfl) ?_
                  exact Or.inl ⟨(mO m [(230, (m.1 230) + 1)] []), (KTy_mO hT rfl rfl ⟨g1, trivial⟩ trivial), (fr_m fr_0 rfl rfl), (show ((m.1 230) + 1) = (m.1 230) + 1 by omega), (show DPp ((m.1 230) + 1) (m.1 206) by first | (first | exact Or.inl (by omega) | exact Or.inr (by omega)) | (exfalso; omega)), rfl⟩
                · skip
                  refine T_ld 113 (.int (i32 0)) rfl (fun _ => rfl) ?_
                  refine T_if 131 116 rfl rfl rfl ⟨by decide, by decide⟩ (fun _ => ?_) (fun h64 => absurd (show (0 : Int) = 0 by decide) h64)
                  refine T_ret rfl (fun _ => rfl) ?_
                  exact Or.inl ⟨(mO m [(230, (m.1 230) + 1)] []), (KTy_mO hT rfl rfl ⟨g1, trivial⟩ trivial), (fr_m fr_0 rfl rfl), (show ((m.1 230) + 1) = (m.1 230) + 1 by omega), (show DPp ((m.1 230) + 1) (m.1 206) by first | (first | exact Or.inl (by omega) | exact Or.inr (by omega)) | (exfalso; omega)), rfl⟩
              · skip
                refine T_ld 98 (.int (i32 1)) rfl (fun _ => rfl) ?_
                refine T_goto 102 rfl (fun _ => rfl) ?_
                refine T_sto 103 [(1, .int (i32 1)), (0, .ref 181)] rfl (fun _ => rfl) ?_
                refine T_ld 104 (.ref 181) rfl (fun _ => rfl) ?_
                refine K_gf 107 (.int (i32 ((m.1 230) + 1))) rfl rfl kd_181 rfl rfl rfl ?_
                refine T_ld 109 (.int (i32 24)) rfl (fun _ => rfl) ?_
                refine T_icmp 131 112 rfl rfl rfl (r32 (by omega) (by omega)) ⟨by decide, by decide⟩ (fun (h65 : (m.1 230) + 1 ≤ 24) => ?_) (fun (h65 : ¬ ((m.1 230) + 1 ≤ 24)) => ?_)
                · skip
                  refine T_ret rfl (fun _ => rfl) ?_
                  exact Or.inl ⟨(mO m [(230, (m.1 230) + 1)] []), (KTy_mO hT rfl rfl ⟨g1, trivial⟩ trivial), (fr_m fr_0 rfl rfl), (show ((m.1 230) + 1) = (m.1 230) + 1 by omega), (show DPp ((m.1 230) + 1) (m.1 206) by first | (first | exact Or.inl (by omega) | exact Or.inr (by omega)) | (exfalso; omega)), rfl⟩
                · skip
                  refine T_ld 113 (.int (i32 1)) rfl (fun _ => rfl) ?_
                  refine T_if 131 116 rfl rfl rfl ⟨by decide, by decide⟩ (fun h66 => absurd (show (1 : Int) = 0 from h66) (by decide)) (fun _ => ?_)
                  refine T_ld 117 (.ref 181) rfl (fun _ => rfl) ?_
                  refine K_gf 120 (.ref 6) rfl rfl kd_181 rfl rfl rfl ?_
                  refine T_ld 121 (.int (i32 4)) rfl (fun _ => rfl) ?_
                  refine T_ld 122 (.ref 181) rfl (fun _ => rfl) ?_
                  refine K_gf 125 (.ref 6) rfl rfl kd_181 rfl rfl rfl ?_
                  refine K_gf 128 (.int (i32 (m.1 207))) rfl rfl kd_6 rfl rfl rfl ?_
                  refine T_callx 131 51 [.ref 6, .int (i32 4), .int (i32 (m.1 207))] [] rfl (fun _ => rfl) rfl rfl (c_tx_fail w (mO m [(230, (m.1 230) + 1)] []) c N D (by omega) (KTy_mO hT rfl rfl ⟨g1, trivial⟩ trivial) 4 (m.1 207) ⟨by decide, by decide⟩ (r32 (by omega) (by omega)) (show 1 ≤ (4 : Int) ∧ (4 : Int) ≤ 8 by omega) (show 0 ≤ (m.1 207) ∧ (m.1 207) ≤ 4001 by omega)) (fun rr67 k68 => ?_)
                  rcases k68 with ⟨m69, Tm69, Fm69, h70, rfl⟩ | ⟨xx73, m71, hx72, Tm71, Fm71, rfl⟩
                  rotate_left
                  · skip
                    refine Or.inr ⟨_, _, _, _, rfl, ?_⟩
                    exact Or.inr ⟨xx73, (mO m71 [] []), (hx72), Tm71, (fr_m (fr_s Fm71 (fr_m fr_0 rfl rfl) rfl rfl) rfl rfl), rfl⟩
                  exact h70.elim
def fF_fm_prefixes : List Nat := [205, 206, 207, 208, 209, 210, 211, 212, 228, 230]
def fA_fm_prefixes : List Nat := [68, 69]
def Q_fm_prefixes (m : mR) (c : Nat → Option am_C) (N : Nat) : ag_Re af_T → Prop := fun R => (∃ (M : mR), KTy M ∧ fr fF_fm_prefixes fA_fm_prefixes m M ∧ (FAp (m.1 229) (M.2 68) (M.1 228) (M.1 230) (M.1 206)) ∧ R = (.inl (none), (khp M c, N), 0, 0)) ∨ (∃ (x : Nat) (M : mR), (x = 0) ∧ (KTy M) ∧ (fr fF_fm_prefixes fA_fm_prefixes m M) ∧ R = (.inr x, (khp M c, N), 1, 6))
set_option maxHeartbeats 3000000 in
theorem c_fm_prefixes (w : wX) (m : mR) (c : Nat → Option am_C) (N D : Nat) (hD : 9 ≤ D) (hT : KTy m) (hFA : FAp (m.1 229) (m.2 68) (m.1 228) (m.1 230) (m.1 206)) : TC w D 93 [.ref 181] (khp m c, N) (Q_fm_prefixes m c N) := by
  obtain ⟨D, rfl⟩ : ∃ k, D = k + 1 := ⟨D - 1, by omega⟩
  have f206 : (-1) ≤ m.1 206 ∧ m.1 206 ≤ 65535 := hT.1 206
  have f207 : 0 ≤ m.1 207 ∧ m.1 207 ≤ 4001 := hT.1 207
  have f228 : 0 ≤ m.1 228 ∧ m.1 228 ≤ 288 := hT.1 228
  have f230 : 0 ≤ m.1 230 ∧ m.1 230 ≤ 30 := hT.1 230
  have f229 : 0 ≤ m.1 229 ∧ m.1 229 ≤ 576 := hT.1 229
  refine Tc_of rfl ?_
  rw [show (khp m c, N) = (khp (mO m [] []) c, N) from by rw [mO_nil m]]
  show TT w D pm_93 (0, [(0, .ref 181)], [], (khp (mO m [] []) c, N), 0, 0) (Q_fm_prefixes m c N)
  refine T_ld 1 (.int (i32 1)) rfl (fun _ => rfl) ?_
  refine T_sto 2 [(1, .int (i32 1)), (0, .ref 181)] rfl (fun _ => rfl) ?_
  refine T_ld 3 (.int (i32 0)) rfl (fun _ => rfl) ?_
  refine T_sto 4 [(2, .int (i32 0)), (1, .int (i32 1)), (0, .ref 181)] rfl (fun _ => rfl) ?_
  have L4_4 : ∀ (n14 : Nat) (v1 : Int) (v2 : Int) (m3 : mR), (R32 v1) → (R32 v2) → KTy m3 → fr [205, 206, 207, 208, 209, 210, 211, 212, 228, 230] [68, 69] (mO m [] []) m3 → (0 ≤ v1) → (v1 ≤ 1) → (0 ≤ v2) → (FAp (m.1 229) (m3.2 68) (m3.1 228) (m3.1 230) (m3.1 206)) → (0 ≤ v2 ∧ v2 ≤ 4001) → 4010 - v2 < (n14 : Int) → TT w D pm_93 (4, [(0, .ref 181), (1, .int (i32 v1)), (2, .int (i32 v2))], [], (khp (mO m3 [] []) c, N), 0, 0) (Q_fm_prefixes m c N) := by
    intro n14
    induction n14 with
    | zero =>
      intro v1 v2 m3 q10 q11 Tm3 Fm3 ic5 ic6 ic7 ic8 ic9 hmu
      obtain ⟨q10a, q10b⟩ := id q10
      obtain ⟨q11a, q11b⟩ := id q11
      have q12_206 : (-1) ≤ m3.1 206 ∧ m3.1 206 ≤ 65535 := Tm3.1 206
      have q12_207 : 0 ≤ m3.1 207 ∧ m3.1 207 ≤ 4001 := Tm3.1 207
      have q12_228 : 0 ≤ m3.1 228 ∧ m3.1 228 ≤ 288 := Tm3.1 228
      have q12_230 : 0 ≤ m3.1 230 ∧ m3.1 230 ≤ 30 := Tm3.1 230
      have hFA := ic8
      exfalso
      omega
    | succ n14 ih =>
      intro v1 v2 m3 q10 q11 Tm3 Fm3 ic5 ic6 ic7 ic8 ic9 hmu
      obtain ⟨q10a, q10b⟩ := id q10
      obtain ⟨q11a, q11b⟩ := id q11
      have q12_206 : (-1) ≤ m3.1 206 ∧ m3.1 206 ≤ 65535 := Tm3.1 206
      have q12_207 : 0 ≤ m3.1 207 ∧ m3.1 207 ≤ 4001 := Tm3.1 207
      have q12_228 : 0 ≤ m3.1 228 ∧ m3.1 228 ≤ 288 := Tm3.1 228
      have q12_230 : 0 ≤ m3.1 230 ∧ m3.1 230 ≤ 30 := Tm3.1 230
      have hFA := ic8
      have ih15 := ih
      refine T_ld 5 (.int (i32 v2)) rfl (fun _ => rfl) ?_
      refine T_ld 8 (.int (i32 4000)) rfl (fun _ => rfl) ?_
      refine T_icmp 150 11 rfl rfl rfl (r32 (by omega) (by omega)) ⟨by decide, by decide⟩ (fun (h16 : (4000 : Int) < v2) => ?_) (fun (h16 : ¬ ((4000 : Int) < v2)) => ?_)
      · skip
        refine T_ret rfl (fun _ => rfl) ?_
        exact Or.inl ⟨(mO m3 [] []), Tm3, (fr_m (fr_s Fm3 (fr_m fr_0 rfl rfl) rfl rfl) rfl rfl), (show FAp (m.1 229) (m3.2 68) (m3.1 228) (m3.1 230) (m3.1 206) by first | (exact hFA) | (exfalso; omega)), rfl⟩
      · skip
        refine T_ld 12 (.int (i32 v1)) rfl (fun _ => rfl) ?_
        refine T_if 150 15 rfl rfl rfl (r32 (by omega) (by omega)) (fun (h17 : v1 = 0) => ?_) (fun (h17 : ¬ (v1 = 0)) => ?_)
        · skip
          refine T_ret rfl (fun _ => rfl) ?_
          exact Or.inl ⟨(mO m3 [] []), Tm3, (fr_m (fr_s Fm3 (fr_m fr_0 rfl rfl) rfl rfl) rfl rfl), (show FAp (m.1 229) (m3.2 68) (m3.1 228) (m3.1 230) (m3.1 206) by first | (exact hFA) | (exfalso; omega)), rfl⟩
        · skip
          refine T_ld 16 (.ref 181) rfl (fun _ => rfl) ?_
          refine K_gf 19 (.ref 6) rfl rfl kd_181 rfl rfl rfl ?_
          refine K_gf 22 (.int (i32 (m3.1 206))) rfl rfl kd_6 rfl rfl rfl ?_
          refine T_ld 24 (.int (i32 40)) rfl (fun _ => rfl) ?_
          refine T_icmp 40 27 rfl rfl rfl (r32 (by omega) (by omega)) ⟨by decide, by decide⟩ (fun (h18 : (m3.1 206) ≠ 40) => ?_) (fun (h18 : ¬ ((m3.1 206) ≠ 40)) => ?_)
          · skip
            refine T_ld 41 (.ref 181) rfl (fun _ => rfl) ?_
            refine K_gf 44 (.ref 6) rfl rfl kd_181 rfl rfl rfl ?_
            refine K_gf 47 (.int (i32 (m3.1 206))) rfl rfl kd_6 rfl rfl rfl ?_
            refine T_ld 49 (.int (i32 126)) rfl (fun _ => rfl) ?_
            refine T_icmp 76 52 rfl rfl rfl (r32 (by omega) (by omega)) ⟨by decide, by decide⟩ (fun (h19 : (m3.1 206) = 126) => ?_) (fun (h19 : ¬ ((m3.1 206) = 126)) => ?_)
            · skip
              have hbA := FA_b hFA (by omega) (by omega)
              refine T_ld 77 (.ref 181) rfl (fun _ => rfl) ?_
              refine K_gf 80 (.int (i32 (m3.1 230))) rfl rfl kd_181 rfl rfl rfl ?_
              refine T_ld 82 (.int (i32 24)) rfl (fun _ => rfl) ?_
              refine T_icmp 100 85 rfl rfl rfl (r32 (by omega) (by omega)) ⟨by decide, by decide⟩ (fun (h20 : (m3.1 230) < 24) => ?_) (fun (h20 : ¬ ((m3.1 230) < 24)) => ?_)
              · skip
                refine T_ld 101 (.ref 181) rfl (fun _ => rfl) ?_
                refine T_ld 102 (.ref 181) rfl (fun _ => rfl) ?_
                refine K_gf 105 (.int (i32 (m3.1 230))) rfl rfl kd_181 rfl rfl rfl ?_
                refine T_ld 106 (.int (i32 1)) rfl (fun _ => rfl) ?_
                refine T_iadd 107 rfl rfl ?_
                refine K_pf (l' := [(230, (m3.1 230) + 1)]) 110 ((m3.1 230) + 1) rfl rfl kd_181 rfl rfl rfl rfl rfl rfl rfl ?_
                have g21 : 0 ≤ (m3.1 230) + 1 ∧ (m3.1 230) + 1 ≤ 30 := ⟨by omega, by omega⟩
                refine T_ld 111 (.ref 181) rfl (fun _ => rfl) ?_
                refine T_ld 112 (.ref 181) rfl (fun _ => rfl) ?_
                refine K_gf 115 (.ref 6) rfl rfl kd_181 rfl rfl rfl ?_
                refine K_gf 118 (.int (i32 (m3.1 206))) rfl rfl kd_6 rfl rfl rfl ?_
                refine T_ld 120 (.int (i32 45)) rfl (fun _ => rfl) ?_
                refine T_icmp 129 123 rfl rfl rfl (r32 (by omega) (by omega)) ⟨by decide, by decide⟩ (fun (h22 : (m3.1 206) ≠ 45) => ?_) (fun (h22 : ¬ ((m3.1 206) ≠ 45)) => by exfalso; omega)
                refine T_ld 130 (.ref 181) rfl (fun _ => rfl) ?_
                refine K_gf 133 (.ref 6) rfl rfl kd_181 rfl rfl rfl ?_
                refine K_gf 136 (.int (i32 (m3.1 206))) rfl rfl kd_6 rfl rfl rfl ?_
                refine T_callx 139 94 [.ref 181, .int (i32 (m3.1 206))] [] rfl (fun _ => rfl) rfl rfl (c_fm_open w (mO m3 [(230, (m3.1 230) + 1)] []) c N D (by omega) (KTy_mO Tm3 rfl rfl ⟨g21, trivial⟩ trivial) (m3.1 206) (r32 (by omega) (by omega)) (show (-1) ≤ (m3.1 206) ∧ (m3.1 206) ≤ 65535 by omega)) (fun rr23 k24 => ?_)
                rcases k24 with ⟨m25, Tm25, Fm25, h26, h27, h28, rfl⟩ | ⟨xx31, m29, hx30, Tm29, Fm29, rfl⟩
                rotate_left
                · skip
                  refine Or.inr ⟨_, _, _, _, rfl, ?_⟩
                  exact Or.inr ⟨xx31, (mO m29 [] []), (hx30), Tm29, (fr_m (fr_s Fm29 (fr_m (fr_s Fm3 (fr_m fr_0 rfl rfl) rfl rfl) rfl rfl) rfl rfl) rfl rfl), rfl⟩
                refine Or.inl ⟨_, _, _, _, rfl, ?_⟩
                refine K_nb (st' := []) rfl ?_
                have g32 : (-1) ≤ m25.1 206 ∧ m25.1 206 ≤ 65535 := Tm25.1 206
                have g33 : 0 ≤ m25.1 207 ∧ m25.1 207 ≤ 4001 := Tm25.1 207
                have g34 : 0 ≤ m25.1 228 ∧ m25.1 228 ≤ 288 := Tm25.1 228
                replace h26 : (m25.1 228) = (m3.1 228) + 1 := h26
                replace h27 : (m3.1 228) ≤ 287 := h27
                replace h28 : (m25.2 68) = upI (m3.2 68) (m3.1 228) (m3.1 206) := h28
                have hMu := h28
                have hFA := FA_par (w' := (m25.1 206)) hFA (by omega) hMu (by omega) (by omega) rfl (Or.inl (by omega))
                refine T_goto 144 rfl (fun _ => rfl) ?_
                refine T_iinc 147 [(2, .int (i32 (v2 + 1))), (0, .ref 181), (1, .int (i32 v1))] rfl rfl (by decide) rfl rfl ?_
                refine T_goto 4 rfl (fun _ => rfl) ?_
                refine Tm_lv (a := [(0, .ref 181), (1, .int (i32 v1)), (2, .int (i32 (v2 + 1)))]) rfl rfl ⟨rfl, rfl, rfl, trivial⟩ ?_
                exact ih15 v1 (v2 + 1) (mO m25 [] []) (r32 (by omega) (by omega)) (r32 (by omega) (by omega)) Tm25 (fr_m (fr_s Fm25 (fr_m (fr_s Fm3 (fr_m fr_0 rfl rfl) rfl rfl) rfl rfl) rfl rfl) rfl rfl) (show 0 ≤ v1 by omega) (show v1 ≤ 1 by omega) (show 0 ≤ (v2 + 1) by omega) (show FAp (m.1 229) (m25.2 68) (m25.1 228) (m25.1 230) (m25.1 206) by rewrite [(show (m25.1 230) = ((m3.1 230) + 1) from (fr1 Fm25 230 rfl))]; exact hFA) (show 0 ≤ (v2 + 1) ∧ (v2 + 1) ≤ 4001 by omega) (show 4010 - (v2 + 1) < (n14 : Int) by omega)
              · skip
                refine T_ld 86 (.ref 181) rfl (fun _ => rfl) ?_
                refine K_gf 89 (.ref 6) rfl rfl kd_181 rfl rfl rfl ?_
                refine T_ld 90 (.int (i32 4)) rfl (fun _ => rfl) ?_
                refine T_ld 91 (.ref 181) rfl (fun _ => rfl) ?_
                refine K_gf 94 (.ref 6) rfl rfl kd_181 rfl rfl rfl ?_
                refine K_gf 97 (.int (i32 (m3.1 207))) rfl rfl kd_6 rfl rfl rfl ?_
                refine T_callx 100 51 [.ref 6, .int (i32 4), .int (i32 (m3.1 207))] [] rfl (fun _ => rfl) rfl rfl (c_tx_fail w (mO m3 [] []) c N D (by omega) Tm3 4 (m3.1 207) ⟨by decide, by decide⟩ (r32 (by omega) (by omega)) (show 1 ≤ (4 : Int) ∧ (4 : Int) ≤ 8 by omega) (show 0 ≤ (m3.1 207) ∧ (m3.1 207) ≤ 4001 by omega)) (fun rr35 k36 => ?_)
                rcases k36 with ⟨m37, Tm37, Fm37, h38, rfl⟩ | ⟨xx41, m39, hx40, Tm39, Fm39, rfl⟩
                rotate_left
                · skip
                  refine Or.inr ⟨_, _, _, _, rfl, ?_⟩
                  exact Or.inr ⟨xx41, (mO m39 [] []), (hx40), Tm39, (fr_m (fr_s Fm39 (fr_m (fr_s Fm3 (fr_m fr_0 rfl rfl) rfl rfl) rfl rfl) rfl rfl) rfl rfl), rfl⟩
                exact h38.elim
            · skip
              refine T_ld 53 (.ref 181) rfl (fun _ => rfl) ?_
              refine K_gf 56 (.ref 6) rfl rfl kd_181 rfl rfl rfl ?_
              refine K_gf 59 (.int (i32 (m3.1 206))) rfl rfl kd_6 rfl rfl rfl ?_
              refine T_ld 61 (.int (i32 33)) rfl (fun _ => rfl) ?_
              refine T_icmp 76 64 rfl rfl rfl (r32 (by omega) (by omega)) ⟨by decide, by decide⟩ (fun (h42 : (m3.1 206) = 33) => ?_) (fun (h42 : ¬ ((m3.1 206) = 33)) => ?_)
              · skip
                have hbA := FA_b hFA (by omega) (by omega)
                refine T_ld 77 (.ref 181) rfl (fun _ => rfl) ?_
                refine K_gf 80 (.int (i32 (m3.1 230))) rfl rfl kd_181 rfl rfl rfl ?_
                refine T_ld 82 (.int (i32 24)) rfl (fun _ => rfl) ?_
                refine T_icmp 100 85 rfl rfl rfl (r32 (by omega) (by omega)) ⟨by decide, by decide⟩ (fun (h43 : (m3.1 230) < 24) => ?_) (fun (h43 : ¬ ((m3.1 230) < 24)) => ?_)
                · skip
                  refine T_ld 101 (.ref 181) rfl (fun _ => rfl) ?_
                  refine T_ld 102 (.ref 181) rfl (fun _ => rfl) ?_
                  refine K_gf 105 (.int (i32 (m3.1 230))) rfl rfl kd_181 rfl rfl rfl ?_
                  refine T_ld 106 (.int (i32 1)) rfl (fun _ => rfl) ?_
                  refine T_iadd 107 rfl rfl ?_
                  refine K_pf (l' := [(230, (m3.1 230) + 1)]) 110 ((m3.1 230) + 1) rfl rfl kd_181 rfl rfl rfl rfl rfl rfl rfl ?_
                  have g44 : 0 ≤ (m3.1 230) + 1 ∧ (m3.1 230) + 1 ≤ 30 := ⟨by omega, by omega⟩
                  refine T_ld 111 (.ref 181) rfl (fun _ => rfl) ?_
                  refine T_ld 112 (.ref 181) rfl (fun _ => rfl) ?_
                  refine K_gf 115 (.ref 6) rfl rfl kd_181 rfl rfl rfl ?_
                  refine K_gf 118 (.int (i32 (m3.1 206))) rfl rfl kd_6 rfl rfl rfl ?_
                  refine T_ld 120 (.int (i32 45)) rfl (fun _ => rfl) ?_
                  refine T_icmp 129 123 rfl rfl rfl (r32 (by omega) (by omega)) ⟨by decide, by decide⟩ (fun (h45 : (m3.1 206) ≠ 45) => ?_) (fun (h45 : ¬ ((m3.1 206) ≠ 45)) => by exfalso; omega)
                  refine T_ld 130 (.ref 181) rfl (fun _ => rfl) ?_
                  refine K_gf 133 (.ref 6) rfl rfl kd_181 rfl rfl rfl ?_
                  refine K_gf 136 (.int (i32 (m3.1 206))) rfl rfl kd_6 rfl rfl rfl ?_
                  refine T_callx 139 94 [.ref 181, .int (i32 (m3.1 206))] [] rfl (fun _ => rfl) rfl rfl (c_fm_open w (mO m3 [(230, (m3.1 230) + 1)] []) c N D (by omega) (KTy_mO Tm3 rfl rfl ⟨g44, trivial⟩ trivial) (m3.1 206) (r32 (by omega) (by omega)) (show (-1) ≤ (m3.1 206) ∧ (m3.1 206) ≤ 65535 by omega)) (fun rr46 k47 => ?_)
                  rcases k47 with ⟨m48, Tm48, Fm48, h49, h50, h51, rfl⟩ | ⟨xx54, m52, hx53, Tm52, Fm52, rfl⟩
                  rotate_left
                  · skip
                    refine Or.inr ⟨_, _, _, _, rfl, ?_⟩
                    exact Or.inr ⟨xx54, (mO m52 [] []), (hx53), Tm52, (fr_m (fr_s Fm52 (fr_m (fr_s Fm3 (fr_m fr_0 rfl rfl) rfl rfl) rfl rfl) rfl rfl) rfl rfl), rfl⟩
                  refine Or.inl ⟨_, _, _, _, rfl, ?_⟩
                  refine K_nb (st' := []) rfl ?_
                  have g55 : (-1) ≤ m48.1 206 ∧ m48.1 206 ≤ 65535 := Tm48.1 206
                  have g56 : 0 ≤ m48.1 207 ∧ m48.1 207 ≤ 4001 := Tm48.1 207
                  have g57 : 0 ≤ m48.1 228 ∧ m48.1 228 ≤ 288 := Tm48.1 228
                  replace h49 : (m48.1 228) = (m3.1 228) + 1 := h49
                  replace h50 : (m3.1 228) ≤ 287 := h50
                  replace h51 : (m48.2 68) = upI (m3.2 68) (m3.1 228) (m3.1 206) := h51
                  have hMu := h51
                  have hFA := FA_par (w' := (m48.1 206)) hFA (by omega) hMu (by omega) (by omega) rfl (Or.inl (by omega))
                  refine T_goto 144 rfl (fun _ => rfl) ?_
                  refine T_iinc 147 [(2, .int (i32 (v2 + 1))), (0, .ref 181), (1, .int (i32 v1))] rfl rfl (by decide) rfl rfl ?_
                  refine T_goto 4 rfl (fun _ => rfl) ?_
                  refine Tm_lv (a := [(0, .ref 181), (1, .int (i32 v1)), (2, .int (i32 (v2 + 1)))]) rfl rfl ⟨rfl, rfl, rfl, trivial⟩ ?_
                  exact ih15 v1 (v2 + 1) (mO m48 [] []) (r32 (by omega) (by omega)) (r32 (by omega) (by omega)) Tm48 (fr_m (fr_s Fm48 (fr_m (fr_s Fm3 (fr_m fr_0 rfl rfl) rfl rfl) rfl rfl) rfl rfl) rfl rfl) (show 0 ≤ v1 by omega) (show v1 ≤ 1 by omega) (show 0 ≤ (v2 + 1) by omega) (show FAp (m.1 229) (m48.2 68) (m48.1 228) (m48.1 230) (m48.1 206) by rewrite [(show (m48.1 230) = ((m3.1 230) + 1) from (fr1 Fm48 230 rfl))]; exact hFA) (show 0 ≤ (v2 + 1) ∧ (v2 + 1) ≤ 4001 by omega) (show 4010 - (v2 + 1) < (n14 : Int) by omega)
                · skip
                  refine T_ld 86 (.ref 181) rfl (fun _ => rfl) ?_
                  refine K_gf 89 (.ref 6) rfl rfl kd_181 rfl rfl rfl ?_
                  refine T_ld 90 (.int (i32 4)) rfl (fun _ => rfl) ?_
                  refine T_ld 91 (.ref 181) rfl (fun _ => rfl) ?_
                  refine K_gf 94 (.ref 6) rfl rfl kd_181 rfl rfl rfl ?_
                  refine K_gf 97 (.int (i32 (m3.1 207))) rfl rfl kd_6 rfl rfl rfl ?_
                  refine T_callx 100 51 [.ref 6, .int (i32 4), .int (i32 (m3.1 207))] [] rfl (fun _ => rfl) rfl rfl (c_tx_fail w (mO m3 [] []) c N D (by omega) Tm3 4 (m3.1 207) ⟨by decide, by decide⟩ (r32 (by omega) (by omega)) (show 1 ≤ (4 : Int) ∧ (4 : Int) ≤ 8 by omega) (show 0 ≤ (m3.1 207) ∧ (m3.1 207) ≤ 4001 by omega)) (fun rr58 k59 => ?_)
                  rcases k59 with ⟨m60, Tm60, Fm60, h61, rfl⟩ | ⟨xx64, m62, hx63, Tm62, Fm62, rfl⟩
                  rotate_left
                  · skip
                    refine Or.inr ⟨_, _, _, _, rfl, ?_⟩
                    exact Or.inr ⟨xx64, (mO m62 [] []), (hx63), Tm62, (fr_m (fr_s Fm62 (fr_m (fr_s Fm3 (fr_m fr_0 rfl rfl) rfl rfl) rfl rfl) rfl rfl) rfl rfl), rfl⟩
                  exact h61.elim
              · skip
                refine T_ld 65 (.ref 181) rfl (fun _ => rfl) ?_
                refine K_gf 68 (.ref 6) rfl rfl kd_181 rfl rfl rfl ?_
                refine K_gf 71 (.int (i32 (m3.1 206))) rfl rfl kd_6 rfl rfl rfl ?_
                refine T_ld 73 (.int (i32 45)) rfl (fun _ => rfl) ?_
                refine T_icmp 142 76 rfl rfl rfl (r32 (by omega) (by omega)) ⟨by decide, by decide⟩ (fun (h65 : (m3.1 206) ≠ 45) => ?_) (fun (h65 : ¬ ((m3.1 206) ≠ 45)) => ?_)
                · skip
                  refine T_ld 143 (.int (i32 0)) rfl (fun _ => rfl) ?_
                  refine T_sto 144 [(1, .int (i32 0)), (0, .ref 181), (2, .int (i32 v2))] rfl (fun _ => rfl) ?_
                  refine T_iinc 147 [(2, .int (i32 (v2 + 1))), (1, .int (i32 0)), (0, .ref 181)] rfl rfl (by decide) rfl rfl ?_
                  refine T_goto 4 rfl (fun _ => rfl) ?_
                  refine Tm_lv (a := [(0, .ref 181), (1, .int (i32 0)), (2, .int (i32 (v2 + 1)))]) rfl rfl ⟨rfl, rfl, rfl, trivial⟩ ?_
                  exact ih15 0 (v2 + 1) (mO m3 [] []) ⟨by decide, by decide⟩ (r32 (by omega) (by omega)) Tm3 (fr_m (fr_s Fm3 (fr_m fr_0 rfl rfl) rfl rfl) rfl rfl) (show 0 ≤ (0 : Int) by omega) (show (0 : Int) ≤ 1 by omega) (show 0 ≤ (v2 + 1) by omega) (show FAp (m.1 229) (m3.2 68) (m3.1 228) (m3.1 230) (m3.1 206) by exact hFA) (show 0 ≤ (v2 + 1) ∧ (v2 + 1) ≤ 4001 by omega) (show 4010 - (v2 + 1) < (n14 : Int) by omega)
                · skip
                  have hbA := FA_b hFA (by omega) (by omega)
                  refine T_ld 77 (.ref 181) rfl (fun _ => rfl) ?_
                  refine K_gf 80 (.int (i32 (m3.1 230))) rfl rfl kd_181 rfl rfl rfl ?_
                  refine T_ld 82 (.int (i32 24)) rfl (fun _ => rfl) ?_
                  refine T_icmp 100 85 rfl rfl rfl (r32 (by omega) (by omega)) ⟨by decide, by decide⟩ (fun (h66 : (m3.1 230) < 24) => ?_) (fun (h66 : ¬ ((m3.1 230) < 24)) => ?_)
                  · skip
                    refine T_ld 101 (.ref 181) rfl (fun _ => rfl) ?_
                    refine T_ld 102 (.ref 181) rfl (fun _ => rfl) ?_
                    refine K_gf 105 (.int (i32 (m3.1 230))) rfl rfl kd_181 rfl rfl rfl ?_
                    refine T_ld 106 (.int (i32 1)) rfl (fun _ => rfl) ?_
                    refine T_iadd 107 rfl rfl ?_
                    refine K_pf (l' := [(230, (m3.1 230) + 1)]) 110 ((m3.1 230) + 1) rfl rfl kd_181 rfl rfl rfl rfl rfl rfl rfl ?_
                    have g67 : 0 ≤ (m3.1 230) + 1 ∧ (m3.1 230) + 1 ≤ 30 := ⟨by omega, by omega⟩
                    refine T_ld 111 (.ref 181) rfl (fun _ => rfl) ?_
                    refine T_ld 112 (.ref 181) rfl (fun _ => rfl) ?_
                    refine K_gf 115 (.ref 6) rfl rfl kd_181 rfl rfl rfl ?_
                    refine K_gf 118 (.int (i32 (m3.1 206))) rfl rfl kd_6 rfl rfl rfl ?_
                    refine T_ld 120 (.int (i32 45)) rfl (fun _ => rfl) ?_
                    refine T_icmp 129 123 rfl rfl rfl (r32 (by omega) (by omega)) ⟨by decide, by decide⟩ (fun (h68 : (m3.1 206) ≠ 45) => by exfalso; omega) (fun (h68 : ¬ ((m3.1 206) ≠ 45)) => ?_)
                    refine T_ld 126 (.int (i32 405)) rfl (fun _ => rfl) ?_
                    refine T_goto 136 rfl (fun _ => rfl) ?_
                    refine T_callx 139 94 [.ref 181, .int (i32 405)] [] rfl (fun _ => rfl) rfl rfl (c_fm_open w (mO m3 [(230, (m3.1 230) + 1)] []) c N D (by omega) (KTy_mO Tm3 rfl rfl ⟨g67, trivial⟩ trivial) 405 ⟨by decide, by decide⟩ (show (-1) ≤ (405 : Int) ∧ (405 : Int) ≤ 65535 by omega)) (fun rr69 k70 => ?_)
                    rcases k70 with ⟨m71, Tm71, Fm71, h72, h73, h74, rfl⟩ | ⟨xx77, m75, hx76, Tm75, Fm75, rfl⟩
                    rotate_left
                    · skip
                      refine Or.inr ⟨_, _, _, _, rfl, ?_⟩
                      exact Or.inr ⟨xx77, (mO m75 [] []), (hx76), Tm75, (fr_m (fr_s Fm75 (fr_m (fr_s Fm3 (fr_m fr_0 rfl rfl) rfl rfl) rfl rfl) rfl rfl) rfl rfl), rfl⟩
                    refine Or.inl ⟨_, _, _, _, rfl, ?_⟩
                    refine K_nb (st' := []) rfl ?_
                    have g78 : (-1) ≤ m71.1 206 ∧ m71.1 206 ≤ 65535 := Tm71.1 206
                    have g79 : 0 ≤ m71.1 207 ∧ m71.1 207 ≤ 4001 := Tm71.1 207
                    have g80 : 0 ≤ m71.1 228 ∧ m71.1 228 ≤ 288 := Tm71.1 228
                    replace h72 : (m71.1 228) = (m3.1 228) + 1 := h72
                    replace h73 : (m3.1 228) ≤ 287 := h73
                    replace h74 : (m71.2 68) = upI (m3.2 68) (m3.1 228) (405 : Int) := h74
                    have hMu := h74
                    have hFA := FA_par (w' := (m71.1 206)) hFA (by omega) hMu (by omega) (by omega) rfl (Or.inl (by omega))
                    refine T_goto 144 rfl (fun _ => rfl) ?_
                    refine T_iinc 147 [(2, .int (i32 (v2 + 1))), (0, .ref 181), (1, .int (i32 v1))] rfl rfl (by decide) rfl rfl ?_
                    refine T_goto 4 rfl (fun _ => rfl) ?_
                    refine Tm_lv (a := [(0, .ref 181), (1, .int (i32 v1)), (2, .int (i32 (v2 + 1)))]) rfl rfl ⟨rfl, rfl, rfl, trivial⟩ ?_
                    exact ih15 v1 (v2 + 1) (mO m71 [] []) (r32 (by omega) (by omega)) (r32 (by omega) (by omega)) Tm71 (fr_m (fr_s Fm71 (fr_m (fr_s Fm3 (fr_m fr_0 rfl rfl) rfl rfl) rfl rfl) rfl rfl) rfl rfl) (show 0 ≤ v1 by omega) (show v1 ≤ 1 by omega) (show 0 ≤ (v2 + 1) by omega) (show FAp (m.1 229) (m71.2 68) (m71.1 228) (m71.1 230) (m71.1 206) by rewrite [(show (m71.1 230) = ((m3.1 230) + 1) from (fr1 Fm71 230 rfl))]; exact hFA) (show 0 ≤ (v2 + 1) ∧ (v2 + 1) ≤ 4001 by omega) (show 4010 - (v2 + 1) < (n14 : Int) by omega)
                  · skip
                    refine T_ld 86 (.ref 181) rfl (fun _ => rfl) ?_
                    refine K_gf 89 (.ref 6) rfl rfl kd_181 rfl rfl rfl ?_
                    refine T_ld 90 (.int (i32 4)) rfl (fun _ => rfl) ?_
                    refine T_ld 91 (.ref 181) rfl (fun _ => rfl) ?_
                    refine K_gf 94 (.ref 6) rfl rfl kd_181 rfl rfl rfl ?_
                    refine K_gf 97 (.int (i32 (m3.1 207))) rfl rfl kd_6 rfl rfl rfl ?_
                    refine T_callx 100 51 [.ref 6, .int (i32 4), .int (i32 (m3.1 207))] [] rfl (fun _ => rfl) rfl rfl (c_tx_fail w (mO m3 [] []) c N D (by omega) Tm3 4 (m3.1 207) ⟨by decide, by decide⟩ (r32 (by omega) (by omega)) (show 1 ≤ (4 : Int) ∧ (4 : Int) ≤ 8 by omega) (show 0 ≤ (m3.1 207) ∧ (m3.1 207) ≤ 4001 by omega)) (fun rr81 k82 => ?_)
                    rcases k82 with ⟨m83, Tm83, Fm83, h84, rfl⟩ | ⟨xx87, m85, hx86, Tm85, Fm85, rfl⟩
                    rotate_left
                    · skip
                      refine Or.inr ⟨_, _, _, _, rfl, ?_⟩
                      exact Or.inr ⟨xx87, (mO m85 [] []), (hx86), Tm85, (fr_m (fr_s Fm85 (fr_m (fr_s Fm3 (fr_m fr_0 rfl rfl) rfl rfl) rfl rfl) rfl rfl) rfl rfl), rfl⟩
                    exact h84.elim
          · skip
            have hd := FA_d hFA (by omega)
            have hbA := FA_b hFA (by omega) (by omega)
            refine T_ld 28 (.ref 181) rfl (fun _ => rfl) ?_
            refine T_ld 30 (.int (i32 40)) rfl (fun _ => rfl) ?_
            refine T_callx 33 94 [.ref 181, .int (i32 40)] [] rfl (fun _ => rfl) rfl rfl (c_fm_open w (mO m3 [] []) c N D (by omega) Tm3 40 ⟨by decide, by decide⟩ (show (-1) ≤ (40 : Int) ∧ (40 : Int) ≤ 65535 by omega)) (fun rr88 k89 => ?_)
            rcases k89 with ⟨m90, Tm90, Fm90, h91, h92, h93, rfl⟩ | ⟨xx96, m94, hx95, Tm94, Fm94, rfl⟩
            rotate_left
            · skip
              refine Or.inr ⟨_, _, _, _, rfl, ?_⟩
              exact Or.inr ⟨xx96, (mO m94 [] []), (hx95), Tm94, (fr_m (fr_s Fm94 (fr_m (fr_s Fm3 (fr_m fr_0 rfl rfl) rfl rfl) rfl rfl) rfl rfl) rfl rfl), rfl⟩
            refine Or.inl ⟨_, _, _, _, rfl, ?_⟩
            refine K_nb (st' := []) rfl ?_
            have g97 : (-1) ≤ m90.1 206 ∧ m90.1 206 ≤ 65535 := Tm90.1 206
            have g98 : 0 ≤ m90.1 207 ∧ m90.1 207 ≤ 4001 := Tm90.1 207
            have g99 : 0 ≤ m90.1 228 ∧ m90.1 228 ≤ 288 := Tm90.1 228
            replace h91 : (m90.1 228) = (m3.1 228) + 1 := h91
            replace h92 : (m3.1 228) ≤ 287 := h92
            replace h93 : (m90.2 68) = upI (m3.2 68) (m3.1 228) (40 : Int) := h93
            have hMu := h93
            refine T_ld 34 (.ref 181) rfl (fun _ => rfl) ?_
            refine T_callx 37 95 [.ref 181] [] rfl (fun _ => rfl) rfl rfl (c_fm_deepen w (mO m90 [] []) c N D (by omega) Tm90 (show (m90.1 230) ≤ 24 by rewrite [(show (m90.1 230) = (m3.1 230) from (fr1 Fm90 230 rfl))]; omega)) (fun rr100 k101 => ?_)
            rcases k101 with ⟨m102, Tm102, Fm102, h103, h104, rfl⟩ | ⟨xx107, m105, hx106, Tm105, Fm105, rfl⟩
            rotate_left
            · skip
              refine Or.inr ⟨_, _, _, _, rfl, ?_⟩
              exact Or.inr ⟨xx107, (mO m105 [] []), (hx106), Tm105, (fr_m (fr_s Fm105 (fr_m (fr_s Fm90 (fr_m (fr_s Fm3 (fr_m fr_0 rfl rfl) rfl rfl) rfl rfl) rfl rfl) rfl rfl) rfl rfl) rfl rfl), rfl⟩
            refine Or.inl ⟨_, _, _, _, rfl, ?_⟩
            refine K_nb (st' := []) rfl ?_
            have g108 : 0 ≤ m102.1 230 ∧ m102.1 230 ≤ 30 := Tm102.1 230
            replace h103 : (m102.1 230) = (m90.1 230) + 1 := h103
            rewrite [(show (m90.1 230) = (m3.1 230) from (fr1 Fm90 230 rfl))] at h103
            replace h104 : DPp (m102.1 230) (m90.1 206) := h104
            have hDp := h104
            have hFA := FA_par hFA (by omega) hMu (by omega) (by omega) (by omega) hDp
            refine T_goto 144 rfl (fun _ => rfl) ?_
            refine T_iinc 147 [(2, .int (i32 (v2 + 1))), (0, .ref 181), (1, .int (i32 v1))] rfl rfl (by decide) rfl rfl ?_
            refine T_goto 4 rfl (fun _ => rfl) ?_
            refine Tm_lv (a := [(0, .ref 181), (1, .int (i32 v1)), (2, .int (i32 (v2 + 1)))]) rfl rfl ⟨rfl, rfl, rfl, trivial⟩ ?_
            exact ih15 v1 (v2 + 1) (mO m102 [] []) (r32 (by omega) (by omega)) (r32 (by omega) (by omega)) Tm102 (fr_m (fr_s Fm102 (fr_m (fr_s Fm90 (fr_m (fr_s Fm3 (fr_m fr_0 rfl rfl) rfl rfl) rfl rfl) rfl rfl) rfl rfl) rfl rfl) rfl rfl) (show 0 ≤ v1 by omega) (show v1 ≤ 1 by omega) (show 0 ≤ (v2 + 1) by omega) (show FAp (m.1 229) (m102.2 68) (m102.1 228) (m102.1 230) (m102.1 206) by rewrite [(show (m102.2 68) = (m90.2 68) from (fr2 Fm102 68 rfl)), (show (m102.1 228) = (m90.1 228) from (fr1 Fm102 228 rfl)), (show (m102.1 206) = (m90.1 206) from (fr1 Fm102 206 rfl))]; exact hFA) (show 0 ≤ (v2 + 1) ∧ (v2 + 1) ≤ 4001 by omega) (show 4010 - (v2 + 1) < (n14 : Int) by omega)
  refine Tm_lv (a := [(0, .ref 181), (1, .int (i32 1)), (2, .int (i32 0))]) rfl rfl ⟨rfl, rfl, rfl, trivial⟩ ?_
  exact L4_4 ((4010 - (0 : Int) : Int) + 1).toNat 1 0 (mO m [] []) ⟨by decide, by decide⟩ ⟨by decide, by decide⟩ hT (fr_m fr_0 rfl rfl) (show 0 ≤ (1 : Int) by omega) (show (1 : Int) ≤ 1 by omega) (show 0 ≤ (0 : Int) by omega) (show FAp (m.1 229) (m.2 68) (m.1 228) (m.1 230) (m.1 206) by exact hFA) (show 0 ≤ (0 : Int) ∧ (0 : Int) ≤ 4001 by omega) (show 4010 - (0 : Int) < ((((4010 - (0 : Int) : Int) + 1).toNat : Nat) : Int) by omega)
def fF_fm_placeSlot : List Nat := [205, 206, 207, 208, 209, 210, 211, 212]
def fA_fm_placeSlot : List Nat := []
def Q_fm_placeSlot (m : mR) (c : Nat → Option am_C) (N : Nat) : ag_Re af_T → Prop := fun R => (∃ (M : mR) (r : Int), KTy M ∧ fr fF_fm_placeSlot fA_fm_placeSlot m M ∧ (0 ≤ r ∧ r ≤ 219) ∧ R = (.inl (some (.int (i32 r))), (khp M c, N), 0, 0)) ∨ (∃ (x : Nat) (M : mR), (x = 0) ∧ (KTy M) ∧ (fr fF_fm_placeSlot fA_fm_placeSlot m M) ∧ R = (.inr x, (khp M c, N), 1, 6))
set_option maxHeartbeats 3000000 in
theorem c_fm_placeSlot (w : wX) (m : mR) (c : Nat → Option am_C) (N D : Nat) (hD : 8 ≤ D) (hT : KTy m) (pKP : KPp (m.1 203) (m.2 8) (m.2 9) (m.1 214) (m.1 215) (m.1 216) (m.1 217) (m.1 221) (m.1 223) (m.1 219)) : TC w D 99 [.ref 181] (khp m c, N) (Q_fm_placeSlot m c N) := by
  obtain ⟨D, rfl⟩ : ∃ k, D = k + 1 := ⟨D - 1, by omega⟩
  have f206 : (-1) ≤ m.1 206 ∧ m.1 206 ≤ 65535 := hT.1 206
  have f207 : 0 ≤ m.1 207 ∧ m.1 207 ≤ 4001 := hT.1 207
  have f209 : (-9223372036854775808) ≤ m.1 209 ∧ m.1 209 ≤ 9223372036854775807 := hT.1 209
  have f210 : (-9223372036854775808) ≤ m.1 210 ∧ m.1 210 ≤ 9223372036854775807 := hT.1 210
  have f203 : 0 ≤ m.1 203 ∧ m.1 203 ≤ 90 := hT.1 203
  have f213 : 0 ≤ m.1 213 ∧ m.1 213 ≤ 1 := hT.1 213
  have f214 : 0 ≤ m.1 214 ∧ m.1 214 ≤ 12 := hT.1 214
  have f215 : 0 ≤ m.1 215 ∧ m.1 215 ≤ 12 := hT.1 215
  have f216 : 0 ≤ m.1 216 ∧ m.1 216 ≤ 16 := hT.1 216
  have f217 : 0 ≤ m.1 217 ∧ m.1 217 ≤ 8 := hT.1 217
  have f219 : 0 ≤ m.1 219 ∧ m.1 219 ≤ 8 := hT.1 219
  have f221 : 0 ≤ m.1 221 ∧ m.1 221 ≤ 16 := hT.1 221
  have f223 : 0 ≤ m.1 223 ∧ m.1 223 ≤ 16 := hT.1 223
  refine Tc_of rfl ?_
  rw [show (khp m c, N) = (khp (mO m [] []) c, N) from by rw [mO_nil m]]
  show TT w D pm_99 (0, [(0, .ref 181)], [], (khp (mO m [] []) c, N), 0, 0) (Q_fm_placeSlot m c N)
  refine T_ld 1 (.ref 181) rfl (fun _ => rfl) ?_
  refine K_gf 4 (.ref 6) rfl rfl kd_181 rfl rfl rfl ?_
  refine T_ld 7 (.int (i32 302)) rfl (fun _ => rfl) ?_
  refine T_callx 10 84 [.ref 6, .int (i32 302)] [] rfl (fun _ => rfl) rfl rfl (c_tx_indexOf w (mO m [] []) c N D (by omega) hT 302 ⟨by decide, by decide⟩) (fun rr1 k2 => ?_)
  obtain ⟨io, g3, h4, rfl⟩ := k2
  refine Or.inl ⟨_, _, _, _, rfl, ?_⟩
  refine T_ns (st' := [.int (i32 io)]) rfl ?_
  obtain ⟨g3a, g3b⟩ := g3
  replace h4 : io = -1 ∨ KNo (m.1 203) (m.2 8) (m.2 9) (302 : Int) io := h4
  have hIo := h4
  refine T_sto 11 [(1, .int (i32 io)), (0, .ref 181)] rfl (fun _ => rfl) ?_
  refine T_ld 12 (.int (i32 io)) rfl (fun _ => rfl) ?_
  refine T_ld 13 (.int (i32 (-1))) rfl (fun _ => rfl) ?_
  refine T_icmp 29 16 rfl rfl rfl (r32 (by omega) (by omega)) ⟨by decide, by decide⟩ (fun (h5 : io = (-1)) => ?_) (fun (h5 : ¬ (io = (-1))) => ?_)
  · skip
    refine T_ld 30 (.ref 181) rfl (fun _ => rfl) ?_
    refine K_gf 33 (.ref 6) rfl rfl kd_181 rfl rfl rfl ?_
    refine T_ld 36 (.int (i32 301)) rfl (fun _ => rfl) ?_
    refine T_callx 39 84 [.ref 6, .int (i32 301)] [] rfl (fun _ => rfl) rfl rfl (c_tx_indexOf w (mO m [] []) c N D (by omega) hT 301 ⟨by decide, by decide⟩) (fun rr6 k7 => ?_)
    obtain ⟨io8, g9, h10, rfl⟩ := k7
    refine Or.inl ⟨_, _, _, _, rfl, ?_⟩
    refine T_ns (st' := [.int (i32 io8)]) rfl ?_
    obtain ⟨g9a, g9b⟩ := g9
    replace h10 : io8 = -1 ∨ KNo (m.1 203) (m.2 8) (m.2 9) (301 : Int) io8 := h10
    have hIo := h10
    refine T_sto 40 [(2, .int (i32 io8)), (1, .int (i32 io)), (0, .ref 181)] rfl (fun _ => rfl) ?_
    refine T_ld 41 (.int (i32 io8)) rfl (fun _ => rfl) ?_
    refine T_ld 42 (.int (i32 (-1))) rfl (fun _ => rfl) ?_
    refine T_icmp 61 45 rfl rfl rfl (r32 (by omega) (by omega)) ⟨by decide, by decide⟩ (fun (h11 : io8 ≠ (-1)) => ?_) (fun (h11 : ¬ (io8 ≠ (-1))) => ?_)
    · skip
      have hkn := KNo_w pKP (hIo.elim (fun h => absurd h (by omega)) (fun h => h))
      refine T_ld 62 (.ref 181) rfl (fun _ => rfl) ?_
      refine K_gf 65 (.ref 6) rfl rfl kd_181 rfl rfl rfl ?_
      refine T_callx 68 50 [.ref 6] [] rfl (fun _ => rfl) rfl rfl (c_tx_advance w (mO m [] []) c N D (by omega) hT ) (fun rr12 k13 => ?_)
      rcases k13 with ⟨m14, Tm14, Fm14, h15, rfl⟩ | ⟨xx18, m16, hx17, Tm16, Fm16, rfl⟩
      rotate_left
      · skip
        refine Or.inr ⟨_, _, _, _, rfl, ?_⟩
        exact Or.inr ⟨xx18, (mO m16 [] []), (hx17), Tm16, (fr_m (fr_s Fm16 (fr_m fr_0 rfl rfl) rfl rfl) rfl rfl), rfl⟩
      refine Or.inl ⟨_, _, _, _, rfl, ?_⟩
      refine K_nb (st' := []) rfl ?_
      have g19 : (-1) ≤ m14.1 206 ∧ m14.1 206 ≤ 65535 := Tm14.1 206
      have g20 : 0 ≤ m14.1 207 ∧ m14.1 207 ≤ 4001 := Tm14.1 207
      have g21 : (-9223372036854775808) ≤ m14.1 209 ∧ m14.1 209 ≤ 9223372036854775807 := Tm14.1 209
      have g22 : (-9223372036854775808) ≤ m14.1 210 ∧ m14.1 210 ≤ 9223372036854775807 := Tm14.1 210
      replace h15 : (m.1 213) = 0 := h15
      refine T_ld 69 (.ref 181) rfl (fun _ => rfl) ?_
      refine K_gf 72 (.ref 6) rfl rfl kd_181 rfl rfl rfl ?_
      refine K_gf 75 (.int (i32 (m14.1 206))) rfl rfl kd_6 rfl rfl rfl ?_
      refine T_ld 77 (.int (i32 46)) rfl (fun _ => rfl) ?_
      refine T_icmp 87 80 rfl rfl rfl (r32 (by omega) (by omega)) ⟨by decide, by decide⟩ (fun (h23 : (m14.1 206) = 46) => ?_) (fun (h23 : ¬ ((m14.1 206) = 46)) => ?_)
      · skip
        refine T_ld 88 (.ref 181) rfl (fun _ => rfl) ?_
        refine K_gf 91 (.ref 6) rfl rfl kd_181 rfl rfl rfl ?_
        refine T_callx 94 50 [.ref 6] [] rfl (fun _ => rfl) rfl rfl (c_tx_advance w (mO m14 [] []) c N D (by omega) Tm14 ) (fun rr24 k25 => ?_)
        rcases k25 with ⟨m26, Tm26, Fm26, h27, rfl⟩ | ⟨xx30, m28, hx29, Tm28, Fm28, rfl⟩
        rotate_left
        · skip
          refine Or.inr ⟨_, _, _, _, rfl, ?_⟩
          exact Or.inr ⟨xx30, (mO m28 [] []), (hx29), Tm28, (fr_m (fr_s Fm28 (fr_m (fr_s Fm14 (fr_m fr_0 rfl rfl) rfl rfl) rfl rfl) rfl rfl) rfl rfl), rfl⟩
        refine Or.inl ⟨_, _, _, _, rfl, ?_⟩
        refine K_nb (st' := []) rfl ?_
        have g31 : (-1) ≤ m26.1 206 ∧ m26.1 206 ≤ 65535 := Tm26.1 206
        have g32 : 0 ≤ m26.1 207 ∧ m26.1 207 ≤ 4001 := Tm26.1 207
        have g33 : (-9223372036854775808) ≤ m26.1 209 ∧ m26.1 209 ≤ 9223372036854775807 := Tm26.1 209
        have g34 : (-9223372036854775808) ≤ m26.1 210 ∧ m26.1 210 ≤ 9223372036854775807 := Tm26.1 210
        replace h27 : (m14.1 213) = 0 := h27
        rewrite [(show (m14.1 213) = (m.1 213) from (fr1 Fm14 213 rfl))] at h27
        refine T_ld 95 (.ref 181) rfl (fun _ => rfl) ?_
        refine K_gf 98 (.ref 6) rfl rfl kd_181 rfl rfl rfl ?_
        refine K_gf 101 (.int (i32 (m26.1 206))) rfl rfl kd_6 rfl rfl rfl ?_
        refine T_ld 104 (.int (i32 256)) rfl (fun _ => rfl) ?_
        refine T_icmp 114 107 rfl rfl rfl (r32 (by omega) (by omega)) ⟨by decide, by decide⟩ (fun (h35 : (m26.1 206) = 256) => ?_) (fun (h35 : ¬ ((m26.1 206) = 256)) => ?_)
        · skip
          refine T_ld 115 (.ref 181) rfl (fun _ => rfl) ?_
          refine K_gf 118 (.ref 12) rfl rfl kd_181 rfl rfl rfl ?_
          refine T_ld 119 (.ref 181) rfl (fun _ => rfl) ?_
          refine K_gf 122 (.ref 12) rfl rfl kd_181 rfl rfl rfl ?_
          refine K_gf 125 (.ref 16) rfl rfl kd_12 rfl rfl rfl ?_
          refine T_ld 126 (.int (i32 io8)) rfl (fun _ => rfl) ?_
          refine K_iald 127 13 (m.2 13) rfl rfl rfl (by omega) (show io8 < (12 : Int) by omega) (show (m26.2 13) = (m.2 13) from ((fr2 Fm26 13 rfl).trans (fr2 Fm14 13 rfl))) ?_
          have e36 : 0 ≤ m.2 13 io8 ∧ m.2 13 io8 ≤ 11 := hT.2.1 13 io8
          refine T_ld 128 (.ref 181) rfl (fun _ => rfl) ?_
          refine K_gf 131 (.ref 6) rfl rfl kd_181 rfl rfl rfl ?_
          refine K_gf 134 (.long (i64 (m26.1 209))) rfl rfl kd_6 rfl rfl rfl ?_
          refine T_ld 135 (.ref 181) rfl (fun _ => rfl) ?_
          refine K_gf 138 (.ref 6) rfl rfl kd_181 rfl rfl rfl ?_
          refine K_gf 141 (.long (i64 (m26.1 210))) rfl rfl kd_6 rfl rfl rfl ?_
          refine T_callx 144 80 [.ref 12, .int (i32 ((m.2 13) io8)), .long (i64 (m26.1 209)), .long (i64 (m26.1 210))] [] rfl (fun _ => rfl) rfl rfl (c_pr_fieldOf w (mO m26 [] []) c N D (by omega) Tm26 ((m.2 13) io8) (m26.1 209) (m26.1 210) (r32 (by omega) (by omega)) (r64 (by omega) (by omega)) (r64 (by omega) (by omega)) (show 0 ≤ ((m.2 13) io8) ∧ ((m.2 13) io8) ≤ 11 by omega)) (fun rr37 k38 => ?_)
          obtain ⟨x39, g40, rfl⟩ := k38
          refine Or.inl ⟨_, _, _, _, rfl, ?_⟩
          refine T_ns (st' := [.int (i32 x39)]) rfl ?_
          obtain ⟨g40a, g40b⟩ := g40
          refine T_sto 145 [(3, .int (i32 x39)), (2, .int (i32 io8)), (1, .int (i32 io)), (0, .ref 181)] rfl (fun _ => rfl) ?_
          refine T_ld 146 (.int (i32 x39)) rfl (fun _ => rfl) ?_
          refine T_ld 147 (.int (i32 (-1))) rfl (fun _ => rfl) ?_
          refine T_icmp 166 150 rfl rfl rfl (r32 (by omega) (by omega)) ⟨by decide, by decide⟩ (fun (h41 : x39 ≠ (-1)) => ?_) (fun (h41 : ¬ (x39 ≠ (-1))) => ?_)
          · skip
            refine T_ld 167 (.ref 181) rfl (fun _ => rfl) ?_
            refine K_gf 170 (.ref 6) rfl rfl kd_181 rfl rfl rfl ?_
            refine T_callx 173 50 [.ref 6] [] rfl (fun _ => rfl) rfl rfl (c_tx_advance w (mO m26 [] []) c N D (by omega) Tm26 ) (fun rr42 k43 => ?_)
            rcases k43 with ⟨m44, Tm44, Fm44, h45, rfl⟩ | ⟨xx48, m46, hx47, Tm46, Fm46, rfl⟩
            rotate_left
            · skip
              refine Or.inr ⟨_, _, _, _, rfl, ?_⟩
              exact Or.inr ⟨xx48, (mO m46 [] []), (hx47), Tm46, (fr_m (fr_s Fm46 (fr_m (fr_s Fm26 (fr_m (fr_s Fm14 (fr_m fr_0 rfl rfl) rfl rfl) rfl rfl) rfl rfl) rfl rfl) rfl rfl) rfl rfl), rfl⟩
            refine Or.inl ⟨_, _, _, _, rfl, ?_⟩
            refine K_nb (st' := []) rfl ?_
            have g49 : (-1) ≤ m44.1 206 ∧ m44.1 206 ≤ 65535 := Tm44.1 206
            have g50 : 0 ≤ m44.1 207 ∧ m44.1 207 ≤ 4001 := Tm44.1 207
            have g51 : (-9223372036854775808) ≤ m44.1 209 ∧ m44.1 209 ≤ 9223372036854775807 := Tm44.1 209
            have g52 : (-9223372036854775808) ≤ m44.1 210 ∧ m44.1 210 ≤ 9223372036854775807 := Tm44.1 210
            replace h45 : (m26.1 213) = 0 := h45
            rewrite [(show (m26.1 213) = (m.1 213) from ((fr1 Fm26 213 rfl).trans (fr1 Fm14 213 rfl)))] at h45
            refine T_ld 174 (.int (i32 io8)) rfl (fun _ => rfl) ?_
            refine T_ld 176 (.int (i32 17)) rfl (fun _ => rfl) ?_
            refine T_imul 177 rfl rfl ?_
            refine T_ld 178 (.int (i32 1)) rfl (fun _ => rfl) ?_
            refine T_iadd 179 rfl rfl ?_
            refine T_ld 180 (.int (i32 x39)) rfl (fun _ => rfl) ?_
            refine T_iadd 181 rfl rfl ?_
            refine T_ret rfl (fun _ => rfl) ?_
            exact Or.inl ⟨(mO m44 [] []), ((io8 * 17) + 1) + x39, Tm44, (fr_m (fr_s Fm44 (fr_m (fr_s Fm26 (fr_m (fr_s Fm14 (fr_m fr_0 rfl rfl) rfl rfl) rfl rfl) rfl rfl) rfl rfl) rfl rfl) rfl rfl), ⟨by omega, by omega⟩, rfl⟩
          · skip
            refine T_ld 151 (.ref 181) rfl (fun _ => rfl) ?_
            refine K_gf 154 (.ref 6) rfl rfl kd_181 rfl rfl rfl ?_
            refine T_ld 156 (.int (i32 6)) rfl (fun _ => rfl) ?_
            refine T_ld 157 (.ref 181) rfl (fun _ => rfl) ?_
            refine K_gf 160 (.ref 6) rfl rfl kd_181 rfl rfl rfl ?_
            refine K_gf 163 (.int (i32 (m26.1 207))) rfl rfl kd_6 rfl rfl rfl ?_
            refine T_callx 166 51 [.ref 6, .int (i32 6), .int (i32 (m26.1 207))] [] rfl (fun _ => rfl) rfl rfl (c_tx_fail w (mO m26 [] []) c N D (by omega) Tm26 6 (m26.1 207) ⟨by decide, by decide⟩ (r32 (by omega) (by omega)) (show 1 ≤ (6 : Int) ∧ (6 : Int) ≤ 8 by omega) (show 0 ≤ (m26.1 207) ∧ (m26.1 207) ≤ 4001 by omega)) (fun rr53 k54 => ?_)
            rcases k54 with ⟨m55, Tm55, Fm55, h56, rfl⟩ | ⟨xx59, m57, hx58, Tm57, Fm57, rfl⟩
            rotate_left
            · skip
              refine Or.inr ⟨_, _, _, _, rfl, ?_⟩
              exact Or.inr ⟨xx59, (mO m57 [] []), (hx58), Tm57, (fr_m (fr_s Fm57 (fr_m (fr_s Fm26 (fr_m (fr_s Fm14 (fr_m fr_0 rfl rfl) rfl rfl) rfl rfl) rfl rfl) rfl rfl) rfl rfl) rfl rfl), rfl⟩
            exact h56.elim
        · skip
          refine T_ld 108 (.ref 181) rfl (fun _ => rfl) ?_
          refine K_gf 111 (.ref 6) rfl rfl kd_181 rfl rfl rfl ?_
          refine T_callx 114 76 [.ref 6] [] rfl (fun _ => rfl) rfl rfl (c_tx_refuse w (mO m26 [] []) c N D (by omega) Tm26 ) (fun rr60 k61 => ?_)
          rcases k61 with ⟨m62, Tm62, Fm62, h63, rfl⟩ | ⟨xx66, m64, hx65, Tm64, Fm64, rfl⟩
          rotate_left
          · skip
            refine Or.inr ⟨_, _, _, _, rfl, ?_⟩
            exact Or.inr ⟨xx66, (mO m64 [] []), (hx65), Tm64, (fr_m (fr_s Fm64 (fr_m (fr_s Fm26 (fr_m (fr_s Fm14 (fr_m fr_0 rfl rfl) rfl rfl) rfl rfl) rfl rfl) rfl rfl) rfl rfl) rfl rfl), rfl⟩
          exact h63.elim
      · skip
        refine T_ld 81 (.ref 181) rfl (fun _ => rfl) ?_
        refine K_gf 84 (.ref 6) rfl rfl kd_181 rfl rfl rfl ?_
        refine T_callx 87 76 [.ref 6] [] rfl (fun _ => rfl) rfl rfl (c_tx_refuse w (mO m14 [] []) c N D (by omega) Tm14 ) (fun rr67 k68 => ?_)
        rcases k68 with ⟨m69, Tm69, Fm69, h70, rfl⟩ | ⟨xx73, m71, hx72, Tm71, Fm71, rfl⟩
        rotate_left
        · skip
          refine Or.inr ⟨_, _, _, _, rfl, ?_⟩
          exact Or.inr ⟨xx73, (mO m71 [] []), (hx72), Tm71, (fr_m (fr_s Fm71 (fr_m (fr_s Fm14 (fr_m fr_0 rfl rfl) rfl rfl) rfl rfl) rfl rfl) rfl rfl), rfl⟩
        exact h70.elim
    · skip
      refine T_ld 46 (.ref 181) rfl (fun _ => rfl) ?_
      refine K_gf 49 (.ref 6) rfl rfl kd_181 rfl rfl rfl ?_
      refine T_ld 51 (.int (i32 6)) rfl (fun _ => rfl) ?_
      refine T_ld 52 (.ref 181) rfl (fun _ => rfl) ?_
      refine K_gf 55 (.ref 6) rfl rfl kd_181 rfl rfl rfl ?_
      refine K_gf 58 (.int (i32 (m.1 207))) rfl rfl kd_6 rfl rfl rfl ?_
      refine T_callx 61 51 [.ref 6, .int (i32 6), .int (i32 (m.1 207))] [] rfl (fun _ => rfl) rfl rfl (c_tx_fail w (mO m [] []) c N D (by omega) hT 6 (m.1 207) ⟨by decide, by decide⟩ (r32 (by omega) (by omega)) (show 1 ≤ (6 : Int) ∧ (6 : Int) ≤ 8 by omega) (show 0 ≤ (m.1 207) ∧ (m.1 207) ≤ 4001 by omega)) (fun rr74 k75 => ?_)
      rcases k75 with ⟨m76, Tm76, Fm76, h77, rfl⟩ | ⟨xx80, m78, hx79, Tm78, Fm78, rfl⟩
      rotate_left
      · skip
        refine Or.inr ⟨_, _, _, _, rfl, ?_⟩
        exact Or.inr ⟨xx80, (mO m78 [] []), (hx79), Tm78, (fr_m (fr_s Fm78 (fr_m fr_0 rfl rfl) rfl rfl) rfl rfl), rfl⟩
      exact h77.elim
  · skip
    have hkn := KNo_w pKP (hIo.elim (fun h => absurd h (by omega)) (fun h => h))
    refine T_ld 17 (.ref 181) rfl (fun _ => rfl) ?_
    refine K_gf 20 (.ref 6) rfl rfl kd_181 rfl rfl rfl ?_
    refine T_callx 23 50 [.ref 6] [] rfl (fun _ => rfl) rfl rfl (c_tx_advance w (mO m [] []) c N D (by omega) hT ) (fun rr81 k82 => ?_)
    rcases k82 with ⟨m83, Tm83, Fm83, h84, rfl⟩ | ⟨xx87, m85, hx86, Tm85, Fm85, rfl⟩
    rotate_left
    · skip
      refine Or.inr ⟨_, _, _, _, rfl, ?_⟩
      exact Or.inr ⟨xx87, (mO m85 [] []), (hx86), Tm85, (fr_m (fr_s Fm85 (fr_m fr_0 rfl rfl) rfl rfl) rfl rfl), rfl⟩
    refine Or.inl ⟨_, _, _, _, rfl, ?_⟩
    refine K_nb (st' := []) rfl ?_
    have g88 : (-1) ≤ m83.1 206 ∧ m83.1 206 ≤ 65535 := Tm83.1 206
    have g89 : 0 ≤ m83.1 207 ∧ m83.1 207 ≤ 4001 := Tm83.1 207
    have g90 : (-9223372036854775808) ≤ m83.1 209 ∧ m83.1 209 ≤ 9223372036854775807 := Tm83.1 209
    have g91 : (-9223372036854775808) ≤ m83.1 210 ∧ m83.1 210 ≤ 9223372036854775807 := Tm83.1 210
    replace h84 : (m.1 213) = 0 := h84
    refine T_ld 26 (.int (i32 204)) rfl (fun _ => rfl) ?_
    refine T_ld 27 (.int (i32 io)) rfl (fun _ => rfl) ?_
    refine T_iadd 28 rfl rfl ?_
    refine T_ret rfl (fun _ => rfl) ?_
    exact Or.inl ⟨(mO m83 [] []), 204 + io, Tm83, (fr_m (fr_s Fm83 (fr_m fr_0 rfl rfl) rfl rfl) rfl rfl), ⟨by omega, by omega⟩, rfl⟩
def fF_fm_atom : List Nat := [205, 206, 207, 208, 209, 210, 211, 212, 213, 220, 229]
def fA_fm_atom : List Nat := [18, 19, 20, 22, 23, 24, 70]
def Q_fm_atom (m : mR) (c : Nat → Option am_C) (N : Nat) : ag_Re af_T → Prop := fun R => (∃ (M : mR), KTy M ∧ fr fF_fm_atom fA_fm_atom m M ∧ (FBp (M.1 229) (m.2 68) (m.1 228) (m.1 230)) ∧ (NKp (M.2 18) (M.2 19)) ∧ R = (.inl (none), (khp M c, N), 0, 0)) ∨ (∃ (x : Nat) (M : mR), (x = 0) ∧ (KTy M) ∧ (fr fF_fm_atom fA_fm_atom m M) ∧ (NKp (M.2 18) (M.2 19)) ∧ R = (.inr x, (khp M c, N), 1, 6))
set_option maxHeartbeats 3000000 in
theorem c_fm_atom (w : wX) (m : mR) (c : Nat → Option am_C) (N D : Nat) (hD : 9 ≤ D) (hT : KTy m) (hFA : FAp (m.1 229) (m.2 68) (m.1 228) (m.1 230) (m.1 206)) (hNK : NKp (m.2 18) (m.2 19)) (pKP : KPp (m.1 203) (m.2 8) (m.2 9) (m.1 214) (m.1 215) (m.1 216) (m.1 217) (m.1 221) (m.1 223) (m.1 219)) : TC w D 96 [.ref 181] (khp m c, N) (Q_fm_atom m c N) := by
  obtain ⟨D, rfl⟩ : ∃ k, D = k + 1 := ⟨D - 1, by omega⟩
  have f206 : (-1) ≤ m.1 206 ∧ m.1 206 ≤ 65535 := hT.1 206
  have f207 : 0 ≤ m.1 207 ∧ m.1 207 ≤ 4001 := hT.1 207
  have f208 : (-9223372036854775808) ≤ m.1 208 ∧ m.1 208 ≤ 9223372036854775807 := hT.1 208
  have f209 : (-9223372036854775808) ≤ m.1 209 ∧ m.1 209 ≤ 9223372036854775807 := hT.1 209
  have f210 : (-9223372036854775808) ≤ m.1 210 ∧ m.1 210 ≤ 9223372036854775807 := hT.1 210
  have f213 : 0 ≤ m.1 213 ∧ m.1 213 ≤ 1 := hT.1 213
  have f229 : 0 ≤ m.1 229 ∧ m.1 229 ≤ 576 := hT.1 229
  have f203 : 0 ≤ m.1 203 ∧ m.1 203 ≤ 90 := hT.1 203
  have f214 : 0 ≤ m.1 214 ∧ m.1 214 ≤ 12 := hT.1 214
  have f215 : 0 ≤ m.1 215 ∧ m.1 215 ≤ 12 := hT.1 215
  have f216 : 0 ≤ m.1 216 ∧ m.1 216 ≤ 16 := hT.1 216
  have f217 : 0 ≤ m.1 217 ∧ m.1 217 ≤ 8 := hT.1 217
  have f219 : 0 ≤ m.1 219 ∧ m.1 219 ≤ 8 := hT.1 219
  have f221 : 0 ≤ m.1 221 ∧ m.1 221 ≤ 16 := hT.1 221
  have f223 : 0 ≤ m.1 223 ∧ m.1 223 ≤ 16 := hT.1 223
  have f228 : 0 ≤ m.1 228 ∧ m.1 228 ≤ 288 := hT.1 228
  have f230 : 0 ≤ m.1 230 ∧ m.1 230 ≤ 30 := hT.1 230
  have f231 : (-1) ≤ m.1 231 ∧ m.1 231 ≤ 15 := hT.1 231
  refine Tc_of rfl ?_
  rw [show (khp m c, N) = (khp (mO m [] []) c, N) from by rw [mO_nil m]]
  show TT w D pm_96 (0, [(0, .ref 181)], [], (khp (mO m [] []) c, N), 0, 0) (Q_fm_atom m c N)
  refine T_ld 1 (.ref 181) rfl (fun _ => rfl) ?_
  refine K_gf 4 (.ref 6) rfl rfl kd_181 rfl rfl rfl ?_
  refine K_gf 7 (.int (i32 (m.1 207))) rfl rfl kd_6 rfl rfl rfl ?_
  refine T_sto 8 [(1, .int (i32 (m.1 207))), (0, .ref 181)] rfl (fun _ => rfl) ?_
  refine T_ld 9 (.ref 181) rfl (fun _ => rfl) ?_
  refine K_gf 12 (.ref 6) rfl rfl kd_181 rfl rfl rfl ?_
  refine K_gf 15 (.int (i32 (m.1 206))) rfl rfl kd_6 rfl rfl rfl ?_
  refine T_ld 18 (.int (i32 257)) rfl (fun _ => rfl) ?_
  refine T_icmp 60 21 rfl rfl rfl (r32 (by omega) (by omega)) ⟨by decide, by decide⟩ (fun (h1 : (m.1 206) ≠ 257) => ?_) (fun (h1 : ¬ ((m.1 206) ≠ 257)) => ?_)
  · skip
    refine T_ld 61 (.ref 181) rfl (fun _ => rfl) ?_
    refine K_gf 64 (.ref 6) rfl rfl kd_181 rfl rfl rfl ?_
    refine K_gf 67 (.int (i32 (m.1 206))) rfl rfl kd_6 rfl rfl rfl ?_
    refine T_ld 70 (.int (i32 329)) rfl (fun _ => rfl) ?_
    refine T_icmp 107 73 rfl rfl rfl (r32 (by omega) (by omega)) ⟨by decide, by decide⟩ (fun (h2 : (m.1 206) ≠ 329) => ?_) (fun (h2 : ¬ ((m.1 206) ≠ 329)) => ?_)
    · skip
      refine T_ld 108 (.ref 181) rfl (fun _ => rfl) ?_
      refine K_gf 111 (.ref 6) rfl rfl kd_181 rfl rfl rfl ?_
      refine K_gf 114 (.int (i32 (m.1 206))) rfl rfl kd_6 rfl rfl rfl ?_
      refine T_ld 117 (.int (i32 256)) rfl (fun _ => rfl) ?_
      refine T_icmp 223 120 rfl rfl rfl (r32 (by omega) (by omega)) ⟨by decide, by decide⟩ (fun (h3 : (m.1 206) ≠ 256) => ?_) (fun (h3 : ¬ ((m.1 206) ≠ 256)) => ?_)
      · skip
        refine T_ld 224 (.ref 181) rfl (fun _ => rfl) ?_
        refine K_gf 227 (.ref 6) rfl rfl kd_181 rfl rfl rfl ?_
        refine T_callx 230 76 [.ref 6] [] rfl (fun _ => rfl) rfl rfl (c_tx_refuse w (mO m [] []) c N D (by omega) hT ) (fun rr4 k5 => ?_)
        rcases k5 with ⟨m6, Tm6, Fm6, h7, rfl⟩ | ⟨xx10, m8, hx9, Tm8, Fm8, rfl⟩
        rotate_left
        · skip
          refine Or.inr ⟨_, _, _, _, rfl, ?_⟩
          exact Or.inr ⟨xx10, (mO m8 [] []), (hx9), Tm8, (fr_m (fr_s Fm8 (fr_m fr_0 rfl rfl) rfl rfl) rfl rfl), (show NKp (m8.2 18) (m8.2 19) by rewrite [(show (m8.2 18) = (m.2 18) from (fr2 Fm8 18 rfl)), (show (m8.2 19) = (m.2 19) from (fr2 Fm8 19 rfl))]; exact hNK), rfl⟩
        exact h7.elim
      · skip
        have hFB := fun (o : Int) (h : o = (m.1 229) + 1) => FA_B hFA (by omega) h
        have hbA := FA_b hFA (by omega) (by omega)
        refine T_ld 121 (.ref 181) rfl (fun _ => rfl) ?_
        refine K_gf 124 (.ref 12) rfl rfl kd_181 rfl rfl rfl ?_
        refine K_gf 127 (.ref 45) rfl rfl kd_12 rfl rfl rfl ?_
        refine T_ld 128 (.ref 181) rfl (fun _ => rfl) ?_
        refine K_gf 131 (.int (i32 (m.1 231))) rfl rfl kd_181 rfl rfl rfl ?_
        refine T_ld 132 (.ref 181) rfl (fun _ => rfl) ?_
        refine K_gf 135 (.ref 6) rfl rfl kd_181 rfl rfl rfl ?_
        refine K_gf 138 (.long (i64 (m.1 209))) rfl rfl kd_6 rfl rfl rfl ?_
        refine T_ld 139 (.ref 181) rfl (fun _ => rfl) ?_
        refine K_gf 142 (.ref 6) rfl rfl kd_181 rfl rfl rfl ?_
        refine K_gf 145 (.long (i64 (m.1 210))) rfl rfl kd_6 rfl rfl rfl ?_
        refine T_callx 148 98 [.ref 45, .int (i32 (m.1 231)), .long (i64 (m.1 209)), .long (i64 (m.1 210))] [] rfl (fun _ => rfl) rfl rfl (c_ac_parameterOf w (mO m [] []) c N D (by omega) hT (m.1 231) (m.1 209) (m.1 210) (r32 (by omega) (by omega)) (r64 (by omega) (by omega)) (r64 (by omega) (by omega)) (show (-1) ≤ (m.1 231) ∧ (m.1 231) ≤ 15 by omega)) (fun rr11 k12 => ?_)
        obtain ⟨x13, g14, h15, rfl⟩ := k12
        refine Or.inl ⟨_, _, _, _, rfl, ?_⟩
        refine T_ns (st' := [.int (i32 x13)]) rfl ?_
        obtain ⟨g14a, g14b⟩ := g14
        replace h15 : x13 = -1 ∨ 0 ≤ (m.1 231) := h15
        refine T_sto 149 [(2, .int (i32 x13)), (1, .int (i32 (m.1 207))), (0, .ref 181)] rfl (fun _ => rfl) ?_
        refine T_ld 150 (.int (i32 x13)) rfl (fun _ => rfl) ?_
        refine T_ld 151 (.int (i32 (-1))) rfl (fun _ => rfl) ?_
        refine T_icmp 196 154 rfl rfl rfl (r32 (by omega) (by omega)) ⟨by decide, by decide⟩ (fun (h16 : x13 = (-1)) => ?_) (fun (h16 : ¬ (x13 = (-1))) => ?_)
        · skip
          refine T_ld 197 (.ref 181) rfl (fun _ => rfl) ?_
          refine T_callx 200 99 [.ref 181] [] rfl (fun _ => rfl) rfl rfl (c_fm_placeSlot w (mO m [] []) c N D (by omega) hT (show KPp (m.1 203) (m.2 8) (m.2 9) (m.1 214) (m.1 215) (m.1 216) (m.1 217) (m.1 221) (m.1 223) (m.1 219) by exact pKP)) (fun rr17 k18 => ?_)
          rcases k18 with ⟨m19, sl, Tm19, Fm19, g20, rfl⟩ | ⟨xx23, m21, hx22, Tm21, Fm21, rfl⟩
          rotate_left
          · skip
            refine Or.inr ⟨_, _, _, _, rfl, ?_⟩
            exact Or.inr ⟨xx23, (mO m21 [] []), (hx22), Tm21, (fr_m (fr_s Fm21 (fr_m fr_0 rfl rfl) rfl rfl) rfl rfl), (show NKp (m21.2 18) (m21.2 19) by rewrite [(show (m21.2 18) = (m.2 18) from (fr2 Fm21 18 rfl)), (show (m21.2 19) = (m.2 19) from (fr2 Fm21 19 rfl))]; exact hNK), rfl⟩
          refine Or.inl ⟨_, _, _, _, rfl, ?_⟩
          refine K_nb (st' := [.int (i32 sl)]) rfl ?_
          obtain ⟨g20a, g20b⟩ := g20
          have g24 : (-1) ≤ m19.1 206 ∧ m19.1 206 ≤ 65535 := Tm19.1 206
          have g25 : 0 ≤ m19.1 207 ∧ m19.1 207 ≤ 4001 := Tm19.1 207
          have g26 : (-9223372036854775808) ≤ m19.1 208 ∧ m19.1 208 ≤ 9223372036854775807 := Tm19.1 208
          have g27 : (-9223372036854775808) ≤ m19.1 209 ∧ m19.1 209 ≤ 9223372036854775807 := Tm19.1 209
          have g28 : (-9223372036854775808) ≤ m19.1 210 ∧ m19.1 210 ≤ 9223372036854775807 := Tm19.1 210
          refine T_sto 201 [(3, .int (i32 sl)), (2, .int (i32 x13)), (1, .int (i32 (m.1 207))), (0, .ref 181)] rfl (fun _ => rfl) ?_
          refine T_ld 202 (.ref 181) rfl (fun _ => rfl) ?_
          refine T_ld 205 (.int (i32 400)) rfl (fun _ => rfl) ?_
          refine T_ld 206 (.int (i32 sl)) rfl (fun _ => rfl) ?_
          refine T_ld 207 (.int (i32 0)) rfl (fun _ => rfl) ?_
          refine T_ld 208 (.ref 181) rfl (fun _ => rfl) ?_
          refine K_gf 211 (.ref 12) rfl rfl kd_181 rfl rfl rfl ?_
          refine T_ld 212 (.int (i32 sl)) rfl (fun _ => rfl) ?_
          refine T_callx 215 100 [.ref 12, .int (i32 sl)] [.int (i32 0), .int (i32 sl), .int (i32 400), .ref 181] rfl (fun _ => rfl) rfl rfl (c_pr_slotWidth w (mO m19 [] []) c N D (by omega) Tm19 sl (r32 (by omega) (by omega)) (show 0 ≤ sl ∧ sl ≤ 219 by omega)) (fun rr29 k30 => ?_)
          obtain ⟨x31, g32, rfl⟩ := k30
          refine Or.inl ⟨_, _, _, _, rfl, ?_⟩
          refine T_ns (st' := [.int (i32 x31), .int (i32 0), .int (i32 sl), .int (i32 400), .ref 181]) rfl ?_
          obtain ⟨g32a, g32b⟩ := g32
          refine T_ld 216 (.int (i32 (m.1 207))) rfl (fun _ => rfl) ?_
          refine T_callx 219 97 [.ref 181, .int (i32 400), .int (i32 sl), .int (i32 0), .int (i32 x31), .int (i32 (m.1 207))] [] rfl (fun _ => rfl) rfl rfl (c_fm_add w (mO m19 [] []) c N D (by omega) Tm19 400 sl 0 x31 (m.1 207) ⟨by decide, by decide⟩ (r32 (by omega) (by omega)) ⟨by decide, by decide⟩ (r32 (by omega) (by omega)) (r32 (by omega) (by omega)) (show 0 ≤ (m19.1 229) ∧ (m19.1 229) ≤ 575 by rewrite [(show (m19.1 229) = (m.1 229) from (fr1 Fm19 229 rfl))]; omega) (show 0 ≤ (400 : Int) ∧ (400 : Int) ≤ 65535 by omega) (show 0 ≤ sl ∧ sl ≤ 1089 by omega) (show 0 ≤ (0 : Int) ∧ (0 : Int) ≤ 1089 by omega) (show 0 ≤ x31 ∧ x31 ≤ 64 by omega) (show 0 ≤ (m.1 207) ∧ (m.1 207) ≤ 4001 by omega) (show (400 : Int) ≠ 400 ∨ sl ≤ 220 by omega) (show (400 : Int) ≠ 401 ∨ sl ≤ 3 by omega) (show NKp (m19.2 18) (m19.2 19) by rewrite [(show (m19.2 18) = (m.2 18) from (fr2 Fm19 18 rfl)), (show (m19.2 19) = (m.2 19) from (fr2 Fm19 19 rfl))]; exact hNK)) (fun rr33 k34 => ?_)
          obtain ⟨m35, nn, Tm35, Fm35, g36, h37, h38, rfl⟩ := k34
          refine Or.inl ⟨_, _, _, _, rfl, ?_⟩
          refine K_nb (st' := [.int (i32 nn)]) rfl ?_
          obtain ⟨g36a, g36b⟩ := g36
          have g39 : 0 ≤ m35.1 213 ∧ m35.1 213 ≤ 1 := Tm35.1 213
          have g40 : 0 ≤ m35.1 229 ∧ m35.1 229 ≤ 576 := Tm35.1 229
          replace h37 : (m35.1 229) = (m19.1 229) + 1 := h37
          rewrite [(show (m19.1 229) = (m.1 229) from (fr1 Fm19 229 rfl))] at h37
          replace h38 : NKp (m35.2 18) (m35.2 19) := h38
          have hNK := h38
          have hFB := hFB _ (by omega)
          refine T_pop 220 rfl (fun _ => rfl) ?_
          refine T_goto 230 rfl (fun _ => rfl) ?_
          refine T_ret rfl (fun _ => rfl) ?_
          exact Or.inl ⟨(mO m35 [] []), Tm35, (fr_m (fr_s Fm35 (fr_m (fr_s Fm19 (fr_m fr_0 rfl rfl) rfl rfl) rfl rfl) rfl rfl) rfl rfl), (show FBp (m35.1 229) (m.2 68) (m.1 228) (m.1 230) by first | (exact hFB) | (exfalso; omega)), (show NKp (m35.2 18) (m35.2 19) by first | (exact hNK) | (exfalso; omega)), rfl⟩
        · skip
          refine T_ld 155 (.ref 181) rfl (fun _ => rfl) ?_
          refine K_gf 158 (.ref 12) rfl rfl kd_181 rfl rfl rfl ?_
          refine K_gf 161 (.ref 45) rfl rfl kd_12 rfl rfl rfl ?_
          refine K_gf 164 (.ref 47) rfl rfl kd_45 rfl rfl rfl ?_
          refine T_ld 165 (.ref 181) rfl (fun _ => rfl) ?_
          refine K_gf 168 (.int (i32 (m.1 231))) rfl rfl kd_181 rfl rfl rfl ?_
          refine T_ld 169 (.int (i32 4)) rfl (fun _ => rfl) ?_
          refine T_imul 170 rfl rfl ?_
          refine T_ld 171 (.int (i32 x13)) rfl (fun _ => rfl) ?_
          refine T_iadd 172 rfl rfl ?_
          refine K_iald 173 40 (m.2 40) rfl rfl rfl (by omega) (show (((m.1 231) * 4) + x13) < (64 : Int) by omega) rfl ?_
          have e41 : 0 ≤ m.2 40 (((m.1 231) * 4) + x13) ∧ m.2 40 (((m.1 231) * 4) + x13) ≤ 64 := hT.2.1 40 (((m.1 231) * 4) + x13)
          refine T_sto 174 [(3, .int (i32 ((m.2 40) (((m.1 231) * 4) + x13)))), (2, .int (i32 x13)), (1, .int (i32 (m.1 207))), (0, .ref 181)] rfl (fun _ => rfl) ?_
          refine T_ld 175 (.ref 181) rfl (fun _ => rfl) ?_
          refine K_gf 178 (.ref 6) rfl rfl kd_181 rfl rfl rfl ?_
          refine T_callx 181 50 [.ref 6] [] rfl (fun _ => rfl) rfl rfl (c_tx_advance w (mO m [] []) c N D (by omega) hT ) (fun rr42 k43 => ?_)
          rcases k43 with ⟨m44, Tm44, Fm44, h45, rfl⟩ | ⟨xx48, m46, hx47, Tm46, Fm46, rfl⟩
          rotate_left
          · skip
            refine Or.inr ⟨_, _, _, _, rfl, ?_⟩
            exact Or.inr ⟨xx48, (mO m46 [] []), (hx47), Tm46, (fr_m (fr_s Fm46 (fr_m fr_0 rfl rfl) rfl rfl) rfl rfl), (show NKp (m46.2 18) (m46.2 19) by rewrite [(show (m46.2 18) = (m.2 18) from (fr2 Fm46 18 rfl)), (show (m46.2 19) = (m.2 19) from (fr2 Fm46 19 rfl))]; exact hNK), rfl⟩
          refine Or.inl ⟨_, _, _, _, rfl, ?_⟩
          refine K_nb (st' := []) rfl ?_
          have g49 : (-1) ≤ m44.1 206 ∧ m44.1 206 ≤ 65535 := Tm44.1 206
          have g50 : 0 ≤ m44.1 207 ∧ m44.1 207 ≤ 4001 := Tm44.1 207
          have g51 : (-9223372036854775808) ≤ m44.1 208 ∧ m44.1 208 ≤ 9223372036854775807 := Tm44.1 208
          have g52 : (-9223372036854775808) ≤ m44.1 209 ∧ m44.1 209 ≤ 9223372036854775807 := Tm44.1 209
          have g53 : (-9223372036854775808) ≤ m44.1 210 ∧ m44.1 210 ≤ 9223372036854775807 := Tm44.1 210
          replace h45 : (m.1 213) = 0 := h45
          refine T_ld 182 (.ref 181) rfl (fun _ => rfl) ?_
          refine T_ld 185 (.int (i32 401)) rfl (fun _ => rfl) ?_
          refine T_ld 186 (.int (i32 x13)) rfl (fun _ => rfl) ?_
          refine T_ld 187 (.int (i32 0)) rfl (fun _ => rfl) ?_
          refine T_ld 188 (.int (i32 ((m.2 40) (((m.1 231) * 4) + x13)))) rfl (fun _ => rfl) ?_
          refine T_ld 189 (.int (i32 (m.1 207))) rfl (fun _ => rfl) ?_
          refine T_callx 192 97 [.ref 181, .int (i32 401), .int (i32 x13), .int (i32 0), .int (i32 ((m.2 40) (((m.1 231) * 4) + x13))), .int (i32 (m.1 207))] [] rfl (fun _ => rfl) rfl rfl (c_fm_add w (mO m44 [] []) c N D (by omega) Tm44 401 x13 0 ((m.2 40) (((m.1 231) * 4) + x13)) (m.1 207) ⟨by decide, by decide⟩ (r32 (by omega) (by omega)) ⟨by decide, by decide⟩ (r32 (by omega) (by omega)) (r32 (by omega) (by omega)) (show 0 ≤ (m44.1 229) ∧ (m44.1 229) ≤ 575 by rewrite [(show (m44.1 229) = (m.1 229) from (fr1 Fm44 229 rfl))]; omega) (show 0 ≤ (401 : Int) ∧ (401 : Int) ≤ 65535 by omega) (show 0 ≤ x13 ∧ x13 ≤ 1089 by omega) (show 0 ≤ (0 : Int) ∧ (0 : Int) ≤ 1089 by omega) (show 0 ≤ ((m.2 40) (((m.1 231) * 4) + x13)) ∧ ((m.2 40) (((m.1 231) * 4) + x13)) ≤ 64 by omega) (show 0 ≤ (m.1 207) ∧ (m.1 207) ≤ 4001 by omega) (show (401 : Int) ≠ 400 ∨ x13 ≤ 220 by omega) (show (401 : Int) ≠ 401 ∨ x13 ≤ 3 by omega) (show NKp (m44.2 18) (m44.2 19) by rewrite [(show (m44.2 18) = (m.2 18) from (fr2 Fm44 18 rfl)), (show (m44.2 19) = (m.2 19) from (fr2 Fm44 19 rfl))]; exact hNK)) (fun rr54 k55 => ?_)
          obtain ⟨m56, nn, Tm56, Fm56, g57, h58, h59, rfl⟩ := k55
          refine Or.inl ⟨_, _, _, _, rfl, ?_⟩
          refine K_nb (st' := [.int (i32 nn)]) rfl ?_
          obtain ⟨g57a, g57b⟩ := g57
          have g60 : 0 ≤ m56.1 213 ∧ m56.1 213 ≤ 1 := Tm56.1 213
          have g61 : 0 ≤ m56.1 229 ∧ m56.1 229 ≤ 576 := Tm56.1 229
          replace h58 : (m56.1 229) = (m44.1 229) + 1 := h58
          rewrite [(show (m44.1 229) = (m.1 229) from (fr1 Fm44 229 rfl))] at h58
          replace h59 : NKp (m56.2 18) (m56.2 19) := h59
          have hNK := h59
          refine T_pop 193 rfl (fun _ => rfl) ?_
          have hFB := hFB _ (by omega)
          refine T_goto 220 rfl (fun _ => rfl) ?_
          refine T_goto 230 rfl (fun _ => rfl) ?_
          refine T_ret rfl (fun _ => rfl) ?_
          exact Or.inl ⟨(mO m56 [] []), Tm56, (fr_m (fr_s Fm56 (fr_m (fr_s Fm44 (fr_m fr_0 rfl rfl) rfl rfl) rfl rfl) rfl rfl) rfl rfl), (show FBp (m56.1 229) (m.2 68) (m.1 228) (m.1 230) by first | (exact hFB) | (exfalso; omega)), (show NKp (m56.2 18) (m56.2 19) by first | (exact hNK) | (exfalso; omega)), rfl⟩
    · skip
      have hFB := fun (o : Int) (h : o = (m.1 229) + 1) => FA_B hFA (by omega) h
      have hbA := FA_b hFA (by omega) (by omega)
      refine T_ld 74 (.ref 181) rfl (fun _ => rfl) ?_
      refine K_gf 77 (.ref 6) rfl rfl kd_181 rfl rfl rfl ?_
      refine T_callx 80 50 [.ref 6] [] rfl (fun _ => rfl) rfl rfl (c_tx_advance w (mO m [] []) c N D (by omega) hT ) (fun rr62 k63 => ?_)
      rcases k63 with ⟨m64, Tm64, Fm64, h65, rfl⟩ | ⟨xx68, m66, hx67, Tm66, Fm66, rfl⟩
      rotate_left
      · skip
        refine Or.inr ⟨_, _, _, _, rfl, ?_⟩
        exact Or.inr ⟨xx68, (mO m66 [] []), (hx67), Tm66, (fr_m (fr_s Fm66 (fr_m fr_0 rfl rfl) rfl rfl) rfl rfl), (show NKp (m66.2 18) (m66.2 19) by rewrite [(show (m66.2 18) = (m.2 18) from (fr2 Fm66 18 rfl)), (show (m66.2 19) = (m.2 19) from (fr2 Fm66 19 rfl))]; exact hNK), rfl⟩
      refine Or.inl ⟨_, _, _, _, rfl, ?_⟩
      refine K_nb (st' := []) rfl ?_
      have g69 : (-1) ≤ m64.1 206 ∧ m64.1 206 ≤ 65535 := Tm64.1 206
      have g70 : 0 ≤ m64.1 207 ∧ m64.1 207 ≤ 4001 := Tm64.1 207
      have g71 : (-9223372036854775808) ≤ m64.1 208 ∧ m64.1 208 ≤ 9223372036854775807 := Tm64.1 208
      have g72 : (-9223372036854775808) ≤ m64.1 209 ∧ m64.1 209 ≤ 9223372036854775807 := Tm64.1 209
      have g73 : (-9223372036854775808) ≤ m64.1 210 ∧ m64.1 210 ≤ 9223372036854775807 := Tm64.1 210
      replace h65 : (m.1 213) = 0 := h65
      refine T_ld 81 (.ref 181) rfl (fun _ => rfl) ?_
      refine T_ld 84 (.int (i32 400)) rfl (fun _ => rfl) ?_
      refine T_ld 85 (.ref 181) rfl (fun _ => rfl) ?_
      refine K_gf 88 (.ref 6) rfl rfl kd_181 rfl rfl rfl ?_
      refine T_ld 91 (.int (i32 301)) rfl (fun _ => rfl) ?_
      refine T_callx 94 83 [.ref 6, .int (i32 301)] [.int (i32 400), .ref 181] rfl (fun _ => rfl) rfl rfl (c_tx_known w (mO m64 [] []) c N D (by omega) Tm64 301 ⟨by decide, by decide⟩) (fun rr74 k75 => ?_)
      rcases k75 with ⟨m76, kn, Tm76, Fm76, g77, h78, h79, h80, rfl⟩ | ⟨xx83, m81, hx82, Tm81, Fm81, rfl⟩
      rotate_left
      · skip
        refine Or.inr ⟨_, _, _, _, rfl, ?_⟩
        exact Or.inr ⟨xx83, (mO m81 [] []), (hx82), Tm81, (fr_m (fr_s Fm81 (fr_m (fr_s Fm64 (fr_m fr_0 rfl rfl) rfl rfl) rfl rfl) rfl rfl) rfl rfl), (show NKp (m81.2 18) (m81.2 19) by rewrite [(show (m81.2 18) = (m.2 18) from ((fr2 Fm81 18 rfl).trans (fr2 Fm64 18 rfl))), (show (m81.2 19) = (m.2 19) from ((fr2 Fm81 19 rfl).trans (fr2 Fm64 19 rfl)))]; exact hNK), rfl⟩
      refine Or.inl ⟨_, _, _, _, rfl, ?_⟩
      refine K_nb (st' := [.int (i32 kn), .int (i32 400), .ref 181]) rfl ?_
      obtain ⟨g77a, g77b⟩ := g77
      have g84 : (-1) ≤ m76.1 206 ∧ m76.1 206 ≤ 65535 := Tm76.1 206
      have g85 : 0 ≤ m76.1 207 ∧ m76.1 207 ≤ 4001 := Tm76.1 207
      have g86 : (-9223372036854775808) ≤ m76.1 208 ∧ m76.1 208 ≤ 9223372036854775807 := Tm76.1 208
      have g87 : (-9223372036854775808) ≤ m76.1 209 ∧ m76.1 209 ≤ 9223372036854775807 := Tm76.1 209
      have g88 : (-9223372036854775808) ≤ m76.1 210 ∧ m76.1 210 ≤ 9223372036854775807 := Tm76.1 210
      replace h78 : KNo (m64.1 203) (m64.2 8) (m64.2 9) (301 : Int) kn := h78
      rewrite [(show (m64.1 203) = (m.1 203) from (fr1 Fm64 203 rfl)), (show (m64.2 8) = (m.2 8) from (fr2 Fm64 8 rfl)), (show (m64.2 9) = (m.2 9) from (fr2 Fm64 9 rfl))] at h78
      have hKn := h78
      replace h79 : (m64.1 213) = 0 := h79
      rewrite [(show (m64.1 213) = (m.1 213) from (fr1 Fm64 213 rfl))] at h79
      replace h80 : (m64.1 206) = 256 := h80
      have hkn := KNo_w pKP hKn
      refine T_ld 96 (.int (i32 17)) rfl (fun _ => rfl) ?_
      refine T_imul 97 rfl rfl ?_
      refine T_ld 98 (.int (i32 0)) rfl (fun _ => rfl) ?_
      refine T_ld 99 (.int (i32 1)) rfl (fun _ => rfl) ?_
      refine T_ld 100 (.int (i32 (m.1 207))) rfl (fun _ => rfl) ?_
      refine T_callx 103 97 [.ref 181, .int (i32 400), .int (i32 (kn * 17)), .int (i32 0), .int (i32 1), .int (i32 (m.1 207))] [] rfl (fun _ => rfl) rfl rfl (c_fm_add w (mO m76 [] []) c N D (by omega) Tm76 400 (kn * 17) 0 1 (m.1 207) ⟨by decide, by decide⟩ (r32 (by omega) (by omega)) ⟨by decide, by decide⟩ ⟨by decide, by decide⟩ (r32 (by omega) (by omega)) (show 0 ≤ (m76.1 229) ∧ (m76.1 229) ≤ 575 by rewrite [(show (m76.1 229) = (m.1 229) from ((fr1 Fm76 229 rfl).trans (fr1 Fm64 229 rfl)))]; omega) (show 0 ≤ (400 : Int) ∧ (400 : Int) ≤ 65535 by omega) (show 0 ≤ (kn * 17) ∧ (kn * 17) ≤ 1089 by omega) (show 0 ≤ (0 : Int) ∧ (0 : Int) ≤ 1089 by omega) (show 0 ≤ (1 : Int) ∧ (1 : Int) ≤ 64 by omega) (show 0 ≤ (m.1 207) ∧ (m.1 207) ≤ 4001 by omega) (show (400 : Int) ≠ 400 ∨ (kn * 17) ≤ 220 by omega) (show (400 : Int) ≠ 401 ∨ (kn * 17) ≤ 3 by omega) (show NKp (m76.2 18) (m76.2 19) by rewrite [(show (m76.2 18) = (m.2 18) from ((fr2 Fm76 18 rfl).trans (fr2 Fm64 18 rfl))), (show (m76.2 19) = (m.2 19) from ((fr2 Fm76 19 rfl).trans (fr2 Fm64 19 rfl)))]; exact hNK)) (fun rr89 k90 => ?_)
      obtain ⟨m91, nn, Tm91, Fm91, g92, h93, h94, rfl⟩ := k90
      refine Or.inl ⟨_, _, _, _, rfl, ?_⟩
      refine K_nb (st' := [.int (i32 nn)]) rfl ?_
      obtain ⟨g92a, g92b⟩ := g92
      have g95 : 0 ≤ m91.1 213 ∧ m91.1 213 ≤ 1 := Tm91.1 213
      have g96 : 0 ≤ m91.1 229 ∧ m91.1 229 ≤ 576 := Tm91.1 229
      replace h93 : (m91.1 229) = (m76.1 229) + 1 := h93
      rewrite [(show (m76.1 229) = (m.1 229) from ((fr1 Fm76 229 rfl).trans (fr1 Fm64 229 rfl)))] at h93
      replace h94 : NKp (m91.2 18) (m91.2 19) := h94
      have hNK := h94
      refine T_pop 104 rfl (fun _ => rfl) ?_
      have hFB := hFB _ (by omega)
      refine T_goto 230 rfl (fun _ => rfl) ?_
      refine T_ret rfl (fun _ => rfl) ?_
      exact Or.inl ⟨(mO m91 [] []), Tm91, (fr_m (fr_s Fm91 (fr_m (fr_s Fm76 (fr_m (fr_s Fm64 (fr_m fr_0 rfl rfl) rfl rfl) rfl rfl) rfl rfl) rfl rfl) rfl rfl) rfl rfl), (show FBp (m91.1 229) (m.2 68) (m.1 228) (m.1 230) by first | (exact hFB) | (exfalso; omega)), (show NKp (m91.2 18) (m91.2 19) by first | (exact hNK) | (exfalso; omega)), rfl⟩
  · skip
    have hFB := fun (o : Int) (h : o = (m.1 229) + 1) => FA_B hFA (by omega) h
    have hbA := FA_b hFA (by omega) (by omega)
    refine T_ld 22 (.ref 181) rfl (fun _ => rfl) ?_
    refine K_gf 25 (.ref 6) rfl rfl kd_181 rfl rfl rfl ?_
    refine K_gf 28 (.long (i64 (m.1 208))) rfl rfl kd_6 rfl rfl rfl ?_
    refine T_sto 29 [(2, .long (i64 (m.1 208))), (1, .int (i32 (m.1 207))), (0, .ref 181)] rfl (fun _ => rfl) ?_
    refine T_ld 30 (.ref 181) rfl (fun _ => rfl) ?_
    refine K_gf 33 (.ref 6) rfl rfl kd_181 rfl rfl rfl ?_
    refine T_callx 36 50 [.ref 6] [] rfl (fun _ => rfl) rfl rfl (c_tx_advance w (mO m [] []) c N D (by omega) hT ) (fun rr97 k98 => ?_)
    rcases k98 with ⟨m99, Tm99, Fm99, h100, rfl⟩ | ⟨xx103, m101, hx102, Tm101, Fm101, rfl⟩
    rotate_left
    · skip
      refine Or.inr ⟨_, _, _, _, rfl, ?_⟩
      exact Or.inr ⟨xx103, (mO m101 [] []), (hx102), Tm101, (fr_m (fr_s Fm101 (fr_m fr_0 rfl rfl) rfl rfl) rfl rfl), (show NKp (m101.2 18) (m101.2 19) by rewrite [(show (m101.2 18) = (m.2 18) from (fr2 Fm101 18 rfl)), (show (m101.2 19) = (m.2 19) from (fr2 Fm101 19 rfl))]; exact hNK), rfl⟩
    refine Or.inl ⟨_, _, _, _, rfl, ?_⟩
    refine K_nb (st' := []) rfl ?_
    have g104 : (-1) ≤ m99.1 206 ∧ m99.1 206 ≤ 65535 := Tm99.1 206
    have g105 : 0 ≤ m99.1 207 ∧ m99.1 207 ≤ 4001 := Tm99.1 207
    have g106 : (-9223372036854775808) ≤ m99.1 208 ∧ m99.1 208 ≤ 9223372036854775807 := Tm99.1 208
    have g107 : (-9223372036854775808) ≤ m99.1 209 ∧ m99.1 209 ≤ 9223372036854775807 := Tm99.1 209
    have g108 : (-9223372036854775808) ≤ m99.1 210 ∧ m99.1 210 ≤ 9223372036854775807 := Tm99.1 210
    replace h100 : (m.1 213) = 0 := h100
    refine T_ld 37 (.ref 181) rfl (fun _ => rfl) ?_
    refine K_gf 40 (.ref 22) rfl rfl kd_181 rfl rfl rfl ?_
    refine K_gf 43 (.ref 29) rfl rfl kd_22 rfl rfl rfl ?_
    refine T_ld 44 (.ref 181) rfl (fun _ => rfl) ?_
    refine T_ld 47 (.int (i32 257)) rfl (fun _ => rfl) ?_
    refine T_ld 48 (.int (i32 0)) rfl (fun _ => rfl) ?_
    refine T_ld 49 (.int (i32 0)) rfl (fun _ => rfl) ?_
    refine T_ld 51 (.int (i32 64)) rfl (fun _ => rfl) ?_
    refine T_ld 52 (.int (i32 (m.1 207))) rfl (fun _ => rfl) ?_
    refine T_callx 55 97 [.ref 181, .int (i32 257), .int (i32 0), .int (i32 0), .int (i32 64), .int (i32 (m.1 207))] [.ref 29] rfl (fun _ => rfl) rfl rfl (c_fm_add w (mO m99 [] []) c N D (by omega) Tm99 257 0 0 64 (m.1 207) ⟨by decide, by decide⟩ ⟨by decide, by decide⟩ ⟨by decide, by decide⟩ ⟨by decide, by decide⟩ (r32 (by omega) (by omega)) (show 0 ≤ (m99.1 229) ∧ (m99.1 229) ≤ 575 by rewrite [(show (m99.1 229) = (m.1 229) from (fr1 Fm99 229 rfl))]; omega) (show 0 ≤ (257 : Int) ∧ (257 : Int) ≤ 65535 by omega) (show 0 ≤ (0 : Int) ∧ (0 : Int) ≤ 1089 by omega) (show 0 ≤ (0 : Int) ∧ (0 : Int) ≤ 1089 by omega) (show 0 ≤ (64 : Int) ∧ (64 : Int) ≤ 64 by omega) (show 0 ≤ (m.1 207) ∧ (m.1 207) ≤ 4001 by omega) (show (257 : Int) ≠ 400 ∨ (0 : Int) ≤ 220 by omega) (show (257 : Int) ≠ 401 ∨ (0 : Int) ≤ 3 by omega) (show NKp (m99.2 18) (m99.2 19) by rewrite [(show (m99.2 18) = (m.2 18) from (fr2 Fm99 18 rfl)), (show (m99.2 19) = (m.2 19) from (fr2 Fm99 19 rfl))]; exact hNK)) (fun rr109 k110 => ?_)
    obtain ⟨m111, nn, Tm111, Fm111, g112, h113, h114, rfl⟩ := k110
    refine Or.inl ⟨_, _, _, _, rfl, ?_⟩
    refine K_nb (st' := [.int (i32 nn), .ref 29]) rfl ?_
    obtain ⟨g112a, g112b⟩ := g112
    have g115 : 0 ≤ m111.1 213 ∧ m111.1 213 ≤ 1 := Tm111.1 213
    have g116 : 0 ≤ m111.1 229 ∧ m111.1 229 ≤ 576 := Tm111.1 229
    replace h113 : (m111.1 229) = (m99.1 229) + 1 := h113
    rewrite [(show (m99.1 229) = (m.1 229) from (fr1 Fm99 229 rfl))] at h113
    replace h114 : NKp (m111.2 18) (m111.2 19) := h114
    have hNK := h114
    refine T_ld 56 (.long (i64 (m.1 208))) rfl (fun _ => rfl) ?_
    have G117 : ∀ j, (-9223372036854775808) ≤ (upI (m.2 24) nn (m.1 208)) j ∧ (upI (m.2 24) nn (m.1 208)) j ≤ 9223372036854775807 := upI_rg (hT.2.1 24) ⟨by omega, by omega⟩
    refine K_last (a' := [(24, upI (m.2 24) nn (m.1 208))]) 57 24 (m.2 24) rfl rfl rfl (by omega) (show nn < (1090 : Int) by omega) (show (m111.2 24) = (m.2 24) from ((fr2 Fm111 24 rfl).trans (fr2 Fm99 24 rfl))) rfl ?_
    have hFB := hFB _ (by omega)
    refine T_goto 230 rfl (fun _ => rfl) ?_
    refine T_ret rfl (fun _ => rfl) ?_
    exact Or.inl ⟨(mO m111 [] [(24, upI (m.2 24) nn (m.1 208))]), (KTy_mO Tm111 rfl rfl trivial ⟨G117, trivial⟩), (fr_m (fr_s Fm111 (fr_m (fr_s Fm99 (fr_m fr_0 rfl rfl) rfl rfl) rfl rfl) rfl rfl) rfl rfl), (show FBp (m111.1 229) (m.2 68) (m.1 228) (m.1 230) by first | (exact hFB) | (exfalso; omega)), (show NKp (m111.2 18) (m111.2 19) by first | (exact hNK) | (exfalso; omega)), rfl⟩
def fF_fm_suffixes : List Nat := [205, 206, 207, 208, 209, 210, 211, 212, 213, 220, 229]
def fA_fm_suffixes : List Nat := [18, 19, 20, 22, 23, 70]
def Q_fm_suffixes (m : mR) (c : Nat → Option am_C) (N : Nat) : ag_Re af_T → Prop := fun R => (∃ (M : mR), KTy M ∧ fr fF_fm_suffixes fA_fm_suffixes m M ∧ (FBp (M.1 229) (m.2 68) (m.1 228) (m.1 230)) ∧ (NKp (M.2 18) (M.2 19)) ∧ R = (.inl (none), (khp M c, N), 0, 0)) ∨ (∃ (x : Nat) (M : mR), (x = 0) ∧ (KTy M) ∧ (fr fF_fm_suffixes fA_fm_suffixes m M) ∧ (NKp (M.2 18) (M.2 19)) ∧ R = (.inr x, (khp M c, N), 1, 6))
set_option maxHeartbeats 3000000 in
theorem c_fm_suffixes (w : wX) (m : mR) (c : Nat → Option am_C) (N D : Nat) (hD : 9 ≤ D) (hT : KTy m) (hFB : FBp (m.1 229) (m.2 68) (m.1 228) (m.1 230)) (hNK : NKp (m.2 18) (m.2 19)) : TC w D 102 [.ref 181] (khp m c, N) (Q_fm_suffixes m c N) := by
  obtain ⟨D, rfl⟩ : ∃ k, D = k + 1 := ⟨D - 1, by omega⟩
  have f206 : (-1) ≤ m.1 206 ∧ m.1 206 ≤ 65535 := hT.1 206
  have f207 : 0 ≤ m.1 207 ∧ m.1 207 ≤ 4001 := hT.1 207
  have f208 : (-9223372036854775808) ≤ m.1 208 ∧ m.1 208 ≤ 9223372036854775807 := hT.1 208
  have f213 : 0 ≤ m.1 213 ∧ m.1 213 ≤ 1 := hT.1 213
  have f229 : 0 ≤ m.1 229 ∧ m.1 229 ≤ 576 := hT.1 229
  have f228 : 0 ≤ m.1 228 ∧ m.1 228 ≤ 288 := hT.1 228
  have f230 : 0 ≤ m.1 230 ∧ m.1 230 ≤ 30 := hT.1 230
  refine Tc_of rfl ?_
  rw [show (khp m c, N) = (khp (mO m [] []) c, N) from by rw [mO_nil m]]
  show TT w D pm_102 (0, [(0, .ref 181)], [], (khp (mO m [] []) c, N), 0, 0) (Q_fm_suffixes m c N)
  refine T_ld 1 (.int (i32 0)) rfl (fun _ => rfl) ?_
  refine T_sto 2 [(1, .int (i32 0)), (0, .ref 181)] rfl (fun _ => rfl) ?_
  have L2_3 : ∀ (n11 : Nat) (v1 : Int) (m2 : mR), (R32 v1) → KTy m2 → fr [205, 206, 207, 208, 209, 210, 211, 212, 213, 220, 229] [18, 19, 20, 22, 23, 70] (mO m [] []) m2 → (0 ≤ v1) → (FBp (m2.1 229) (m.2 68) (m.1 228) (m.1 230)) → (NKp (m2.2 18) (m2.2 19)) → (0 ≤ v1 ∧ v1 ≤ 4001) → 4010 - v1 < (n11 : Int) → TT w D pm_102 (2, [(0, .ref 181), (1, .int (i32 v1))], [], (khp (mO m2 [] []) c, N), 0, 0) (Q_fm_suffixes m c N) := by
    intro n11
    induction n11 with
    | zero =>
      intro v1 m2 q8 Tm2 Fm2 ic4 ic5 ic6 ic7 hmu
      obtain ⟨q8a, q8b⟩ := id q8
      have q9_206 : (-1) ≤ m2.1 206 ∧ m2.1 206 ≤ 65535 := Tm2.1 206
      have q9_207 : 0 ≤ m2.1 207 ∧ m2.1 207 ≤ 4001 := Tm2.1 207
      have q9_208 : (-9223372036854775808) ≤ m2.1 208 ∧ m2.1 208 ≤ 9223372036854775807 := Tm2.1 208
      have q9_213 : 0 ≤ m2.1 213 ∧ m2.1 213 ≤ 1 := Tm2.1 213
      have q9_229 : 0 ≤ m2.1 229 ∧ m2.1 229 ≤ 576 := Tm2.1 229
      have hFB := ic5
      have hNK := ic6
      exfalso
      omega
    | succ n11 ih =>
      intro v1 m2 q8 Tm2 Fm2 ic4 ic5 ic6 ic7 hmu
      obtain ⟨q8a, q8b⟩ := id q8
      have q9_206 : (-1) ≤ m2.1 206 ∧ m2.1 206 ≤ 65535 := Tm2.1 206
      have q9_207 : 0 ≤ m2.1 207 ∧ m2.1 207 ≤ 4001 := Tm2.1 207
      have q9_208 : (-9223372036854775808) ≤ m2.1 208 ∧ m2.1 208 ≤ 9223372036854775807 := Tm2.1 208
      have q9_213 : 0 ≤ m2.1 213 ∧ m2.1 213 ≤ 1 := Tm2.1 213
      have q9_229 : 0 ≤ m2.1 229 ∧ m2.1 229 ≤ 576 := Tm2.1 229
      have hFB := ic5
      have hNK := ic6
      have ih12 := ih
      refine T_ld 3 (.int (i32 v1)) rfl (fun _ => rfl) ?_
      refine T_ld 6 (.int (i32 4000)) rfl (fun _ => rfl) ?_
      refine T_icmp 293 9 rfl rfl rfl (r32 (by omega) (by omega)) ⟨by decide, by decide⟩ (fun (h13 : (4000 : Int) < v1) => ?_) (fun (h13 : ¬ ((4000 : Int) < v1)) => ?_)
      · skip
        refine T_ret rfl (fun _ => rfl) ?_
        exact Or.inl ⟨(mO m2 [] []), Tm2, (fr_m (fr_s Fm2 (fr_m fr_0 rfl rfl) rfl rfl) rfl rfl), (show FBp (m2.1 229) (m.2 68) (m.1 228) (m.1 230) by first | (exact hFB) | (exfalso; omega)), (show NKp (m2.2 18) (m2.2 19) by first | (exact hNK) | (exfalso; omega)), rfl⟩
      · skip
        refine T_ld 10 (.ref 181) rfl (fun _ => rfl) ?_
        refine K_gf 13 (.ref 6) rfl rfl kd_181 rfl rfl rfl ?_
        refine K_gf 16 (.int (i32 (m2.1 206))) rfl rfl kd_6 rfl rfl rfl ?_
        refine T_ld 18 (.int (i32 91)) rfl (fun _ => rfl) ?_
        refine T_icmp 34 21 rfl rfl rfl (r32 (by omega) (by omega)) ⟨by decide, by decide⟩ (fun (h14 : (m2.1 206) = 91) => ?_) (fun (h14 : ¬ ((m2.1 206) = 91)) => ?_)
        · skip
          have hbB := FB_b hFB (by omega) (by omega)
          refine T_ld 35 (.ref 181) rfl (fun _ => rfl) ?_
          refine K_gf 38 (.ref 184) rfl rfl kd_181 rfl rfl rfl ?_
          refine T_ld 39 (.ref 181) rfl (fun _ => rfl) ?_
          refine K_gf 42 (.int (i32 (m2.1 229))) rfl rfl kd_181 rfl rfl rfl ?_
          refine T_ld 43 (.int (i32 1)) rfl (fun _ => rfl) ?_
          refine T_isub 44 rfl rfl ?_
          refine K_iald 45 70 (m2.2 70) rfl rfl rfl (by omega) (show ((m2.1 229) - 1) < (576 : Int) by omega) rfl ?_
          have e15 : 0 ≤ (m2.2 70) ((m2.1 229) - 1) ∧ (m2.2 70) ((m2.1 229) - 1) ≤ 1089 := (Tm2.2.1 70) ((m2.1 229) - 1)
          refine T_sto 46 [(2, .int (i32 ((m2.2 70) ((m2.1 229) - 1)))), (0, .ref 181), (1, .int (i32 v1))] rfl (fun _ => rfl) ?_
          refine T_ld 47 (.ref 181) rfl (fun _ => rfl) ?_
          refine K_gf 50 (.ref 6) rfl rfl kd_181 rfl rfl rfl ?_
          refine K_gf 53 (.int (i32 (m2.1 206))) rfl rfl kd_6 rfl rfl rfl ?_
          refine T_ld 56 (.int (i32 330)) rfl (fun _ => rfl) ?_
          refine T_icmp 63 59 rfl rfl rfl (r32 (by omega) (by omega)) ⟨by decide, by decide⟩ (fun (h16 : (m2.1 206) ≠ 330) => ?_) (fun (h16 : ¬ ((m2.1 206) ≠ 330)) => by exfalso; omega)
          refine T_ld 64 (.int (i32 0)) rfl (fun _ => rfl) ?_
          refine T_sto 65 [(3, .int (i32 0)), (2, .int (i32 ((m2.2 70) ((m2.1 229) - 1)))), (0, .ref 181), (1, .int (i32 v1))] rfl (fun _ => rfl) ?_
          refine T_ld 66 (.ref 181) rfl (fun _ => rfl) ?_
          refine K_gf 69 (.ref 6) rfl rfl kd_181 rfl rfl rfl ?_
          refine T_callx 72 50 [.ref 6] [] rfl (fun _ => rfl) rfl rfl (c_tx_advance w (mO m2 [] []) c N D (by omega) Tm2 ) (fun rr17 k18 => ?_)
          rcases k18 with ⟨m19, Tm19, Fm19, h20, rfl⟩ | ⟨xx23, m21, hx22, Tm21, Fm21, rfl⟩
          rotate_left
          · skip
            refine Or.inr ⟨_, _, _, _, rfl, ?_⟩
            exact Or.inr ⟨xx23, (mO m21 [] []), (hx22), Tm21, (fr_m (fr_s Fm21 (fr_m (fr_s Fm2 (fr_m fr_0 rfl rfl) rfl rfl) rfl rfl) rfl rfl) rfl rfl), (show NKp (m21.2 18) (m21.2 19) by rewrite [(show (m21.2 18) = (m2.2 18) from (fr2 Fm21 18 rfl)), (show (m21.2 19) = (m2.2 19) from (fr2 Fm21 19 rfl))]; exact hNK), rfl⟩
          refine Or.inl ⟨_, _, _, _, rfl, ?_⟩
          refine K_nb (st' := []) rfl ?_
          have g24 : (-1) ≤ m19.1 206 ∧ m19.1 206 ≤ 65535 := Tm19.1 206
          have g25 : 0 ≤ m19.1 207 ∧ m19.1 207 ≤ 4001 := Tm19.1 207
          have g26 : (-9223372036854775808) ≤ m19.1 208 ∧ m19.1 208 ≤ 9223372036854775807 := Tm19.1 208
          replace h20 : (m2.1 213) = 0 := h20
          refine T_ld 73 (.int (i32 0)) rfl (fun _ => rfl) ?_
          refine T_if 122 76 rfl rfl rfl ⟨by decide, by decide⟩ (fun _ => ?_) (fun h27 => absurd (show (0 : Int) = 0 by decide) h27)
          refine T_ld 123 (.ref 181) rfl (fun _ => rfl) ?_
          refine K_gf 126 (.ref 6) rfl rfl kd_181 rfl rfl rfl ?_
          refine K_gf 129 (.int (i32 (m19.1 207))) rfl rfl kd_6 rfl rfl rfl ?_
          refine T_sto 131 [(4, .int (i32 (m19.1 207))), (3, .int (i32 0)), (2, .int (i32 ((m2.2 70) ((m2.1 229) - 1)))), (0, .ref 181), (1, .int (i32 v1))] rfl (fun _ => rfl) ?_
          refine T_ld 132 (.ref 181) rfl (fun _ => rfl) ?_
          refine K_gf 135 (.ref 6) rfl rfl kd_181 rfl rfl rfl ?_
          refine K_gf 138 (.long (i64 (m19.1 208))) rfl rfl kd_6 rfl rfl rfl ?_
          refine T_sto 140 [(5, .long (i64 (m19.1 208))), (4, .int (i32 (m19.1 207))), (3, .int (i32 0)), (2, .int (i32 ((m2.2 70) ((m2.1 229) - 1)))), (0, .ref 181), (1, .int (i32 v1))] rfl (fun _ => rfl) ?_
          refine T_ld 141 (.ref 181) rfl (fun _ => rfl) ?_
          refine K_gf 144 (.ref 6) rfl rfl kd_181 rfl rfl rfl ?_
          refine T_ld 147 (.int (i32 257)) rfl (fun _ => rfl) ?_
          refine T_callx 150 78 [.ref 6, .int (i32 257)] [] rfl (fun _ => rfl) rfl rfl (c_tx_expect w (mO m19 [] []) c N D (by omega) Tm19 257 ⟨by decide, by decide⟩) (fun rr28 k29 => ?_)
          rcases k29 with ⟨m30, Tm30, Fm30, h31, h32, rfl⟩ | ⟨xx35, m33, hx34, Tm33, Fm33, rfl⟩
          rotate_left
          · skip
            refine Or.inr ⟨_, _, _, _, rfl, ?_⟩
            exact Or.inr ⟨xx35, (mO m33 [] []), (hx34), Tm33, (fr_m (fr_s Fm33 (fr_m (fr_s Fm19 (fr_m (fr_s Fm2 (fr_m fr_0 rfl rfl) rfl rfl) rfl rfl) rfl rfl) rfl rfl) rfl rfl) rfl rfl), (show NKp (m33.2 18) (m33.2 19) by rewrite [(show (m33.2 18) = (m2.2 18) from ((fr2 Fm33 18 rfl).trans (fr2 Fm19 18 rfl))), (show (m33.2 19) = (m2.2 19) from ((fr2 Fm33 19 rfl).trans (fr2 Fm19 19 rfl)))]; exact hNK), rfl⟩
          refine Or.inl ⟨_, _, _, _, rfl, ?_⟩
          refine K_nb (st' := []) rfl ?_
          have g36 : (-1) ≤ m30.1 206 ∧ m30.1 206 ≤ 65535 := Tm30.1 206
          have g37 : 0 ≤ m30.1 207 ∧ m30.1 207 ≤ 4001 := Tm30.1 207
          have g38 : (-9223372036854775808) ≤ m30.1 208 ∧ m30.1 208 ≤ 9223372036854775807 := Tm30.1 208
          replace h31 : (m19.1 206) = (257 : Int) := h31
          replace h32 : (m19.1 213) = 0 := h32
          rewrite [(show (m19.1 213) = (m2.1 213) from (fr1 Fm19 213 rfl))] at h32
          refine T_ld 151 (.ref 181) rfl (fun _ => rfl) ?_
          refine K_gf 154 (.ref 6) rfl rfl kd_181 rfl rfl rfl ?_
          refine T_ld 156 (.int (i32 58)) rfl (fun _ => rfl) ?_
          refine T_callx 159 78 [.ref 6, .int (i32 58)] [] rfl (fun _ => rfl) rfl rfl (c_tx_expect w (mO m30 [] []) c N D (by omega) Tm30 58 ⟨by decide, by decide⟩) (fun rr39 k40 => ?_)
          rcases k40 with ⟨m41, Tm41, Fm41, h42, h43, rfl⟩ | ⟨xx46, m44, hx45, Tm44, Fm44, rfl⟩
          rotate_left
          · skip
            refine Or.inr ⟨_, _, _, _, rfl, ?_⟩
            exact Or.inr ⟨xx46, (mO m44 [] []), (hx45), Tm44, (fr_m (fr_s Fm44 (fr_m (fr_s Fm30 (fr_m (fr_s Fm19 (fr_m (fr_s Fm2 (fr_m fr_0 rfl rfl) rfl rfl) rfl rfl) rfl rfl) rfl rfl) rfl rfl) rfl rfl) rfl rfl) rfl rfl), (show NKp (m44.2 18) (m44.2 19) by rewrite [(show (m44.2 18) = (m2.2 18) from ((fr2 Fm44 18 rfl).trans ((fr2 Fm30 18 rfl).trans (fr2 Fm19 18 rfl)))), (show (m44.2 19) = (m2.2 19) from ((fr2 Fm44 19 rfl).trans ((fr2 Fm30 19 rfl).trans (fr2 Fm19 19 rfl))))]; exact hNK), rfl⟩
          refine Or.inl ⟨_, _, _, _, rfl, ?_⟩
          refine K_nb (st' := []) rfl ?_
          have g47 : (-1) ≤ m41.1 206 ∧ m41.1 206 ≤ 65535 := Tm41.1 206
          have g48 : 0 ≤ m41.1 207 ∧ m41.1 207 ≤ 4001 := Tm41.1 207
          have g49 : (-9223372036854775808) ≤ m41.1 208 ∧ m41.1 208 ≤ 9223372036854775807 := Tm41.1 208
          replace h42 : (m30.1 206) = (58 : Int) := h42
          replace h43 : (m30.1 213) = 0 := h43
          rewrite [(show (m30.1 213) = (m2.1 213) from ((fr1 Fm30 213 rfl).trans (fr1 Fm19 213 rfl)))] at h43
          refine T_ld 160 (.ref 181) rfl (fun _ => rfl) ?_
          refine K_gf 163 (.ref 6) rfl rfl kd_181 rfl rfl rfl ?_
          refine K_gf 166 (.long (i64 (m41.1 208))) rfl rfl kd_6 rfl rfl rfl ?_
          refine T_sto 168 [(7, .long (i64 (m41.1 208))), (5, .long (i64 (m19.1 208))), (4, .int (i32 (m19.1 207))), (3, .int (i32 0)), (2, .int (i32 ((m2.2 70) ((m2.1 229) - 1)))), (0, .ref 181), (1, .int (i32 v1))] rfl (fun _ => rfl) ?_
          refine T_ld 169 (.ref 181) rfl (fun _ => rfl) ?_
          refine K_gf 172 (.ref 6) rfl rfl kd_181 rfl rfl rfl ?_
          refine T_ld 175 (.int (i32 257)) rfl (fun _ => rfl) ?_
          refine T_callx 178 78 [.ref 6, .int (i32 257)] [] rfl (fun _ => rfl) rfl rfl (c_tx_expect w (mO m41 [] []) c N D (by omega) Tm41 257 ⟨by decide, by decide⟩) (fun rr50 k51 => ?_)
          rcases k51 with ⟨m52, Tm52, Fm52, h53, h54, rfl⟩ | ⟨xx57, m55, hx56, Tm55, Fm55, rfl⟩
          rotate_left
          · skip
            refine Or.inr ⟨_, _, _, _, rfl, ?_⟩
            exact Or.inr ⟨xx57, (mO m55 [] []), (hx56), Tm55, (fr_m (fr_s Fm55 (fr_m (fr_s Fm41 (fr_m (fr_s Fm30 (fr_m (fr_s Fm19 (fr_m (fr_s Fm2 (fr_m fr_0 rfl rfl) rfl rfl) rfl rfl) rfl rfl) rfl rfl) rfl rfl) rfl rfl) rfl rfl) rfl rfl) rfl rfl) rfl rfl), (show NKp (m55.2 18) (m55.2 19) by rewrite [(show (m55.2 18) = (m2.2 18) from ((fr2 Fm55 18 rfl).trans ((fr2 Fm41 18 rfl).trans ((fr2 Fm30 18 rfl).trans (fr2 Fm19 18 rfl))))), (show (m55.2 19) = (m2.2 19) from ((fr2 Fm55 19 rfl).trans ((fr2 Fm41 19 rfl).trans ((fr2 Fm30 19 rfl).trans (fr2 Fm19 19 rfl)))))]; exact hNK), rfl⟩
          refine Or.inl ⟨_, _, _, _, rfl, ?_⟩
          refine K_nb (st' := []) rfl ?_
          have g58 : (-1) ≤ m52.1 206 ∧ m52.1 206 ≤ 65535 := Tm52.1 206
          have g59 : 0 ≤ m52.1 207 ∧ m52.1 207 ≤ 4001 := Tm52.1 207
          have g60 : (-9223372036854775808) ≤ m52.1 208 ∧ m52.1 208 ≤ 9223372036854775807 := Tm52.1 208
          replace h53 : (m41.1 206) = (257 : Int) := h53
          replace h54 : (m41.1 213) = 0 := h54
          rewrite [(show (m41.1 213) = (m2.1 213) from ((fr1 Fm41 213 rfl).trans ((fr1 Fm30 213 rfl).trans (fr1 Fm19 213 rfl))))] at h54
          refine T_ld 180 (.long (i64 (m19.1 208))) rfl (fun _ => rfl) ?_
          refine T_ld 181 (.long (i64 0)) rfl (fun _ => rfl) ?_
          refine T_lcmp 182 rfl rfl (r64 (by omega) (by omega)) ⟨by decide, by decide⟩ (fun z61 h62 => ?_)
          obtain ⟨h62a, h62b, h62c, h62d, h62e⟩ := h62
          refine T_if 220 185 rfl rfl rfl (r32 (by omega) (by omega)) (fun (h63 : z61 < 0) => ?_) (fun (h63 : ¬ (z61 < 0)) => ?_)
          · skip
            have hl64 : (m19.1 208) < 0 := by omega
            refine T_ld 221 (.int (i32 0)) rfl (fun _ => rfl) ?_
            refine T_sto 223 [(9, .int (i32 0)), (7, .long (i64 (m41.1 208))), (5, .long (i64 (m19.1 208))), (4, .int (i32 (m19.1 207))), (3, .int (i32 0)), (2, .int (i32 ((m2.2 70) ((m2.1 229) - 1)))), (0, .ref 181), (1, .int (i32 v1))] rfl (fun _ => rfl) ?_
            refine T_ld 225 (.int (i32 0)) rfl (fun _ => rfl) ?_
            refine T_if 239 228 rfl rfl rfl ⟨by decide, by decide⟩ (fun h65 => absurd (show (0 : Int) ≠ 0 from h65) (by decide)) (fun _ => ?_)
            refine T_ld 229 (.ref 181) rfl (fun _ => rfl) ?_
            refine K_gf 232 (.ref 6) rfl rfl kd_181 rfl rfl rfl ?_
            refine T_ld 234 (.int (i32 7)) rfl (fun _ => rfl) ?_
            refine T_ld 236 (.int (i32 (m19.1 207))) rfl (fun _ => rfl) ?_
            refine T_callx 239 51 [.ref 6, .int (i32 7), .int (i32 (m19.1 207))] [] rfl (fun _ => rfl) rfl rfl (c_tx_fail w (mO m52 [] []) c N D (by omega) Tm52 7 (m19.1 207) ⟨by decide, by decide⟩ (r32 (by omega) (by omega)) (show 1 ≤ (7 : Int) ∧ (7 : Int) ≤ 8 by omega) (show 0 ≤ (m19.1 207) ∧ (m19.1 207) ≤ 4001 by omega)) (fun rr66 k67 => ?_)
            rcases k67 with ⟨m68, Tm68, Fm68, h69, rfl⟩ | ⟨xx72, m70, hx71, Tm70, Fm70, rfl⟩
            rotate_left
            · skip
              refine Or.inr ⟨_, _, _, _, rfl, ?_⟩
              exact Or.inr ⟨xx72, (mO m70 [] []), (hx71), Tm70, (fr_m (fr_s Fm70 (fr_m (fr_s Fm52 (fr_m (fr_s Fm41 (fr_m (fr_s Fm30 (fr_m (fr_s Fm19 (fr_m (fr_s Fm2 (fr_m fr_0 rfl rfl) rfl rfl) rfl rfl) rfl rfl) rfl rfl) rfl rfl) rfl rfl) rfl rfl) rfl rfl) rfl rfl) rfl rfl) rfl rfl) rfl rfl), (show NKp (m70.2 18) (m70.2 19) by rewrite [(show (m70.2 18) = (m2.2 18) from ((fr2 Fm70 18 rfl).trans ((fr2 Fm52 18 rfl).trans ((fr2 Fm41 18 rfl).trans ((fr2 Fm30 18 rfl).trans (fr2 Fm19 18 rfl)))))), (show (m70.2 19) = (m2.2 19) from ((fr2 Fm70 19 rfl).trans ((fr2 Fm52 19 rfl).trans ((fr2 Fm41 19 rfl).trans ((fr2 Fm30 19 rfl).trans (fr2 Fm19 19 rfl))))))]; exact hNK), rfl⟩
            exact h69.elim
          · skip
            have hl73 : (m19.1 208) ≥ 0 := by omega
            refine T_ld 187 (.long (i64 (m19.1 208))) rfl (fun _ => rfl) ?_
            refine T_ld 188 (.ref 181) rfl (fun _ => rfl) ?_
            refine K_gf 191 (.ref 22) rfl rfl kd_181 rfl rfl rfl ?_
            refine K_gf 194 (.ref 27) rfl rfl kd_22 rfl rfl rfl ?_
            refine T_ld 195 (.int (i32 ((m2.2 70) ((m2.1 229) - 1)))) rfl (fun _ => rfl) ?_
            refine K_iald 196 22 (m2.2 22) rfl rfl rfl (by omega) (show ((m2.2 70) ((m2.1 229) - 1)) < (1090 : Int) by omega) (show (m52.2 22) = (m2.2 22) from ((fr2 Fm52 22 rfl).trans ((fr2 Fm41 22 rfl).trans ((fr2 Fm30 22 rfl).trans (fr2 Fm19 22 rfl))))) ?_
            have e74 : 0 ≤ (m2.2 22) ((m2.2 70) ((m2.1 229) - 1)) ∧ (m2.2 22) ((m2.2 70) ((m2.1 229) - 1)) ≤ 64 := (Tm2.2.1 22) ((m2.2 70) ((m2.1 229) - 1))
            refine T_i2l 197 rfl rfl (r32 (by omega) (by omega)) ?_
            refine T_lcmp 198 rfl rfl (r64 (by omega) (by omega)) (r64 (by omega) (by omega)) (fun z75 h76 => ?_)
            obtain ⟨h76a, h76b, h76c, h76d, h76e⟩ := h76
            refine T_if 220 201 rfl rfl rfl (r32 (by omega) (by omega)) (fun (h77 : (0 : Int) ≤ z75) => ?_) (fun (h77 : ¬ ((0 : Int) ≤ z75)) => ?_)
            · skip
              have hl78 : (m19.1 208) ≥ (m2.2 22) ((m2.2 70) ((m2.1 229) - 1)) := by omega
              refine T_ld 221 (.int (i32 0)) rfl (fun _ => rfl) ?_
              refine T_sto 223 [(9, .int (i32 0)), (7, .long (i64 (m41.1 208))), (5, .long (i64 (m19.1 208))), (4, .int (i32 (m19.1 207))), (3, .int (i32 0)), (2, .int (i32 ((m2.2 70) ((m2.1 229) - 1)))), (0, .ref 181), (1, .int (i32 v1))] rfl (fun _ => rfl) ?_
              refine T_ld 225 (.int (i32 0)) rfl (fun _ => rfl) ?_
              refine T_if 239 228 rfl rfl rfl ⟨by decide, by decide⟩ (fun h79 => absurd (show (0 : Int) ≠ 0 from h79) (by decide)) (fun _ => ?_)
              refine T_ld 229 (.ref 181) rfl (fun _ => rfl) ?_
              refine K_gf 232 (.ref 6) rfl rfl kd_181 rfl rfl rfl ?_
              refine T_ld 234 (.int (i32 7)) rfl (fun _ => rfl) ?_
              refine T_ld 236 (.int (i32 (m19.1 207))) rfl (fun _ => rfl) ?_
              refine T_callx 239 51 [.ref 6, .int (i32 7), .int (i32 (m19.1 207))] [] rfl (fun _ => rfl) rfl rfl (c_tx_fail w (mO m52 [] []) c N D (by omega) Tm52 7 (m19.1 207) ⟨by decide, by decide⟩ (r32 (by omega) (by omega)) (show 1 ≤ (7 : Int) ∧ (7 : Int) ≤ 8 by omega) (show 0 ≤ (m19.1 207) ∧ (m19.1 207) ≤ 4001 by omega)) (fun rr80 k81 => ?_)
              rcases k81 with ⟨m82, Tm82, Fm82, h83, rfl⟩ | ⟨xx86, m84, hx85, Tm84, Fm84, rfl⟩
              rotate_left
              · skip
                refine Or.inr ⟨_, _, _, _, rfl, ?_⟩
                exact Or.inr ⟨xx86, (mO m84 [] []), (hx85), Tm84, (fr_m (fr_s Fm84 (fr_m (fr_s Fm52 (fr_m (fr_s Fm41 (fr_m (fr_s Fm30 (fr_m (fr_s Fm19 (fr_m (fr_s Fm2 (fr_m fr_0 rfl rfl) rfl rfl) rfl rfl) rfl rfl) rfl rfl) rfl rfl) rfl rfl) rfl rfl) rfl rfl) rfl rfl) rfl rfl) rfl rfl) rfl rfl), (show NKp (m84.2 18) (m84.2 19) by rewrite [(show (m84.2 18) = (m2.2 18) from ((fr2 Fm84 18 rfl).trans ((fr2 Fm52 18 rfl).trans ((fr2 Fm41 18 rfl).trans ((fr2 Fm30 18 rfl).trans (fr2 Fm19 18 rfl)))))), (show (m84.2 19) = (m2.2 19) from ((fr2 Fm84 19 rfl).trans ((fr2 Fm52 19 rfl).trans ((fr2 Fm41 19 rfl).trans ((fr2 Fm30 19 rfl).trans (fr2 Fm19 19 rfl))))))]; exact hNK), rfl⟩
              exact h83.elim
            · skip
              have hl87 : (m19.1 208) < (m2.2 22) ((m2.2 70) ((m2.1 229) - 1)) := by omega
              refine T_ld 203 (.long (i64 (m41.1 208))) rfl (fun _ => rfl) ?_
              refine T_ld 204 (.long (i64 0)) rfl (fun _ => rfl) ?_
              refine T_lcmp 205 rfl rfl (r64 (by omega) (by omega)) ⟨by decide, by decide⟩ (fun z88 h89 => ?_)
              obtain ⟨h89a, h89b, h89c, h89d, h89e⟩ := h89
              refine T_if 220 208 rfl rfl rfl (r32 (by omega) (by omega)) (fun (h90 : z88 < 0) => ?_) (fun (h90 : ¬ (z88 < 0)) => ?_)
              · skip
                have hl91 : (m41.1 208) < 0 := by omega
                refine T_ld 221 (.int (i32 0)) rfl (fun _ => rfl) ?_
                refine T_sto 223 [(9, .int (i32 0)), (7, .long (i64 (m41.1 208))), (5, .long (i64 (m19.1 208))), (4, .int (i32 (m19.1 207))), (3, .int (i32 0)), (2, .int (i32 ((m2.2 70) ((m2.1 229) - 1)))), (0, .ref 181), (1, .int (i32 v1))] rfl (fun _ => rfl) ?_
                refine T_ld 225 (.int (i32 0)) rfl (fun _ => rfl) ?_
                refine T_if 239 228 rfl rfl rfl ⟨by decide, by decide⟩ (fun h92 => absurd (show (0 : Int) ≠ 0 from h92) (by decide)) (fun _ => ?_)
                refine T_ld 229 (.ref 181) rfl (fun _ => rfl) ?_
                refine K_gf 232 (.ref 6) rfl rfl kd_181 rfl rfl rfl ?_
                refine T_ld 234 (.int (i32 7)) rfl (fun _ => rfl) ?_
                refine T_ld 236 (.int (i32 (m19.1 207))) rfl (fun _ => rfl) ?_
                refine T_callx 239 51 [.ref 6, .int (i32 7), .int (i32 (m19.1 207))] [] rfl (fun _ => rfl) rfl rfl (c_tx_fail w (mO m52 [] []) c N D (by omega) Tm52 7 (m19.1 207) ⟨by decide, by decide⟩ (r32 (by omega) (by omega)) (show 1 ≤ (7 : Int) ∧ (7 : Int) ≤ 8 by omega) (show 0 ≤ (m19.1 207) ∧ (m19.1 207) ≤ 4001 by omega)) (fun rr93 k94 => ?_)
                rcases k94 with ⟨m95, Tm95, Fm95, h96, rfl⟩ | ⟨xx99, m97, hx98, Tm97, Fm97, rfl⟩
                rotate_left
                · skip
                  refine Or.inr ⟨_, _, _, _, rfl, ?_⟩
                  exact Or.inr ⟨xx99, (mO m97 [] []), (hx98), Tm97, (fr_m (fr_s Fm97 (fr_m (fr_s Fm52 (fr_m (fr_s Fm41 (fr_m (fr_s Fm30 (fr_m (fr_s Fm19 (fr_m (fr_s Fm2 (fr_m fr_0 rfl rfl) rfl rfl) rfl rfl) rfl rfl) rfl rfl) rfl rfl) rfl rfl) rfl rfl) rfl rfl) rfl rfl) rfl rfl) rfl rfl) rfl rfl), (show NKp (m97.2 18) (m97.2 19) by rewrite [(show (m97.2 18) = (m2.2 18) from ((fr2 Fm97 18 rfl).trans ((fr2 Fm52 18 rfl).trans ((fr2 Fm41 18 rfl).trans ((fr2 Fm30 18 rfl).trans (fr2 Fm19 18 rfl)))))), (show (m97.2 19) = (m2.2 19) from ((fr2 Fm97 19 rfl).trans ((fr2 Fm52 19 rfl).trans ((fr2 Fm41 19 rfl).trans ((fr2 Fm30 19 rfl).trans (fr2 Fm19 19 rfl))))))]; exact hNK), rfl⟩
                exact h96.elim
              · skip
                have hl100 : (m41.1 208) ≥ 0 := by omega
                refine T_ld 210 (.long (i64 (m41.1 208))) rfl (fun _ => rfl) ?_
                refine T_ld 212 (.long (i64 (m19.1 208))) rfl (fun _ => rfl) ?_
                refine T_lcmp 213 rfl rfl (r64 (by omega) (by omega)) (r64 (by omega) (by omega)) (fun z101 h102 => ?_)
                obtain ⟨h102a, h102b, h102c, h102d, h102e⟩ := h102
                refine T_if 220 216 rfl rfl rfl (r32 (by omega) (by omega)) (fun (h103 : (0 : Int) < z101) => ?_) (fun (h103 : ¬ ((0 : Int) < z101)) => ?_)
                · skip
                  have hl104 : (m41.1 208) > (m19.1 208) := by omega
                  refine T_ld 221 (.int (i32 0)) rfl (fun _ => rfl) ?_
                  refine T_sto 223 [(9, .int (i32 0)), (7, .long (i64 (m41.1 208))), (5, .long (i64 (m19.1 208))), (4, .int (i32 (m19.1 207))), (3, .int (i32 0)), (2, .int (i32 ((m2.2 70) ((m2.1 229) - 1)))), (0, .ref 181), (1, .int (i32 v1))] rfl (fun _ => rfl) ?_
                  refine T_ld 225 (.int (i32 0)) rfl (fun _ => rfl) ?_
                  refine T_if 239 228 rfl rfl rfl ⟨by decide, by decide⟩ (fun h105 => absurd (show (0 : Int) ≠ 0 from h105) (by decide)) (fun _ => ?_)
                  refine T_ld 229 (.ref 181) rfl (fun _ => rfl) ?_
                  refine K_gf 232 (.ref 6) rfl rfl kd_181 rfl rfl rfl ?_
                  refine T_ld 234 (.int (i32 7)) rfl (fun _ => rfl) ?_
                  refine T_ld 236 (.int (i32 (m19.1 207))) rfl (fun _ => rfl) ?_
                  refine T_callx 239 51 [.ref 6, .int (i32 7), .int (i32 (m19.1 207))] [] rfl (fun _ => rfl) rfl rfl (c_tx_fail w (mO m52 [] []) c N D (by omega) Tm52 7 (m19.1 207) ⟨by decide, by decide⟩ (r32 (by omega) (by omega)) (show 1 ≤ (7 : Int) ∧ (7 : Int) ≤ 8 by omega) (show 0 ≤ (m19.1 207) ∧ (m19.1 207) ≤ 4001 by omega)) (fun rr106 k107 => ?_)
                  rcases k107 with ⟨m108, Tm108, Fm108, h109, rfl⟩ | ⟨xx112, m110, hx111, Tm110, Fm110, rfl⟩
                  rotate_left
                  · skip
                    refine Or.inr ⟨_, _, _, _, rfl, ?_⟩
                    exact Or.inr ⟨xx112, (mO m110 [] []), (hx111), Tm110, (fr_m (fr_s Fm110 (fr_m (fr_s Fm52 (fr_m (fr_s Fm41 (fr_m (fr_s Fm30 (fr_m (fr_s Fm19 (fr_m (fr_s Fm2 (fr_m fr_0 rfl rfl) rfl rfl) rfl rfl) rfl rfl) rfl rfl) rfl rfl) rfl rfl) rfl rfl) rfl rfl) rfl rfl) rfl rfl) rfl rfl) rfl rfl), (show NKp (m110.2 18) (m110.2 19) by rewrite [(show (m110.2 18) = (m2.2 18) from ((fr2 Fm110 18 rfl).trans ((fr2 Fm52 18 rfl).trans ((fr2 Fm41 18 rfl).trans ((fr2 Fm30 18 rfl).trans (fr2 Fm19 18 rfl)))))), (show (m110.2 19) = (m2.2 19) from ((fr2 Fm110 19 rfl).trans ((fr2 Fm52 19 rfl).trans ((fr2 Fm41 19 rfl).trans ((fr2 Fm30 19 rfl).trans (fr2 Fm19 19 rfl))))))]; exact hNK), rfl⟩
                  exact h109.elim
                · skip
                  have hl113 : (m41.1 208) ≤ (m19.1 208) := by omega
                  refine T_ld 217 (.int (i32 1)) rfl (fun _ => rfl) ?_
                  refine T_goto 221 rfl (fun _ => rfl) ?_
                  refine T_sto 223 [(9, .int (i32 1)), (7, .long (i64 (m41.1 208))), (5, .long (i64 (m19.1 208))), (4, .int (i32 (m19.1 207))), (3, .int (i32 0)), (2, .int (i32 ((m2.2 70) ((m2.1 229) - 1)))), (0, .ref 181), (1, .int (i32 v1))] rfl (fun _ => rfl) ?_
                  refine T_ld 225 (.int (i32 1)) rfl (fun _ => rfl) ?_
                  refine T_if 239 228 rfl rfl rfl ⟨by decide, by decide⟩ (fun _ => ?_) (fun h114 => absurd (show (1 : Int) ≠ 0 by decide) h114)
                  refine T_ld 240 (.ref 181) rfl (fun _ => rfl) ?_
                  refine K_gf 243 (.ref 6) rfl rfl kd_181 rfl rfl rfl ?_
                  refine T_ld 245 (.int (i32 93)) rfl (fun _ => rfl) ?_
                  refine T_callx 248 78 [.ref 6, .int (i32 93)] [] rfl (fun _ => rfl) rfl rfl (c_tx_expect w (mO m52 [] []) c N D (by omega) Tm52 93 ⟨by decide, by decide⟩) (fun rr115 k116 => ?_)
                  rcases k116 with ⟨m117, Tm117, Fm117, h118, h119, rfl⟩ | ⟨xx122, m120, hx121, Tm120, Fm120, rfl⟩
                  rotate_left
                  · skip
                    refine Or.inr ⟨_, _, _, _, rfl, ?_⟩
                    exact Or.inr ⟨xx122, (mO m120 [] []), (hx121), Tm120, (fr_m (fr_s Fm120 (fr_m (fr_s Fm52 (fr_m (fr_s Fm41 (fr_m (fr_s Fm30 (fr_m (fr_s Fm19 (fr_m (fr_s Fm2 (fr_m fr_0 rfl rfl) rfl rfl) rfl rfl) rfl rfl) rfl rfl) rfl rfl) rfl rfl) rfl rfl) rfl rfl) rfl rfl) rfl rfl) rfl rfl) rfl rfl), (show NKp (m120.2 18) (m120.2 19) by rewrite [(show (m120.2 18) = (m2.2 18) from ((fr2 Fm120 18 rfl).trans ((fr2 Fm52 18 rfl).trans ((fr2 Fm41 18 rfl).trans ((fr2 Fm30 18 rfl).trans (fr2 Fm19 18 rfl)))))), (show (m120.2 19) = (m2.2 19) from ((fr2 Fm120 19 rfl).trans ((fr2 Fm52 19 rfl).trans ((fr2 Fm41 19 rfl).trans ((fr2 Fm30 19 rfl).trans (fr2 Fm19 19 rfl))))))]; exact hNK), rfl⟩
                  refine Or.inl ⟨_, _, _, _, rfl, ?_⟩
                  refine K_nb (st' := []) rfl ?_
                  have g123 : (-1) ≤ m117.1 206 ∧ m117.1 206 ≤ 65535 := Tm117.1 206
                  have g124 : 0 ≤ m117.1 207 ∧ m117.1 207 ≤ 4001 := Tm117.1 207
                  have g125 : (-9223372036854775808) ≤ m117.1 208 ∧ m117.1 208 ≤ 9223372036854775807 := Tm117.1 208
                  replace h118 : (m52.1 206) = (93 : Int) := h118
                  replace h119 : (m52.1 213) = 0 := h119
                  rewrite [(show (m52.1 213) = (m2.1 213) from ((fr1 Fm52 213 rfl).trans ((fr1 Fm41 213 rfl).trans ((fr1 Fm30 213 rfl).trans (fr1 Fm19 213 rfl)))))] at h119
                  refine T_ld 249 (.ref 181) rfl (fun _ => rfl) ?_
                  refine T_ld 250 (.ref 181) rfl (fun _ => rfl) ?_
                  refine K_gf 253 (.int (i32 (m2.1 229))) rfl rfl kd_181 rfl (kval_c2 (k := 229) (F := fun x => .int (i32 x)) rfl (show (m117.1 229) = (m2.1 229) from ((fr1 Fm117 229 rfl).trans ((fr1 Fm52 229 rfl).trans ((fr1 Fm41 229 rfl).trans ((fr1 Fm30 229 rfl).trans (fr1 Fm19 229 rfl))))))) rfl ?_
                  refine T_ld 254 (.int (i32 1)) rfl (fun _ => rfl) ?_
                  refine T_isub 255 rfl rfl ?_
                  refine K_pf (l' := [(229, (m2.1 229) - 1)]) 258 ((m2.1 229) - 1) rfl rfl kd_181 rfl rfl rfl rfl rfl rfl rfl ?_
                  have g126 : 0 ≤ (m2.1 229) - 1 ∧ (m2.1 229) - 1 ≤ 576 := ⟨by omega, by omega⟩
                  refine T_ld 259 (.ref 181) rfl (fun _ => rfl) ?_
                  refine T_ld 262 (.int (i32 402)) rfl (fun _ => rfl) ?_
                  refine T_ld 263 (.int (i32 ((m2.2 70) ((m2.1 229) - 1)))) rfl (fun _ => rfl) ?_
                  refine T_ld 265 (.long (i64 (m41.1 208))) rfl (fun _ => rfl) ?_
                  refine T_l2i 266 rfl rfl ?_
                  refine T_ld 268 (.long (i64 (m19.1 208))) rfl (fun _ => rfl) ?_
                  refine T_ld 270 (.long (i64 (m41.1 208))) rfl (fun _ => rfl) ?_
                  refine T_lsub 271 rfl rfl ?_
                  refine T_l2i 272 rfl rfl ?_
                  refine T_ld 273 (.int (i32 1)) rfl (fun _ => rfl) ?_
                  refine T_iadd 274 rfl rfl ?_
                  refine T_ld 275 (.ref 181) rfl (fun _ => rfl) ?_
                  refine K_gf 278 (.ref 22) rfl rfl kd_181 rfl rfl rfl ?_
                  refine K_gf 281 (.ref 28) rfl rfl kd_22 rfl rfl rfl ?_
                  refine T_ld 282 (.int (i32 ((m2.2 70) ((m2.1 229) - 1)))) rfl (fun _ => rfl) ?_
                  refine K_iald 283 23 (m2.2 23) rfl rfl rfl (by omega) (show ((m2.2 70) ((m2.1 229) - 1)) < (1090 : Int) by omega) (show (m117.2 23) = (m2.2 23) from ((fr2 Fm117 23 rfl).trans ((fr2 Fm52 23 rfl).trans ((fr2 Fm41 23 rfl).trans ((fr2 Fm30 23 rfl).trans (fr2 Fm19 23 rfl)))))) ?_
                  have e127 : 0 ≤ (m2.2 23) ((m2.2 70) ((m2.1 229) - 1)) ∧ (m2.2 23) ((m2.2 70) ((m2.1 229) - 1)) ≤ 4001 := (Tm2.2.1 23) ((m2.2 70) ((m2.1 229) - 1))
                  refine T_callx 286 97 [.ref 181, .int (i32 402), .int (i32 ((m2.2 70) ((m2.1 229) - 1))), .int (i32 (m41.1 208)), .int (i32 (((m19.1 208) - (m41.1 208)) + 1)), .int (i32 ((m2.2 23) ((m2.2 70) ((m2.1 229) - 1))))] [] rfl (fun _ => rfl) rfl rfl (c_fm_add w (mO m117 [(229, (m2.1 229) - 1)] []) c N D (by omega) (KTy_mO Tm117 rfl rfl ⟨g126, trivial⟩ trivial) 402 ((m2.2 70) ((m2.1 229) - 1)) (m41.1 208) (((m19.1 208) - (m41.1 208)) + 1) ((m2.2 23) ((m2.2 70) ((m2.1 229) - 1))) ⟨by decide, by decide⟩ (r32 (by omega) (by omega)) (r32 (by omega) (by omega)) (r32 (by omega) (by omega)) (r32 (by omega) (by omega)) (show 0 ≤ ((m2.1 229) - 1) ∧ ((m2.1 229) - 1) ≤ 575 by omega) (show 0 ≤ (402 : Int) ∧ (402 : Int) ≤ 65535 by omega) (show 0 ≤ ((m2.2 70) ((m2.1 229) - 1)) ∧ ((m2.2 70) ((m2.1 229) - 1)) ≤ 1089 by omega) (show 0 ≤ (m41.1 208) ∧ (m41.1 208) ≤ 1089 by omega) (show 0 ≤ (((m19.1 208) - (m41.1 208)) + 1) ∧ (((m19.1 208) - (m41.1 208)) + 1) ≤ 64 by omega) (show 0 ≤ ((m2.2 23) ((m2.2 70) ((m2.1 229) - 1))) ∧ ((m2.2 23) ((m2.2 70) ((m2.1 229) - 1))) ≤ 4001 by omega) (show (402 : Int) ≠ 400 ∨ ((m2.2 70) ((m2.1 229) - 1)) ≤ 220 by omega) (show (402 : Int) ≠ 401 ∨ ((m2.2 70) ((m2.1 229) - 1)) ≤ 3 by omega) (show NKp (m117.2 18) (m117.2 19) by rewrite [(show (m117.2 18) = (m2.2 18) from ((fr2 Fm117 18 rfl).trans ((fr2 Fm52 18 rfl).trans ((fr2 Fm41 18 rfl).trans ((fr2 Fm30 18 rfl).trans (fr2 Fm19 18 rfl)))))), (show (m117.2 19) = (m2.2 19) from ((fr2 Fm117 19 rfl).trans ((fr2 Fm52 19 rfl).trans ((fr2 Fm41 19 rfl).trans ((fr2 Fm30 19 rfl).trans (fr2 Fm19 19 rfl))))))]; exact hNK)) (fun rr128 k129 => ?_)
                  obtain ⟨m130, nn, Tm130, Fm130, g131, h132, h133, rfl⟩ := k129
                  refine Or.inl ⟨_, _, _, _, rfl, ?_⟩
                  refine K_nb (st' := [.int (i32 nn)]) rfl ?_
                  obtain ⟨g131a, g131b⟩ := g131
                  have g134 : 0 ≤ m130.1 213 ∧ m130.1 213 ≤ 1 := Tm130.1 213
                  have g135 : 0 ≤ m130.1 229 ∧ m130.1 229 ≤ 576 := Tm130.1 229
                  replace h132 : (m130.1 229) = ((m2.1 229) - 1) + 1 := h132
                  replace h133 : NKp (m130.2 18) (m130.2 19) := h133
                  have hNK := h133
                  refine T_pop 287 rfl (fun _ => rfl) ?_
                  refine T_iinc 290 [(1, .int (i32 (v1 + 1))), (9, .int (i32 1)), (7, .long (i64 (m41.1 208))), (5, .long (i64 (m19.1 208))), (4, .int (i32 (m19.1 207))), (3, .int (i32 0)), (2, .int (i32 ((m2.2 70) ((m2.1 229) - 1)))), (0, .ref 181)] rfl rfl (by decide) rfl rfl ?_
                  refine T_goto 2 rfl (fun _ => rfl) ?_
                  refine Tm_lv (a := [(0, .ref 181), (1, .int (i32 (v1 + 1)))]) rfl rfl ⟨rfl, rfl, trivial⟩ ?_
                  exact ih12 (v1 + 1) (mO m130 [] []) (r32 (by omega) (by omega)) Tm130 (fr_m (fr_s Fm130 (fr_m (fr_s Fm117 (fr_m (fr_s Fm52 (fr_m (fr_s Fm41 (fr_m (fr_s Fm30 (fr_m (fr_s Fm19 (fr_m (fr_s Fm2 (fr_m fr_0 rfl rfl) rfl rfl) rfl rfl) rfl rfl) rfl rfl) rfl rfl) rfl rfl) rfl rfl) rfl rfl) rfl rfl) rfl rfl) rfl rfl) rfl rfl) rfl rfl) rfl rfl) (show 0 ≤ (v1 + 1) by omega) (show FBp (m130.1 229) (m.2 68) (m.1 228) (m.1 230) by exact FB_e hFB (by omega)) (show NKp (m130.2 18) (m130.2 19) by exact hNK) (show 0 ≤ (v1 + 1) ∧ (v1 + 1) ≤ 4001 by omega) (show 4010 - (v1 + 1) < (n11 : Int) by omega)
        · skip
          refine T_ld 22 (.ref 181) rfl (fun _ => rfl) ?_
          refine K_gf 25 (.ref 6) rfl rfl kd_181 rfl rfl rfl ?_
          refine K_gf 28 (.int (i32 (m2.1 206))) rfl rfl kd_6 rfl rfl rfl ?_
          refine T_ld 31 (.int (i32 330)) rfl (fun _ => rfl) ?_
          refine T_icmp 293 34 rfl rfl rfl (r32 (by omega) (by omega)) ⟨by decide, by decide⟩ (fun (h136 : (m2.1 206) ≠ 330) => ?_) (fun (h136 : ¬ ((m2.1 206) ≠ 330)) => ?_)
          · skip
            refine T_ret rfl (fun _ => rfl) ?_
            exact Or.inl ⟨(mO m2 [] []), Tm2, (fr_m (fr_s Fm2 (fr_m fr_0 rfl rfl) rfl rfl) rfl rfl), (show FBp (m2.1 229) (m.2 68) (m.1 228) (m.1 230) by first | (exact hFB) | (exfalso; omega)), (show NKp (m2.2 18) (m2.2 19) by first | (exact hNK) | (exfalso; omega)), rfl⟩
          · skip
            have hbB := FB_b hFB (by omega) (by omega)
            refine T_ld 35 (.ref 181) rfl (fun _ => rfl) ?_
            refine K_gf 38 (.ref 184) rfl rfl kd_181 rfl rfl rfl ?_
            refine T_ld 39 (.ref 181) rfl (fun _ => rfl) ?_
            refine K_gf 42 (.int (i32 (m2.1 229))) rfl rfl kd_181 rfl rfl rfl ?_
            refine T_ld 43 (.int (i32 1)) rfl (fun _ => rfl) ?_
            refine T_isub 44 rfl rfl ?_
            refine K_iald 45 70 (m2.2 70) rfl rfl rfl (by omega) (show ((m2.1 229) - 1) < (576 : Int) by omega) rfl ?_
            have e137 : 0 ≤ (m2.2 70) ((m2.1 229) - 1) ∧ (m2.2 70) ((m2.1 229) - 1) ≤ 1089 := (Tm2.2.1 70) ((m2.1 229) - 1)
            refine T_sto 46 [(2, .int (i32 ((m2.2 70) ((m2.1 229) - 1)))), (0, .ref 181), (1, .int (i32 v1))] rfl (fun _ => rfl) ?_
            refine T_ld 47 (.ref 181) rfl (fun _ => rfl) ?_
            refine K_gf 50 (.ref 6) rfl rfl kd_181 rfl rfl rfl ?_
            refine K_gf 53 (.int (i32 (m2.1 206))) rfl rfl kd_6 rfl rfl rfl ?_
            refine T_ld 56 (.int (i32 330)) rfl (fun _ => rfl) ?_
            refine T_icmp 63 59 rfl rfl rfl (r32 (by omega) (by omega)) ⟨by decide, by decide⟩ (fun (h138 : (m2.1 206) ≠ 330) => by exfalso; omega) (fun (h138 : ¬ ((m2.1 206) ≠ 330)) => ?_)
            refine T_ld 60 (.int (i32 1)) rfl (fun _ => rfl) ?_
            refine T_goto 64 rfl (fun _ => rfl) ?_
            refine T_sto 65 [(3, .int (i32 1)), (2, .int (i32 ((m2.2 70) ((m2.1 229) - 1)))), (0, .ref 181), (1, .int (i32 v1))] rfl (fun _ => rfl) ?_
            refine T_ld 66 (.ref 181) rfl (fun _ => rfl) ?_
            refine K_gf 69 (.ref 6) rfl rfl kd_181 rfl rfl rfl ?_
            refine T_callx 72 50 [.ref 6] [] rfl (fun _ => rfl) rfl rfl (c_tx_advance w (mO m2 [] []) c N D (by omega) Tm2 ) (fun rr139 k140 => ?_)
            rcases k140 with ⟨m141, Tm141, Fm141, h142, rfl⟩ | ⟨xx145, m143, hx144, Tm143, Fm143, rfl⟩
            rotate_left
            · skip
              refine Or.inr ⟨_, _, _, _, rfl, ?_⟩
              exact Or.inr ⟨xx145, (mO m143 [] []), (hx144), Tm143, (fr_m (fr_s Fm143 (fr_m (fr_s Fm2 (fr_m fr_0 rfl rfl) rfl rfl) rfl rfl) rfl rfl) rfl rfl), (show NKp (m143.2 18) (m143.2 19) by rewrite [(show (m143.2 18) = (m2.2 18) from (fr2 Fm143 18 rfl)), (show (m143.2 19) = (m2.2 19) from (fr2 Fm143 19 rfl))]; exact hNK), rfl⟩
            refine Or.inl ⟨_, _, _, _, rfl, ?_⟩
            refine K_nb (st' := []) rfl ?_
            have g146 : (-1) ≤ m141.1 206 ∧ m141.1 206 ≤ 65535 := Tm141.1 206
            have g147 : 0 ≤ m141.1 207 ∧ m141.1 207 ≤ 4001 := Tm141.1 207
            have g148 : (-9223372036854775808) ≤ m141.1 208 ∧ m141.1 208 ≤ 9223372036854775807 := Tm141.1 208
            replace h142 : (m2.1 213) = 0 := h142
            refine T_ld 73 (.int (i32 1)) rfl (fun _ => rfl) ?_
            refine T_if 122 76 rfl rfl rfl ⟨by decide, by decide⟩ (fun h149 => absurd (show (1 : Int) = 0 from h149) (by decide)) (fun _ => ?_)
            refine T_ld 77 (.ref 181) rfl (fun _ => rfl) ?_
            refine K_gf 80 (.ref 6) rfl rfl kd_181 rfl rfl rfl ?_
            refine T_ld 81 (.int (i32 1)) rfl (fun _ => rfl) ?_
            refine T_ld 83 (.int (i32 64)) rfl (fun _ => rfl) ?_
            refine T_callx 86 81 [.ref 6, .int (i32 1), .int (i32 64)] [] rfl (fun _ => rfl) rfl rfl (c_tx_within w (mO m141 [] []) c N D (by omega) Tm141 1 64 ⟨by decide, by decide⟩ ⟨by decide, by decide⟩ (show 0 ≤ (1 : Int) ∧ (1 : Int) ≤ (64 : Int) ∧ (64 : Int) ≤ 64 by omega)) (fun rr150 k151 => ?_)
            rcases k151 with ⟨m152, wn, Tm152, Fm152, g153, h154, h155, rfl⟩ | ⟨xx158, m156, hx157, Tm156, Fm156, rfl⟩
            rotate_left
            · skip
              refine Or.inr ⟨_, _, _, _, rfl, ?_⟩
              exact Or.inr ⟨xx158, (mO m156 [] []), (hx157), Tm156, (fr_m (fr_s Fm156 (fr_m (fr_s Fm141 (fr_m (fr_s Fm2 (fr_m fr_0 rfl rfl) rfl rfl) rfl rfl) rfl rfl) rfl rfl) rfl rfl) rfl rfl), (show NKp (m156.2 18) (m156.2 19) by rewrite [(show (m156.2 18) = (m2.2 18) from ((fr2 Fm156 18 rfl).trans (fr2 Fm141 18 rfl))), (show (m156.2 19) = (m2.2 19) from ((fr2 Fm156 19 rfl).trans (fr2 Fm141 19 rfl)))]; exact hNK), rfl⟩
            refine Or.inl ⟨_, _, _, _, rfl, ?_⟩
            refine K_nb (st' := [.int (i32 wn)]) rfl ?_
            obtain ⟨g153a, g153b⟩ := g153
            have g159 : (-1) ≤ m152.1 206 ∧ m152.1 206 ≤ 65535 := Tm152.1 206
            have g160 : 0 ≤ m152.1 207 ∧ m152.1 207 ≤ 4001 := Tm152.1 207
            have g161 : (-9223372036854775808) ≤ m152.1 208 ∧ m152.1 208 ≤ 9223372036854775807 := Tm152.1 208
            replace h154 : (1 : Int) ≤ wn ∧ wn ≤ (64 : Int) := h154
            replace h155 : (m141.1 213) = 0 := h155
            rewrite [(show (m141.1 213) = (m2.1 213) from (fr1 Fm141 213 rfl))] at h155
            refine T_sto 88 [(4, .int (i32 wn)), (3, .int (i32 1)), (2, .int (i32 ((m2.2 70) ((m2.1 229) - 1)))), (0, .ref 181), (1, .int (i32 v1))] rfl (fun _ => rfl) ?_
            refine T_ld 89 (.ref 181) rfl (fun _ => rfl) ?_
            refine T_ld 90 (.ref 181) rfl (fun _ => rfl) ?_
            refine K_gf 93 (.int (i32 (m2.1 229))) rfl rfl kd_181 rfl (kval_c2 (k := 229) (F := fun x => .int (i32 x)) rfl (show (m152.1 229) = (m2.1 229) from ((fr1 Fm152 229 rfl).trans (fr1 Fm141 229 rfl)))) rfl ?_
            refine T_ld 94 (.int (i32 1)) rfl (fun _ => rfl) ?_
            refine T_isub 95 rfl rfl ?_
            refine K_pf (l' := [(229, (m2.1 229) - 1)]) 98 ((m2.1 229) - 1) rfl rfl kd_181 rfl rfl rfl rfl rfl rfl rfl ?_
            have g162 : 0 ≤ (m2.1 229) - 1 ∧ (m2.1 229) - 1 ≤ 576 := ⟨by omega, by omega⟩
            refine T_ld 99 (.ref 181) rfl (fun _ => rfl) ?_
            refine T_ld 102 (.int (i32 403)) rfl (fun _ => rfl) ?_
            refine T_ld 103 (.int (i32 ((m2.2 70) ((m2.1 229) - 1)))) rfl (fun _ => rfl) ?_
            refine T_ld 104 (.int (i32 0)) rfl (fun _ => rfl) ?_
            refine T_ld 106 (.int (i32 wn)) rfl (fun _ => rfl) ?_
            refine T_ld 107 (.ref 181) rfl (fun _ => rfl) ?_
            refine K_gf 110 (.ref 22) rfl rfl kd_181 rfl rfl rfl ?_
            refine K_gf 113 (.ref 28) rfl rfl kd_22 rfl rfl rfl ?_
            refine T_ld 114 (.int (i32 ((m2.2 70) ((m2.1 229) - 1)))) rfl (fun _ => rfl) ?_
            refine K_iald 115 23 (m2.2 23) rfl rfl rfl (by omega) (show ((m2.2 70) ((m2.1 229) - 1)) < (1090 : Int) by omega) (show (m152.2 23) = (m2.2 23) from ((fr2 Fm152 23 rfl).trans (fr2 Fm141 23 rfl))) ?_
            have e163 : 0 ≤ (m2.2 23) ((m2.2 70) ((m2.1 229) - 1)) ∧ (m2.2 23) ((m2.2 70) ((m2.1 229) - 1)) ≤ 4001 := (Tm2.2.1 23) ((m2.2 70) ((m2.1 229) - 1))
            refine T_callx 118 97 [.ref 181, .int (i32 403), .int (i32 ((m2.2 70) ((m2.1 229) - 1))), .int (i32 0), .int (i32 wn), .int (i32 ((m2.2 23) ((m2.2 70) ((m2.1 229) - 1))))] [] rfl (fun _ => rfl) rfl rfl (c_fm_add w (mO m152 [(229, (m2.1 229) - 1)] []) c N D (by omega) (KTy_mO Tm152 rfl rfl ⟨g162, trivial⟩ trivial) 403 ((m2.2 70) ((m2.1 229) - 1)) 0 wn ((m2.2 23) ((m2.2 70) ((m2.1 229) - 1))) ⟨by decide, by decide⟩ (r32 (by omega) (by omega)) ⟨by decide, by decide⟩ (r32 (by omega) (by omega)) (r32 (by omega) (by omega)) (show 0 ≤ ((m2.1 229) - 1) ∧ ((m2.1 229) - 1) ≤ 575 by omega) (show 0 ≤ (403 : Int) ∧ (403 : Int) ≤ 65535 by omega) (show 0 ≤ ((m2.2 70) ((m2.1 229) - 1)) ∧ ((m2.2 70) ((m2.1 229) - 1)) ≤ 1089 by omega) (show 0 ≤ (0 : Int) ∧ (0 : Int) ≤ 1089 by omega) (show 0 ≤ wn ∧ wn ≤ 64 by omega) (show 0 ≤ ((m2.2 23) ((m2.2 70) ((m2.1 229) - 1))) ∧ ((m2.2 23) ((m2.2 70) ((m2.1 229) - 1))) ≤ 4001 by omega) (show (403 : Int) ≠ 400 ∨ ((m2.2 70) ((m2.1 229) - 1)) ≤ 220 by omega) (show (403 : Int) ≠ 401 ∨ ((m2.2 70) ((m2.1 229) - 1)) ≤ 3 by omega) (show NKp (m152.2 18) (m152.2 19) by rewrite [(show (m152.2 18) = (m2.2 18) from ((fr2 Fm152 18 rfl).trans (fr2 Fm141 18 rfl))), (show (m152.2 19) = (m2.2 19) from ((fr2 Fm152 19 rfl).trans (fr2 Fm141 19 rfl)))]; exact hNK)) (fun rr164 k165 => ?_)
            obtain ⟨m166, nn, Tm166, Fm166, g167, h168, h169, rfl⟩ := k165
            refine Or.inl ⟨_, _, _, _, rfl, ?_⟩
            refine K_nb (st' := [.int (i32 nn)]) rfl ?_
            obtain ⟨g167a, g167b⟩ := g167
            have g170 : 0 ≤ m166.1 213 ∧ m166.1 213 ≤ 1 := Tm166.1 213
            have g171 : 0 ≤ m166.1 229 ∧ m166.1 229 ≤ 576 := Tm166.1 229
            replace h168 : (m166.1 229) = ((m2.1 229) - 1) + 1 := h168
            replace h169 : NKp (m166.2 18) (m166.2 19) := h169
            have hNK := h169
            refine T_pop 119 rfl (fun _ => rfl) ?_
            refine T_goto 287 rfl (fun _ => rfl) ?_
            refine T_iinc 290 [(1, .int (i32 (v1 + 1))), (4, .int (i32 wn)), (3, .int (i32 1)), (2, .int (i32 ((m2.2 70) ((m2.1 229) - 1)))), (0, .ref 181)] rfl rfl (by decide) rfl rfl ?_
            refine T_goto 2 rfl (fun _ => rfl) ?_
            refine Tm_lv (a := [(0, .ref 181), (1, .int (i32 (v1 + 1)))]) rfl rfl ⟨rfl, rfl, trivial⟩ ?_
            exact ih12 (v1 + 1) (mO m166 [] []) (r32 (by omega) (by omega)) Tm166 (fr_m (fr_s Fm166 (fr_m (fr_s Fm152 (fr_m (fr_s Fm141 (fr_m (fr_s Fm2 (fr_m fr_0 rfl rfl) rfl rfl) rfl rfl) rfl rfl) rfl rfl) rfl rfl) rfl rfl) rfl rfl) rfl rfl) (show 0 ≤ (v1 + 1) by omega) (show FBp (m166.1 229) (m.2 68) (m.1 228) (m.1 230) by exact FB_e hFB (by omega)) (show NKp (m166.2 18) (m166.2 19) by exact hNK) (show 0 ≤ (v1 + 1) ∧ (v1 + 1) ≤ 4001 by omega) (show 4010 - (v1 + 1) < (n11 : Int) by omega)
  refine Tm_lv (a := [(0, .ref 181), (1, .int (i32 0))]) rfl rfl ⟨rfl, rfl, trivial⟩ ?_
  exact L2_3 ((4010 - (0 : Int) : Int) + 1).toNat 0 (mO m [] []) ⟨by decide, by decide⟩ hT (fr_m fr_0 rfl rfl) (show 0 ≤ (0 : Int) by omega) (show FBp (m.1 229) (m.2 68) (m.1 228) (m.1 230) by exact FB_e hFB (by omega)) (show NKp (m.2 18) (m.2 19) by exact hNK) (show 0 ≤ (0 : Int) ∧ (0 : Int) ≤ 4001 by omega) (show 4010 - (0 : Int) < ((((4010 - (0 : Int) : Int) + 1).toNat : Nat) : Int) by omega)
def fF_fm_agree : List Nat := [211, 212]
def fA_fm_agree : List Nat := [22]
def Q_fm_agree (m : mR) (c : Nat → Option am_C) (N : Nat) (l : Int) (r : Int) : ag_Re af_T → Prop := fun R => (∃ (M : mR), KTy M ∧ fr fF_fm_agree fA_fm_agree m M ∧ R = (.inl (none), (khp M c, N), 0, 0)) ∨ (∃ (x : Nat) (M : mR), (x = 0) ∧ (KTy M) ∧ (fr fF_fm_agree fA_fm_agree m M) ∧ R = (.inr x, (khp M c, N), 1, 6))
set_option maxHeartbeats 3000000 in
theorem c_fm_agree (w : wX) (m : mR) (c : Nat → Option am_C) (N D : Nat) (hD : 7 ≤ D) (hT : KTy m) (l : Int) (r : Int) (ql : R32 l) (qr : R32 r) (p0 : 0 ≤ l ∧ l ≤ 1089) (p1 : (-1) ≤ r ∧ r ≤ 1089) : TC w D 110 [.ref 181, .int (i32 l), .int (i32 r)] (khp m c, N) (Q_fm_agree m c N l r) := by
  obtain ⟨D, rfl⟩ : ∃ k, D = k + 1 := ⟨D - 1, by omega⟩
  obtain ⟨qla, qlb⟩ := id ql
  obtain ⟨qra, qrb⟩ := id qr
  refine Tc_of rfl ?_
  rw [show (khp m c, N) = (khp (mO m [] []) c, N) from by rw [mO_nil m]]
  show TT w D pm_110 (0, [(0, .ref 181), (1, .int (i32 l)), (2, .int (i32 r))], [], (khp (mO m [] []) c, N), 0, 0) (Q_fm_agree m c N l r)
  refine T_ld 1 (.int (i32 r)) rfl (fun _ => rfl) ?_
  refine T_ld 2 (.int (i32 (-1))) rfl (fun _ => rfl) ?_
  refine T_icmp 39 5 rfl rfl rfl (r32 (by omega) (by omega)) ⟨by decide, by decide⟩ (fun (h1 : r = (-1)) => ?_) (fun (h1 : ¬ (r = (-1))) => ?_)
  · skip
    refine T_ld 40 (.int (i32 0)) rfl (fun _ => rfl) ?_
    refine T_sto 41 [(3, .int (i32 0)), (0, .ref 181), (1, .int (i32 l)), (2, .int (i32 r))] rfl (fun _ => rfl) ?_
    refine T_ld 42 (.int (i32 r)) rfl (fun _ => rfl) ?_
    refine T_ld 43 (.int (i32 (-1))) rfl (fun _ => rfl) ?_
    refine T_icmp 50 46 rfl rfl rfl (r32 (by omega) (by omega)) ⟨by decide, by decide⟩ (fun (h2 : r = (-1)) => ?_) (fun (h2 : ¬ (r = (-1))) => by exfalso; omega)
    refine T_ld 51 (.int (i32 l)) rfl (fun _ => rfl) ?_
    refine T_goto 55 rfl (fun _ => rfl) ?_
    refine T_sto 57 [(4, .int (i32 l)), (3, .int (i32 0)), (0, .ref 181), (1, .int (i32 l)), (2, .int (i32 r))] rfl (fun _ => rfl) ?_
    refine T_ld 58 (.int (i32 r)) rfl (fun _ => rfl) ?_
    refine T_ld 59 (.int (i32 (-1))) rfl (fun _ => rfl) ?_
    refine T_icmp 66 62 rfl rfl rfl (r32 (by omega) (by omega)) ⟨by decide, by decide⟩ (fun (h3 : r ≠ (-1)) => by exfalso; omega) (fun (h3 : ¬ (r ≠ (-1))) => ?_)
    refine T_ld 63 (.int (i32 1)) rfl (fun _ => rfl) ?_
    refine T_goto 91 rfl (fun _ => rfl) ?_
    refine T_sto 93 [(5, .int (i32 1)), (4, .int (i32 l)), (3, .int (i32 0)), (0, .ref 181), (1, .int (i32 l)), (2, .int (i32 r))] rfl (fun _ => rfl) ?_
    refine T_ld 94 (.ref 181) rfl (fun _ => rfl) ?_
    refine K_gf 97 (.ref 22) rfl rfl kd_181 rfl rfl rfl ?_
    refine T_ld 99 (.int (i32 l)) rfl (fun _ => rfl) ?_
    refine T_ld 101 (.int (i32 1)) rfl (fun _ => rfl) ?_
    refine T_callx 104 107 [.ref 22, .int (i32 l), .int (i32 1)] [] rfl (fun _ => rfl) rfl rfl (c_nd_fits w (mO m [] []) c N D (by omega) hT l 1 (r32 (by omega) (by omega)) ⟨by decide, by decide⟩ (show 0 ≤ l ∧ l ≤ 1089 by omega) (show 0 ≤ (1 : Int) ∧ (1 : Int) ≤ 64 by omega)) (fun rr4 k5 => ?_)
    obtain ⟨m6, x7, Tm6, Fm6, g8, rfl⟩ := k5
    refine Or.inl ⟨_, _, _, _, rfl, ?_⟩
    refine K_nb (st' := [.int (i32 x7)]) rfl ?_
    obtain ⟨g8a, g8b⟩ := g8
    refine T_if 126 107 rfl rfl rfl (r32 (by omega) (by omega)) (fun (h9 : x7 ≠ 0) => ?_) (fun (h9 : ¬ (x7 ≠ 0)) => ?_)
    · skip
      refine T_ret rfl (fun _ => rfl) ?_
      exact Or.inl ⟨(mO m6 [] []), Tm6, (fr_m (fr_s Fm6 (fr_m fr_0 rfl rfl) rfl rfl) rfl rfl), rfl⟩
    · skip
      refine T_ld 108 (.ref 181) rfl (fun _ => rfl) ?_
      refine K_gf 111 (.ref 6) rfl rfl kd_181 rfl rfl rfl ?_
      refine T_ld 113 (.int (i32 7)) rfl (fun _ => rfl) ?_
      refine T_ld 114 (.ref 181) rfl (fun _ => rfl) ?_
      refine K_gf 117 (.ref 22) rfl rfl kd_181 rfl rfl rfl ?_
      refine K_gf 120 (.ref 28) rfl rfl kd_22 rfl rfl rfl ?_
      refine T_ld 122 (.int (i32 l)) rfl (fun _ => rfl) ?_
      refine K_iald 123 23 (m.2 23) rfl rfl rfl (by omega) (show l < (1090 : Int) by omega) (show (m6.2 23) = (m.2 23) from (fr2 Fm6 23 rfl)) ?_
      have e10 : 0 ≤ m.2 23 l ∧ m.2 23 l ≤ 4001 := hT.2.1 23 l
      refine T_callx 126 51 [.ref 6, .int (i32 7), .int (i32 ((m.2 23) l))] [] rfl (fun _ => rfl) rfl rfl (c_tx_fail w (mO m6 [] []) c N D (by omega) Tm6 7 ((m.2 23) l) ⟨by decide, by decide⟩ (r32 (by omega) (by omega)) (show 1 ≤ (7 : Int) ∧ (7 : Int) ≤ 8 by omega) (show 0 ≤ ((m.2 23) l) ∧ ((m.2 23) l) ≤ 4001 by omega)) (fun rr11 k12 => ?_)
      rcases k12 with ⟨m13, Tm13, Fm13, h14, rfl⟩ | ⟨xx17, m15, hx16, Tm15, Fm15, rfl⟩
      rotate_left
      · skip
        refine Or.inr ⟨_, _, _, _, rfl, ?_⟩
        exact Or.inr ⟨xx17, (mO m15 [] []), (hx16), Tm15, (fr_m (fr_s Fm15 (fr_m (fr_s Fm6 (fr_m fr_0 rfl rfl) rfl rfl) rfl rfl) rfl rfl) rfl rfl), rfl⟩
      exact h14.elim
  · skip
    refine T_ld 6 (.ref 181) rfl (fun _ => rfl) ?_
    refine K_gf 9 (.ref 22) rfl rfl kd_181 rfl rfl rfl ?_
    refine K_gf 12 (.ref 23) rfl rfl kd_22 rfl rfl rfl ?_
    refine T_ld 13 (.int (i32 l)) rfl (fun _ => rfl) ?_
    refine K_iald 14 18 (m.2 18) rfl rfl rfl (by omega) (show l < (1090 : Int) by omega) rfl ?_
    have e18 : 0 ≤ m.2 18 l ∧ m.2 18 l ≤ 65535 := hT.2.1 18 l
    refine T_ld 17 (.int (i32 257)) rfl (fun _ => rfl) ?_
    refine T_icmp 39 20 rfl rfl rfl (r32 (by omega) (by omega)) ⟨by decide, by decide⟩ (fun (h19 : (m.2 18) l ≠ 257) => ?_) (fun (h19 : ¬ ((m.2 18) l ≠ 257)) => ?_)
    · skip
      refine T_ld 40 (.int (i32 0)) rfl (fun _ => rfl) ?_
      refine T_sto 41 [(3, .int (i32 0)), (0, .ref 181), (1, .int (i32 l)), (2, .int (i32 r))] rfl (fun _ => rfl) ?_
      refine T_ld 42 (.int (i32 r)) rfl (fun _ => rfl) ?_
      refine T_ld 43 (.int (i32 (-1))) rfl (fun _ => rfl) ?_
      refine T_icmp 50 46 rfl rfl rfl (r32 (by omega) (by omega)) ⟨by decide, by decide⟩ (fun (h20 : r = (-1)) => by exfalso; omega) (fun (h20 : ¬ (r = (-1))) => ?_)
      refine T_ld 47 (.int (i32 0)) rfl (fun _ => rfl) ?_
      refine T_if 54 50 rfl rfl rfl ⟨by decide, by decide⟩ (fun _ => ?_) (fun h21 => absurd (show (0 : Int) = 0 by decide) h21)
      refine T_ld 55 (.int (i32 r)) rfl (fun _ => rfl) ?_
      refine T_sto 57 [(4, .int (i32 r)), (3, .int (i32 0)), (0, .ref 181), (1, .int (i32 l)), (2, .int (i32 r))] rfl (fun _ => rfl) ?_
      refine T_ld 58 (.int (i32 r)) rfl (fun _ => rfl) ?_
      refine T_ld 59 (.int (i32 (-1))) rfl (fun _ => rfl) ?_
      refine T_icmp 66 62 rfl rfl rfl (r32 (by omega) (by omega)) ⟨by decide, by decide⟩ (fun (h22 : r ≠ (-1)) => ?_) (fun (h22 : ¬ (r ≠ (-1))) => by exfalso; omega)
      refine T_ld 67 (.int (i32 0)) rfl (fun _ => rfl) ?_
      refine T_if 82 70 rfl rfl rfl ⟨by decide, by decide⟩ (fun _ => ?_) (fun h23 => absurd (show (0 : Int) = 0 by decide) h23)
      refine T_ld 83 (.ref 181) rfl (fun _ => rfl) ?_
      refine K_gf 86 (.ref 22) rfl rfl kd_181 rfl rfl rfl ?_
      refine K_gf 89 (.ref 27) rfl rfl kd_22 rfl rfl rfl ?_
      refine T_ld 90 (.int (i32 l)) rfl (fun _ => rfl) ?_
      refine K_iald 91 22 (m.2 22) rfl rfl rfl (by omega) (show l < (1090 : Int) by omega) rfl ?_
      have e24 : 0 ≤ (m.2 22) l ∧ (m.2 22) l ≤ 64 := (hT.2.1 22) l
      refine T_sto 93 [(5, .int (i32 ((m.2 22) l))), (4, .int (i32 r)), (3, .int (i32 0)), (0, .ref 181), (1, .int (i32 l)), (2, .int (i32 r))] rfl (fun _ => rfl) ?_
      refine T_ld 94 (.ref 181) rfl (fun _ => rfl) ?_
      refine K_gf 97 (.ref 22) rfl rfl kd_181 rfl rfl rfl ?_
      refine T_ld 99 (.int (i32 r)) rfl (fun _ => rfl) ?_
      refine T_ld 101 (.int (i32 ((m.2 22) l))) rfl (fun _ => rfl) ?_
      refine T_callx 104 107 [.ref 22, .int (i32 r), .int (i32 ((m.2 22) l))] [] rfl (fun _ => rfl) rfl rfl (c_nd_fits w (mO m [] []) c N D (by omega) hT r ((m.2 22) l) (r32 (by omega) (by omega)) (r32 (by omega) (by omega)) (show 0 ≤ r ∧ r ≤ 1089 by omega) (show 0 ≤ ((m.2 22) l) ∧ ((m.2 22) l) ≤ 64 by omega)) (fun rr25 k26 => ?_)
      obtain ⟨m27, x28, Tm27, Fm27, g29, rfl⟩ := k26
      refine Or.inl ⟨_, _, _, _, rfl, ?_⟩
      refine K_nb (st' := [.int (i32 x28)]) rfl ?_
      obtain ⟨g29a, g29b⟩ := g29
      refine T_if 126 107 rfl rfl rfl (r32 (by omega) (by omega)) (fun (h30 : x28 ≠ 0) => ?_) (fun (h30 : ¬ (x28 ≠ 0)) => ?_)
      · skip
        refine T_ret rfl (fun _ => rfl) ?_
        exact Or.inl ⟨(mO m27 [] []), Tm27, (fr_m (fr_s Fm27 (fr_m fr_0 rfl rfl) rfl rfl) rfl rfl), rfl⟩
      · skip
        refine T_ld 108 (.ref 181) rfl (fun _ => rfl) ?_
        refine K_gf 111 (.ref 6) rfl rfl kd_181 rfl rfl rfl ?_
        refine T_ld 113 (.int (i32 7)) rfl (fun _ => rfl) ?_
        refine T_ld 114 (.ref 181) rfl (fun _ => rfl) ?_
        refine K_gf 117 (.ref 22) rfl rfl kd_181 rfl rfl rfl ?_
        refine K_gf 120 (.ref 28) rfl rfl kd_22 rfl rfl rfl ?_
        refine T_ld 122 (.int (i32 r)) rfl (fun _ => rfl) ?_
        refine K_iald 123 23 (m.2 23) rfl rfl rfl (by omega) (show r < (1090 : Int) by omega) (show (m27.2 23) = (m.2 23) from (fr2 Fm27 23 rfl)) ?_
        have e31 : 0 ≤ m.2 23 r ∧ m.2 23 r ≤ 4001 := hT.2.1 23 r
        refine T_callx 126 51 [.ref 6, .int (i32 7), .int (i32 ((m.2 23) r))] [] rfl (fun _ => rfl) rfl rfl (c_tx_fail w (mO m27 [] []) c N D (by omega) Tm27 7 ((m.2 23) r) ⟨by decide, by decide⟩ (r32 (by omega) (by omega)) (show 1 ≤ (7 : Int) ∧ (7 : Int) ≤ 8 by omega) (show 0 ≤ ((m.2 23) r) ∧ ((m.2 23) r) ≤ 4001 by omega)) (fun rr32 k33 => ?_)
        rcases k33 with ⟨m34, Tm34, Fm34, h35, rfl⟩ | ⟨xx38, m36, hx37, Tm36, Fm36, rfl⟩
        rotate_left
        · skip
          refine Or.inr ⟨_, _, _, _, rfl, ?_⟩
          exact Or.inr ⟨xx38, (mO m36 [] []), (hx37), Tm36, (fr_m (fr_s Fm36 (fr_m (fr_s Fm27 (fr_m fr_0 rfl rfl) rfl rfl) rfl rfl) rfl rfl) rfl rfl), rfl⟩
        exact h35.elim
    · skip
      refine T_ld 21 (.ref 181) rfl (fun _ => rfl) ?_
      refine K_gf 24 (.ref 22) rfl rfl kd_181 rfl rfl rfl ?_
      refine K_gf 27 (.ref 23) rfl rfl kd_22 rfl rfl rfl ?_
      refine T_ld 28 (.int (i32 r)) rfl (fun _ => rfl) ?_
      refine K_iald 29 18 (m.2 18) rfl rfl rfl (by omega) (show r < (1090 : Int) by omega) rfl ?_
      have e39 : 0 ≤ m.2 18 r ∧ m.2 18 r ≤ 65535 := hT.2.1 18 r
      refine T_ld 32 (.int (i32 257)) rfl (fun _ => rfl) ?_
      refine T_icmp 39 35 rfl rfl rfl (r32 (by omega) (by omega)) ⟨by decide, by decide⟩ (fun (h40 : (m.2 18) r = 257) => ?_) (fun (h40 : ¬ ((m.2 18) r = 257)) => ?_)
      · skip
        refine T_ld 40 (.int (i32 0)) rfl (fun _ => rfl) ?_
        refine T_sto 41 [(3, .int (i32 0)), (0, .ref 181), (1, .int (i32 l)), (2, .int (i32 r))] rfl (fun _ => rfl) ?_
        refine T_ld 42 (.int (i32 r)) rfl (fun _ => rfl) ?_
        refine T_ld 43 (.int (i32 (-1))) rfl (fun _ => rfl) ?_
        refine T_icmp 50 46 rfl rfl rfl (r32 (by omega) (by omega)) ⟨by decide, by decide⟩ (fun (h41 : r = (-1)) => by exfalso; omega) (fun (h41 : ¬ (r = (-1))) => ?_)
        refine T_ld 47 (.int (i32 0)) rfl (fun _ => rfl) ?_
        refine T_if 54 50 rfl rfl rfl ⟨by decide, by decide⟩ (fun _ => ?_) (fun h42 => absurd (show (0 : Int) = 0 by decide) h42)
        refine T_ld 55 (.int (i32 r)) rfl (fun _ => rfl) ?_
        refine T_sto 57 [(4, .int (i32 r)), (3, .int (i32 0)), (0, .ref 181), (1, .int (i32 l)), (2, .int (i32 r))] rfl (fun _ => rfl) ?_
        refine T_ld 58 (.int (i32 r)) rfl (fun _ => rfl) ?_
        refine T_ld 59 (.int (i32 (-1))) rfl (fun _ => rfl) ?_
        refine T_icmp 66 62 rfl rfl rfl (r32 (by omega) (by omega)) ⟨by decide, by decide⟩ (fun (h43 : r ≠ (-1)) => ?_) (fun (h43 : ¬ (r ≠ (-1))) => by exfalso; omega)
        refine T_ld 67 (.int (i32 0)) rfl (fun _ => rfl) ?_
        refine T_if 82 70 rfl rfl rfl ⟨by decide, by decide⟩ (fun _ => ?_) (fun h44 => absurd (show (0 : Int) = 0 by decide) h44)
        refine T_ld 83 (.ref 181) rfl (fun _ => rfl) ?_
        refine K_gf 86 (.ref 22) rfl rfl kd_181 rfl rfl rfl ?_
        refine K_gf 89 (.ref 27) rfl rfl kd_22 rfl rfl rfl ?_
        refine T_ld 90 (.int (i32 l)) rfl (fun _ => rfl) ?_
        refine K_iald 91 22 (m.2 22) rfl rfl rfl (by omega) (show l < (1090 : Int) by omega) rfl ?_
        have e45 : 0 ≤ (m.2 22) l ∧ (m.2 22) l ≤ 64 := (hT.2.1 22) l
        refine T_sto 93 [(5, .int (i32 ((m.2 22) l))), (4, .int (i32 r)), (3, .int (i32 0)), (0, .ref 181), (1, .int (i32 l)), (2, .int (i32 r))] rfl (fun _ => rfl) ?_
        refine T_ld 94 (.ref 181) rfl (fun _ => rfl) ?_
        refine K_gf 97 (.ref 22) rfl rfl kd_181 rfl rfl rfl ?_
        refine T_ld 99 (.int (i32 r)) rfl (fun _ => rfl) ?_
        refine T_ld 101 (.int (i32 ((m.2 22) l))) rfl (fun _ => rfl) ?_
        refine T_callx 104 107 [.ref 22, .int (i32 r), .int (i32 ((m.2 22) l))] [] rfl (fun _ => rfl) rfl rfl (c_nd_fits w (mO m [] []) c N D (by omega) hT r ((m.2 22) l) (r32 (by omega) (by omega)) (r32 (by omega) (by omega)) (show 0 ≤ r ∧ r ≤ 1089 by omega) (show 0 ≤ ((m.2 22) l) ∧ ((m.2 22) l) ≤ 64 by omega)) (fun rr46 k47 => ?_)
        obtain ⟨m48, x49, Tm48, Fm48, g50, rfl⟩ := k47
        refine Or.inl ⟨_, _, _, _, rfl, ?_⟩
        refine K_nb (st' := [.int (i32 x49)]) rfl ?_
        obtain ⟨g50a, g50b⟩ := g50
        refine T_if 126 107 rfl rfl rfl (r32 (by omega) (by omega)) (fun (h51 : x49 ≠ 0) => ?_) (fun (h51 : ¬ (x49 ≠ 0)) => ?_)
        · skip
          refine T_ret rfl (fun _ => rfl) ?_
          exact Or.inl ⟨(mO m48 [] []), Tm48, (fr_m (fr_s Fm48 (fr_m fr_0 rfl rfl) rfl rfl) rfl rfl), rfl⟩
        · skip
          refine T_ld 108 (.ref 181) rfl (fun _ => rfl) ?_
          refine K_gf 111 (.ref 6) rfl rfl kd_181 rfl rfl rfl ?_
          refine T_ld 113 (.int (i32 7)) rfl (fun _ => rfl) ?_
          refine T_ld 114 (.ref 181) rfl (fun _ => rfl) ?_
          refine K_gf 117 (.ref 22) rfl rfl kd_181 rfl rfl rfl ?_
          refine K_gf 120 (.ref 28) rfl rfl kd_22 rfl rfl rfl ?_
          refine T_ld 122 (.int (i32 r)) rfl (fun _ => rfl) ?_
          refine K_iald 123 23 (m.2 23) rfl rfl rfl (by omega) (show r < (1090 : Int) by omega) (show (m48.2 23) = (m.2 23) from (fr2 Fm48 23 rfl)) ?_
          have e52 : 0 ≤ m.2 23 r ∧ m.2 23 r ≤ 4001 := hT.2.1 23 r
          refine T_callx 126 51 [.ref 6, .int (i32 7), .int (i32 ((m.2 23) r))] [] rfl (fun _ => rfl) rfl rfl (c_tx_fail w (mO m48 [] []) c N D (by omega) Tm48 7 ((m.2 23) r) ⟨by decide, by decide⟩ (r32 (by omega) (by omega)) (show 1 ≤ (7 : Int) ∧ (7 : Int) ≤ 8 by omega) (show 0 ≤ ((m.2 23) r) ∧ ((m.2 23) r) ≤ 4001 by omega)) (fun rr53 k54 => ?_)
          rcases k54 with ⟨m55, Tm55, Fm55, h56, rfl⟩ | ⟨xx59, m57, hx58, Tm57, Fm57, rfl⟩
          rotate_left
          · skip
            refine Or.inr ⟨_, _, _, _, rfl, ?_⟩
            exact Or.inr ⟨xx59, (mO m57 [] []), (hx58), Tm57, (fr_m (fr_s Fm57 (fr_m (fr_s Fm48 (fr_m fr_0 rfl rfl) rfl rfl) rfl rfl) rfl rfl) rfl rfl), rfl⟩
          exact h56.elim
      · skip
        refine T_ld 36 (.int (i32 1)) rfl (fun _ => rfl) ?_
        refine T_goto 40 rfl (fun _ => rfl) ?_
        refine T_sto 41 [(3, .int (i32 1)), (0, .ref 181), (1, .int (i32 l)), (2, .int (i32 r))] rfl (fun _ => rfl) ?_
        refine T_ld 42 (.int (i32 r)) rfl (fun _ => rfl) ?_
        refine T_ld 43 (.int (i32 (-1))) rfl (fun _ => rfl) ?_
        refine T_icmp 50 46 rfl rfl rfl (r32 (by omega) (by omega)) ⟨by decide, by decide⟩ (fun (h60 : r = (-1)) => by exfalso; omega) (fun (h60 : ¬ (r = (-1))) => ?_)
        refine T_ld 47 (.int (i32 1)) rfl (fun _ => rfl) ?_
        refine T_if 54 50 rfl rfl rfl ⟨by decide, by decide⟩ (fun h61 => absurd (show (1 : Int) = 0 from h61) (by decide)) (fun _ => ?_)
        refine T_ld 51 (.int (i32 l)) rfl (fun _ => rfl) ?_
        refine T_goto 55 rfl (fun _ => rfl) ?_
        refine T_sto 57 [(4, .int (i32 l)), (3, .int (i32 1)), (0, .ref 181), (1, .int (i32 l)), (2, .int (i32 r))] rfl (fun _ => rfl) ?_
        refine T_ld 58 (.int (i32 r)) rfl (fun _ => rfl) ?_
        refine T_ld 59 (.int (i32 (-1))) rfl (fun _ => rfl) ?_
        refine T_icmp 66 62 rfl rfl rfl (r32 (by omega) (by omega)) ⟨by decide, by decide⟩ (fun (h62 : r ≠ (-1)) => ?_) (fun (h62 : ¬ (r ≠ (-1))) => by exfalso; omega)
        refine T_ld 67 (.int (i32 1)) rfl (fun _ => rfl) ?_
        refine T_if 82 70 rfl rfl rfl ⟨by decide, by decide⟩ (fun h63 => absurd (show (1 : Int) = 0 from h63) (by decide)) (fun _ => ?_)
        refine T_ld 71 (.ref 181) rfl (fun _ => rfl) ?_
        refine K_gf 74 (.ref 22) rfl rfl kd_181 rfl rfl rfl ?_
        refine K_gf 77 (.ref 27) rfl rfl kd_22 rfl rfl rfl ?_
        refine T_ld 78 (.int (i32 r)) rfl (fun _ => rfl) ?_
        refine K_iald 79 22 (m.2 22) rfl rfl rfl (by omega) (show r < (1090 : Int) by omega) rfl ?_
        have e64 : 0 ≤ (m.2 22) r ∧ (m.2 22) r ≤ 64 := (hT.2.1 22) r
        refine T_goto 91 rfl (fun _ => rfl) ?_
        refine T_sto 93 [(5, .int (i32 ((m.2 22) r))), (4, .int (i32 l)), (3, .int (i32 1)), (0, .ref 181), (1, .int (i32 l)), (2, .int (i32 r))] rfl (fun _ => rfl) ?_
        refine T_ld 94 (.ref 181) rfl (fun _ => rfl) ?_
        refine K_gf 97 (.ref 22) rfl rfl kd_181 rfl rfl rfl ?_
        refine T_ld 99 (.int (i32 l)) rfl (fun _ => rfl) ?_
        refine T_ld 101 (.int (i32 ((m.2 22) r))) rfl (fun _ => rfl) ?_
        refine T_callx 104 107 [.ref 22, .int (i32 l), .int (i32 ((m.2 22) r))] [] rfl (fun _ => rfl) rfl rfl (c_nd_fits w (mO m [] []) c N D (by omega) hT l ((m.2 22) r) (r32 (by omega) (by omega)) (r32 (by omega) (by omega)) (show 0 ≤ l ∧ l ≤ 1089 by omega) (show 0 ≤ ((m.2 22) r) ∧ ((m.2 22) r) ≤ 64 by omega)) (fun rr65 k66 => ?_)
        obtain ⟨m67, x68, Tm67, Fm67, g69, rfl⟩ := k66
        refine Or.inl ⟨_, _, _, _, rfl, ?_⟩
        refine K_nb (st' := [.int (i32 x68)]) rfl ?_
        obtain ⟨g69a, g69b⟩ := g69
        refine T_if 126 107 rfl rfl rfl (r32 (by omega) (by omega)) (fun (h70 : x68 ≠ 0) => ?_) (fun (h70 : ¬ (x68 ≠ 0)) => ?_)
        · skip
          refine T_ret rfl (fun _ => rfl) ?_
          exact Or.inl ⟨(mO m67 [] []), Tm67, (fr_m (fr_s Fm67 (fr_m fr_0 rfl rfl) rfl rfl) rfl rfl), rfl⟩
        · skip
          refine T_ld 108 (.ref 181) rfl (fun _ => rfl) ?_
          refine K_gf 111 (.ref 6) rfl rfl kd_181 rfl rfl rfl ?_
          refine T_ld 113 (.int (i32 7)) rfl (fun _ => rfl) ?_
          refine T_ld 114 (.ref 181) rfl (fun _ => rfl) ?_
          refine K_gf 117 (.ref 22) rfl rfl kd_181 rfl rfl rfl ?_
          refine K_gf 120 (.ref 28) rfl rfl kd_22 rfl rfl rfl ?_
          refine T_ld 122 (.int (i32 l)) rfl (fun _ => rfl) ?_
          refine K_iald 123 23 (m.2 23) rfl rfl rfl (by omega) (show l < (1090 : Int) by omega) (show (m67.2 23) = (m.2 23) from (fr2 Fm67 23 rfl)) ?_
          have e71 : 0 ≤ m.2 23 l ∧ m.2 23 l ≤ 4001 := hT.2.1 23 l
          refine T_callx 126 51 [.ref 6, .int (i32 7), .int (i32 ((m.2 23) l))] [] rfl (fun _ => rfl) rfl rfl (c_tx_fail w (mO m67 [] []) c N D (by omega) Tm67 7 ((m.2 23) l) ⟨by decide, by decide⟩ (r32 (by omega) (by omega)) (show 1 ≤ (7 : Int) ∧ (7 : Int) ≤ 8 by omega) (show 0 ≤ ((m.2 23) l) ∧ ((m.2 23) l) ≤ 4001 by omega)) (fun rr72 k73 => ?_)
          rcases k73 with ⟨m74, Tm74, Fm74, h75, rfl⟩ | ⟨xx78, m76, hx77, Tm76, Fm76, rfl⟩
          rotate_left
          · skip
            refine Or.inr ⟨_, _, _, _, rfl, ?_⟩
            exact Or.inr ⟨xx78, (mO m76 [] []), (hx77), Tm76, (fr_m (fr_s Fm76 (fr_m (fr_s Fm67 (fr_m fr_0 rfl rfl) rfl rfl) rfl rfl) rfl rfl) rfl rfl), rfl⟩
          exact h75.elim
def fF_fm_joined : List Nat := [211, 212]
def fA_fm_joined : List Nat := []
def Q_fm_joined (m : mR) (c : Nat → Option am_C) (N : Nat) (l : Int) (r : Int) : ag_Re af_T → Prop := fun R => (∃ (M : mR) (r : Int), KTy M ∧ fr fF_fm_joined fA_fm_joined m M ∧ (0 ≤ r ∧ r ≤ 64) ∧ R = (.inl (some (.int (i32 r))), (khp M c, N), 0, 0)) ∨ (∃ (x : Nat) (M : mR), (x = 0) ∧ (KTy M) ∧ (fr fF_fm_joined fA_fm_joined m M) ∧ R = (.inr x, (khp M c, N), 1, 6))
set_option maxHeartbeats 3000000 in
theorem c_fm_joined (w : wX) (m : mR) (c : Nat → Option am_C) (N D : Nat) (hD : 7 ≤ D) (hT : KTy m) (l : Int) (r : Int) (ql : R32 l) (qr : R32 r) (p0 : 0 ≤ l ∧ l ≤ 1089) (p1 : 0 ≤ r ∧ r ≤ 1089) : TC w D 111 [.ref 181, .int (i32 l), .int (i32 r)] (khp m c, N) (Q_fm_joined m c N l r) := by
  obtain ⟨D, rfl⟩ : ∃ k, D = k + 1 := ⟨D - 1, by omega⟩
  obtain ⟨qla, qlb⟩ := id ql
  obtain ⟨qra, qrb⟩ := id qr
  refine Tc_of rfl ?_
  rw [show (khp m c, N) = (khp (mO m [] []) c, N) from by rw [mO_nil m]]
  show TT w D pm_111 (0, [(0, .ref 181), (1, .int (i32 l)), (2, .int (i32 r))], [], (khp (mO m [] []) c, N), 0, 0) (Q_fm_joined m c N l r)
  refine T_ld 1 (.ref 181) rfl (fun _ => rfl) ?_
  refine K_gf 4 (.ref 22) rfl rfl kd_181 rfl rfl rfl ?_
  refine K_gf 7 (.ref 27) rfl rfl kd_22 rfl rfl rfl ?_
  refine T_ld 8 (.int (i32 l)) rfl (fun _ => rfl) ?_
  refine K_iald 9 22 (m.2 22) rfl rfl rfl (by omega) (show l < (1090 : Int) by omega) rfl ?_
  have e1 : 0 ≤ m.2 22 l ∧ m.2 22 l ≤ 64 := hT.2.1 22 l
  refine T_ld 10 (.ref 181) rfl (fun _ => rfl) ?_
  refine K_gf 13 (.ref 22) rfl rfl kd_181 rfl rfl rfl ?_
  refine K_gf 16 (.ref 27) rfl rfl kd_22 rfl rfl rfl ?_
  refine T_ld 17 (.int (i32 r)) rfl (fun _ => rfl) ?_
  refine K_iald 18 22 (m.2 22) rfl rfl rfl (by omega) (show r < (1090 : Int) by omega) rfl ?_
  have e2 : 0 ≤ m.2 22 r ∧ m.2 22 r ≤ 64 := hT.2.1 22 r
  refine T_iadd 19 rfl rfl ?_
  refine T_sto 20 [(3, .int (i32 (((m.2 22) l) + ((m.2 22) r)))), (0, .ref 181), (1, .int (i32 l)), (2, .int (i32 r))] rfl (fun _ => rfl) ?_
  refine T_ld 21 (.ref 181) rfl (fun _ => rfl) ?_
  refine K_gf 24 (.ref 22) rfl rfl kd_181 rfl rfl rfl ?_
  refine K_gf 27 (.ref 23) rfl rfl kd_22 rfl rfl rfl ?_
  refine T_ld 28 (.int (i32 l)) rfl (fun _ => rfl) ?_
  refine K_iald 29 18 (m.2 18) rfl rfl rfl (by omega) (show l < (1090 : Int) by omega) rfl ?_
  have e3 : 0 ≤ m.2 18 l ∧ m.2 18 l ≤ 65535 := hT.2.1 18 l
  refine T_ld 32 (.int (i32 257)) rfl (fun _ => rfl) ?_
  refine T_icmp 39 35 rfl rfl rfl (r32 (by omega) (by omega)) ⟨by decide, by decide⟩ (fun (h4 : (m.2 18) l ≠ 257) => ?_) (fun (h4 : ¬ ((m.2 18) l ≠ 257)) => ?_)
  · skip
    refine T_ld 40 (.int (i32 0)) rfl (fun _ => rfl) ?_
    refine T_sto 42 [(4, .int (i32 0)), (3, .int (i32 (((m.2 22) l) + ((m.2 22) r)))), (0, .ref 181), (1, .int (i32 l)), (2, .int (i32 r))] rfl (fun _ => rfl) ?_
    refine T_ld 44 (.int (i32 0)) rfl (fun _ => rfl) ?_
    refine T_if 68 47 rfl rfl rfl ⟨by decide, by decide⟩ (fun h5 => absurd (show (0 : Int) ≠ 0 from h5) (by decide)) (fun _ => ?_)
    refine T_ld 48 (.ref 181) rfl (fun _ => rfl) ?_
    refine K_gf 51 (.ref 22) rfl rfl kd_181 rfl rfl rfl ?_
    refine K_gf 54 (.ref 23) rfl rfl kd_22 rfl rfl rfl ?_
    refine T_ld 55 (.int (i32 r)) rfl (fun _ => rfl) ?_
    refine K_iald 56 18 (m.2 18) rfl rfl rfl (by omega) (show r < (1090 : Int) by omega) rfl ?_
    have e6 : 0 ≤ m.2 18 r ∧ m.2 18 r ≤ 65535 := hT.2.1 18 r
    refine T_ld 59 (.int (i32 257)) rfl (fun _ => rfl) ?_
    refine T_icmp 68 62 rfl rfl rfl (r32 (by omega) (by omega)) ⟨by decide, by decide⟩ (fun (h7 : (m.2 18) r = 257) => ?_) (fun (h7 : ¬ ((m.2 18) r = 257)) => ?_)
    · skip
      refine T_ld 69 (.ref 181) rfl (fun _ => rfl) ?_
      refine K_gf 72 (.ref 6) rfl rfl kd_181 rfl rfl rfl ?_
      refine T_ld 74 (.int (i32 7)) rfl (fun _ => rfl) ?_
      refine T_ld 75 (.ref 181) rfl (fun _ => rfl) ?_
      refine K_gf 78 (.ref 22) rfl rfl kd_181 rfl rfl rfl ?_
      refine K_gf 81 (.ref 28) rfl rfl kd_22 rfl rfl rfl ?_
      refine T_ld 83 (.int (i32 0)) rfl (fun _ => rfl) ?_
      refine T_if 90 86 rfl rfl rfl ⟨by decide, by decide⟩ (fun _ => ?_) (fun h8 => absurd (show (0 : Int) = 0 by decide) h8)
      refine T_ld 91 (.int (i32 r)) rfl (fun _ => rfl) ?_
      refine K_iald 92 23 (m.2 23) rfl rfl rfl (by omega) (show r < (1090 : Int) by omega) rfl ?_
      have e9 : 0 ≤ m.2 23 r ∧ m.2 23 r ≤ 4001 := hT.2.1 23 r
      refine T_callx 95 51 [.ref 6, .int (i32 7), .int (i32 ((m.2 23) r))] [] rfl (fun _ => rfl) rfl rfl (c_tx_fail w (mO m [] []) c N D (by omega) hT 7 ((m.2 23) r) ⟨by decide, by decide⟩ (r32 (by omega) (by omega)) (show 1 ≤ (7 : Int) ∧ (7 : Int) ≤ 8 by omega) (show 0 ≤ ((m.2 23) r) ∧ ((m.2 23) r) ≤ 4001 by omega)) (fun rr10 k11 => ?_)
      rcases k11 with ⟨m12, Tm12, Fm12, h13, rfl⟩ | ⟨xx16, m14, hx15, Tm14, Fm14, rfl⟩
      rotate_left
      · skip
        refine Or.inr ⟨_, _, _, _, rfl, ?_⟩
        exact Or.inr ⟨xx16, (mO m14 [] []), (hx15), Tm14, (fr_m (fr_s Fm14 (fr_m fr_0 rfl rfl) rfl rfl) rfl rfl), rfl⟩
      exact h13.elim
    · skip
      refine T_ld 63 (.int (i32 (((m.2 22) l) + ((m.2 22) r)))) rfl (fun _ => rfl) ?_
      refine T_ld 65 (.int (i32 64)) rfl (fun _ => rfl) ?_
      refine T_icmp 95 68 rfl rfl rfl (r32 (by omega) (by omega)) ⟨by decide, by decide⟩ (fun (h17 : ((m.2 22) l) + ((m.2 22) r) ≤ 64) => ?_) (fun (h17 : ¬ (((m.2 22) l) + ((m.2 22) r) ≤ 64)) => ?_)
      · skip
        refine T_ld 96 (.int (i32 (((m.2 22) l) + ((m.2 22) r)))) rfl (fun _ => rfl) ?_
        refine T_ret rfl (fun _ => rfl) ?_
        exact Or.inl ⟨(mO m [] []), ((m.2 22) l) + ((m.2 22) r), hT, (fr_m fr_0 rfl rfl), ⟨by omega, by omega⟩, rfl⟩
      · skip
        refine T_ld 69 (.ref 181) rfl (fun _ => rfl) ?_
        refine K_gf 72 (.ref 6) rfl rfl kd_181 rfl rfl rfl ?_
        refine T_ld 74 (.int (i32 7)) rfl (fun _ => rfl) ?_
        refine T_ld 75 (.ref 181) rfl (fun _ => rfl) ?_
        refine K_gf 78 (.ref 22) rfl rfl kd_181 rfl rfl rfl ?_
        refine K_gf 81 (.ref 28) rfl rfl kd_22 rfl rfl rfl ?_
        refine T_ld 83 (.int (i32 0)) rfl (fun _ => rfl) ?_
        refine T_if 90 86 rfl rfl rfl ⟨by decide, by decide⟩ (fun _ => ?_) (fun h18 => absurd (show (0 : Int) = 0 by decide) h18)
        refine T_ld 91 (.int (i32 r)) rfl (fun _ => rfl) ?_
        refine K_iald 92 23 (m.2 23) rfl rfl rfl (by omega) (show r < (1090 : Int) by omega) rfl ?_
        have e19 : 0 ≤ m.2 23 r ∧ m.2 23 r ≤ 4001 := hT.2.1 23 r
        refine T_callx 95 51 [.ref 6, .int (i32 7), .int (i32 ((m.2 23) r))] [] rfl (fun _ => rfl) rfl rfl (c_tx_fail w (mO m [] []) c N D (by omega) hT 7 ((m.2 23) r) ⟨by decide, by decide⟩ (r32 (by omega) (by omega)) (show 1 ≤ (7 : Int) ∧ (7 : Int) ≤ 8 by omega) (show 0 ≤ ((m.2 23) r) ∧ ((m.2 23) r) ≤ 4001 by omega)) (fun rr20 k21 => ?_)
        rcases k21 with ⟨m22, Tm22, Fm22, h23, rfl⟩ | ⟨xx26, m24, hx25, Tm24, Fm24, rfl⟩
        rotate_left
        · skip
          refine Or.inr ⟨_, _, _, _, rfl, ?_⟩
          exact Or.inr ⟨xx26, (mO m24 [] []), (hx25), Tm24, (fr_m (fr_s Fm24 (fr_m fr_0 rfl rfl) rfl rfl) rfl rfl), rfl⟩
        exact h23.elim
  · skip
    refine T_ld 36 (.int (i32 1)) rfl (fun _ => rfl) ?_
    refine T_goto 40 rfl (fun _ => rfl) ?_
    refine T_sto 42 [(4, .int (i32 1)), (3, .int (i32 (((m.2 22) l) + ((m.2 22) r)))), (0, .ref 181), (1, .int (i32 l)), (2, .int (i32 r))] rfl (fun _ => rfl) ?_
    refine T_ld 44 (.int (i32 1)) rfl (fun _ => rfl) ?_
    refine T_if 68 47 rfl rfl rfl ⟨by decide, by decide⟩ (fun _ => ?_) (fun h27 => absurd (show (1 : Int) ≠ 0 by decide) h27)
    refine T_ld 69 (.ref 181) rfl (fun _ => rfl) ?_
    refine K_gf 72 (.ref 6) rfl rfl kd_181 rfl rfl rfl ?_
    refine T_ld 74 (.int (i32 7)) rfl (fun _ => rfl) ?_
    refine T_ld 75 (.ref 181) rfl (fun _ => rfl) ?_
    refine K_gf 78 (.ref 22) rfl rfl kd_181 rfl rfl rfl ?_
    refine K_gf 81 (.ref 28) rfl rfl kd_22 rfl rfl rfl ?_
    refine T_ld 83 (.int (i32 1)) rfl (fun _ => rfl) ?_
    refine T_if 90 86 rfl rfl rfl ⟨by decide, by decide⟩ (fun h28 => absurd (show (1 : Int) = 0 from h28) (by decide)) (fun _ => ?_)
    refine T_ld 87 (.int (i32 l)) rfl (fun _ => rfl) ?_
    refine T_goto 91 rfl (fun _ => rfl) ?_
    refine K_iald 92 23 (m.2 23) rfl rfl rfl (by omega) (show l < (1090 : Int) by omega) rfl ?_
    have e29 : 0 ≤ m.2 23 l ∧ m.2 23 l ≤ 4001 := hT.2.1 23 l
    refine T_callx 95 51 [.ref 6, .int (i32 7), .int (i32 ((m.2 23) l))] [] rfl (fun _ => rfl) rfl rfl (c_tx_fail w (mO m [] []) c N D (by omega) hT 7 ((m.2 23) l) ⟨by decide, by decide⟩ (r32 (by omega) (by omega)) (show 1 ≤ (7 : Int) ∧ (7 : Int) ≤ 8 by omega) (show 0 ≤ ((m.2 23) l) ∧ ((m.2 23) l) ≤ 4001 by omega)) (fun rr30 k31 => ?_)
    rcases k31 with ⟨m32, Tm32, Fm32, h33, rfl⟩ | ⟨xx36, m34, hx35, Tm34, Fm34, rfl⟩
    rotate_left
    · skip
      refine Or.inr ⟨_, _, _, _, rfl, ?_⟩
      exact Or.inr ⟨xx36, (mO m34 [] []), (hx35), Tm34, (fr_m (fr_s Fm34 (fr_m fr_0 rfl rfl) rfl rfl) rfl rfl), rfl⟩
    exact h33.elim
def fF_fm_mustFit : List Nat := [211, 212]
def fA_fm_mustFit : List Nat := [22]
def Q_fm_mustFit (m : mR) (c : Nat → Option am_C) (N : Nat) (r : Int) (u : Int) : ag_Re af_T → Prop := fun R => (∃ (M : mR), KTy M ∧ fr fF_fm_mustFit fA_fm_mustFit m M ∧ R = (.inl (none), (khp M c, N), 0, 0)) ∨ (∃ (x : Nat) (M : mR), (x = 0) ∧ (KTy M) ∧ (fr fF_fm_mustFit fA_fm_mustFit m M) ∧ R = (.inr x, (khp M c, N), 1, 6))
set_option maxHeartbeats 3000000 in
theorem c_fm_mustFit (w : wX) (m : mR) (c : Nat → Option am_C) (N D : Nat) (hD : 7 ≤ D) (hT : KTy m) (r : Int) (u : Int) (qr : R32 r) (qu : R32 u) (p0 : 0 ≤ r ∧ r ≤ 1089) (p1 : 0 ≤ u ∧ u ≤ 64) : TC w D 126 [.ref 181, .int (i32 r), .int (i32 u)] (khp m c, N) (Q_fm_mustFit m c N r u) := by
  obtain ⟨D, rfl⟩ : ∃ k, D = k + 1 := ⟨D - 1, by omega⟩
  obtain ⟨qra, qrb⟩ := id qr
  obtain ⟨qua, qub⟩ := id qu
  refine Tc_of rfl ?_
  rw [show (khp m c, N) = (khp (mO m [] []) c, N) from by rw [mO_nil m]]
  show TT w D pm_126 (0, [(0, .ref 181), (1, .int (i32 r)), (2, .int (i32 u))], [], (khp (mO m [] []) c, N), 0, 0) (Q_fm_mustFit m c N r u)
  refine T_ld 1 (.ref 181) rfl (fun _ => rfl) ?_
  refine K_gf 4 (.ref 22) rfl rfl kd_181 rfl rfl rfl ?_
  refine T_ld 5 (.int (i32 r)) rfl (fun _ => rfl) ?_
  refine T_ld 6 (.int (i32 u)) rfl (fun _ => rfl) ?_
  refine T_callx 9 107 [.ref 22, .int (i32 r), .int (i32 u)] [] rfl (fun _ => rfl) rfl rfl (c_nd_fits w (mO m [] []) c N D (by omega) hT r u (r32 (by omega) (by omega)) (r32 (by omega) (by omega)) (show 0 ≤ r ∧ r ≤ 1089 by omega) (show 0 ≤ u ∧ u ≤ 64 by omega)) (fun rr1 k2 => ?_)
  obtain ⟨m3, x4, Tm3, Fm3, g5, rfl⟩ := k2
  refine Or.inl ⟨_, _, _, _, rfl, ?_⟩
  refine K_nb (st' := [.int (i32 x4)]) rfl ?_
  obtain ⟨g5a, g5b⟩ := g5
  refine T_if 30 12 rfl rfl rfl (r32 (by omega) (by omega)) (fun (h6 : x4 ≠ 0) => ?_) (fun (h6 : ¬ (x4 ≠ 0)) => ?_)
  · skip
    refine T_ret rfl (fun _ => rfl) ?_
    exact Or.inl ⟨(mO m3 [] []), Tm3, (fr_m (fr_s Fm3 (fr_m fr_0 rfl rfl) rfl rfl) rfl rfl), rfl⟩
  · skip
    refine T_ld 13 (.ref 181) rfl (fun _ => rfl) ?_
    refine K_gf 16 (.ref 6) rfl rfl kd_181 rfl rfl rfl ?_
    refine T_ld 18 (.int (i32 7)) rfl (fun _ => rfl) ?_
    refine T_ld 19 (.ref 181) rfl (fun _ => rfl) ?_
    refine K_gf 22 (.ref 22) rfl rfl kd_181 rfl rfl rfl ?_
    refine K_gf 25 (.ref 28) rfl rfl kd_22 rfl rfl rfl ?_
    refine T_ld 26 (.int (i32 r)) rfl (fun _ => rfl) ?_
    refine K_iald 27 23 (m.2 23) rfl rfl rfl (by omega) (show r < (1090 : Int) by omega) (show (m3.2 23) = (m.2 23) from (fr2 Fm3 23 rfl)) ?_
    have e7 : 0 ≤ m.2 23 r ∧ m.2 23 r ≤ 4001 := hT.2.1 23 r
    refine T_callx 30 51 [.ref 6, .int (i32 7), .int (i32 ((m.2 23) r))] [] rfl (fun _ => rfl) rfl rfl (c_tx_fail w (mO m3 [] []) c N D (by omega) Tm3 7 ((m.2 23) r) ⟨by decide, by decide⟩ (r32 (by omega) (by omega)) (show 1 ≤ (7 : Int) ∧ (7 : Int) ≤ 8 by omega) (show 0 ≤ ((m.2 23) r) ∧ ((m.2 23) r) ≤ 4001 by omega)) (fun rr8 k9 => ?_)
    rcases k9 with ⟨m10, Tm10, Fm10, h11, rfl⟩ | ⟨xx14, m12, hx13, Tm12, Fm12, rfl⟩
    rotate_left
    · skip
      refine Or.inr ⟨_, _, _, _, rfl, ?_⟩
      exact Or.inr ⟨xx14, (mO m12 [] []), (hx13), Tm12, (fr_m (fr_s Fm12 (fr_m (fr_s Fm3 (fr_m fr_0 rfl rfl) rfl rfl) rfl rfl) rfl rfl) rfl rfl), rfl⟩
    exact h11.elim
def fF_fm_closeSingle : List Nat := [211, 212, 213, 220, 228, 229, 230]
def fA_fm_closeSingle : List Nat := [18, 19, 20, 22, 23, 70]
def Q_fm_closeSingle (m : mR) (c : Nat → Option am_C) (N : Nat) : ag_Re af_T → Prop := fun R => (∃ (M : mR), KTy M ∧ fr fF_fm_closeSingle fA_fm_closeSingle m M ∧ (FBp (M.1 229) (m.2 68) (M.1 228) (M.1 230)) ∧ (NKp (M.2 18) (M.2 19)) ∧ ((M.1 228) = (m.1 228) - 1) ∧ R = (.inl (none), (khp M c, N), 0, 0)) ∨ (∃ (x : Nat) (M : mR), (x = 0) ∧ (KTy M) ∧ (fr fF_fm_closeSingle fA_fm_closeSingle m M) ∧ (NKp (M.2 18) (M.2 19)) ∧ R = (.inr x, (khp M c, N), 1, 6))
set_option maxHeartbeats 3000000 in
theorem c_fm_closeSingle (w : wX) (m : mR) (c : Nat → Option am_C) (N D : Nat) (hD : 7 ≤ D) (hT : KTy m) (hFB : FBp (m.1 229) (m.2 68) (m.1 228) (m.1 230)) (hNK : NKp (m.2 18) (m.2 19)) (p2 : 1 ≤ (m.1 228)) (hTo : (m.2 68) ((m.1 228) - 1) = 405 ∨ (m.2 68) ((m.1 228) - 1) = 126 ∨ (m.2 68) ((m.1 228) - 1) = 33) : TC w D 106 [.ref 181] (khp m c, N) (Q_fm_closeSingle m c N) := by
  obtain ⟨D, rfl⟩ : ∃ k, D = k + 1 := ⟨D - 1, by omega⟩
  have f228 : 0 ≤ m.1 228 ∧ m.1 228 ≤ 288 := hT.1 228
  have f229 : 0 ≤ m.1 229 ∧ m.1 229 ≤ 576 := hT.1 229
  have f230 : 0 ≤ m.1 230 ∧ m.1 230 ≤ 30 := hT.1 230
  refine Tc_of rfl ?_
  rw [show (khp m c, N) = (khp (mO m [] []) c, N) from by rw [mO_nil m]]
  show TT w D pm_106 (0, [(0, .ref 181)], [], (khp (mO m [] []) c, N), 0, 0) (Q_fm_closeSingle m c N)
  have hbB := FB_b hFB (by omega) (by omega)
  have hFs := FB_s hFB (by omega) (Or.inr hTo)
  refine T_ld 1 (.ref 181) rfl (fun _ => rfl) ?_
  refine K_gf 4 (.ref 182) rfl rfl kd_181 rfl rfl rfl ?_
  refine T_ld 5 (.ref 181) rfl (fun _ => rfl) ?_
  refine K_gf 8 (.int (i32 (m.1 228))) rfl rfl kd_181 rfl rfl rfl ?_
  refine T_ld 9 (.int (i32 1)) rfl (fun _ => rfl) ?_
  refine T_isub 10 rfl rfl ?_
  refine K_iald 11 68 (m.2 68) rfl rfl rfl (by omega) (show ((m.1 228) - 1) < (288 : Int) by omega) rfl ?_
  have e1 : (-1) ≤ m.2 68 ((m.1 228) - 1) ∧ m.2 68 ((m.1 228) - 1) ≤ 65535 := hT.2.1 68 ((m.1 228) - 1)
  refine T_sto 12 [(1, .int (i32 ((m.2 68) ((m.1 228) - 1)))), (0, .ref 181)] rfl (fun _ => rfl) ?_
  refine T_ld 13 (.ref 181) rfl (fun _ => rfl) ?_
  refine K_gf 16 (.ref 184) rfl rfl kd_181 rfl rfl rfl ?_
  refine T_ld 17 (.ref 181) rfl (fun _ => rfl) ?_
  refine K_gf 20 (.int (i32 (m.1 229))) rfl rfl kd_181 rfl rfl rfl ?_
  refine T_ld 21 (.int (i32 1)) rfl (fun _ => rfl) ?_
  refine T_isub 22 rfl rfl ?_
  refine K_iald 23 70 (m.2 70) rfl rfl rfl (by omega) (show ((m.1 229) - 1) < (576 : Int) by omega) rfl ?_
  have e2 : 0 ≤ (m.2 70) ((m.1 229) - 1) ∧ (m.2 70) ((m.1 229) - 1) ≤ 1089 := (hT.2.1 70) ((m.1 229) - 1)
  refine T_sto 24 [(2, .int (i32 ((m.2 70) ((m.1 229) - 1)))), (1, .int (i32 ((m.2 68) ((m.1 228) - 1)))), (0, .ref 181)] rfl (fun _ => rfl) ?_
  refine T_ld 25 (.int (i32 ((m.2 68) ((m.1 228) - 1)))) rfl (fun _ => rfl) ?_
  refine T_ld 27 (.int (i32 33)) rfl (fun _ => rfl) ?_
  refine T_icmp 34 30 rfl rfl rfl (r32 (by omega) (by omega)) ⟨by decide, by decide⟩ (fun (h3 : (m.2 68) ((m.1 228) - 1) ≠ 33) => ?_) (fun (h3 : ¬ ((m.2 68) ((m.1 228) - 1) ≠ 33)) => ?_)
  · skip
    refine T_ld 35 (.ref 181) rfl (fun _ => rfl) ?_
    refine K_gf 38 (.ref 22) rfl rfl kd_181 rfl rfl rfl ?_
    refine K_gf 41 (.ref 27) rfl rfl kd_22 rfl rfl rfl ?_
    refine T_ld 42 (.int (i32 ((m.2 70) ((m.1 229) - 1)))) rfl (fun _ => rfl) ?_
    refine K_iald 43 22 (m.2 22) rfl rfl rfl (by omega) (show ((m.2 70) ((m.1 229) - 1)) < (1090 : Int) by omega) rfl ?_
    have e4 : 0 ≤ (m.2 22) ((m.2 70) ((m.1 229) - 1)) ∧ (m.2 22) ((m.2 70) ((m.1 229) - 1)) ≤ 64 := (hT.2.1 22) ((m.2 70) ((m.1 229) - 1))
    refine T_sto 44 [(3, .int (i32 ((m.2 22) ((m.2 70) ((m.1 229) - 1))))), (2, .int (i32 ((m.2 70) ((m.1 229) - 1)))), (1, .int (i32 ((m.2 68) ((m.1 228) - 1)))), (0, .ref 181)] rfl (fun _ => rfl) ?_
    refine T_ld 45 (.ref 181) rfl (fun _ => rfl) ?_
    refine K_gf 48 (.ref 22) rfl rfl kd_181 rfl rfl rfl ?_
    refine T_ld 49 (.int (i32 ((m.2 70) ((m.1 229) - 1)))) rfl (fun _ => rfl) ?_
    refine T_ld 50 (.int (i32 ((m.2 22) ((m.2 70) ((m.1 229) - 1))))) rfl (fun _ => rfl) ?_
    refine T_callx 53 107 [.ref 22, .int (i32 ((m.2 70) ((m.1 229) - 1))), .int (i32 ((m.2 22) ((m.2 70) ((m.1 229) - 1))))] [] rfl (fun _ => rfl) rfl rfl (c_nd_fits w (mO m [] []) c N D (by omega) hT ((m.2 70) ((m.1 229) - 1)) ((m.2 22) ((m.2 70) ((m.1 229) - 1))) (r32 (by omega) (by omega)) (r32 (by omega) (by omega)) (show 0 ≤ ((m.2 70) ((m.1 229) - 1)) ∧ ((m.2 70) ((m.1 229) - 1)) ≤ 1089 by omega) (show 0 ≤ ((m.2 22) ((m.2 70) ((m.1 229) - 1))) ∧ ((m.2 22) ((m.2 70) ((m.1 229) - 1))) ≤ 64 by omega)) (fun rr5 k6 => ?_)
    obtain ⟨m7, x8, Tm7, Fm7, g9, rfl⟩ := k6
    refine Or.inl ⟨_, _, _, _, rfl, ?_⟩
    refine K_nb (st' := [.int (i32 x8)]) rfl ?_
    obtain ⟨g9a, g9b⟩ := g9
    refine T_if 74 56 rfl rfl rfl (r32 (by omega) (by omega)) (fun (h10 : x8 ≠ 0) => ?_) (fun (h10 : ¬ (x8 ≠ 0)) => ?_)
    · skip
      refine T_ld 75 (.ref 181) rfl (fun _ => rfl) ?_
      refine T_ld 76 (.ref 181) rfl (fun _ => rfl) ?_
      refine K_gf 79 (.int (i32 (m.1 228))) rfl rfl kd_181 rfl (kval_c2 (k := 228) (F := fun x => .int (i32 x)) rfl (show (m7.1 228) = (m.1 228) from (fr1 Fm7 228 rfl))) rfl ?_
      refine T_ld 80 (.int (i32 1)) rfl (fun _ => rfl) ?_
      refine T_isub 81 rfl rfl ?_
      refine K_pf (l' := [(228, (m.1 228) - 1)]) 84 ((m.1 228) - 1) rfl rfl kd_181 rfl rfl rfl rfl rfl rfl rfl ?_
      have g11 : 0 ≤ (m.1 228) - 1 ∧ (m.1 228) - 1 ≤ 288 := ⟨by omega, by omega⟩
      refine T_ld 85 (.ref 181) rfl (fun _ => rfl) ?_
      refine T_ld 86 (.ref 181) rfl (fun _ => rfl) ?_
      refine K_gf 89 (.int (i32 (m.1 230))) rfl rfl kd_181 rfl (kval_c2 (k := 230) (F := fun x => .int (i32 x)) rfl (show (m7.1 230) = (m.1 230) from (fr1 Fm7 230 rfl))) rfl ?_
      refine T_ld 90 (.int (i32 1)) rfl (fun _ => rfl) ?_
      refine T_isub 91 rfl rfl ?_
      refine K_pf (l' := [(228, (m.1 228) - 1), (230, (m.1 230) - 1)]) 94 ((m.1 230) - 1) rfl rfl kd_181 rfl rfl rfl rfl rfl rfl rfl ?_
      have g12 : 0 ≤ (m.1 230) - 1 ∧ (m.1 230) - 1 ≤ 30 := ⟨by omega, by omega⟩
      refine T_ld 95 (.ref 181) rfl (fun _ => rfl) ?_
      refine T_ld 96 (.ref 181) rfl (fun _ => rfl) ?_
      refine K_gf 99 (.int (i32 (m.1 229))) rfl rfl kd_181 rfl (kval_c2 (k := 229) (F := fun x => .int (i32 x)) rfl (show (m7.1 229) = (m.1 229) from (fr1 Fm7 229 rfl))) rfl ?_
      refine T_ld 100 (.int (i32 1)) rfl (fun _ => rfl) ?_
      refine T_isub 101 rfl rfl ?_
      refine K_pf (l' := [(228, (m.1 228) - 1), (229, (m.1 229) - 1), (230, (m.1 230) - 1)]) 104 ((m.1 229) - 1) rfl rfl kd_181 rfl rfl rfl rfl rfl rfl rfl ?_
      have g13 : 0 ≤ (m.1 229) - 1 ∧ (m.1 229) - 1 ≤ 576 := ⟨by omega, by omega⟩
      refine T_ld 105 (.ref 181) rfl (fun _ => rfl) ?_
      refine T_ld 106 (.int (i32 ((m.2 68) ((m.1 228) - 1)))) rfl (fun _ => rfl) ?_
      refine T_ld 107 (.int (i32 ((m.2 70) ((m.1 229) - 1)))) rfl (fun _ => rfl) ?_
      refine T_ld 108 (.int (i32 0)) rfl (fun _ => rfl) ?_
      refine T_ld 109 (.int (i32 ((m.2 22) ((m.2 70) ((m.1 229) - 1))))) rfl (fun _ => rfl) ?_
      refine T_ld 110 (.ref 181) rfl (fun _ => rfl) ?_
      refine K_gf 113 (.ref 183) rfl rfl kd_181 rfl rfl rfl ?_
      refine T_ld 114 (.ref 181) rfl (fun _ => rfl) ?_
      refine K_gf 117 (.int (i32 ((m.1 228) - 1))) rfl rfl kd_181 rfl rfl rfl ?_
      refine K_iald 118 69 (m.2 69) rfl rfl rfl (by omega) (show ((m.1 228) - 1) < (288 : Int) by omega) (show (m7.2 69) = (m.2 69) from (fr2 Fm7 69 rfl)) ?_
      have e14 : 0 ≤ m.2 69 ((m.1 228) - 1) ∧ m.2 69 ((m.1 228) - 1) ≤ 4001 := hT.2.1 69 ((m.1 228) - 1)
      refine T_callx 121 97 [.ref 181, .int (i32 ((m.2 68) ((m.1 228) - 1))), .int (i32 ((m.2 70) ((m.1 229) - 1))), .int (i32 0), .int (i32 ((m.2 22) ((m.2 70) ((m.1 229) - 1)))), .int (i32 ((m.2 69) ((m.1 228) - 1)))] [] rfl (fun _ => rfl) rfl rfl (c_fm_add w (mO m7 [(228, (m.1 228) - 1), (229, (m.1 229) - 1), (230, (m.1 230) - 1)] []) c N D (by omega) (KTy_mO Tm7 rfl rfl ⟨g11, g13, g12, trivial⟩ trivial) ((m.2 68) ((m.1 228) - 1)) ((m.2 70) ((m.1 229) - 1)) 0 ((m.2 22) ((m.2 70) ((m.1 229) - 1))) ((m.2 69) ((m.1 228) - 1)) (r32 (by omega) (by omega)) (r32 (by omega) (by omega)) ⟨by decide, by decide⟩ (r32 (by omega) (by omega)) (r32 (by omega) (by omega)) (show 0 ≤ ((m.1 229) - 1) ∧ ((m.1 229) - 1) ≤ 575 by omega) (show 0 ≤ ((m.2 68) ((m.1 228) - 1)) ∧ ((m.2 68) ((m.1 228) - 1)) ≤ 65535 by omega) (show 0 ≤ ((m.2 70) ((m.1 229) - 1)) ∧ ((m.2 70) ((m.1 229) - 1)) ≤ 1089 by omega) (show 0 ≤ (0 : Int) ∧ (0 : Int) ≤ 1089 by omega) (show 0 ≤ ((m.2 22) ((m.2 70) ((m.1 229) - 1))) ∧ ((m.2 22) ((m.2 70) ((m.1 229) - 1))) ≤ 64 by omega) (show 0 ≤ ((m.2 69) ((m.1 228) - 1)) ∧ ((m.2 69) ((m.1 228) - 1)) ≤ 4001 by omega) (show ((m.2 68) ((m.1 228) - 1)) ≠ 400 ∨ ((m.2 70) ((m.1 229) - 1)) ≤ 220 by omega) (show ((m.2 68) ((m.1 228) - 1)) ≠ 401 ∨ ((m.2 70) ((m.1 229) - 1)) ≤ 3 by omega) (show NKp (m7.2 18) (m7.2 19) by rewrite [(show (m7.2 18) = (m.2 18) from (fr2 Fm7 18 rfl)), (show (m7.2 19) = (m.2 19) from (fr2 Fm7 19 rfl))]; exact hNK)) (fun rr15 k16 => ?_)
      obtain ⟨m17, nn, Tm17, Fm17, g18, h19, h20, rfl⟩ := k16
      refine Or.inl ⟨_, _, _, _, rfl, ?_⟩
      refine K_nb (st' := [.int (i32 nn)]) rfl ?_
      obtain ⟨g18a, g18b⟩ := g18
      have g21 : 0 ≤ m17.1 229 ∧ m17.1 229 ≤ 576 := Tm17.1 229
      replace h19 : (m17.1 229) = ((m.1 229) - 1) + 1 := h19
      replace h20 : NKp (m17.2 18) (m17.2 19) := h20
      have hNK := h20
      refine T_pop 122 rfl (fun _ => rfl) ?_
      refine T_ret rfl (fun _ => rfl) ?_
      exact Or.inl ⟨(mO m17 [] []), Tm17, (fr_m (fr_s Fm17 (fr_m (fr_s Fm7 (fr_m fr_0 rfl rfl) rfl rfl) rfl rfl) rfl rfl) rfl rfl), (show FBp (m17.1 229) (m.2 68) (m17.1 228) (m17.1 230) by rewrite [(show (m17.1 228) = ((m.1 228) - 1) from (fr1 Fm17 228 rfl)), (show (m17.1 230) = ((m.1 230) - 1) from (fr1 Fm17 230 rfl))]; first | (exact FB_e hFs (by omega)) | (exfalso; omega)), (show NKp (m17.2 18) (m17.2 19) by first | (exact hNK) | (exfalso; omega)), (show (m17.1 228) = (m.1 228) - 1 by rewrite [(show (m17.1 228) = ((m.1 228) - 1) from (fr1 Fm17 228 rfl))]; omega), rfl⟩
    · skip
      refine T_ld 57 (.ref 181) rfl (fun _ => rfl) ?_
      refine K_gf 60 (.ref 6) rfl rfl kd_181 rfl rfl rfl ?_
      refine T_ld 62 (.int (i32 7)) rfl (fun _ => rfl) ?_
      refine T_ld 63 (.ref 181) rfl (fun _ => rfl) ?_
      refine K_gf 66 (.ref 22) rfl rfl kd_181 rfl rfl rfl ?_
      refine K_gf 69 (.ref 28) rfl rfl kd_22 rfl rfl rfl ?_
      refine T_ld 70 (.int (i32 ((m.2 70) ((m.1 229) - 1)))) rfl (fun _ => rfl) ?_
      refine K_iald 71 23 (m.2 23) rfl rfl rfl (by omega) (show ((m.2 70) ((m.1 229) - 1)) < (1090 : Int) by omega) (show (m7.2 23) = (m.2 23) from (fr2 Fm7 23 rfl)) ?_
      have e22 : 0 ≤ (m.2 23) ((m.2 70) ((m.1 229) - 1)) ∧ (m.2 23) ((m.2 70) ((m.1 229) - 1)) ≤ 4001 := (hT.2.1 23) ((m.2 70) ((m.1 229) - 1))
      refine T_callx 74 51 [.ref 6, .int (i32 7), .int (i32 ((m.2 23) ((m.2 70) ((m.1 229) - 1))))] [] rfl (fun _ => rfl) rfl rfl (c_tx_fail w (mO m7 [] []) c N D (by omega) Tm7 7 ((m.2 23) ((m.2 70) ((m.1 229) - 1))) ⟨by decide, by decide⟩ (r32 (by omega) (by omega)) (show 1 ≤ (7 : Int) ∧ (7 : Int) ≤ 8 by omega) (show 0 ≤ ((m.2 23) ((m.2 70) ((m.1 229) - 1))) ∧ ((m.2 23) ((m.2 70) ((m.1 229) - 1))) ≤ 4001 by omega)) (fun rr23 k24 => ?_)
      rcases k24 with ⟨m25, Tm25, Fm25, h26, rfl⟩ | ⟨xx29, m27, hx28, Tm27, Fm27, rfl⟩
      rotate_left
      · skip
        refine Or.inr ⟨_, _, _, _, rfl, ?_⟩
        exact Or.inr ⟨xx29, (mO m27 [] []), (hx28), Tm27, (fr_m (fr_s Fm27 (fr_m (fr_s Fm7 (fr_m fr_0 rfl rfl) rfl rfl) rfl rfl) rfl rfl) rfl rfl), (show NKp (m27.2 18) (m27.2 19) by rewrite [(show (m27.2 18) = (m.2 18) from ((fr2 Fm27 18 rfl).trans (fr2 Fm7 18 rfl))), (show (m27.2 19) = (m.2 19) from ((fr2 Fm27 19 rfl).trans (fr2 Fm7 19 rfl)))]; exact hNK), rfl⟩
      exact h26.elim
  · skip
    refine T_ld 31 (.int (i32 1)) rfl (fun _ => rfl) ?_
    refine T_goto 43 rfl (fun _ => rfl) ?_
    refine T_sto 44 [(3, .int (i32 1)), (2, .int (i32 ((m.2 70) ((m.1 229) - 1)))), (1, .int (i32 ((m.2 68) ((m.1 228) - 1)))), (0, .ref 181)] rfl (fun _ => rfl) ?_
    refine T_ld 45 (.ref 181) rfl (fun _ => rfl) ?_
    refine K_gf 48 (.ref 22) rfl rfl kd_181 rfl rfl rfl ?_
    refine T_ld 49 (.int (i32 ((m.2 70) ((m.1 229) - 1)))) rfl (fun _ => rfl) ?_
    refine T_ld 50 (.int (i32 1)) rfl (fun _ => rfl) ?_
    refine T_callx 53 107 [.ref 22, .int (i32 ((m.2 70) ((m.1 229) - 1))), .int (i32 1)] [] rfl (fun _ => rfl) rfl rfl (c_nd_fits w (mO m [] []) c N D (by omega) hT ((m.2 70) ((m.1 229) - 1)) 1 (r32 (by omega) (by omega)) ⟨by decide, by decide⟩ (show 0 ≤ ((m.2 70) ((m.1 229) - 1)) ∧ ((m.2 70) ((m.1 229) - 1)) ≤ 1089 by omega) (show 0 ≤ (1 : Int) ∧ (1 : Int) ≤ 64 by omega)) (fun rr30 k31 => ?_)
    obtain ⟨m32, x33, Tm32, Fm32, g34, rfl⟩ := k31
    refine Or.inl ⟨_, _, _, _, rfl, ?_⟩
    refine K_nb (st' := [.int (i32 x33)]) rfl ?_
    obtain ⟨g34a, g34b⟩ := g34
    refine T_if 74 56 rfl rfl rfl (r32 (by omega) (by omega)) (fun (h35 : x33 ≠ 0) => ?_) (fun (h35 : ¬ (x33 ≠ 0)) => ?_)
    · skip
      refine T_ld 75 (.ref 181) rfl (fun _ => rfl) ?_
      refine T_ld 76 (.ref 181) rfl (fun _ => rfl) ?_
      refine K_gf 79 (.int (i32 (m.1 228))) rfl rfl kd_181 rfl (kval_c2 (k := 228) (F := fun x => .int (i32 x)) rfl (show (m32.1 228) = (m.1 228) from (fr1 Fm32 228 rfl))) rfl ?_
      refine T_ld 80 (.int (i32 1)) rfl (fun _ => rfl) ?_
      refine T_isub 81 rfl rfl ?_
      refine K_pf (l' := [(228, (m.1 228) - 1)]) 84 ((m.1 228) - 1) rfl rfl kd_181 rfl rfl rfl rfl rfl rfl rfl ?_
      have g36 : 0 ≤ (m.1 228) - 1 ∧ (m.1 228) - 1 ≤ 288 := ⟨by omega, by omega⟩
      refine T_ld 85 (.ref 181) rfl (fun _ => rfl) ?_
      refine T_ld 86 (.ref 181) rfl (fun _ => rfl) ?_
      refine K_gf 89 (.int (i32 (m.1 230))) rfl rfl kd_181 rfl (kval_c2 (k := 230) (F := fun x => .int (i32 x)) rfl (show (m32.1 230) = (m.1 230) from (fr1 Fm32 230 rfl))) rfl ?_
      refine T_ld 90 (.int (i32 1)) rfl (fun _ => rfl) ?_
      refine T_isub 91 rfl rfl ?_
      refine K_pf (l' := [(228, (m.1 228) - 1), (230, (m.1 230) - 1)]) 94 ((m.1 230) - 1) rfl rfl kd_181 rfl rfl rfl rfl rfl rfl rfl ?_
      have g37 : 0 ≤ (m.1 230) - 1 ∧ (m.1 230) - 1 ≤ 30 := ⟨by omega, by omega⟩
      refine T_ld 95 (.ref 181) rfl (fun _ => rfl) ?_
      refine T_ld 96 (.ref 181) rfl (fun _ => rfl) ?_
      refine K_gf 99 (.int (i32 (m.1 229))) rfl rfl kd_181 rfl (kval_c2 (k := 229) (F := fun x => .int (i32 x)) rfl (show (m32.1 229) = (m.1 229) from (fr1 Fm32 229 rfl))) rfl ?_
      refine T_ld 100 (.int (i32 1)) rfl (fun _ => rfl) ?_
      refine T_isub 101 rfl rfl ?_
      refine K_pf (l' := [(228, (m.1 228) - 1), (229, (m.1 229) - 1), (230, (m.1 230) - 1)]) 104 ((m.1 229) - 1) rfl rfl kd_181 rfl rfl rfl rfl rfl rfl rfl ?_
      have g38 : 0 ≤ (m.1 229) - 1 ∧ (m.1 229) - 1 ≤ 576 := ⟨by omega, by omega⟩
      refine T_ld 105 (.ref 181) rfl (fun _ => rfl) ?_
      refine T_ld 106 (.int (i32 ((m.2 68) ((m.1 228) - 1)))) rfl (fun _ => rfl) ?_
      refine T_ld 107 (.int (i32 ((m.2 70) ((m.1 229) - 1)))) rfl (fun _ => rfl) ?_
      refine T_ld 108 (.int (i32 0)) rfl (fun _ => rfl) ?_
      refine T_ld 109 (.int (i32 1)) rfl (fun _ => rfl) ?_
      refine T_ld 110 (.ref 181) rfl (fun _ => rfl) ?_
      refine K_gf 113 (.ref 183) rfl rfl kd_181 rfl rfl rfl ?_
      refine T_ld 114 (.ref 181) rfl (fun _ => rfl) ?_
      refine K_gf 117 (.int (i32 ((m.1 228) - 1))) rfl rfl kd_181 rfl rfl rfl ?_
      refine K_iald 118 69 (m.2 69) rfl rfl rfl (by omega) (show ((m.1 228) - 1) < (288 : Int) by omega) (show (m32.2 69) = (m.2 69) from (fr2 Fm32 69 rfl)) ?_
      have e39 : 0 ≤ m.2 69 ((m.1 228) - 1) ∧ m.2 69 ((m.1 228) - 1) ≤ 4001 := hT.2.1 69 ((m.1 228) - 1)
      refine T_callx 121 97 [.ref 181, .int (i32 ((m.2 68) ((m.1 228) - 1))), .int (i32 ((m.2 70) ((m.1 229) - 1))), .int (i32 0), .int (i32 1), .int (i32 ((m.2 69) ((m.1 228) - 1)))] [] rfl (fun _ => rfl) rfl rfl (c_fm_add w (mO m32 [(228, (m.1 228) - 1), (229, (m.1 229) - 1), (230, (m.1 230) - 1)] []) c N D (by omega) (KTy_mO Tm32 rfl rfl ⟨g36, g38, g37, trivial⟩ trivial) ((m.2 68) ((m.1 228) - 1)) ((m.2 70) ((m.1 229) - 1)) 0 1 ((m.2 69) ((m.1 228) - 1)) (r32 (by omega) (by omega)) (r32 (by omega) (by omega)) ⟨by decide, by decide⟩ ⟨by decide, by decide⟩ (r32 (by omega) (by omega)) (show 0 ≤ ((m.1 229) - 1) ∧ ((m.1 229) - 1) ≤ 575 by omega) (show 0 ≤ ((m.2 68) ((m.1 228) - 1)) ∧ ((m.2 68) ((m.1 228) - 1)) ≤ 65535 by omega) (show 0 ≤ ((m.2 70) ((m.1 229) - 1)) ∧ ((m.2 70) ((m.1 229) - 1)) ≤ 1089 by omega) (show 0 ≤ (0 : Int) ∧ (0 : Int) ≤ 1089 by omega) (show 0 ≤ (1 : Int) ∧ (1 : Int) ≤ 64 by omega) (show 0 ≤ ((m.2 69) ((m.1 228) - 1)) ∧ ((m.2 69) ((m.1 228) - 1)) ≤ 4001 by omega) (show ((m.2 68) ((m.1 228) - 1)) ≠ 400 ∨ ((m.2 70) ((m.1 229) - 1)) ≤ 220 by omega) (show ((m.2 68) ((m.1 228) - 1)) ≠ 401 ∨ ((m.2 70) ((m.1 229) - 1)) ≤ 3 by omega) (show NKp (m32.2 18) (m32.2 19) by rewrite [(show (m32.2 18) = (m.2 18) from (fr2 Fm32 18 rfl)), (show (m32.2 19) = (m.2 19) from (fr2 Fm32 19 rfl))]; exact hNK)) (fun rr40 k41 => ?_)
      obtain ⟨m42, nn, Tm42, Fm42, g43, h44, h45, rfl⟩ := k41
      refine Or.inl ⟨_, _, _, _, rfl, ?_⟩
      refine K_nb (st' := [.int (i32 nn)]) rfl ?_
      obtain ⟨g43a, g43b⟩ := g43
      have g46 : 0 ≤ m42.1 229 ∧ m42.1 229 ≤ 576 := Tm42.1 229
      replace h44 : (m42.1 229) = ((m.1 229) - 1) + 1 := h44
      replace h45 : NKp (m42.2 18) (m42.2 19) := h45
      have hNK := h45
      refine T_pop 122 rfl (fun _ => rfl) ?_
      refine T_ret rfl (fun _ => rfl) ?_
      exact Or.inl ⟨(mO m42 [] []), Tm42, (fr_m (fr_s Fm42 (fr_m (fr_s Fm32 (fr_m fr_0 rfl rfl) rfl rfl) rfl rfl) rfl rfl) rfl rfl), (show FBp (m42.1 229) (m.2 68) (m42.1 228) (m42.1 230) by rewrite [(show (m42.1 228) = ((m.1 228) - 1) from (fr1 Fm42 228 rfl)), (show (m42.1 230) = ((m.1 230) - 1) from (fr1 Fm42 230 rfl))]; first | (exact FB_e hFs (by omega)) | (exfalso; omega)), (show NKp (m42.2 18) (m42.2 19) by first | (exact hNK) | (exfalso; omega)), (show (m42.1 228) = (m.1 228) - 1 by rewrite [(show (m42.1 228) = ((m.1 228) - 1) from (fr1 Fm42 228 rfl))]; omega), rfl⟩
    · skip
      refine T_ld 57 (.ref 181) rfl (fun _ => rfl) ?_
      refine K_gf 60 (.ref 6) rfl rfl kd_181 rfl rfl rfl ?_
      refine T_ld 62 (.int (i32 7)) rfl (fun _ => rfl) ?_
      refine T_ld 63 (.ref 181) rfl (fun _ => rfl) ?_
      refine K_gf 66 (.ref 22) rfl rfl kd_181 rfl rfl rfl ?_
      refine K_gf 69 (.ref 28) rfl rfl kd_22 rfl rfl rfl ?_
      refine T_ld 70 (.int (i32 ((m.2 70) ((m.1 229) - 1)))) rfl (fun _ => rfl) ?_
      refine K_iald 71 23 (m.2 23) rfl rfl rfl (by omega) (show ((m.2 70) ((m.1 229) - 1)) < (1090 : Int) by omega) (show (m32.2 23) = (m.2 23) from (fr2 Fm32 23 rfl)) ?_
      have e47 : 0 ≤ (m.2 23) ((m.2 70) ((m.1 229) - 1)) ∧ (m.2 23) ((m.2 70) ((m.1 229) - 1)) ≤ 4001 := (hT.2.1 23) ((m.2 70) ((m.1 229) - 1))
      refine T_callx 74 51 [.ref 6, .int (i32 7), .int (i32 ((m.2 23) ((m.2 70) ((m.1 229) - 1))))] [] rfl (fun _ => rfl) rfl rfl (c_tx_fail w (mO m32 [] []) c N D (by omega) Tm32 7 ((m.2 23) ((m.2 70) ((m.1 229) - 1))) ⟨by decide, by decide⟩ (r32 (by omega) (by omega)) (show 1 ≤ (7 : Int) ∧ (7 : Int) ≤ 8 by omega) (show 0 ≤ ((m.2 23) ((m.2 70) ((m.1 229) - 1))) ∧ ((m.2 23) ((m.2 70) ((m.1 229) - 1))) ≤ 4001 by omega)) (fun rr48 k49 => ?_)
      rcases k49 with ⟨m50, Tm50, Fm50, h51, rfl⟩ | ⟨xx54, m52, hx53, Tm52, Fm52, rfl⟩
      rotate_left
      · skip
        refine Or.inr ⟨_, _, _, _, rfl, ?_⟩
        exact Or.inr ⟨xx54, (mO m52 [] []), (hx53), Tm52, (fr_m (fr_s Fm52 (fr_m (fr_s Fm32 (fr_m fr_0 rfl rfl) rfl rfl) rfl rfl) rfl rfl) rfl rfl), (show NKp (m52.2 18) (m52.2 19) by rewrite [(show (m52.2 18) = (m.2 18) from ((fr2 Fm52 18 rfl).trans (fr2 Fm32 18 rfl))), (show (m52.2 19) = (m.2 19) from ((fr2 Fm52 19 rfl).trans (fr2 Fm32 19 rfl)))]; exact hNK), rfl⟩
      exact h51.elim
def fF_fm_closePair : List Nat := [211, 212, 213, 220, 228, 229]
def fA_fm_closePair : List Nat := [18, 19, 20, 22, 23, 70]
def Q_fm_closePair (m : mR) (c : Nat → Option am_C) (N : Nat) : ag_Re af_T → Prop := fun R => (∃ (M : mR), KTy M ∧ fr fF_fm_closePair fA_fm_closePair m M ∧ (FBp (M.1 229) (m.2 68) (M.1 228) (m.1 230)) ∧ (NKp (M.2 18) (M.2 19)) ∧ ((M.1 228) = (m.1 228) - 1) ∧ R = (.inl (none), (khp M c, N), 0, 0)) ∨ (∃ (x : Nat) (M : mR), (x = 0) ∧ (KTy M) ∧ (fr fF_fm_closePair fA_fm_closePair m M) ∧ (NKp (M.2 18) (M.2 19)) ∧ R = (.inr x, (khp M c, N), 1, 6))
set_option maxHeartbeats 3000000 in
theorem c_fm_closePair (w : wX) (m : mR) (c : Nat → Option am_C) (N D : Nat) (hD : 8 ≤ D) (hT : KTy m) (hFB : FBp (m.1 229) (m.2 68) (m.1 228) (m.1 230)) (hNK : NKp (m.2 18) (m.2 19)) (p2 : 1 ≤ (m.1 228)) (hTo : PRq ((m.2 68) ((m.1 228) - 1))) : TC w D 109 [.ref 181] (khp m c, N) (Q_fm_closePair m c N) := by
  obtain ⟨D, rfl⟩ : ∃ k, D = k + 1 := ⟨D - 1, by omega⟩
  have f228 : 0 ≤ m.1 228 ∧ m.1 228 ≤ 288 := hT.1 228
  have f229 : 0 ≤ m.1 229 ∧ m.1 229 ≤ 576 := hT.1 229
  have f230 : 0 ≤ m.1 230 ∧ m.1 230 ≤ 30 := hT.1 230
  refine Tc_of rfl ?_
  rw [show (khp m c, N) = (khp (mO m [] []) c, N) from by rw [mO_nil m]]
  show TT w D pm_109 (0, [(0, .ref 181)], [], (khp (mO m [] []) c, N), 0, 0) (Q_fm_closePair m c N)
  have hbB := FB_b hFB (by omega) (by omega)
  have hFs := FB_p hFB (by omega) hTo
  have hF2 := hFs.2
  have hPk := (PR_k hTo).2
  refine T_ld 1 (.ref 181) rfl (fun _ => rfl) ?_
  refine K_gf 4 (.ref 182) rfl rfl kd_181 rfl rfl rfl ?_
  refine T_ld 5 (.ref 181) rfl (fun _ => rfl) ?_
  refine K_gf 8 (.int (i32 (m.1 228))) rfl rfl kd_181 rfl rfl rfl ?_
  refine T_ld 9 (.int (i32 1)) rfl (fun _ => rfl) ?_
  refine T_isub 10 rfl rfl ?_
  refine K_iald 11 68 (m.2 68) rfl rfl rfl (by omega) (show ((m.1 228) - 1) < (288 : Int) by omega) rfl ?_
  have e1 : (-1) ≤ m.2 68 ((m.1 228) - 1) ∧ m.2 68 ((m.1 228) - 1) ≤ 65535 := hT.2.1 68 ((m.1 228) - 1)
  refine T_sto 12 [(1, .int (i32 ((m.2 68) ((m.1 228) - 1)))), (0, .ref 181)] rfl (fun _ => rfl) ?_
  refine T_ld 13 (.ref 181) rfl (fun _ => rfl) ?_
  refine K_gf 16 (.ref 184) rfl rfl kd_181 rfl rfl rfl ?_
  refine T_ld 17 (.ref 181) rfl (fun _ => rfl) ?_
  refine K_gf 20 (.int (i32 (m.1 229))) rfl rfl kd_181 rfl rfl rfl ?_
  refine T_ld 21 (.int (i32 2)) rfl (fun _ => rfl) ?_
  refine T_isub 22 rfl rfl ?_
  refine K_iald 23 70 (m.2 70) rfl rfl rfl (by omega) (show ((m.1 229) - 2) < (576 : Int) by omega) rfl ?_
  have e2 : 0 ≤ (m.2 70) ((m.1 229) - 2) ∧ (m.2 70) ((m.1 229) - 2) ≤ 1089 := (hT.2.1 70) ((m.1 229) - 2)
  refine T_sto 24 [(2, .int (i32 ((m.2 70) ((m.1 229) - 2)))), (1, .int (i32 ((m.2 68) ((m.1 228) - 1)))), (0, .ref 181)] rfl (fun _ => rfl) ?_
  refine T_ld 25 (.ref 181) rfl (fun _ => rfl) ?_
  refine K_gf 28 (.ref 184) rfl rfl kd_181 rfl rfl rfl ?_
  refine T_ld 29 (.ref 181) rfl (fun _ => rfl) ?_
  refine K_gf 32 (.int (i32 (m.1 229))) rfl rfl kd_181 rfl rfl rfl ?_
  refine T_ld 33 (.int (i32 1)) rfl (fun _ => rfl) ?_
  refine T_isub 34 rfl rfl ?_
  refine K_iald 35 70 (m.2 70) rfl rfl rfl (by omega) (show ((m.1 229) - 1) < (576 : Int) by omega) rfl ?_
  have e3 : 0 ≤ (m.2 70) ((m.1 229) - 1) ∧ (m.2 70) ((m.1 229) - 1) ≤ 1089 := (hT.2.1 70) ((m.1 229) - 1)
  refine T_sto 36 [(3, .int (i32 ((m.2 70) ((m.1 229) - 1)))), (2, .int (i32 ((m.2 70) ((m.1 229) - 2)))), (1, .int (i32 ((m.2 68) ((m.1 228) - 1)))), (0, .ref 181)] rfl (fun _ => rfl) ?_
  refine T_ld 37 (.int (i32 ((m.2 68) ((m.1 228) - 1)))) rfl (fun _ => rfl) ?_
  refine T_callx 40 108 [.int (i32 ((m.2 68) ((m.1 228) - 1)))] [] rfl (fun _ => rfl) rfl rfl (c_fm_levelOf w (mO m [] []) c N D (by omega) hT ((m.2 68) ((m.1 228) - 1)) (r32 (by omega) (by omega))) (fun rr4 k5 => ?_)
  obtain ⟨lv, g6, h7, h8, rfl⟩ := k5
  refine Or.inl ⟨_, _, _, _, rfl, ?_⟩
  refine T_ns (st' := [.int (i32 lv)]) rfl ?_
  obtain ⟨g6a, g6b⟩ := g6
  replace h7 : 1 ≤ lv → PRq ((m.2 68) ((m.1 228) - 1)) := h7
  have hL1 := h7
  replace h8 : lv = 0 → ¬ PRq ((m.2 68) ((m.1 228) - 1)) := h8
  have hL0 := h8
  refine T_sto 42 [(4, .int (i32 lv)), (3, .int (i32 ((m.2 70) ((m.1 229) - 1)))), (2, .int (i32 ((m.2 70) ((m.1 229) - 2)))), (1, .int (i32 ((m.2 68) ((m.1 228) - 1)))), (0, .ref 181)] rfl (fun _ => rfl) ?_
  refine T_ld 43 (.ref 181) rfl (fun _ => rfl) ?_
  refine K_gf 46 (.ref 22) rfl rfl kd_181 rfl rfl rfl ?_
  refine K_gf 49 (.ref 27) rfl rfl kd_22 rfl rfl rfl ?_
  refine T_ld 50 (.int (i32 ((m.2 70) ((m.1 229) - 2)))) rfl (fun _ => rfl) ?_
  refine K_iald 51 22 (m.2 22) rfl rfl rfl (by omega) (show ((m.2 70) ((m.1 229) - 2)) < (1090 : Int) by omega) rfl ?_
  have e9 : 0 ≤ (m.2 22) ((m.2 70) ((m.1 229) - 2)) ∧ (m.2 22) ((m.2 70) ((m.1 229) - 2)) ≤ 64 := (hT.2.1 22) ((m.2 70) ((m.1 229) - 2))
  refine T_sto 53 [(5, .int (i32 ((m.2 22) ((m.2 70) ((m.1 229) - 2))))), (4, .int (i32 lv)), (3, .int (i32 ((m.2 70) ((m.1 229) - 1)))), (2, .int (i32 ((m.2 70) ((m.1 229) - 2)))), (1, .int (i32 ((m.2 68) ((m.1 228) - 1)))), (0, .ref 181)] rfl (fun _ => rfl) ?_
  refine T_ld 54 (.int (i32 ((m.2 68) ((m.1 228) - 1)))) rfl (fun _ => rfl) ?_
  refine T_ld 57 (.int (i32 9766)) rfl (fun _ => rfl) ?_
  refine T_icmp 67 60 rfl rfl rfl (r32 (by omega) (by omega)) ⟨by decide, by decide⟩ (fun (h10 : (m.2 68) ((m.1 228) - 1) = 9766) => ?_) (fun (h10 : ¬ ((m.2 68) ((m.1 228) - 1) = 9766)) => ?_)
  · skip
    refine T_ld 68 (.ref 181) rfl (fun _ => rfl) ?_
    refine T_ld 69 (.int (i32 ((m.2 70) ((m.1 229) - 2)))) rfl (fun _ => rfl) ?_
    refine T_ld 70 (.int (i32 (-1))) rfl (fun _ => rfl) ?_
    refine T_callx 73 110 [.ref 181, .int (i32 ((m.2 70) ((m.1 229) - 2))), .int (i32 (-1))] [] rfl (fun _ => rfl) rfl rfl (c_fm_agree w (mO m [] []) c N D (by omega) hT ((m.2 70) ((m.1 229) - 2)) (-1) (r32 (by omega) (by omega)) ⟨by decide, by decide⟩ (show 0 ≤ ((m.2 70) ((m.1 229) - 2)) ∧ ((m.2 70) ((m.1 229) - 2)) ≤ 1089 by omega) (show (-1) ≤ (-1 : Int) ∧ (-1 : Int) ≤ 1089 by omega)) (fun rr11 k12 => ?_)
    rcases k12 with ⟨m13, Tm13, Fm13, rfl⟩ | ⟨xx16, m14, hx15, Tm14, Fm14, rfl⟩
    rotate_left
    · skip
      refine Or.inr ⟨_, _, _, _, rfl, ?_⟩
      exact Or.inr ⟨xx16, (mO m14 [] []), (hx15), Tm14, (fr_m (fr_s Fm14 (fr_m fr_0 rfl rfl) rfl rfl) rfl rfl), (show NKp (m14.2 18) (m14.2 19) by rewrite [(show (m14.2 18) = (m.2 18) from (fr2 Fm14 18 rfl)), (show (m14.2 19) = (m.2 19) from (fr2 Fm14 19 rfl))]; exact hNK), rfl⟩
    refine Or.inl ⟨_, _, _, _, rfl, ?_⟩
    refine K_nb (st' := []) rfl ?_
    refine T_ld 74 (.ref 181) rfl (fun _ => rfl) ?_
    refine T_ld 75 (.int (i32 ((m.2 70) ((m.1 229) - 1)))) rfl (fun _ => rfl) ?_
    refine T_ld 76 (.int (i32 (-1))) rfl (fun _ => rfl) ?_
    refine T_callx 79 110 [.ref 181, .int (i32 ((m.2 70) ((m.1 229) - 1))), .int (i32 (-1))] [] rfl (fun _ => rfl) rfl rfl (c_fm_agree w (mO m13 [] []) c N D (by omega) Tm13 ((m.2 70) ((m.1 229) - 1)) (-1) (r32 (by omega) (by omega)) ⟨by decide, by decide⟩ (show 0 ≤ ((m.2 70) ((m.1 229) - 1)) ∧ ((m.2 70) ((m.1 229) - 1)) ≤ 1089 by omega) (show (-1) ≤ (-1 : Int) ∧ (-1 : Int) ≤ 1089 by omega)) (fun rr17 k18 => ?_)
    rcases k18 with ⟨m19, Tm19, Fm19, rfl⟩ | ⟨xx22, m20, hx21, Tm20, Fm20, rfl⟩
    rotate_left
    · skip
      refine Or.inr ⟨_, _, _, _, rfl, ?_⟩
      exact Or.inr ⟨xx22, (mO m20 [] []), (hx21), Tm20, (fr_m (fr_s Fm20 (fr_m (fr_s Fm13 (fr_m fr_0 rfl rfl) rfl rfl) rfl rfl) rfl rfl) rfl rfl), (show NKp (m20.2 18) (m20.2 19) by rewrite [(show (m20.2 18) = (m.2 18) from ((fr2 Fm20 18 rfl).trans (fr2 Fm13 18 rfl))), (show (m20.2 19) = (m.2 19) from ((fr2 Fm20 19 rfl).trans (fr2 Fm13 19 rfl)))]; exact hNK), rfl⟩
    refine Or.inl ⟨_, _, _, _, rfl, ?_⟩
    refine K_nb (st' := []) rfl ?_
    refine T_ld 80 (.int (i32 1)) rfl (fun _ => rfl) ?_
    refine T_sto 82 [(5, .int (i32 1)), (4, .int (i32 lv)), (3, .int (i32 ((m.2 70) ((m.1 229) - 1)))), (2, .int (i32 ((m.2 70) ((m.1 229) - 2)))), (1, .int (i32 ((m.2 68) ((m.1 228) - 1)))), (0, .ref 181)] rfl (fun _ => rfl) ?_
    refine T_goto 144 rfl (fun _ => rfl) ?_
    refine T_ld 145 (.ref 181) rfl (fun _ => rfl) ?_
    refine T_ld 146 (.ref 181) rfl (fun _ => rfl) ?_
    refine K_gf 149 (.int (i32 (m.1 228))) rfl rfl kd_181 rfl (kval_c2 (k := 228) (F := fun x => .int (i32 x)) rfl (show (m19.1 228) = (m.1 228) from ((fr1 Fm19 228 rfl).trans (fr1 Fm13 228 rfl)))) rfl ?_
    refine T_ld 150 (.int (i32 1)) rfl (fun _ => rfl) ?_
    refine T_isub 151 rfl rfl ?_
    refine K_pf (l' := [(228, (m.1 228) - 1)]) 154 ((m.1 228) - 1) rfl rfl kd_181 rfl rfl rfl rfl rfl rfl rfl ?_
    have g23 : 0 ≤ (m.1 228) - 1 ∧ (m.1 228) - 1 ≤ 288 := ⟨by omega, by omega⟩
    refine T_ld 155 (.ref 181) rfl (fun _ => rfl) ?_
    refine T_ld 156 (.ref 181) rfl (fun _ => rfl) ?_
    refine K_gf 159 (.int (i32 (m.1 229))) rfl rfl kd_181 rfl (kval_c2 (k := 229) (F := fun x => .int (i32 x)) rfl (show (m19.1 229) = (m.1 229) from ((fr1 Fm19 229 rfl).trans (fr1 Fm13 229 rfl)))) rfl ?_
    refine T_ld 160 (.int (i32 2)) rfl (fun _ => rfl) ?_
    refine T_isub 161 rfl rfl ?_
    refine K_pf (l' := [(228, (m.1 228) - 1), (229, (m.1 229) - 2)]) 164 ((m.1 229) - 2) rfl rfl kd_181 rfl rfl rfl rfl rfl rfl rfl ?_
    have g24 : 0 ≤ (m.1 229) - 2 ∧ (m.1 229) - 2 ≤ 576 := ⟨by omega, by omega⟩
    refine T_ld 165 (.ref 181) rfl (fun _ => rfl) ?_
    refine T_ld 166 (.int (i32 ((m.2 68) ((m.1 228) - 1)))) rfl (fun _ => rfl) ?_
    refine T_ld 167 (.int (i32 ((m.2 70) ((m.1 229) - 2)))) rfl (fun _ => rfl) ?_
    refine T_ld 168 (.int (i32 ((m.2 70) ((m.1 229) - 1)))) rfl (fun _ => rfl) ?_
    refine T_ld 170 (.int (i32 1)) rfl (fun _ => rfl) ?_
    refine T_ld 171 (.ref 181) rfl (fun _ => rfl) ?_
    refine K_gf 174 (.ref 22) rfl rfl kd_181 rfl rfl rfl ?_
    refine K_gf 177 (.ref 28) rfl rfl kd_22 rfl rfl rfl ?_
    refine T_ld 178 (.int (i32 ((m.2 70) ((m.1 229) - 2)))) rfl (fun _ => rfl) ?_
    refine K_iald 179 23 (m.2 23) rfl rfl rfl (by omega) (show ((m.2 70) ((m.1 229) - 2)) < (1090 : Int) by omega) (show (m19.2 23) = (m.2 23) from ((fr2 Fm19 23 rfl).trans (fr2 Fm13 23 rfl))) ?_
    have e25 : 0 ≤ (m.2 23) ((m.2 70) ((m.1 229) - 2)) ∧ (m.2 23) ((m.2 70) ((m.1 229) - 2)) ≤ 4001 := (hT.2.1 23) ((m.2 70) ((m.1 229) - 2))
    refine T_callx 182 97 [.ref 181, .int (i32 ((m.2 68) ((m.1 228) - 1))), .int (i32 ((m.2 70) ((m.1 229) - 2))), .int (i32 ((m.2 70) ((m.1 229) - 1))), .int (i32 1), .int (i32 ((m.2 23) ((m.2 70) ((m.1 229) - 2))))] [] rfl (fun _ => rfl) rfl rfl (c_fm_add w (mO m19 [(228, (m.1 228) - 1), (229, (m.1 229) - 2)] []) c N D (by omega) (KTy_mO Tm19 rfl rfl ⟨g23, g24, trivial⟩ trivial) ((m.2 68) ((m.1 228) - 1)) ((m.2 70) ((m.1 229) - 2)) ((m.2 70) ((m.1 229) - 1)) 1 ((m.2 23) ((m.2 70) ((m.1 229) - 2))) (r32 (by omega) (by omega)) (r32 (by omega) (by omega)) (r32 (by omega) (by omega)) ⟨by decide, by decide⟩ (r32 (by omega) (by omega)) (show 0 ≤ ((m.1 229) - 2) ∧ ((m.1 229) - 2) ≤ 575 by omega) (show 0 ≤ ((m.2 68) ((m.1 228) - 1)) ∧ ((m.2 68) ((m.1 228) - 1)) ≤ 65535 by omega) (show 0 ≤ ((m.2 70) ((m.1 229) - 2)) ∧ ((m.2 70) ((m.1 229) - 2)) ≤ 1089 by omega) (show 0 ≤ ((m.2 70) ((m.1 229) - 1)) ∧ ((m.2 70) ((m.1 229) - 1)) ≤ 1089 by omega) (show 0 ≤ (1 : Int) ∧ (1 : Int) ≤ 64 by omega) (show 0 ≤ ((m.2 23) ((m.2 70) ((m.1 229) - 2))) ∧ ((m.2 23) ((m.2 70) ((m.1 229) - 2))) ≤ 4001 by omega) (show ((m.2 68) ((m.1 228) - 1)) ≠ 400 ∨ ((m.2 70) ((m.1 229) - 2)) ≤ 220 by omega) (show ((m.2 68) ((m.1 228) - 1)) ≠ 401 ∨ ((m.2 70) ((m.1 229) - 2)) ≤ 3 by omega) (show NKp (m19.2 18) (m19.2 19) by rewrite [(show (m19.2 18) = (m.2 18) from ((fr2 Fm19 18 rfl).trans (fr2 Fm13 18 rfl))), (show (m19.2 19) = (m.2 19) from ((fr2 Fm19 19 rfl).trans (fr2 Fm13 19 rfl)))]; exact hNK)) (fun rr26 k27 => ?_)
    obtain ⟨m28, nn, Tm28, Fm28, g29, h30, h31, rfl⟩ := k27
    refine Or.inl ⟨_, _, _, _, rfl, ?_⟩
    refine K_nb (st' := [.int (i32 nn)]) rfl ?_
    obtain ⟨g29a, g29b⟩ := g29
    have g32 : 0 ≤ m28.1 229 ∧ m28.1 229 ≤ 576 := Tm28.1 229
    replace h30 : (m28.1 229) = ((m.1 229) - 2) + 1 := h30
    replace h31 : NKp (m28.2 18) (m28.2 19) := h31
    have hNK := h31
    refine T_pop 183 rfl (fun _ => rfl) ?_
    refine T_ret rfl (fun _ => rfl) ?_
    exact Or.inl ⟨(mO m28 [] []), Tm28, (fr_m (fr_s Fm28 (fr_m (fr_s Fm19 (fr_m (fr_s Fm13 (fr_m fr_0 rfl rfl) rfl rfl) rfl rfl) rfl rfl) rfl rfl) rfl rfl) rfl rfl), (show FBp (m28.1 229) (m.2 68) (m28.1 228) (m.1 230) by rewrite [(show (m28.1 228) = ((m.1 228) - 1) from (fr1 Fm28 228 rfl))]; first | (exact FB_e hFs.1 (by omega)) | (exfalso; omega)), (show NKp (m28.2 18) (m28.2 19) by first | (exact hNK) | (exfalso; omega)), (show (m28.1 228) = (m.1 228) - 1 by rewrite [(show (m28.1 228) = ((m.1 228) - 1) from (fr1 Fm28 228 rfl))]; omega), rfl⟩
  · skip
    refine T_ld 61 (.int (i32 ((m.2 68) ((m.1 228) - 1)))) rfl (fun _ => rfl) ?_
    refine T_ld 64 (.int (i32 31868)) rfl (fun _ => rfl) ?_
    refine T_icmp 85 67 rfl rfl rfl (r32 (by omega) (by omega)) ⟨by decide, by decide⟩ (fun (h33 : (m.2 68) ((m.1 228) - 1) ≠ 31868) => ?_) (fun (h33 : ¬ ((m.2 68) ((m.1 228) - 1) ≠ 31868)) => ?_)
    · skip
      refine T_ld 86 (.int (i32 ((m.2 68) ((m.1 228) - 1)))) rfl (fun _ => rfl) ?_
      refine T_ld 89 (.int (i32 11051)) rfl (fun _ => rfl) ?_
      refine T_icmp 103 92 rfl rfl rfl (r32 (by omega) (by omega)) ⟨by decide, by decide⟩ (fun (h34 : (m.2 68) ((m.1 228) - 1) ≠ 11051) => ?_) (fun (h34 : ¬ ((m.2 68) ((m.1 228) - 1) ≠ 11051)) => ?_)
      · skip
        refine T_ld 104 (.int (i32 ((m.2 68) ((m.1 228) - 1)))) rfl (fun _ => rfl) ?_
        refine T_ld 107 (.int (i32 15420)) rfl (fun _ => rfl) ?_
        refine T_icmp 144 110 rfl rfl rfl (r32 (by omega) (by omega)) ⟨by decide, by decide⟩ (fun (h35 : (m.2 68) ((m.1 228) - 1) = 15420) => ?_) (fun (h35 : ¬ ((m.2 68) ((m.1 228) - 1) = 15420)) => ?_)
        · skip
          refine T_ld 145 (.ref 181) rfl (fun _ => rfl) ?_
          refine T_ld 146 (.ref 181) rfl (fun _ => rfl) ?_
          refine K_gf 149 (.int (i32 (m.1 228))) rfl rfl kd_181 rfl rfl rfl ?_
          refine T_ld 150 (.int (i32 1)) rfl (fun _ => rfl) ?_
          refine T_isub 151 rfl rfl ?_
          refine K_pf (l' := [(228, (m.1 228) - 1)]) 154 ((m.1 228) - 1) rfl rfl kd_181 rfl rfl rfl rfl rfl rfl rfl ?_
          have g36 : 0 ≤ (m.1 228) - 1 ∧ (m.1 228) - 1 ≤ 288 := ⟨by omega, by omega⟩
          refine T_ld 155 (.ref 181) rfl (fun _ => rfl) ?_
          refine T_ld 156 (.ref 181) rfl (fun _ => rfl) ?_
          refine K_gf 159 (.int (i32 (m.1 229))) rfl rfl kd_181 rfl rfl rfl ?_
          refine T_ld 160 (.int (i32 2)) rfl (fun _ => rfl) ?_
          refine T_isub 161 rfl rfl ?_
          refine K_pf (l' := [(228, (m.1 228) - 1), (229, (m.1 229) - 2)]) 164 ((m.1 229) - 2) rfl rfl kd_181 rfl rfl rfl rfl rfl rfl rfl ?_
          have g37 : 0 ≤ (m.1 229) - 2 ∧ (m.1 229) - 2 ≤ 576 := ⟨by omega, by omega⟩
          refine T_ld 165 (.ref 181) rfl (fun _ => rfl) ?_
          refine T_ld 166 (.int (i32 ((m.2 68) ((m.1 228) - 1)))) rfl (fun _ => rfl) ?_
          refine T_ld 167 (.int (i32 ((m.2 70) ((m.1 229) - 2)))) rfl (fun _ => rfl) ?_
          refine T_ld 168 (.int (i32 ((m.2 70) ((m.1 229) - 1)))) rfl (fun _ => rfl) ?_
          refine T_ld 170 (.int (i32 ((m.2 22) ((m.2 70) ((m.1 229) - 2))))) rfl (fun _ => rfl) ?_
          refine T_ld 171 (.ref 181) rfl (fun _ => rfl) ?_
          refine K_gf 174 (.ref 22) rfl rfl kd_181 rfl rfl rfl ?_
          refine K_gf 177 (.ref 28) rfl rfl kd_22 rfl rfl rfl ?_
          refine T_ld 178 (.int (i32 ((m.2 70) ((m.1 229) - 2)))) rfl (fun _ => rfl) ?_
          refine K_iald 179 23 (m.2 23) rfl rfl rfl (by omega) (show ((m.2 70) ((m.1 229) - 2)) < (1090 : Int) by omega) rfl ?_
          have e38 : 0 ≤ (m.2 23) ((m.2 70) ((m.1 229) - 2)) ∧ (m.2 23) ((m.2 70) ((m.1 229) - 2)) ≤ 4001 := (hT.2.1 23) ((m.2 70) ((m.1 229) - 2))
          refine T_callx 182 97 [.ref 181, .int (i32 ((m.2 68) ((m.1 228) - 1))), .int (i32 ((m.2 70) ((m.1 229) - 2))), .int (i32 ((m.2 70) ((m.1 229) - 1))), .int (i32 ((m.2 22) ((m.2 70) ((m.1 229) - 2)))), .int (i32 ((m.2 23) ((m.2 70) ((m.1 229) - 2))))] [] rfl (fun _ => rfl) rfl rfl (c_fm_add w (mO m [(228, (m.1 228) - 1), (229, (m.1 229) - 2)] []) c N D (by omega) (KTy_mO hT rfl rfl ⟨g36, g37, trivial⟩ trivial) ((m.2 68) ((m.1 228) - 1)) ((m.2 70) ((m.1 229) - 2)) ((m.2 70) ((m.1 229) - 1)) ((m.2 22) ((m.2 70) ((m.1 229) - 2))) ((m.2 23) ((m.2 70) ((m.1 229) - 2))) (r32 (by omega) (by omega)) (r32 (by omega) (by omega)) (r32 (by omega) (by omega)) (r32 (by omega) (by omega)) (r32 (by omega) (by omega)) (show 0 ≤ ((m.1 229) - 2) ∧ ((m.1 229) - 2) ≤ 575 by omega) (show 0 ≤ ((m.2 68) ((m.1 228) - 1)) ∧ ((m.2 68) ((m.1 228) - 1)) ≤ 65535 by omega) (show 0 ≤ ((m.2 70) ((m.1 229) - 2)) ∧ ((m.2 70) ((m.1 229) - 2)) ≤ 1089 by omega) (show 0 ≤ ((m.2 70) ((m.1 229) - 1)) ∧ ((m.2 70) ((m.1 229) - 1)) ≤ 1089 by omega) (show 0 ≤ ((m.2 22) ((m.2 70) ((m.1 229) - 2))) ∧ ((m.2 22) ((m.2 70) ((m.1 229) - 2))) ≤ 64 by omega) (show 0 ≤ ((m.2 23) ((m.2 70) ((m.1 229) - 2))) ∧ ((m.2 23) ((m.2 70) ((m.1 229) - 2))) ≤ 4001 by omega) (show ((m.2 68) ((m.1 228) - 1)) ≠ 400 ∨ ((m.2 70) ((m.1 229) - 2)) ≤ 220 by omega) (show ((m.2 68) ((m.1 228) - 1)) ≠ 401 ∨ ((m.2 70) ((m.1 229) - 2)) ≤ 3 by omega) (show NKp (m.2 18) (m.2 19) by exact hNK)) (fun rr39 k40 => ?_)
          obtain ⟨m41, nn, Tm41, Fm41, g42, h43, h44, rfl⟩ := k40
          refine Or.inl ⟨_, _, _, _, rfl, ?_⟩
          refine K_nb (st' := [.int (i32 nn)]) rfl ?_
          obtain ⟨g42a, g42b⟩ := g42
          have g45 : 0 ≤ m41.1 229 ∧ m41.1 229 ≤ 576 := Tm41.1 229
          replace h43 : (m41.1 229) = ((m.1 229) - 2) + 1 := h43
          replace h44 : NKp (m41.2 18) (m41.2 19) := h44
          have hNK := h44
          refine T_pop 183 rfl (fun _ => rfl) ?_
          refine T_ret rfl (fun _ => rfl) ?_
          exact Or.inl ⟨(mO m41 [] []), Tm41, (fr_m (fr_s Fm41 (fr_m fr_0 rfl rfl) rfl rfl) rfl rfl), (show FBp (m41.1 229) (m.2 68) (m41.1 228) (m.1 230) by rewrite [(show (m41.1 228) = ((m.1 228) - 1) from (fr1 Fm41 228 rfl))]; first | (exact FB_e hFs.1 (by omega)) | (exfalso; omega)), (show NKp (m41.2 18) (m41.2 19) by first | (exact hNK) | (exfalso; omega)), (show (m41.1 228) = (m.1 228) - 1 by rewrite [(show (m41.1 228) = ((m.1 228) - 1) from (fr1 Fm41 228 rfl))]; omega), rfl⟩
        · skip
          refine T_ld 111 (.int (i32 ((m.2 68) ((m.1 228) - 1)))) rfl (fun _ => rfl) ?_
          refine T_ld 114 (.int (i32 15934)) rfl (fun _ => rfl) ?_
          refine T_icmp 144 117 rfl rfl rfl (r32 (by omega) (by omega)) ⟨by decide, by decide⟩ (fun (h46 : (m.2 68) ((m.1 228) - 1) = 15934) => ?_) (fun (h46 : ¬ ((m.2 68) ((m.1 228) - 1) = 15934)) => ?_)
          · skip
            refine T_ld 145 (.ref 181) rfl (fun _ => rfl) ?_
            refine T_ld 146 (.ref 181) rfl (fun _ => rfl) ?_
            refine K_gf 149 (.int (i32 (m.1 228))) rfl rfl kd_181 rfl rfl rfl ?_
            refine T_ld 150 (.int (i32 1)) rfl (fun _ => rfl) ?_
            refine T_isub 151 rfl rfl ?_
            refine K_pf (l' := [(228, (m.1 228) - 1)]) 154 ((m.1 228) - 1) rfl rfl kd_181 rfl rfl rfl rfl rfl rfl rfl ?_
            have g47 : 0 ≤ (m.1 228) - 1 ∧ (m.1 228) - 1 ≤ 288 := ⟨by omega, by omega⟩
            refine T_ld 155 (.ref 181) rfl (fun _ => rfl) ?_
            refine T_ld 156 (.ref 181) rfl (fun _ => rfl) ?_
            refine K_gf 159 (.int (i32 (m.1 229))) rfl rfl kd_181 rfl rfl rfl ?_
            refine T_ld 160 (.int (i32 2)) rfl (fun _ => rfl) ?_
            refine T_isub 161 rfl rfl ?_
            refine K_pf (l' := [(228, (m.1 228) - 1), (229, (m.1 229) - 2)]) 164 ((m.1 229) - 2) rfl rfl kd_181 rfl rfl rfl rfl rfl rfl rfl ?_
            have g48 : 0 ≤ (m.1 229) - 2 ∧ (m.1 229) - 2 ≤ 576 := ⟨by omega, by omega⟩
            refine T_ld 165 (.ref 181) rfl (fun _ => rfl) ?_
            refine T_ld 166 (.int (i32 ((m.2 68) ((m.1 228) - 1)))) rfl (fun _ => rfl) ?_
            refine T_ld 167 (.int (i32 ((m.2 70) ((m.1 229) - 2)))) rfl (fun _ => rfl) ?_
            refine T_ld 168 (.int (i32 ((m.2 70) ((m.1 229) - 1)))) rfl (fun _ => rfl) ?_
            refine T_ld 170 (.int (i32 ((m.2 22) ((m.2 70) ((m.1 229) - 2))))) rfl (fun _ => rfl) ?_
            refine T_ld 171 (.ref 181) rfl (fun _ => rfl) ?_
            refine K_gf 174 (.ref 22) rfl rfl kd_181 rfl rfl rfl ?_
            refine K_gf 177 (.ref 28) rfl rfl kd_22 rfl rfl rfl ?_
            refine T_ld 178 (.int (i32 ((m.2 70) ((m.1 229) - 2)))) rfl (fun _ => rfl) ?_
            refine K_iald 179 23 (m.2 23) rfl rfl rfl (by omega) (show ((m.2 70) ((m.1 229) - 2)) < (1090 : Int) by omega) rfl ?_
            have e49 : 0 ≤ (m.2 23) ((m.2 70) ((m.1 229) - 2)) ∧ (m.2 23) ((m.2 70) ((m.1 229) - 2)) ≤ 4001 := (hT.2.1 23) ((m.2 70) ((m.1 229) - 2))
            refine T_callx 182 97 [.ref 181, .int (i32 ((m.2 68) ((m.1 228) - 1))), .int (i32 ((m.2 70) ((m.1 229) - 2))), .int (i32 ((m.2 70) ((m.1 229) - 1))), .int (i32 ((m.2 22) ((m.2 70) ((m.1 229) - 2)))), .int (i32 ((m.2 23) ((m.2 70) ((m.1 229) - 2))))] [] rfl (fun _ => rfl) rfl rfl (c_fm_add w (mO m [(228, (m.1 228) - 1), (229, (m.1 229) - 2)] []) c N D (by omega) (KTy_mO hT rfl rfl ⟨g47, g48, trivial⟩ trivial) ((m.2 68) ((m.1 228) - 1)) ((m.2 70) ((m.1 229) - 2)) ((m.2 70) ((m.1 229) - 1)) ((m.2 22) ((m.2 70) ((m.1 229) - 2))) ((m.2 23) ((m.2 70) ((m.1 229) - 2))) (r32 (by omega) (by omega)) (r32 (by omega) (by omega)) (r32 (by omega) (by omega)) (r32 (by omega) (by omega)) (r32 (by omega) (by omega)) (show 0 ≤ ((m.1 229) - 2) ∧ ((m.1 229) - 2) ≤ 575 by omega) (show 0 ≤ ((m.2 68) ((m.1 228) - 1)) ∧ ((m.2 68) ((m.1 228) - 1)) ≤ 65535 by omega) (show 0 ≤ ((m.2 70) ((m.1 229) - 2)) ∧ ((m.2 70) ((m.1 229) - 2)) ≤ 1089 by omega) (show 0 ≤ ((m.2 70) ((m.1 229) - 1)) ∧ ((m.2 70) ((m.1 229) - 1)) ≤ 1089 by omega) (show 0 ≤ ((m.2 22) ((m.2 70) ((m.1 229) - 2))) ∧ ((m.2 22) ((m.2 70) ((m.1 229) - 2))) ≤ 64 by omega) (show 0 ≤ ((m.2 23) ((m.2 70) ((m.1 229) - 2))) ∧ ((m.2 23) ((m.2 70) ((m.1 229) - 2))) ≤ 4001 by omega) (show ((m.2 68) ((m.1 228) - 1)) ≠ 400 ∨ ((m.2 70) ((m.1 229) - 2)) ≤ 220 by omega) (show ((m.2 68) ((m.1 228) - 1)) ≠ 401 ∨ ((m.2 70) ((m.1 229) - 2)) ≤ 3 by omega) (show NKp (m.2 18) (m.2 19) by exact hNK)) (fun rr50 k51 => ?_)
            obtain ⟨m52, nn, Tm52, Fm52, g53, h54, h55, rfl⟩ := k51
            refine Or.inl ⟨_, _, _, _, rfl, ?_⟩
            refine K_nb (st' := [.int (i32 nn)]) rfl ?_
            obtain ⟨g53a, g53b⟩ := g53
            have g56 : 0 ≤ m52.1 229 ∧ m52.1 229 ≤ 576 := Tm52.1 229
            replace h54 : (m52.1 229) = ((m.1 229) - 2) + 1 := h54
            replace h55 : NKp (m52.2 18) (m52.2 19) := h55
            have hNK := h55
            refine T_pop 183 rfl (fun _ => rfl) ?_
            refine T_ret rfl (fun _ => rfl) ?_
            exact Or.inl ⟨(mO m52 [] []), Tm52, (fr_m (fr_s Fm52 (fr_m fr_0 rfl rfl) rfl rfl) rfl rfl), (show FBp (m52.1 229) (m.2 68) (m52.1 228) (m.1 230) by rewrite [(show (m52.1 228) = ((m.1 228) - 1) from (fr1 Fm52 228 rfl))]; first | (exact FB_e hFs.1 (by omega)) | (exfalso; omega)), (show NKp (m52.2 18) (m52.2 19) by first | (exact hNK) | (exfalso; omega)), (show (m52.1 228) = (m.1 228) - 1 by rewrite [(show (m52.1 228) = ((m.1 228) - 1) from (fr1 Fm52 228 rfl))]; omega), rfl⟩
          · skip
            refine T_ld 118 (.ref 181) rfl (fun _ => rfl) ?_
            refine T_ld 119 (.int (i32 ((m.2 70) ((m.1 229) - 2)))) rfl (fun _ => rfl) ?_
            refine T_ld 120 (.int (i32 ((m.2 70) ((m.1 229) - 1)))) rfl (fun _ => rfl) ?_
            refine T_callx 123 110 [.ref 181, .int (i32 ((m.2 70) ((m.1 229) - 2))), .int (i32 ((m.2 70) ((m.1 229) - 1)))] [] rfl (fun _ => rfl) rfl rfl (c_fm_agree w (mO m [] []) c N D (by omega) hT ((m.2 70) ((m.1 229) - 2)) ((m.2 70) ((m.1 229) - 1)) (r32 (by omega) (by omega)) (r32 (by omega) (by omega)) (show 0 ≤ ((m.2 70) ((m.1 229) - 2)) ∧ ((m.2 70) ((m.1 229) - 2)) ≤ 1089 by omega) (show (-1) ≤ ((m.2 70) ((m.1 229) - 1)) ∧ ((m.2 70) ((m.1 229) - 1)) ≤ 1089 by omega)) (fun rr57 k58 => ?_)
            rcases k58 with ⟨m59, Tm59, Fm59, rfl⟩ | ⟨xx62, m60, hx61, Tm60, Fm60, rfl⟩
            rotate_left
            · skip
              refine Or.inr ⟨_, _, _, _, rfl, ?_⟩
              exact Or.inr ⟨xx62, (mO m60 [] []), (hx61), Tm60, (fr_m (fr_s Fm60 (fr_m fr_0 rfl rfl) rfl rfl) rfl rfl), (show NKp (m60.2 18) (m60.2 19) by rewrite [(show (m60.2 18) = (m.2 18) from (fr2 Fm60 18 rfl)), (show (m60.2 19) = (m.2 19) from (fr2 Fm60 19 rfl))]; exact hNK), rfl⟩
            refine Or.inl ⟨_, _, _, _, rfl, ?_⟩
            refine K_nb (st' := []) rfl ?_
            refine T_ld 125 (.int (i32 lv)) rfl (fun _ => rfl) ?_
            refine T_ld 126 (.int (i32 3)) rfl (fun _ => rfl) ?_
            refine T_icmp 133 129 rfl rfl rfl (r32 (by omega) (by omega)) ⟨by decide, by decide⟩ (fun (h63 : lv ≠ 3) => ?_) (fun (h63 : ¬ (lv ≠ 3)) => ?_)
            · skip
              refine T_ld 134 (.ref 181) rfl (fun _ => rfl) ?_
              refine K_gf 137 (.ref 22) rfl rfl kd_181 rfl rfl rfl ?_
              refine K_gf 140 (.ref 27) rfl rfl kd_22 rfl rfl rfl ?_
              refine T_ld 141 (.int (i32 ((m.2 70) ((m.1 229) - 2)))) rfl (fun _ => rfl) ?_
              refine K_iald 142 22 (m59.2 22) rfl rfl rfl (by omega) (show ((m.2 70) ((m.1 229) - 2)) < (1090 : Int) by omega) rfl ?_
              have e64 : 0 ≤ (m59.2 22) ((m.2 70) ((m.1 229) - 2)) ∧ (m59.2 22) ((m.2 70) ((m.1 229) - 2)) ≤ 64 := (Tm59.2.1 22) ((m.2 70) ((m.1 229) - 2))
              refine T_sto 144 [(5, .int (i32 ((m59.2 22) ((m.2 70) ((m.1 229) - 2))))), (4, .int (i32 lv)), (3, .int (i32 ((m.2 70) ((m.1 229) - 1)))), (2, .int (i32 ((m.2 70) ((m.1 229) - 2)))), (1, .int (i32 ((m.2 68) ((m.1 228) - 1)))), (0, .ref 181)] rfl (fun _ => rfl) ?_
              refine T_ld 145 (.ref 181) rfl (fun _ => rfl) ?_
              refine T_ld 146 (.ref 181) rfl (fun _ => rfl) ?_
              refine K_gf 149 (.int (i32 (m.1 228))) rfl rfl kd_181 rfl (kval_c2 (k := 228) (F := fun x => .int (i32 x)) rfl (show (m59.1 228) = (m.1 228) from (fr1 Fm59 228 rfl))) rfl ?_
              refine T_ld 150 (.int (i32 1)) rfl (fun _ => rfl) ?_
              refine T_isub 151 rfl rfl ?_
              refine K_pf (l' := [(228, (m.1 228) - 1)]) 154 ((m.1 228) - 1) rfl rfl kd_181 rfl rfl rfl rfl rfl rfl rfl ?_
              have g65 : 0 ≤ (m.1 228) - 1 ∧ (m.1 228) - 1 ≤ 288 := ⟨by omega, by omega⟩
              refine T_ld 155 (.ref 181) rfl (fun _ => rfl) ?_
              refine T_ld 156 (.ref 181) rfl (fun _ => rfl) ?_
              refine K_gf 159 (.int (i32 (m.1 229))) rfl rfl kd_181 rfl (kval_c2 (k := 229) (F := fun x => .int (i32 x)) rfl (show (m59.1 229) = (m.1 229) from (fr1 Fm59 229 rfl))) rfl ?_
              refine T_ld 160 (.int (i32 2)) rfl (fun _ => rfl) ?_
              refine T_isub 161 rfl rfl ?_
              refine K_pf (l' := [(228, (m.1 228) - 1), (229, (m.1 229) - 2)]) 164 ((m.1 229) - 2) rfl rfl kd_181 rfl rfl rfl rfl rfl rfl rfl ?_
              have g66 : 0 ≤ (m.1 229) - 2 ∧ (m.1 229) - 2 ≤ 576 := ⟨by omega, by omega⟩
              refine T_ld 165 (.ref 181) rfl (fun _ => rfl) ?_
              refine T_ld 166 (.int (i32 ((m.2 68) ((m.1 228) - 1)))) rfl (fun _ => rfl) ?_
              refine T_ld 167 (.int (i32 ((m.2 70) ((m.1 229) - 2)))) rfl (fun _ => rfl) ?_
              refine T_ld 168 (.int (i32 ((m.2 70) ((m.1 229) - 1)))) rfl (fun _ => rfl) ?_
              refine T_ld 170 (.int (i32 ((m59.2 22) ((m.2 70) ((m.1 229) - 2))))) rfl (fun _ => rfl) ?_
              refine T_ld 171 (.ref 181) rfl (fun _ => rfl) ?_
              refine K_gf 174 (.ref 22) rfl rfl kd_181 rfl rfl rfl ?_
              refine K_gf 177 (.ref 28) rfl rfl kd_22 rfl rfl rfl ?_
              refine T_ld 178 (.int (i32 ((m.2 70) ((m.1 229) - 2)))) rfl (fun _ => rfl) ?_
              refine K_iald 179 23 (m.2 23) rfl rfl rfl (by omega) (show ((m.2 70) ((m.1 229) - 2)) < (1090 : Int) by omega) (show (m59.2 23) = (m.2 23) from (fr2 Fm59 23 rfl)) ?_
              have e67 : 0 ≤ (m.2 23) ((m.2 70) ((m.1 229) - 2)) ∧ (m.2 23) ((m.2 70) ((m.1 229) - 2)) ≤ 4001 := (hT.2.1 23) ((m.2 70) ((m.1 229) - 2))
              refine T_callx 182 97 [.ref 181, .int (i32 ((m.2 68) ((m.1 228) - 1))), .int (i32 ((m.2 70) ((m.1 229) - 2))), .int (i32 ((m.2 70) ((m.1 229) - 1))), .int (i32 ((m59.2 22) ((m.2 70) ((m.1 229) - 2)))), .int (i32 ((m.2 23) ((m.2 70) ((m.1 229) - 2))))] [] rfl (fun _ => rfl) rfl rfl (c_fm_add w (mO m59 [(228, (m.1 228) - 1), (229, (m.1 229) - 2)] []) c N D (by omega) (KTy_mO Tm59 rfl rfl ⟨g65, g66, trivial⟩ trivial) ((m.2 68) ((m.1 228) - 1)) ((m.2 70) ((m.1 229) - 2)) ((m.2 70) ((m.1 229) - 1)) ((m59.2 22) ((m.2 70) ((m.1 229) - 2))) ((m.2 23) ((m.2 70) ((m.1 229) - 2))) (r32 (by omega) (by omega)) (r32 (by omega) (by omega)) (r32 (by omega) (by omega)) (r32 (by omega) (by omega)) (r32 (by omega) (by omega)) (show 0 ≤ ((m.1 229) - 2) ∧ ((m.1 229) - 2) ≤ 575 by omega) (show 0 ≤ ((m.2 68) ((m.1 228) - 1)) ∧ ((m.2 68) ((m.1 228) - 1)) ≤ 65535 by omega) (show 0 ≤ ((m.2 70) ((m.1 229) - 2)) ∧ ((m.2 70) ((m.1 229) - 2)) ≤ 1089 by omega) (show 0 ≤ ((m.2 70) ((m.1 229) - 1)) ∧ ((m.2 70) ((m.1 229) - 1)) ≤ 1089 by omega) (show 0 ≤ ((m59.2 22) ((m.2 70) ((m.1 229) - 2))) ∧ ((m59.2 22) ((m.2 70) ((m.1 229) - 2))) ≤ 64 by omega) (show 0 ≤ ((m.2 23) ((m.2 70) ((m.1 229) - 2))) ∧ ((m.2 23) ((m.2 70) ((m.1 229) - 2))) ≤ 4001 by omega) (show ((m.2 68) ((m.1 228) - 1)) ≠ 400 ∨ ((m.2 70) ((m.1 229) - 2)) ≤ 220 by omega) (show ((m.2 68) ((m.1 228) - 1)) ≠ 401 ∨ ((m.2 70) ((m.1 229) - 2)) ≤ 3 by omega) (show NKp (m59.2 18) (m59.2 19) by rewrite [(show (m59.2 18) = (m.2 18) from (fr2 Fm59 18 rfl)), (show (m59.2 19) = (m.2 19) from (fr2 Fm59 19 rfl))]; exact hNK)) (fun rr68 k69 => ?_)
              obtain ⟨m70, nn, Tm70, Fm70, g71, h72, h73, rfl⟩ := k69
              refine Or.inl ⟨_, _, _, _, rfl, ?_⟩
              refine K_nb (st' := [.int (i32 nn)]) rfl ?_
              obtain ⟨g71a, g71b⟩ := g71
              have g74 : 0 ≤ m70.1 229 ∧ m70.1 229 ≤ 576 := Tm70.1 229
              replace h72 : (m70.1 229) = ((m.1 229) - 2) + 1 := h72
              replace h73 : NKp (m70.2 18) (m70.2 19) := h73
              have hNK := h73
              refine T_pop 183 rfl (fun _ => rfl) ?_
              refine T_ret rfl (fun _ => rfl) ?_
              exact Or.inl ⟨(mO m70 [] []), Tm70, (fr_m (fr_s Fm70 (fr_m (fr_s Fm59 (fr_m fr_0 rfl rfl) rfl rfl) rfl rfl) rfl rfl) rfl rfl), (show FBp (m70.1 229) (m.2 68) (m70.1 228) (m.1 230) by rewrite [(show (m70.1 228) = ((m.1 228) - 1) from (fr1 Fm70 228 rfl))]; first | (exact FB_e hFs.1 (by omega)) | (exfalso; omega)), (show NKp (m70.2 18) (m70.2 19) by first | (exact hNK) | (exfalso; omega)), (show (m70.1 228) = (m.1 228) - 1 by rewrite [(show (m70.1 228) = ((m.1 228) - 1) from (fr1 Fm70 228 rfl))]; omega), rfl⟩
            · skip
              refine T_ld 130 (.int (i32 1)) rfl (fun _ => rfl) ?_
              refine T_goto 142 rfl (fun _ => rfl) ?_
              refine T_sto 144 [(5, .int (i32 1)), (4, .int (i32 lv)), (3, .int (i32 ((m.2 70) ((m.1 229) - 1)))), (2, .int (i32 ((m.2 70) ((m.1 229) - 2)))), (1, .int (i32 ((m.2 68) ((m.1 228) - 1)))), (0, .ref 181)] rfl (fun _ => rfl) ?_
              refine T_ld 145 (.ref 181) rfl (fun _ => rfl) ?_
              refine T_ld 146 (.ref 181) rfl (fun _ => rfl) ?_
              refine K_gf 149 (.int (i32 (m.1 228))) rfl rfl kd_181 rfl (kval_c2 (k := 228) (F := fun x => .int (i32 x)) rfl (show (m59.1 228) = (m.1 228) from (fr1 Fm59 228 rfl))) rfl ?_
              refine T_ld 150 (.int (i32 1)) rfl (fun _ => rfl) ?_
              refine T_isub 151 rfl rfl ?_
              refine K_pf (l' := [(228, (m.1 228) - 1)]) 154 ((m.1 228) - 1) rfl rfl kd_181 rfl rfl rfl rfl rfl rfl rfl ?_
              have g75 : 0 ≤ (m.1 228) - 1 ∧ (m.1 228) - 1 ≤ 288 := ⟨by omega, by omega⟩
              refine T_ld 155 (.ref 181) rfl (fun _ => rfl) ?_
              refine T_ld 156 (.ref 181) rfl (fun _ => rfl) ?_
              refine K_gf 159 (.int (i32 (m.1 229))) rfl rfl kd_181 rfl (kval_c2 (k := 229) (F := fun x => .int (i32 x)) rfl (show (m59.1 229) = (m.1 229) from (fr1 Fm59 229 rfl))) rfl ?_
              refine T_ld 160 (.int (i32 2)) rfl (fun _ => rfl) ?_
              refine T_isub 161 rfl rfl ?_
              refine K_pf (l' := [(228, (m.1 228) - 1), (229, (m.1 229) - 2)]) 164 ((m.1 229) - 2) rfl rfl kd_181 rfl rfl rfl rfl rfl rfl rfl ?_
              have g76 : 0 ≤ (m.1 229) - 2 ∧ (m.1 229) - 2 ≤ 576 := ⟨by omega, by omega⟩
              refine T_ld 165 (.ref 181) rfl (fun _ => rfl) ?_
              refine T_ld 166 (.int (i32 ((m.2 68) ((m.1 228) - 1)))) rfl (fun _ => rfl) ?_
              refine T_ld 167 (.int (i32 ((m.2 70) ((m.1 229) - 2)))) rfl (fun _ => rfl) ?_
              refine T_ld 168 (.int (i32 ((m.2 70) ((m.1 229) - 1)))) rfl (fun _ => rfl) ?_
              refine T_ld 170 (.int (i32 1)) rfl (fun _ => rfl) ?_
              refine T_ld 171 (.ref 181) rfl (fun _ => rfl) ?_
              refine K_gf 174 (.ref 22) rfl rfl kd_181 rfl rfl rfl ?_
              refine K_gf 177 (.ref 28) rfl rfl kd_22 rfl rfl rfl ?_
              refine T_ld 178 (.int (i32 ((m.2 70) ((m.1 229) - 2)))) rfl (fun _ => rfl) ?_
              refine K_iald 179 23 (m.2 23) rfl rfl rfl (by omega) (show ((m.2 70) ((m.1 229) - 2)) < (1090 : Int) by omega) (show (m59.2 23) = (m.2 23) from (fr2 Fm59 23 rfl)) ?_
              have e77 : 0 ≤ (m.2 23) ((m.2 70) ((m.1 229) - 2)) ∧ (m.2 23) ((m.2 70) ((m.1 229) - 2)) ≤ 4001 := (hT.2.1 23) ((m.2 70) ((m.1 229) - 2))
              refine T_callx 182 97 [.ref 181, .int (i32 ((m.2 68) ((m.1 228) - 1))), .int (i32 ((m.2 70) ((m.1 229) - 2))), .int (i32 ((m.2 70) ((m.1 229) - 1))), .int (i32 1), .int (i32 ((m.2 23) ((m.2 70) ((m.1 229) - 2))))] [] rfl (fun _ => rfl) rfl rfl (c_fm_add w (mO m59 [(228, (m.1 228) - 1), (229, (m.1 229) - 2)] []) c N D (by omega) (KTy_mO Tm59 rfl rfl ⟨g75, g76, trivial⟩ trivial) ((m.2 68) ((m.1 228) - 1)) ((m.2 70) ((m.1 229) - 2)) ((m.2 70) ((m.1 229) - 1)) 1 ((m.2 23) ((m.2 70) ((m.1 229) - 2))) (r32 (by omega) (by omega)) (r32 (by omega) (by omega)) (r32 (by omega) (by omega)) ⟨by decide, by decide⟩ (r32 (by omega) (by omega)) (show 0 ≤ ((m.1 229) - 2) ∧ ((m.1 229) - 2) ≤ 575 by omega) (show 0 ≤ ((m.2 68) ((m.1 228) - 1)) ∧ ((m.2 68) ((m.1 228) - 1)) ≤ 65535 by omega) (show 0 ≤ ((m.2 70) ((m.1 229) - 2)) ∧ ((m.2 70) ((m.1 229) - 2)) ≤ 1089 by omega) (show 0 ≤ ((m.2 70) ((m.1 229) - 1)) ∧ ((m.2 70) ((m.1 229) - 1)) ≤ 1089 by omega) (show 0 ≤ (1 : Int) ∧ (1 : Int) ≤ 64 by omega) (show 0 ≤ ((m.2 23) ((m.2 70) ((m.1 229) - 2))) ∧ ((m.2 23) ((m.2 70) ((m.1 229) - 2))) ≤ 4001 by omega) (show ((m.2 68) ((m.1 228) - 1)) ≠ 400 ∨ ((m.2 70) ((m.1 229) - 2)) ≤ 220 by omega) (show ((m.2 68) ((m.1 228) - 1)) ≠ 401 ∨ ((m.2 70) ((m.1 229) - 2)) ≤ 3 by omega) (show NKp (m59.2 18) (m59.2 19) by rewrite [(show (m59.2 18) = (m.2 18) from (fr2 Fm59 18 rfl)), (show (m59.2 19) = (m.2 19) from (fr2 Fm59 19 rfl))]; exact hNK)) (fun rr78 k79 => ?_)
              obtain ⟨m80, nn, Tm80, Fm80, g81, h82, h83, rfl⟩ := k79
              refine Or.inl ⟨_, _, _, _, rfl, ?_⟩
              refine K_nb (st' := [.int (i32 nn)]) rfl ?_
              obtain ⟨g81a, g81b⟩ := g81
              have g84 : 0 ≤ m80.1 229 ∧ m80.1 229 ≤ 576 := Tm80.1 229
              replace h82 : (m80.1 229) = ((m.1 229) - 2) + 1 := h82
              replace h83 : NKp (m80.2 18) (m80.2 19) := h83
              have hNK := h83
              refine T_pop 183 rfl (fun _ => rfl) ?_
              refine T_ret rfl (fun _ => rfl) ?_
              exact Or.inl ⟨(mO m80 [] []), Tm80, (fr_m (fr_s Fm80 (fr_m (fr_s Fm59 (fr_m fr_0 rfl rfl) rfl rfl) rfl rfl) rfl rfl) rfl rfl), (show FBp (m80.1 229) (m.2 68) (m80.1 228) (m.1 230) by rewrite [(show (m80.1 228) = ((m.1 228) - 1) from (fr1 Fm80 228 rfl))]; first | (exact FB_e hFs.1 (by omega)) | (exfalso; omega)), (show NKp (m80.2 18) (m80.2 19) by first | (exact hNK) | (exfalso; omega)), (show (m80.1 228) = (m.1 228) - 1 by rewrite [(show (m80.1 228) = ((m.1 228) - 1) from (fr1 Fm80 228 rfl))]; omega), rfl⟩
      · skip
        refine T_ld 93 (.ref 181) rfl (fun _ => rfl) ?_
        refine T_ld 94 (.int (i32 ((m.2 70) ((m.1 229) - 2)))) rfl (fun _ => rfl) ?_
        refine T_ld 95 (.int (i32 ((m.2 70) ((m.1 229) - 1)))) rfl (fun _ => rfl) ?_
        refine T_callx 98 111 [.ref 181, .int (i32 ((m.2 70) ((m.1 229) - 2))), .int (i32 ((m.2 70) ((m.1 229) - 1)))] [] rfl (fun _ => rfl) rfl rfl (c_fm_joined w (mO m [] []) c N D (by omega) hT ((m.2 70) ((m.1 229) - 2)) ((m.2 70) ((m.1 229) - 1)) (r32 (by omega) (by omega)) (r32 (by omega) (by omega)) (show 0 ≤ ((m.2 70) ((m.1 229) - 2)) ∧ ((m.2 70) ((m.1 229) - 2)) ≤ 1089 by omega) (show 0 ≤ ((m.2 70) ((m.1 229) - 1)) ∧ ((m.2 70) ((m.1 229) - 1)) ≤ 1089 by omega)) (fun rr85 k86 => ?_)
        rcases k86 with ⟨m87, jo, Tm87, Fm87, g88, rfl⟩ | ⟨xx91, m89, hx90, Tm89, Fm89, rfl⟩
        rotate_left
        · skip
          refine Or.inr ⟨_, _, _, _, rfl, ?_⟩
          exact Or.inr ⟨xx91, (mO m89 [] []), (hx90), Tm89, (fr_m (fr_s Fm89 (fr_m fr_0 rfl rfl) rfl rfl) rfl rfl), (show NKp (m89.2 18) (m89.2 19) by rewrite [(show (m89.2 18) = (m.2 18) from (fr2 Fm89 18 rfl)), (show (m89.2 19) = (m.2 19) from (fr2 Fm89 19 rfl))]; exact hNK), rfl⟩
        refine Or.inl ⟨_, _, _, _, rfl, ?_⟩
        refine K_nb (st' := [.int (i32 jo)]) rfl ?_
        obtain ⟨g88a, g88b⟩ := g88
        refine T_sto 100 [(5, .int (i32 jo)), (4, .int (i32 lv)), (3, .int (i32 ((m.2 70) ((m.1 229) - 1)))), (2, .int (i32 ((m.2 70) ((m.1 229) - 2)))), (1, .int (i32 ((m.2 68) ((m.1 228) - 1)))), (0, .ref 181)] rfl (fun _ => rfl) ?_
        refine T_goto 144 rfl (fun _ => rfl) ?_
        refine T_ld 145 (.ref 181) rfl (fun _ => rfl) ?_
        refine T_ld 146 (.ref 181) rfl (fun _ => rfl) ?_
        refine K_gf 149 (.int (i32 (m.1 228))) rfl rfl kd_181 rfl (kval_c2 (k := 228) (F := fun x => .int (i32 x)) rfl (show (m87.1 228) = (m.1 228) from (fr1 Fm87 228 rfl))) rfl ?_
        refine T_ld 150 (.int (i32 1)) rfl (fun _ => rfl) ?_
        refine T_isub 151 rfl rfl ?_
        refine K_pf (l' := [(228, (m.1 228) - 1)]) 154 ((m.1 228) - 1) rfl rfl kd_181 rfl rfl rfl rfl rfl rfl rfl ?_
        have g92 : 0 ≤ (m.1 228) - 1 ∧ (m.1 228) - 1 ≤ 288 := ⟨by omega, by omega⟩
        refine T_ld 155 (.ref 181) rfl (fun _ => rfl) ?_
        refine T_ld 156 (.ref 181) rfl (fun _ => rfl) ?_
        refine K_gf 159 (.int (i32 (m.1 229))) rfl rfl kd_181 rfl (kval_c2 (k := 229) (F := fun x => .int (i32 x)) rfl (show (m87.1 229) = (m.1 229) from (fr1 Fm87 229 rfl))) rfl ?_
        refine T_ld 160 (.int (i32 2)) rfl (fun _ => rfl) ?_
        refine T_isub 161 rfl rfl ?_
        refine K_pf (l' := [(228, (m.1 228) - 1), (229, (m.1 229) - 2)]) 164 ((m.1 229) - 2) rfl rfl kd_181 rfl rfl rfl rfl rfl rfl rfl ?_
        have g93 : 0 ≤ (m.1 229) - 2 ∧ (m.1 229) - 2 ≤ 576 := ⟨by omega, by omega⟩
        refine T_ld 165 (.ref 181) rfl (fun _ => rfl) ?_
        refine T_ld 166 (.int (i32 ((m.2 68) ((m.1 228) - 1)))) rfl (fun _ => rfl) ?_
        refine T_ld 167 (.int (i32 ((m.2 70) ((m.1 229) - 2)))) rfl (fun _ => rfl) ?_
        refine T_ld 168 (.int (i32 ((m.2 70) ((m.1 229) - 1)))) rfl (fun _ => rfl) ?_
        refine T_ld 170 (.int (i32 jo)) rfl (fun _ => rfl) ?_
        refine T_ld 171 (.ref 181) rfl (fun _ => rfl) ?_
        refine K_gf 174 (.ref 22) rfl rfl kd_181 rfl rfl rfl ?_
        refine K_gf 177 (.ref 28) rfl rfl kd_22 rfl rfl rfl ?_
        refine T_ld 178 (.int (i32 ((m.2 70) ((m.1 229) - 2)))) rfl (fun _ => rfl) ?_
        refine K_iald 179 23 (m.2 23) rfl rfl rfl (by omega) (show ((m.2 70) ((m.1 229) - 2)) < (1090 : Int) by omega) (show (m87.2 23) = (m.2 23) from (fr2 Fm87 23 rfl)) ?_
        have e94 : 0 ≤ (m.2 23) ((m.2 70) ((m.1 229) - 2)) ∧ (m.2 23) ((m.2 70) ((m.1 229) - 2)) ≤ 4001 := (hT.2.1 23) ((m.2 70) ((m.1 229) - 2))
        refine T_callx 182 97 [.ref 181, .int (i32 ((m.2 68) ((m.1 228) - 1))), .int (i32 ((m.2 70) ((m.1 229) - 2))), .int (i32 ((m.2 70) ((m.1 229) - 1))), .int (i32 jo), .int (i32 ((m.2 23) ((m.2 70) ((m.1 229) - 2))))] [] rfl (fun _ => rfl) rfl rfl (c_fm_add w (mO m87 [(228, (m.1 228) - 1), (229, (m.1 229) - 2)] []) c N D (by omega) (KTy_mO Tm87 rfl rfl ⟨g92, g93, trivial⟩ trivial) ((m.2 68) ((m.1 228) - 1)) ((m.2 70) ((m.1 229) - 2)) ((m.2 70) ((m.1 229) - 1)) jo ((m.2 23) ((m.2 70) ((m.1 229) - 2))) (r32 (by omega) (by omega)) (r32 (by omega) (by omega)) (r32 (by omega) (by omega)) (r32 (by omega) (by omega)) (r32 (by omega) (by omega)) (show 0 ≤ ((m.1 229) - 2) ∧ ((m.1 229) - 2) ≤ 575 by omega) (show 0 ≤ ((m.2 68) ((m.1 228) - 1)) ∧ ((m.2 68) ((m.1 228) - 1)) ≤ 65535 by omega) (show 0 ≤ ((m.2 70) ((m.1 229) - 2)) ∧ ((m.2 70) ((m.1 229) - 2)) ≤ 1089 by omega) (show 0 ≤ ((m.2 70) ((m.1 229) - 1)) ∧ ((m.2 70) ((m.1 229) - 1)) ≤ 1089 by omega) (show 0 ≤ jo ∧ jo ≤ 64 by omega) (show 0 ≤ ((m.2 23) ((m.2 70) ((m.1 229) - 2))) ∧ ((m.2 23) ((m.2 70) ((m.1 229) - 2))) ≤ 4001 by omega) (show ((m.2 68) ((m.1 228) - 1)) ≠ 400 ∨ ((m.2 70) ((m.1 229) - 2)) ≤ 220 by omega) (show ((m.2 68) ((m.1 228) - 1)) ≠ 401 ∨ ((m.2 70) ((m.1 229) - 2)) ≤ 3 by omega) (show NKp (m87.2 18) (m87.2 19) by rewrite [(show (m87.2 18) = (m.2 18) from (fr2 Fm87 18 rfl)), (show (m87.2 19) = (m.2 19) from (fr2 Fm87 19 rfl))]; exact hNK)) (fun rr95 k96 => ?_)
        obtain ⟨m97, nn, Tm97, Fm97, g98, h99, h100, rfl⟩ := k96
        refine Or.inl ⟨_, _, _, _, rfl, ?_⟩
        refine K_nb (st' := [.int (i32 nn)]) rfl ?_
        obtain ⟨g98a, g98b⟩ := g98
        have g101 : 0 ≤ m97.1 229 ∧ m97.1 229 ≤ 576 := Tm97.1 229
        replace h99 : (m97.1 229) = ((m.1 229) - 2) + 1 := h99
        replace h100 : NKp (m97.2 18) (m97.2 19) := h100
        have hNK := h100
        refine T_pop 183 rfl (fun _ => rfl) ?_
        refine T_ret rfl (fun _ => rfl) ?_
        exact Or.inl ⟨(mO m97 [] []), Tm97, (fr_m (fr_s Fm97 (fr_m (fr_s Fm87 (fr_m fr_0 rfl rfl) rfl rfl) rfl rfl) rfl rfl) rfl rfl), (show FBp (m97.1 229) (m.2 68) (m97.1 228) (m.1 230) by rewrite [(show (m97.1 228) = ((m.1 228) - 1) from (fr1 Fm97 228 rfl))]; first | (exact FB_e hFs.1 (by omega)) | (exfalso; omega)), (show NKp (m97.2 18) (m97.2 19) by first | (exact hNK) | (exfalso; omega)), (show (m97.1 228) = (m.1 228) - 1 by rewrite [(show (m97.1 228) = ((m.1 228) - 1) from (fr1 Fm97 228 rfl))]; omega), rfl⟩
    · skip
      refine T_ld 68 (.ref 181) rfl (fun _ => rfl) ?_
      refine T_ld 69 (.int (i32 ((m.2 70) ((m.1 229) - 2)))) rfl (fun _ => rfl) ?_
      refine T_ld 70 (.int (i32 (-1))) rfl (fun _ => rfl) ?_
      refine T_callx 73 110 [.ref 181, .int (i32 ((m.2 70) ((m.1 229) - 2))), .int (i32 (-1))] [] rfl (fun _ => rfl) rfl rfl (c_fm_agree w (mO m [] []) c N D (by omega) hT ((m.2 70) ((m.1 229) - 2)) (-1) (r32 (by omega) (by omega)) ⟨by decide, by decide⟩ (show 0 ≤ ((m.2 70) ((m.1 229) - 2)) ∧ ((m.2 70) ((m.1 229) - 2)) ≤ 1089 by omega) (show (-1) ≤ (-1 : Int) ∧ (-1 : Int) ≤ 1089 by omega)) (fun rr102 k103 => ?_)
      rcases k103 with ⟨m104, Tm104, Fm104, rfl⟩ | ⟨xx107, m105, hx106, Tm105, Fm105, rfl⟩
      rotate_left
      · skip
        refine Or.inr ⟨_, _, _, _, rfl, ?_⟩
        exact Or.inr ⟨xx107, (mO m105 [] []), (hx106), Tm105, (fr_m (fr_s Fm105 (fr_m fr_0 rfl rfl) rfl rfl) rfl rfl), (show NKp (m105.2 18) (m105.2 19) by rewrite [(show (m105.2 18) = (m.2 18) from (fr2 Fm105 18 rfl)), (show (m105.2 19) = (m.2 19) from (fr2 Fm105 19 rfl))]; exact hNK), rfl⟩
      refine Or.inl ⟨_, _, _, _, rfl, ?_⟩
      refine K_nb (st' := []) rfl ?_
      refine T_ld 74 (.ref 181) rfl (fun _ => rfl) ?_
      refine T_ld 75 (.int (i32 ((m.2 70) ((m.1 229) - 1)))) rfl (fun _ => rfl) ?_
      refine T_ld 76 (.int (i32 (-1))) rfl (fun _ => rfl) ?_
      refine T_callx 79 110 [.ref 181, .int (i32 ((m.2 70) ((m.1 229) - 1))), .int (i32 (-1))] [] rfl (fun _ => rfl) rfl rfl (c_fm_agree w (mO m104 [] []) c N D (by omega) Tm104 ((m.2 70) ((m.1 229) - 1)) (-1) (r32 (by omega) (by omega)) ⟨by decide, by decide⟩ (show 0 ≤ ((m.2 70) ((m.1 229) - 1)) ∧ ((m.2 70) ((m.1 229) - 1)) ≤ 1089 by omega) (show (-1) ≤ (-1 : Int) ∧ (-1 : Int) ≤ 1089 by omega)) (fun rr108 k109 => ?_)
      rcases k109 with ⟨m110, Tm110, Fm110, rfl⟩ | ⟨xx113, m111, hx112, Tm111, Fm111, rfl⟩
      rotate_left
      · skip
        refine Or.inr ⟨_, _, _, _, rfl, ?_⟩
        exact Or.inr ⟨xx113, (mO m111 [] []), (hx112), Tm111, (fr_m (fr_s Fm111 (fr_m (fr_s Fm104 (fr_m fr_0 rfl rfl) rfl rfl) rfl rfl) rfl rfl) rfl rfl), (show NKp (m111.2 18) (m111.2 19) by rewrite [(show (m111.2 18) = (m.2 18) from ((fr2 Fm111 18 rfl).trans (fr2 Fm104 18 rfl))), (show (m111.2 19) = (m.2 19) from ((fr2 Fm111 19 rfl).trans (fr2 Fm104 19 rfl)))]; exact hNK), rfl⟩
      refine Or.inl ⟨_, _, _, _, rfl, ?_⟩
      refine K_nb (st' := []) rfl ?_
      refine T_ld 80 (.int (i32 1)) rfl (fun _ => rfl) ?_
      refine T_sto 82 [(5, .int (i32 1)), (4, .int (i32 lv)), (3, .int (i32 ((m.2 70) ((m.1 229) - 1)))), (2, .int (i32 ((m.2 70) ((m.1 229) - 2)))), (1, .int (i32 ((m.2 68) ((m.1 228) - 1)))), (0, .ref 181)] rfl (fun _ => rfl) ?_
      refine T_goto 144 rfl (fun _ => rfl) ?_
      refine T_ld 145 (.ref 181) rfl (fun _ => rfl) ?_
      refine T_ld 146 (.ref 181) rfl (fun _ => rfl) ?_
      refine K_gf 149 (.int (i32 (m.1 228))) rfl rfl kd_181 rfl (kval_c2 (k := 228) (F := fun x => .int (i32 x)) rfl (show (m110.1 228) = (m.1 228) from ((fr1 Fm110 228 rfl).trans (fr1 Fm104 228 rfl)))) rfl ?_
      refine T_ld 150 (.int (i32 1)) rfl (fun _ => rfl) ?_
      refine T_isub 151 rfl rfl ?_
      refine K_pf (l' := [(228, (m.1 228) - 1)]) 154 ((m.1 228) - 1) rfl rfl kd_181 rfl rfl rfl rfl rfl rfl rfl ?_
      have g114 : 0 ≤ (m.1 228) - 1 ∧ (m.1 228) - 1 ≤ 288 := ⟨by omega, by omega⟩
      refine T_ld 155 (.ref 181) rfl (fun _ => rfl) ?_
      refine T_ld 156 (.ref 181) rfl (fun _ => rfl) ?_
      refine K_gf 159 (.int (i32 (m.1 229))) rfl rfl kd_181 rfl (kval_c2 (k := 229) (F := fun x => .int (i32 x)) rfl (show (m110.1 229) = (m.1 229) from ((fr1 Fm110 229 rfl).trans (fr1 Fm104 229 rfl)))) rfl ?_
      refine T_ld 160 (.int (i32 2)) rfl (fun _ => rfl) ?_
      refine T_isub 161 rfl rfl ?_
      refine K_pf (l' := [(228, (m.1 228) - 1), (229, (m.1 229) - 2)]) 164 ((m.1 229) - 2) rfl rfl kd_181 rfl rfl rfl rfl rfl rfl rfl ?_
      have g115 : 0 ≤ (m.1 229) - 2 ∧ (m.1 229) - 2 ≤ 576 := ⟨by omega, by omega⟩
      refine T_ld 165 (.ref 181) rfl (fun _ => rfl) ?_
      refine T_ld 166 (.int (i32 ((m.2 68) ((m.1 228) - 1)))) rfl (fun _ => rfl) ?_
      refine T_ld 167 (.int (i32 ((m.2 70) ((m.1 229) - 2)))) rfl (fun _ => rfl) ?_
      refine T_ld 168 (.int (i32 ((m.2 70) ((m.1 229) - 1)))) rfl (fun _ => rfl) ?_
      refine T_ld 170 (.int (i32 1)) rfl (fun _ => rfl) ?_
      refine T_ld 171 (.ref 181) rfl (fun _ => rfl) ?_
      refine K_gf 174 (.ref 22) rfl rfl kd_181 rfl rfl rfl ?_
      refine K_gf 177 (.ref 28) rfl rfl kd_22 rfl rfl rfl ?_
      refine T_ld 178 (.int (i32 ((m.2 70) ((m.1 229) - 2)))) rfl (fun _ => rfl) ?_
      refine K_iald 179 23 (m.2 23) rfl rfl rfl (by omega) (show ((m.2 70) ((m.1 229) - 2)) < (1090 : Int) by omega) (show (m110.2 23) = (m.2 23) from ((fr2 Fm110 23 rfl).trans (fr2 Fm104 23 rfl))) ?_
      have e116 : 0 ≤ (m.2 23) ((m.2 70) ((m.1 229) - 2)) ∧ (m.2 23) ((m.2 70) ((m.1 229) - 2)) ≤ 4001 := (hT.2.1 23) ((m.2 70) ((m.1 229) - 2))
      refine T_callx 182 97 [.ref 181, .int (i32 ((m.2 68) ((m.1 228) - 1))), .int (i32 ((m.2 70) ((m.1 229) - 2))), .int (i32 ((m.2 70) ((m.1 229) - 1))), .int (i32 1), .int (i32 ((m.2 23) ((m.2 70) ((m.1 229) - 2))))] [] rfl (fun _ => rfl) rfl rfl (c_fm_add w (mO m110 [(228, (m.1 228) - 1), (229, (m.1 229) - 2)] []) c N D (by omega) (KTy_mO Tm110 rfl rfl ⟨g114, g115, trivial⟩ trivial) ((m.2 68) ((m.1 228) - 1)) ((m.2 70) ((m.1 229) - 2)) ((m.2 70) ((m.1 229) - 1)) 1 ((m.2 23) ((m.2 70) ((m.1 229) - 2))) (r32 (by omega) (by omega)) (r32 (by omega) (by omega)) (r32 (by omega) (by omega)) ⟨by decide, by decide⟩ (r32 (by omega) (by omega)) (show 0 ≤ ((m.1 229) - 2) ∧ ((m.1 229) - 2) ≤ 575 by omega) (show 0 ≤ ((m.2 68) ((m.1 228) - 1)) ∧ ((m.2 68) ((m.1 228) - 1)) ≤ 65535 by omega) (show 0 ≤ ((m.2 70) ((m.1 229) - 2)) ∧ ((m.2 70) ((m.1 229) - 2)) ≤ 1089 by omega) (show 0 ≤ ((m.2 70) ((m.1 229) - 1)) ∧ ((m.2 70) ((m.1 229) - 1)) ≤ 1089 by omega) (show 0 ≤ (1 : Int) ∧ (1 : Int) ≤ 64 by omega) (show 0 ≤ ((m.2 23) ((m.2 70) ((m.1 229) - 2))) ∧ ((m.2 23) ((m.2 70) ((m.1 229) - 2))) ≤ 4001 by omega) (show ((m.2 68) ((m.1 228) - 1)) ≠ 400 ∨ ((m.2 70) ((m.1 229) - 2)) ≤ 220 by omega) (show ((m.2 68) ((m.1 228) - 1)) ≠ 401 ∨ ((m.2 70) ((m.1 229) - 2)) ≤ 3 by omega) (show NKp (m110.2 18) (m110.2 19) by rewrite [(show (m110.2 18) = (m.2 18) from ((fr2 Fm110 18 rfl).trans (fr2 Fm104 18 rfl))), (show (m110.2 19) = (m.2 19) from ((fr2 Fm110 19 rfl).trans (fr2 Fm104 19 rfl)))]; exact hNK)) (fun rr117 k118 => ?_)
      obtain ⟨m119, nn, Tm119, Fm119, g120, h121, h122, rfl⟩ := k118
      refine Or.inl ⟨_, _, _, _, rfl, ?_⟩
      refine K_nb (st' := [.int (i32 nn)]) rfl ?_
      obtain ⟨g120a, g120b⟩ := g120
      have g123 : 0 ≤ m119.1 229 ∧ m119.1 229 ≤ 576 := Tm119.1 229
      replace h121 : (m119.1 229) = ((m.1 229) - 2) + 1 := h121
      replace h122 : NKp (m119.2 18) (m119.2 19) := h122
      have hNK := h122
      refine T_pop 183 rfl (fun _ => rfl) ?_
      refine T_ret rfl (fun _ => rfl) ?_
      exact Or.inl ⟨(mO m119 [] []), Tm119, (fr_m (fr_s Fm119 (fr_m (fr_s Fm110 (fr_m (fr_s Fm104 (fr_m fr_0 rfl rfl) rfl rfl) rfl rfl) rfl rfl) rfl rfl) rfl rfl) rfl rfl), (show FBp (m119.1 229) (m.2 68) (m119.1 228) (m.1 230) by rewrite [(show (m119.1 228) = ((m.1 228) - 1) from (fr1 Fm119 228 rfl))]; first | (exact FB_e hFs.1 (by omega)) | (exfalso; omega)), (show NKp (m119.2 18) (m119.2 19) by first | (exact hNK) | (exfalso; omega)), (show (m119.1 228) = (m.1 228) - 1 by rewrite [(show (m119.1 228) = ((m.1 228) - 1) from (fr1 Fm119 228 rfl))]; omega), rfl⟩
def fF_fm_closeChoice : List Nat := [211, 212, 213, 220, 228, 229, 230]
def fA_fm_closeChoice : List Nat := [18, 19, 20, 21, 22, 23, 70]
def Q_fm_closeChoice (m : mR) (c : Nat → Option am_C) (N : Nat) : ag_Re af_T → Prop := fun R => (∃ (M : mR), KTy M ∧ fr fF_fm_closeChoice fA_fm_closeChoice m M ∧ (FBp (M.1 229) (m.2 68) (M.1 228) (M.1 230)) ∧ (NKp (M.2 18) (M.2 19)) ∧ ((M.1 228) = (m.1 228) - 1) ∧ (((M.1 228) = 0 ∨ TOk ((m.2 68) ((M.1 228) - 1)))) ∧ R = (.inl (none), (khp M c, N), 0, 0)) ∨ (∃ (x : Nat) (M : mR), (x = 0) ∧ (KTy M) ∧ (fr fF_fm_closeChoice fA_fm_closeChoice m M) ∧ (NKp (M.2 18) (M.2 19)) ∧ R = (.inr x, (khp M c, N), 1, 6))
set_option maxHeartbeats 3000000 in
theorem c_fm_closeChoice (w : wX) (m : mR) (c : Nat → Option am_C) (N D : Nat) (hD : 8 ≤ D) (hT : KTy m) (hFB : FBp (m.1 229) (m.2 68) (m.1 228) (m.1 230)) (hNK : NKp (m.2 18) (m.2 19)) (p2 : 1 ≤ (m.1 228)) (p3 : (m.2 68) ((m.1 228) - 1) = 58) : TC w D 112 [.ref 181] (khp m c, N) (Q_fm_closeChoice m c N) := by
  obtain ⟨D, rfl⟩ : ∃ k, D = k + 1 := ⟨D - 1, by omega⟩
  have f228 : 0 ≤ m.1 228 ∧ m.1 228 ≤ 288 := hT.1 228
  have f229 : 0 ≤ m.1 229 ∧ m.1 229 ≤ 576 := hT.1 229
  have f230 : 0 ≤ m.1 230 ∧ m.1 230 ≤ 30 := hT.1 230
  refine Tc_of rfl ?_
  rw [show (khp m c, N) = (khp (mO m [] []) c, N) from by rw [mO_nil m]]
  show TT w D pm_112 (0, [(0, .ref 181)], [], (khp (mO m [] []) c, N), 0, 0) (Q_fm_closeChoice m c N)
  have hbB := FB_b hFB (by omega) (by omega)
  have hFs := FB_c hFB (by omega) (by omega)
  have hF2 := hFs.2.1
  have hF3 := hFs.2.2.1
  refine T_ld 1 (.ref 181) rfl (fun _ => rfl) ?_
  refine K_gf 4 (.ref 184) rfl rfl kd_181 rfl rfl rfl ?_
  refine T_ld 5 (.ref 181) rfl (fun _ => rfl) ?_
  refine K_gf 8 (.int (i32 (m.1 229))) rfl rfl kd_181 rfl rfl rfl ?_
  refine T_ld 9 (.int (i32 3)) rfl (fun _ => rfl) ?_
  refine T_isub 10 rfl rfl ?_
  refine K_iald 11 70 (m.2 70) rfl rfl rfl (by omega) (show ((m.1 229) - 3) < (576 : Int) by omega) rfl ?_
  have e1 : 0 ≤ (m.2 70) ((m.1 229) - 3) ∧ (m.2 70) ((m.1 229) - 3) ≤ 1089 := (hT.2.1 70) ((m.1 229) - 3)
  refine T_sto 12 [(1, .int (i32 ((m.2 70) ((m.1 229) - 3)))), (0, .ref 181)] rfl (fun _ => rfl) ?_
  refine T_ld 13 (.ref 181) rfl (fun _ => rfl) ?_
  refine K_gf 16 (.ref 184) rfl rfl kd_181 rfl rfl rfl ?_
  refine T_ld 17 (.ref 181) rfl (fun _ => rfl) ?_
  refine K_gf 20 (.int (i32 (m.1 229))) rfl rfl kd_181 rfl rfl rfl ?_
  refine T_ld 21 (.int (i32 2)) rfl (fun _ => rfl) ?_
  refine T_isub 22 rfl rfl ?_
  refine K_iald 23 70 (m.2 70) rfl rfl rfl (by omega) (show ((m.1 229) - 2) < (576 : Int) by omega) rfl ?_
  have e2 : 0 ≤ (m.2 70) ((m.1 229) - 2) ∧ (m.2 70) ((m.1 229) - 2) ≤ 1089 := (hT.2.1 70) ((m.1 229) - 2)
  refine T_sto 24 [(2, .int (i32 ((m.2 70) ((m.1 229) - 2)))), (1, .int (i32 ((m.2 70) ((m.1 229) - 3)))), (0, .ref 181)] rfl (fun _ => rfl) ?_
  refine T_ld 25 (.ref 181) rfl (fun _ => rfl) ?_
  refine K_gf 28 (.ref 184) rfl rfl kd_181 rfl rfl rfl ?_
  refine T_ld 29 (.ref 181) rfl (fun _ => rfl) ?_
  refine K_gf 32 (.int (i32 (m.1 229))) rfl rfl kd_181 rfl rfl rfl ?_
  refine T_ld 33 (.int (i32 1)) rfl (fun _ => rfl) ?_
  refine T_isub 34 rfl rfl ?_
  refine K_iald 35 70 (m.2 70) rfl rfl rfl (by omega) (show ((m.1 229) - 1) < (576 : Int) by omega) rfl ?_
  have e3 : 0 ≤ (m.2 70) ((m.1 229) - 1) ∧ (m.2 70) ((m.1 229) - 1) ≤ 1089 := (hT.2.1 70) ((m.1 229) - 1)
  refine T_sto 36 [(3, .int (i32 ((m.2 70) ((m.1 229) - 1)))), (2, .int (i32 ((m.2 70) ((m.1 229) - 2)))), (1, .int (i32 ((m.2 70) ((m.1 229) - 3)))), (0, .ref 181)] rfl (fun _ => rfl) ?_
  refine T_ld 37 (.ref 181) rfl (fun _ => rfl) ?_
  refine T_ld 38 (.int (i32 ((m.2 70) ((m.1 229) - 3)))) rfl (fun _ => rfl) ?_
  refine T_ld 39 (.int (i32 (-1))) rfl (fun _ => rfl) ?_
  refine T_callx 42 110 [.ref 181, .int (i32 ((m.2 70) ((m.1 229) - 3))), .int (i32 (-1))] [] rfl (fun _ => rfl) rfl rfl (c_fm_agree w (mO m [] []) c N D (by omega) hT ((m.2 70) ((m.1 229) - 3)) (-1) (r32 (by omega) (by omega)) ⟨by decide, by decide⟩ (show 0 ≤ ((m.2 70) ((m.1 229) - 3)) ∧ ((m.2 70) ((m.1 229) - 3)) ≤ 1089 by omega) (show (-1) ≤ (-1 : Int) ∧ (-1 : Int) ≤ 1089 by omega)) (fun rr4 k5 => ?_)
  rcases k5 with ⟨m6, Tm6, Fm6, rfl⟩ | ⟨xx9, m7, hx8, Tm7, Fm7, rfl⟩
  rotate_left
  · skip
    refine Or.inr ⟨_, _, _, _, rfl, ?_⟩
    exact Or.inr ⟨xx9, (mO m7 [] []), (hx8), Tm7, (fr_m (fr_s Fm7 (fr_m fr_0 rfl rfl) rfl rfl) rfl rfl), (show NKp (m7.2 18) (m7.2 19) by rewrite [(show (m7.2 18) = (m.2 18) from (fr2 Fm7 18 rfl)), (show (m7.2 19) = (m.2 19) from (fr2 Fm7 19 rfl))]; exact hNK), rfl⟩
  refine Or.inl ⟨_, _, _, _, rfl, ?_⟩
  refine K_nb (st' := []) rfl ?_
  refine T_ld 43 (.ref 181) rfl (fun _ => rfl) ?_
  refine T_ld 44 (.int (i32 ((m.2 70) ((m.1 229) - 2)))) rfl (fun _ => rfl) ?_
  refine T_ld 45 (.int (i32 ((m.2 70) ((m.1 229) - 1)))) rfl (fun _ => rfl) ?_
  refine T_callx 48 110 [.ref 181, .int (i32 ((m.2 70) ((m.1 229) - 2))), .int (i32 ((m.2 70) ((m.1 229) - 1)))] [] rfl (fun _ => rfl) rfl rfl (c_fm_agree w (mO m6 [] []) c N D (by omega) Tm6 ((m.2 70) ((m.1 229) - 2)) ((m.2 70) ((m.1 229) - 1)) (r32 (by omega) (by omega)) (r32 (by omega) (by omega)) (show 0 ≤ ((m.2 70) ((m.1 229) - 2)) ∧ ((m.2 70) ((m.1 229) - 2)) ≤ 1089 by omega) (show (-1) ≤ ((m.2 70) ((m.1 229) - 1)) ∧ ((m.2 70) ((m.1 229) - 1)) ≤ 1089 by omega)) (fun rr10 k11 => ?_)
  rcases k11 with ⟨m12, Tm12, Fm12, rfl⟩ | ⟨xx15, m13, hx14, Tm13, Fm13, rfl⟩
  rotate_left
  · skip
    refine Or.inr ⟨_, _, _, _, rfl, ?_⟩
    exact Or.inr ⟨xx15, (mO m13 [] []), (hx14), Tm13, (fr_m (fr_s Fm13 (fr_m (fr_s Fm6 (fr_m fr_0 rfl rfl) rfl rfl) rfl rfl) rfl rfl) rfl rfl), (show NKp (m13.2 18) (m13.2 19) by rewrite [(show (m13.2 18) = (m.2 18) from ((fr2 Fm13 18 rfl).trans (fr2 Fm6 18 rfl))), (show (m13.2 19) = (m.2 19) from ((fr2 Fm13 19 rfl).trans (fr2 Fm6 19 rfl)))]; exact hNK), rfl⟩
  refine Or.inl ⟨_, _, _, _, rfl, ?_⟩
  refine K_nb (st' := []) rfl ?_
  refine T_ld 49 (.ref 181) rfl (fun _ => rfl) ?_
  refine T_ld 50 (.ref 181) rfl (fun _ => rfl) ?_
  refine K_gf 53 (.int (i32 (m.1 228))) rfl rfl kd_181 rfl (kval_c2 (k := 228) (F := fun x => .int (i32 x)) rfl (show (m12.1 228) = (m.1 228) from ((fr1 Fm12 228 rfl).trans (fr1 Fm6 228 rfl)))) rfl ?_
  refine T_ld 54 (.int (i32 1)) rfl (fun _ => rfl) ?_
  refine T_isub 55 rfl rfl ?_
  refine K_pf (l' := [(228, (m.1 228) - 1)]) 58 ((m.1 228) - 1) rfl rfl kd_181 rfl rfl rfl rfl rfl rfl rfl ?_
  have g16 : 0 ≤ (m.1 228) - 1 ∧ (m.1 228) - 1 ≤ 288 := ⟨by omega, by omega⟩
  refine T_ld 59 (.ref 181) rfl (fun _ => rfl) ?_
  refine T_ld 60 (.ref 181) rfl (fun _ => rfl) ?_
  refine K_gf 63 (.int (i32 (m.1 230))) rfl rfl kd_181 rfl (kval_c2 (k := 230) (F := fun x => .int (i32 x)) rfl (show (m12.1 230) = (m.1 230) from ((fr1 Fm12 230 rfl).trans (fr1 Fm6 230 rfl)))) rfl ?_
  refine T_ld 64 (.int (i32 1)) rfl (fun _ => rfl) ?_
  refine T_isub 65 rfl rfl ?_
  refine K_pf (l' := [(228, (m.1 228) - 1), (230, (m.1 230) - 1)]) 68 ((m.1 230) - 1) rfl rfl kd_181 rfl rfl rfl rfl rfl rfl rfl ?_
  have g17 : 0 ≤ (m.1 230) - 1 ∧ (m.1 230) - 1 ≤ 30 := ⟨by omega, by omega⟩
  refine T_ld 69 (.ref 181) rfl (fun _ => rfl) ?_
  refine T_ld 70 (.ref 181) rfl (fun _ => rfl) ?_
  refine K_gf 73 (.int (i32 (m.1 229))) rfl rfl kd_181 rfl (kval_c2 (k := 229) (F := fun x => .int (i32 x)) rfl (show (m12.1 229) = (m.1 229) from ((fr1 Fm12 229 rfl).trans (fr1 Fm6 229 rfl)))) rfl ?_
  refine T_ld 74 (.int (i32 3)) rfl (fun _ => rfl) ?_
  refine T_isub 75 rfl rfl ?_
  refine K_pf (l' := [(228, (m.1 228) - 1), (229, (m.1 229) - 3), (230, (m.1 230) - 1)]) 78 ((m.1 229) - 3) rfl rfl kd_181 rfl rfl rfl rfl rfl rfl rfl ?_
  have g18 : 0 ≤ (m.1 229) - 3 ∧ (m.1 229) - 3 ≤ 576 := ⟨by omega, by omega⟩
  refine T_ld 79 (.ref 181) rfl (fun _ => rfl) ?_
  refine K_gf 82 (.ref 22) rfl rfl kd_181 rfl rfl rfl ?_
  refine K_gf 85 (.ref 26) rfl rfl kd_22 rfl rfl rfl ?_
  refine T_ld 86 (.ref 181) rfl (fun _ => rfl) ?_
  refine T_ld 89 (.int (i32 404)) rfl (fun _ => rfl) ?_
  refine T_ld 90 (.int (i32 ((m.2 70) ((m.1 229) - 3)))) rfl (fun _ => rfl) ?_
  refine T_ld 91 (.int (i32 ((m.2 70) ((m.1 229) - 2)))) rfl (fun _ => rfl) ?_
  refine T_ld 92 (.ref 181) rfl (fun _ => rfl) ?_
  refine K_gf 95 (.ref 22) rfl rfl kd_181 rfl rfl rfl ?_
  refine K_gf 98 (.ref 27) rfl rfl kd_22 rfl rfl rfl ?_
  refine T_ld 99 (.int (i32 ((m.2 70) ((m.1 229) - 2)))) rfl (fun _ => rfl) ?_
  refine K_iald 100 22 (m12.2 22) rfl rfl rfl (by omega) (show ((m.2 70) ((m.1 229) - 2)) < (1090 : Int) by omega) rfl ?_
  have e19 : 0 ≤ (m12.2 22) ((m.2 70) ((m.1 229) - 2)) ∧ (m12.2 22) ((m.2 70) ((m.1 229) - 2)) ≤ 64 := (Tm12.2.1 22) ((m.2 70) ((m.1 229) - 2))
  refine T_ld 101 (.ref 181) rfl (fun _ => rfl) ?_
  refine K_gf 104 (.ref 22) rfl rfl kd_181 rfl rfl rfl ?_
  refine K_gf 107 (.ref 28) rfl rfl kd_22 rfl rfl rfl ?_
  refine T_ld 108 (.int (i32 ((m.2 70) ((m.1 229) - 3)))) rfl (fun _ => rfl) ?_
  refine K_iald 109 23 (m.2 23) rfl rfl rfl (by omega) (show ((m.2 70) ((m.1 229) - 3)) < (1090 : Int) by omega) (show (m12.2 23) = (m.2 23) from ((fr2 Fm12 23 rfl).trans (fr2 Fm6 23 rfl))) ?_
  have e20 : 0 ≤ (m.2 23) ((m.2 70) ((m.1 229) - 3)) ∧ (m.2 23) ((m.2 70) ((m.1 229) - 3)) ≤ 4001 := (hT.2.1 23) ((m.2 70) ((m.1 229) - 3))
  refine T_callx 112 97 [.ref 181, .int (i32 404), .int (i32 ((m.2 70) ((m.1 229) - 3))), .int (i32 ((m.2 70) ((m.1 229) - 2))), .int (i32 ((m12.2 22) ((m.2 70) ((m.1 229) - 2)))), .int (i32 ((m.2 23) ((m.2 70) ((m.1 229) - 3))))] [.ref 26] rfl (fun _ => rfl) rfl rfl (c_fm_add w (mO m12 [(228, (m.1 228) - 1), (229, (m.1 229) - 3), (230, (m.1 230) - 1)] []) c N D (by omega) (KTy_mO Tm12 rfl rfl ⟨g16, g18, g17, trivial⟩ trivial) 404 ((m.2 70) ((m.1 229) - 3)) ((m.2 70) ((m.1 229) - 2)) ((m12.2 22) ((m.2 70) ((m.1 229) - 2))) ((m.2 23) ((m.2 70) ((m.1 229) - 3))) ⟨by decide, by decide⟩ (r32 (by omega) (by omega)) (r32 (by omega) (by omega)) (r32 (by omega) (by omega)) (r32 (by omega) (by omega)) (show 0 ≤ ((m.1 229) - 3) ∧ ((m.1 229) - 3) ≤ 575 by omega) (show 0 ≤ (404 : Int) ∧ (404 : Int) ≤ 65535 by omega) (show 0 ≤ ((m.2 70) ((m.1 229) - 3)) ∧ ((m.2 70) ((m.1 229) - 3)) ≤ 1089 by omega) (show 0 ≤ ((m.2 70) ((m.1 229) - 2)) ∧ ((m.2 70) ((m.1 229) - 2)) ≤ 1089 by omega) (show 0 ≤ ((m12.2 22) ((m.2 70) ((m.1 229) - 2))) ∧ ((m12.2 22) ((m.2 70) ((m.1 229) - 2))) ≤ 64 by omega) (show 0 ≤ ((m.2 23) ((m.2 70) ((m.1 229) - 3))) ∧ ((m.2 23) ((m.2 70) ((m.1 229) - 3))) ≤ 4001 by omega) (show (404 : Int) ≠ 400 ∨ ((m.2 70) ((m.1 229) - 3)) ≤ 220 by omega) (show (404 : Int) ≠ 401 ∨ ((m.2 70) ((m.1 229) - 3)) ≤ 3 by omega) (show NKp (m12.2 18) (m12.2 19) by rewrite [(show (m12.2 18) = (m.2 18) from ((fr2 Fm12 18 rfl).trans (fr2 Fm6 18 rfl))), (show (m12.2 19) = (m.2 19) from ((fr2 Fm12 19 rfl).trans (fr2 Fm6 19 rfl)))]; exact hNK)) (fun rr21 k22 => ?_)
  obtain ⟨m23, nn, Tm23, Fm23, g24, h25, h26, rfl⟩ := k22
  refine Or.inl ⟨_, _, _, _, rfl, ?_⟩
  refine K_nb (st' := [.int (i32 nn), .ref 26]) rfl ?_
  obtain ⟨g24a, g24b⟩ := g24
  have g27 : 0 ≤ m23.1 229 ∧ m23.1 229 ≤ 576 := Tm23.1 229
  replace h25 : (m23.1 229) = ((m.1 229) - 3) + 1 := h25
  replace h26 : NKp (m23.2 18) (m23.2 19) := h26
  have hNK := h26
  refine T_ld 113 (.int (i32 ((m.2 70) ((m.1 229) - 1)))) rfl (fun _ => rfl) ?_
  have G28 : ∀ j, 0 ≤ (upI (m.2 21) nn ((m.2 70) ((m.1 229) - 1))) j ∧ (upI (m.2 21) nn ((m.2 70) ((m.1 229) - 1))) j ≤ 1089 := upI_rg (hT.2.1 21) ⟨by omega, by omega⟩
  refine K_iast (a' := [(21, upI (m.2 21) nn ((m.2 70) ((m.1 229) - 1)))]) 114 21 (m.2 21) rfl rfl rfl (by omega) (show nn < (1090 : Int) by omega) (show (m23.2 21) = (m.2 21) from ((fr2 Fm23 21 rfl).trans ((fr2 Fm12 21 rfl).trans (fr2 Fm6 21 rfl)))) rfl ?_
  refine T_ret rfl (fun _ => rfl) ?_
  exact Or.inl ⟨(mO m23 [] [(21, upI (m.2 21) nn ((m.2 70) ((m.1 229) - 1)))]), (KTy_mO Tm23 rfl rfl trivial ⟨G28, trivial⟩), (fr_m (fr_s Fm23 (fr_m (fr_s Fm12 (fr_m (fr_s Fm6 (fr_m fr_0 rfl rfl) rfl rfl) rfl rfl) rfl rfl) rfl rfl) rfl rfl) rfl rfl), (show FBp (m23.1 229) (m.2 68) (m23.1 228) (m23.1 230) by rewrite [(show (m23.1 228) = ((m.1 228) - 1) from (fr1 Fm23 228 rfl)), (show (m23.1 230) = ((m.1 230) - 1) from (fr1 Fm23 230 rfl))]; first | (exact FB_e hFs.1 (by omega)) | (exfalso; omega)), (show NKp (m23.2 18) (m23.2 19) by first | (exact hNK) | (exfalso; omega)), (show (m23.1 228) = (m.1 228) - 1 by rewrite [(show (m23.1 228) = ((m.1 228) - 1) from (fr1 Fm23 228 rfl))]; omega), (show ((m23.1 228) = 0 ∨ TOk ((m.2 68) ((m23.1 228) - 1))) by rewrite [(show (m23.1 228) = ((m.1 228) - 1) from (fr1 Fm23 228 rfl))]; first | (exact hFs.2.2.2) | (exfalso; omega)), rfl⟩
def fF_fm_closeBracket : List Nat := [205, 206, 207, 208, 209, 210, 211, 212, 228, 230]
def fA_fm_closeBracket : List Nat := [23]
def Q_fm_closeBracket (m : mR) (c : Nat → Option am_C) (N : Nat) : ag_Re af_T → Prop := fun R => (∃ (M : mR) (r : Int), KTy M ∧ fr fF_fm_closeBracket fA_fm_closeBracket m M ∧ (2 ≤ r ∧ r ≤ 2) ∧ (FBp (m.1 229) (m.2 68) (M.1 228) (M.1 230)) ∧ R = (.inl (some (.int (i32 r))), (khp M c, N), 0, 0)) ∨ (∃ (x : Nat) (M : mR), (x = 0) ∧ (KTy M) ∧ (fr fF_fm_closeBracket fA_fm_closeBracket m M) ∧ R = (.inr x, (khp M c, N), 1, 6))
set_option maxHeartbeats 3000000 in
theorem c_fm_closeBracket (w : wX) (m : mR) (c : Nat → Option am_C) (N D : Nat) (hD : 8 ≤ D) (hT : KTy m) (hFB : FBp (m.1 229) (m.2 68) (m.1 228) (m.1 230)) (p1 : 1 ≤ (m.1 228)) (hTo : (m.2 68) ((m.1 228) - 1) = 40 ∨ (m.2 68) ((m.1 228) - 1) = 405 ∨ (m.2 68) ((m.1 228) - 1) = 126 ∨ (m.2 68) ((m.1 228) - 1) = 33) : TC w D 113 [.ref 181] (khp m c, N) (Q_fm_closeBracket m c N) := by
  obtain ⟨D, rfl⟩ : ∃ k, D = k + 1 := ⟨D - 1, by omega⟩
  have f206 : (-1) ≤ m.1 206 ∧ m.1 206 ≤ 65535 := hT.1 206
  have f228 : 0 ≤ m.1 228 ∧ m.1 228 ≤ 288 := hT.1 228
  have f230 : 0 ≤ m.1 230 ∧ m.1 230 ≤ 30 := hT.1 230
  have f213 : 0 ≤ m.1 213 ∧ m.1 213 ≤ 1 := hT.1 213
  have f229 : 0 ≤ m.1 229 ∧ m.1 229 ≤ 576 := hT.1 229
  refine Tc_of rfl ?_
  rw [show (khp m c, N) = (khp (mO m [] []) c, N) from by rw [mO_nil m]]
  show TT w D pm_113 (0, [(0, .ref 181)], [], (khp (mO m [] []) c, N), 0, 0) (Q_fm_closeBracket m c N)
  have hbB := FB_b hFB (by omega) (by omega)
  have hFs := FB_s hFB (by omega) hTo
  refine T_ld 1 (.ref 181) rfl (fun _ => rfl) ?_
  refine K_gf 4 (.ref 6) rfl rfl kd_181 rfl rfl rfl ?_
  refine K_gf 7 (.int (i32 (m.1 206))) rfl rfl kd_6 rfl rfl rfl ?_
  refine T_ld 9 (.int (i32 41)) rfl (fun _ => rfl) ?_
  refine T_icmp 19 12 rfl rfl rfl (r32 (by omega) (by omega)) ⟨by decide, by decide⟩ (fun (h1 : (m.1 206) = 41) => ?_) (fun (h1 : ¬ ((m.1 206) = 41)) => ?_)
  · skip
    refine T_ld 20 (.ref 181) rfl (fun _ => rfl) ?_
    refine T_ld 21 (.ref 181) rfl (fun _ => rfl) ?_
    refine K_gf 24 (.int (i32 (m.1 228))) rfl rfl kd_181 rfl rfl rfl ?_
    refine T_ld 25 (.int (i32 1)) rfl (fun _ => rfl) ?_
    refine T_isub 26 rfl rfl ?_
    refine K_pf (l' := [(228, (m.1 228) - 1)]) 29 ((m.1 228) - 1) rfl rfl kd_181 rfl rfl rfl rfl rfl rfl rfl ?_
    have g2 : 0 ≤ (m.1 228) - 1 ∧ (m.1 228) - 1 ≤ 288 := ⟨by omega, by omega⟩
    refine T_ld 30 (.ref 181) rfl (fun _ => rfl) ?_
    refine T_ld 31 (.ref 181) rfl (fun _ => rfl) ?_
    refine K_gf 34 (.int (i32 (m.1 230))) rfl rfl kd_181 rfl rfl rfl ?_
    refine T_ld 35 (.int (i32 1)) rfl (fun _ => rfl) ?_
    refine T_isub 36 rfl rfl ?_
    refine K_pf (l' := [(228, (m.1 228) - 1), (230, (m.1 230) - 1)]) 39 ((m.1 230) - 1) rfl rfl kd_181 rfl rfl rfl rfl rfl rfl rfl ?_
    have g3 : 0 ≤ (m.1 230) - 1 ∧ (m.1 230) - 1 ≤ 30 := ⟨by omega, by omega⟩
    refine T_ld 40 (.ref 181) rfl (fun _ => rfl) ?_
    refine K_gf 43 (.ref 22) rfl rfl kd_181 rfl rfl rfl ?_
    refine K_gf 46 (.ref 28) rfl rfl kd_22 rfl rfl rfl ?_
    refine T_ld 47 (.ref 181) rfl (fun _ => rfl) ?_
    refine K_gf 50 (.ref 184) rfl rfl kd_181 rfl rfl rfl ?_
    refine T_ld 51 (.ref 181) rfl (fun _ => rfl) ?_
    refine K_gf 54 (.int (i32 (m.1 229))) rfl rfl kd_181 rfl rfl rfl ?_
    refine T_ld 55 (.int (i32 1)) rfl (fun _ => rfl) ?_
    refine T_isub 56 rfl rfl ?_
    refine K_iald 57 70 (m.2 70) rfl rfl rfl (by omega) (show ((m.1 229) - 1) < (576 : Int) by omega) rfl ?_
    have e4 : 0 ≤ m.2 70 ((m.1 229) - 1) ∧ m.2 70 ((m.1 229) - 1) ≤ 1089 := hT.2.1 70 ((m.1 229) - 1)
    refine T_ld 58 (.ref 181) rfl (fun _ => rfl) ?_
    refine K_gf 61 (.ref 183) rfl rfl kd_181 rfl rfl rfl ?_
    refine T_ld 62 (.ref 181) rfl (fun _ => rfl) ?_
    refine K_gf 65 (.int (i32 ((m.1 228) - 1))) rfl rfl kd_181 rfl rfl rfl ?_
    refine K_iald 66 69 (m.2 69) rfl rfl rfl (by omega) (show ((m.1 228) - 1) < (288 : Int) by omega) rfl ?_
    have e5 : 0 ≤ m.2 69 ((m.1 228) - 1) ∧ m.2 69 ((m.1 228) - 1) ≤ 4001 := hT.2.1 69 ((m.1 228) - 1)
    have G6 : ∀ j, 0 ≤ (upI (m.2 23) ((m.2 70) ((m.1 229) - 1)) ((m.2 69) ((m.1 228) - 1))) j ∧ (upI (m.2 23) ((m.2 70) ((m.1 229) - 1)) ((m.2 69) ((m.1 228) - 1))) j ≤ 4001 := upI_rg (hT.2.1 23) ⟨by omega, by omega⟩
    refine K_iast (a' := [(23, upI (m.2 23) ((m.2 70) ((m.1 229) - 1)) ((m.2 69) ((m.1 228) - 1)))]) 67 23 (m.2 23) rfl rfl rfl (by omega) (show ((m.2 70) ((m.1 229) - 1)) < (1090 : Int) by omega) rfl rfl ?_
    refine T_ld 68 (.ref 181) rfl (fun _ => rfl) ?_
    refine K_gf 71 (.ref 6) rfl rfl kd_181 rfl rfl rfl ?_
    refine T_callx 74 50 [.ref 6] [] rfl (fun _ => rfl) rfl rfl (c_tx_advance w (mO m [(228, (m.1 228) - 1), (230, (m.1 230) - 1)] [(23, upI (m.2 23) ((m.2 70) ((m.1 229) - 1)) ((m.2 69) ((m.1 228) - 1)))]) c N D (by omega) (KTy_mO hT rfl rfl ⟨g2, g3, trivial⟩ ⟨G6, trivial⟩) ) (fun rr7 k8 => ?_)
    rcases k8 with ⟨m9, Tm9, Fm9, h10, rfl⟩ | ⟨xx13, m11, hx12, Tm11, Fm11, rfl⟩
    rotate_left
    · skip
      refine Or.inr ⟨_, _, _, _, rfl, ?_⟩
      exact Or.inr ⟨xx13, (mO m11 [] []), (hx12), Tm11, (fr_m (fr_s Fm11 (fr_m fr_0 rfl rfl) rfl rfl) rfl rfl), rfl⟩
    refine Or.inl ⟨_, _, _, _, rfl, ?_⟩
    refine K_nb (st' := []) rfl ?_
    have g14 : (-1) ≤ m9.1 206 ∧ m9.1 206 ≤ 65535 := Tm9.1 206
    replace h10 : (m.1 213) = 0 := h10
    refine T_ld 75 (.int (i32 2)) rfl (fun _ => rfl) ?_
    refine T_ret rfl (fun _ => rfl) ?_
    exact Or.inl ⟨(mO m9 [] []), 2, Tm9, (fr_m (fr_s Fm9 (fr_m fr_0 rfl rfl) rfl rfl) rfl rfl), ⟨by omega, by omega⟩, (show FBp (m.1 229) (m.2 68) (m9.1 228) (m9.1 230) by rewrite [(show (m9.1 228) = ((m.1 228) - 1) from (fr1 Fm9 228 rfl)), (show (m9.1 230) = ((m.1 230) - 1) from (fr1 Fm9 230 rfl))]; first | (exact hFs) | (exfalso; omega)), rfl⟩
  · skip
    refine T_ld 13 (.ref 181) rfl (fun _ => rfl) ?_
    refine K_gf 16 (.ref 6) rfl rfl kd_181 rfl rfl rfl ?_
    refine T_callx 19 76 [.ref 6] [] rfl (fun _ => rfl) rfl rfl (c_tx_refuse w (mO m [] []) c N D (by omega) hT ) (fun rr15 k16 => ?_)
    rcases k16 with ⟨m17, Tm17, Fm17, h18, rfl⟩ | ⟨xx21, m19, hx20, Tm19, Fm19, rfl⟩
    rotate_left
    · skip
      refine Or.inr ⟨_, _, _, _, rfl, ?_⟩
      exact Or.inr ⟨xx21, (mO m19 [] []), (hx20), Tm19, (fr_m (fr_s Fm19 (fr_m fr_0 rfl rfl) rfl rfl) rfl rfl), rfl⟩
    exact h18.elim
def fF_fm_goesOn : List Nat := [205, 206, 207, 208, 209, 210, 211, 212, 213, 220, 228, 229, 230]
def fA_fm_goesOn : List Nat := [18, 19, 20, 21, 22, 23, 68, 69, 70]
def Q_fm_goesOn (m : mR) (c : Nat → Option am_C) (N : Nat) : ag_Re af_T → Prop := fun R => (∃ (M : mR) (r : Int), KTy M ∧ fr fF_fm_goesOn fA_fm_goesOn m M ∧ (0 ≤ r ∧ r ≤ 2) ∧ (FGp r (M.1 229) (M.2 68) (M.1 228) (M.1 230) (M.1 206)) ∧ (NKp (M.2 18) (M.2 19)) ∧ R = (.inl (some (.int (i32 r))), (khp M c, N), 0, 0)) ∨ (∃ (x : Nat) (M : mR), (x = 0) ∧ (KTy M) ∧ (fr fF_fm_goesOn fA_fm_goesOn m M) ∧ (NKp (M.2 18) (M.2 19)) ∧ R = (.inr x, (khp M c, N), 1, 6))
set_option maxHeartbeats 3000000 in
theorem c_fm_goesOn (w : wX) (m : mR) (c : Nat → Option am_C) (N D : Nat) (hD : 9 ≤ D) (hT : KTy m) (hFB : FBp (m.1 229) (m.2 68) (m.1 228) (m.1 230)) (hNK : NKp (m.2 18) (m.2 19)) : TC w D 103 [.ref 181] (khp m c, N) (Q_fm_goesOn m c N) := by
  obtain ⟨D, rfl⟩ : ∃ k, D = k + 1 := ⟨D - 1, by omega⟩
  have f206 : (-1) ≤ m.1 206 ∧ m.1 206 ≤ 65535 := hT.1 206
  have f213 : 0 ≤ m.1 213 ∧ m.1 213 ≤ 1 := hT.1 213
  have f228 : 0 ≤ m.1 228 ∧ m.1 228 ≤ 288 := hT.1 228
  have f229 : 0 ≤ m.1 229 ∧ m.1 229 ≤ 576 := hT.1 229
  have f230 : 0 ≤ m.1 230 ∧ m.1 230 ≤ 30 := hT.1 230
  refine Tc_of rfl ?_
  rw [show (khp m c, N) = (khp (mO m [] []) c, N) from by rw [mO_nil m]]
  show TT w D pm_103 (0, [(0, .ref 181)], [], (khp (mO m [] []) c, N), 0, 0) (Q_fm_goesOn m c N)
  have J29_2 : ∀ (m1 : mR), KTy m1 → fr [211, 212, 213, 220, 228, 229, 230] [18, 19, 20, 22, 23, 70] (mO m [] []) m1 → (FBp (m1.1 229) (m.2 68) (m1.1 228) (m1.1 230)) → (NKp (m1.2 18) (m1.2 19)) → TT w D pm_103 (29, [(0, .ref 181)], [], (khp (mO m1 [] []) c, N), 0, 0) (Q_fm_goesOn m c N) := by
    intro m1 Tm1 Fm1 ic3 ic4
    have q5_213 : 0 ≤ m1.1 213 ∧ m1.1 213 ≤ 1 := Tm1.1 213
    have q5_228 : 0 ≤ m1.1 228 ∧ m1.1 228 ≤ 288 := Tm1.1 228
    have q5_229 : 0 ≤ m1.1 229 ∧ m1.1 229 ≤ 576 := Tm1.1 229
    have q5_230 : 0 ≤ m1.1 230 ∧ m1.1 230 ≤ 30 := Tm1.1 230
    have hFB := ic3
    have hNK := ic4
    refine T_ld 30 (.ref 181) rfl (fun _ => rfl) ?_
    refine K_gf 33 (.ref 6) rfl rfl kd_181 rfl rfl rfl ?_
    refine K_gf 36 (.int (i32 (m.1 206))) rfl rfl kd_6 rfl (kval_c2 (k := 206) (F := fun x => .int (i32 x)) rfl (show (m1.1 206) = (m.1 206) from (fr1 Fm1 206 rfl))) rfl ?_
    refine T_callx 39 108 [.int (i32 (m.1 206))] [] rfl (fun _ => rfl) rfl rfl (c_fm_levelOf w (mO m1 [] []) c N D (by omega) Tm1 (m.1 206) (r32 (by omega) (by omega))) (fun rr8 k9 => ?_)
    obtain ⟨lv, g10, h11, h12, rfl⟩ := k9
    refine Or.inl ⟨_, _, _, _, rfl, ?_⟩
    refine T_ns (st' := [.int (i32 lv)]) rfl ?_
    obtain ⟨g10a, g10b⟩ := g10
    replace h11 : 1 ≤ lv → PRq (m.1 206) := h11
    have hL1 := h11
    replace h12 : lv = 0 → ¬ PRq (m.1 206) := h12
    have hL0 := h12
    have hWl := hL1
    refine T_sto 40 [(1, .int (i32 lv)), (0, .ref 181)] rfl (fun _ => rfl) ?_
    refine T_ld 41 (.int (i32 lv)) rfl (fun _ => rfl) ?_
    have J60_14 : ∀ (s13 : Int), (R32 s13) → (1 ≤ s13) → (s13 ≤ 9) → TT w D pm_103 (60, [(0, .ref 181), (1, .int (i32 lv))], [.int (i32 s13)], (khp (mO m1 [] []) c, N), 0, 0) (Q_fm_goesOn m c N) := by
      intro s13 q17 ic15 ic16
      obtain ⟨q17a, q17b⟩ := id q17
      refine T_sto 61 [(2, .int (i32 s13)), (0, .ref 181), (1, .int (i32 lv))] rfl (fun _ => rfl) ?_
      have J91_21 : ∀ (m20 : mR), KTy m20 → fr [211, 212, 213, 220, 228, 229] [18, 19, 20, 22, 23, 70] (mO m1 [] []) m20 → (FBp (m20.1 229) (m.2 68) (m20.1 228) (m1.1 230)) → (NKp (m20.2 18) (m20.2 19)) → TT w D pm_103 (91, [(0, .ref 181), (1, .int (i32 lv))], [], (khp (mO m20 [] []) c, N), 0, 0) (Q_fm_goesOn m c N) := by
        intro m20 Tm20 Fm20 ic22 ic23
        have q24_213 : 0 ≤ m20.1 213 ∧ m20.1 213 ≤ 1 := Tm20.1 213
        have q24_228 : 0 ≤ m20.1 228 ∧ m20.1 228 ≤ 288 := Tm20.1 228
        have q24_229 : 0 ≤ m20.1 229 ∧ m20.1 229 ≤ 576 := Tm20.1 229
        have hFB := ic22
        have hNK := ic23
        have J124_28 : ∀ (m27 : mR), KTy m27 → fr [205, 206, 207, 208, 209, 210, 211, 212, 228] [68, 69] (mO m20 [] []) m27 → (FBp (m20.1 229) (m27.2 68) (m27.1 228) (m1.1 230)) → (NKp (m20.2 18) (m20.2 19)) → TT w D pm_103 (124, [(0, .ref 181)], [], (khp (mO m27 [] []) c, N), 0, 0) (Q_fm_goesOn m c N) := by
          intro m27 Tm27 Fm27 ic29 ic30
          have q31_206 : (-1) ≤ m27.1 206 ∧ m27.1 206 ≤ 65535 := Tm27.1 206
          have q31_228 : 0 ≤ m27.1 228 ∧ m27.1 228 ≤ 288 := Tm27.1 228
          have hFB := ic29
          have hNK := ic30
          have J153_35 : ∀ (m34 : mR), KTy m34 → fr [211, 212, 213, 220, 228, 229] [18, 19, 20, 22, 23, 70] (mO m27 [] []) m34 → (FBp (m34.1 229) (m27.2 68) (m34.1 228) (m1.1 230)) → (NKp (m34.2 18) (m34.2 19)) → (((m34.1 228) = 0 ∨ (m27.2 68) ((m34.1 228) - 1) = 63 ∨ TOk ((m27.2 68) ((m34.1 228) - 1)))) → TT w D pm_103 (153, [(0, .ref 181)], [], (khp (mO m34 [] []) c, N), 0, 0) (Q_fm_goesOn m c N) := by
            intro m34 Tm34 Fm34 ic36 ic37 ic38
            have q39_213 : 0 ≤ m34.1 213 ∧ m34.1 213 ≤ 1 := Tm34.1 213
            have q39_228 : 0 ≤ m34.1 228 ∧ m34.1 228 ≤ 288 := Tm34.1 228
            have q39_229 : 0 ≤ m34.1 229 ∧ m34.1 229 ≤ 576 := Tm34.1 229
            have hFB := ic36
            have hNK := ic37
            have hG3 := ic38
            have J182_43 : ∀ (m42 : mR), KTy m42 → fr [205, 206, 207, 208, 209, 210, 211, 212, 228] [68, 69] (mO m34 [] []) m42 → (FBp (m34.1 229) (m42.2 68) (m42.1 228) (m1.1 230)) → (NKp (m34.2 18) (m34.2 19)) → (((m42.1 228) = 0 ∨ (m42.2 68) ((m42.1 228) - 1) = 63 ∨ TOk ((m42.2 68) ((m42.1 228) - 1)))) → TT w D pm_103 (182, [(0, .ref 181)], [], (khp (mO m42 [] []) c, N), 0, 0) (Q_fm_goesOn m c N) := by
              intro m42 Tm42 Fm42 ic44 ic45 ic46
              have q47_206 : (-1) ≤ m42.1 206 ∧ m42.1 206 ≤ 65535 := Tm42.1 206
              have q47_228 : 0 ≤ m42.1 228 ∧ m42.1 228 ≤ 288 := Tm42.1 228
              have hFB := ic44
              have hNK := ic45
              have hG3 := ic46
              refine T_ld 183 (.ref 181) rfl (fun _ => rfl) ?_
              refine T_callx 186 104 [.ref 181] [] rfl (fun _ => rfl) rfl rfl (c_fm_top w (mO m42 [] []) c N D (by omega) Tm42 ) (fun rr50 k51 => ?_)
              obtain ⟨tp, g52, h53, rfl⟩ := k51
              refine Or.inl ⟨_, _, _, _, rfl, ?_⟩
              refine T_ns (st' := [.int (i32 tp)]) rfl ?_
              obtain ⟨g52a, g52b⟩ := g52
              replace h53 : 1 ≤ (m42.1 228) ∧ tp = (m42.2 68) ((m42.1 228) - 1) ∨ (m42.1 228) = 0 ∧ tp = -1 := h53
              have hTp := h53
              refine T_ld 188 (.int (i32 63)) rfl (fun _ => rfl) ?_
              refine T_icmp 219 191 rfl rfl rfl (r32 (by omega) (by omega)) ⟨by decide, by decide⟩ (fun (h54 : tp ≠ 63) => ?_) (fun (h54 : ¬ (tp ≠ 63)) => ?_)
              · skip
                have J247_56 : ∀ (m55 : mR), KTy m55 → fr [211, 212, 213, 220, 228, 229, 230] [18, 19, 20, 21, 22, 23, 70] (mO m42 [] []) m55 → (FBp (m55.1 229) (m42.2 68) (m55.1 228) (m55.1 230)) → (NKp (m55.2 18) (m55.2 19)) → (((m55.1 228) = 0 ∨ TOk ((m42.2 68) ((m55.1 228) - 1)))) → (((m55.1 228) = 0 ∨ (m42.2 68) ((m55.1 228) - 1) ≠ 58)) → TT w D pm_103 (247, [(0, .ref 181)], [], (khp (mO m55 [] []) c, N), 0, 0) (Q_fm_goesOn m c N) := by
                  intro m55 Tm55 Fm55 ic57 ic58 ic59 ic60
                  have q61_213 : 0 ≤ m55.1 213 ∧ m55.1 213 ≤ 1 := Tm55.1 213
                  have q61_228 : 0 ≤ m55.1 228 ∧ m55.1 228 ≤ 288 := Tm55.1 228
                  have q61_229 : 0 ≤ m55.1 229 ∧ m55.1 229 ≤ 576 := Tm55.1 229
                  have q61_230 : 0 ≤ m55.1 230 ∧ m55.1 230 ≤ 30 := Tm55.1 230
                  have hFB := ic57
                  have hNK := ic58
                  have hGT := ic59
                  have hN5 := ic60
                  refine T_ld 248 (.ref 181) rfl (fun _ => rfl) ?_
                  refine K_gf 251 (.int (i32 (m55.1 228))) rfl rfl kd_181 rfl rfl rfl ?_
                  refine T_if 258 254 rfl rfl rfl (r32 (by omega) (by omega)) (fun (h64 : (m55.1 228) ≠ 0) => ?_) (fun (h64 : ¬ ((m55.1 228) ≠ 0)) => ?_)
                  · skip
                    have hTo := GT_b hGT (by omega) hN5
                    refine T_ld 259 (.ref 181) rfl (fun _ => rfl) ?_
                    refine T_callx 262 113 [.ref 181] [] rfl (fun _ => rfl) rfl rfl (c_fm_closeBracket w (mO m55 [] []) c N D (by omega) Tm55 (show FBp (m55.1 229) (m55.2 68) (m55.1 228) (m55.1 230) by rewrite [(show (m55.2 68) = (m42.2 68) from (fr2 Fm55 68 rfl))]; exact hFB) (show 1 ≤ (m55.1 228) by omega) (show (m55.2 68) ((m55.1 228) - 1) = 40 ∨ (m55.2 68) ((m55.1 228) - 1) = 405 ∨ (m55.2 68) ((m55.1 228) - 1) = 126 ∨ (m55.2 68) ((m55.1 228) - 1) = 33 by rewrite [(show (m55.2 68) = (m42.2 68) from (fr2 Fm55 68 rfl))]; exact hTo)) (fun rr65 k66 => ?_)
                    rcases k66 with ⟨m67, cb, Tm67, Fm67, g68, h69, rfl⟩ | ⟨xx72, m70, hx71, Tm70, Fm70, rfl⟩
                    rotate_left
                    · skip
                      refine Or.inr ⟨_, _, _, _, rfl, ?_⟩
                      exact Or.inr ⟨xx72, (mO m70 [] []), (hx71), Tm70, (fr_m (fr_s Fm70 (fr_m (fr_s Fm55 (fr_m (fr_s Fm42 (fr_m (fr_s Fm34 (fr_m (fr_s Fm27 (fr_m (fr_s Fm20 (fr_m (fr_s Fm1 (fr_m fr_0 rfl rfl) rfl rfl) rfl rfl) rfl rfl) rfl rfl) rfl rfl) rfl rfl) rfl rfl) rfl rfl) rfl rfl) rfl rfl) rfl rfl) rfl rfl) rfl rfl) rfl rfl), (show NKp (m70.2 18) (m70.2 19) by rewrite [(show (m70.2 18) = (m55.2 18) from (fr2 Fm70 18 rfl)), (show (m70.2 19) = (m55.2 19) from (fr2 Fm70 19 rfl))]; exact hNK), rfl⟩
                    refine Or.inl ⟨_, _, _, _, rfl, ?_⟩
                    refine K_nb (st' := [.int (i32 cb)]) rfl ?_
                    obtain ⟨g68a, g68b⟩ := g68
                    refine T_cast 2 (by omega) ?_
                    have g73 : (-1) ≤ m67.1 206 ∧ m67.1 206 ≤ 65535 := Tm67.1 206
                    have g74 : 0 ≤ m67.1 228 ∧ m67.1 228 ≤ 288 := Tm67.1 228
                    have g75 : 0 ≤ m67.1 230 ∧ m67.1 230 ≤ 30 := Tm67.1 230
                    replace h69 : FBp (m55.1 229) (m55.2 68) (m67.1 228) (m67.1 230) := h69
                    rewrite [(show (m55.2 68) = (m42.2 68) from (fr2 Fm55 68 rfl))] at h69
                    have hFB := h69
                    refine T_ret rfl (fun _ => rfl) ?_
                    exact Or.inl ⟨(mO m67 [] []), 2, Tm67, (fr_m (fr_s Fm67 (fr_m (fr_s Fm55 (fr_m (fr_s Fm42 (fr_m (fr_s Fm34 (fr_m (fr_s Fm27 (fr_m (fr_s Fm20 (fr_m (fr_s Fm1 (fr_m fr_0 rfl rfl) rfl rfl) rfl rfl) rfl rfl) rfl rfl) rfl rfl) rfl rfl) rfl rfl) rfl rfl) rfl rfl) rfl rfl) rfl rfl) rfl rfl) rfl rfl) rfl rfl), ⟨by omega, by omega⟩, (show FGp (2 : Int) (m67.1 229) (m67.2 68) (m67.1 228) (m67.1 230) (m67.1 206) by rewrite [(show (m67.1 229) = (m55.1 229) from (fr1 Fm67 229 rfl)), (show (m67.2 68) = (m42.2 68) from ((fr2 Fm67 68 rfl).trans (fr2 Fm55 68 rfl)))]; first | (first | exact ⟨fun _ => hFA, fun h => absurd rfl h⟩ | exact ⟨fun h => absurd h (by omega), fun _ => hFB⟩) | (exfalso; omega)), (show NKp (m67.2 18) (m67.2 19) by rewrite [(show (m67.2 18) = (m55.2 18) from (fr2 Fm67 18 rfl)), (show (m67.2 19) = (m55.2 19) from (fr2 Fm67 19 rfl))]; first | (exact hNK) | (exfalso; omega)), rfl⟩
                  · skip
                    refine T_ld 255 (.int (i32 0)) rfl (fun _ => rfl) ?_
                    refine T_goto 262 rfl (fun _ => rfl) ?_
                    refine T_ret rfl (fun _ => rfl) ?_
                    exact Or.inl ⟨(mO m55 [] []), 0, Tm55, (fr_m (fr_s Fm55 (fr_m (fr_s Fm42 (fr_m (fr_s Fm34 (fr_m (fr_s Fm27 (fr_m (fr_s Fm20 (fr_m (fr_s Fm1 (fr_m fr_0 rfl rfl) rfl rfl) rfl rfl) rfl rfl) rfl rfl) rfl rfl) rfl rfl) rfl rfl) rfl rfl) rfl rfl) rfl rfl) rfl rfl) rfl rfl), ⟨by omega, by omega⟩, (show FGp (0 : Int) (m55.1 229) (m55.2 68) (m55.1 228) (m55.1 230) (m55.1 206) by rewrite [(show (m55.2 68) = (m42.2 68) from (fr2 Fm55 68 rfl)), (show (m55.1 206) = (m42.1 206) from (fr1 Fm55 206 rfl))]; first | (first | exact ⟨fun _ => hFA, fun h => absurd rfl h⟩ | exact ⟨fun h => absurd h (by omega), fun _ => hFB⟩) | (exfalso; omega)), (show NKp (m55.2 18) (m55.2 19) by first | (exact hNK) | (exfalso; omega)), rfl⟩
                refine T_ld 220 (.int (i32 0)) rfl (fun _ => rfl) ?_
                refine T_sto 221 [(3, .int (i32 0)), (0, .ref 181)] rfl (fun _ => rfl) ?_
                have L221_78 : ∀ (n88 : Nat) (v76 : Int) (m77 : mR), (R32 v76) → KTy m77 → fr [211, 212, 213, 220, 228, 229, 230] [18, 19, 20, 21, 22, 23, 70] (mO m42 [] []) m77 → (0 ≤ v76) → (v76 ≤ 288) → (FBp (m77.1 229) (m42.2 68) (m77.1 228) (m77.1 230)) → (NKp (m77.2 18) (m77.2 19)) → ((m77.1 228) + v76 ≤ 288) → (((m77.1 228) = 0 ∨ TOk ((m42.2 68) ((m77.1 228) - 1)))) → 288 - v76 < (n88 : Int) → TT w D pm_103 (221, [(0, .ref 181), (3, .int (i32 v76))], [], (khp (mO m77 [] []) c, N), 0, 0) (Q_fm_goesOn m c N) := by
                  intro n88
                  induction n88 with
                  | zero =>
                    intro v76 m77 q85 Tm77 Fm77 ic79 ic80 ic81 ic82 ic83 ic84 hmu
                    obtain ⟨q85a, q85b⟩ := id q85
                    have q86_213 : 0 ≤ m77.1 213 ∧ m77.1 213 ≤ 1 := Tm77.1 213
                    have q86_228 : 0 ≤ m77.1 228 ∧ m77.1 228 ≤ 288 := Tm77.1 228
                    have q86_229 : 0 ≤ m77.1 229 ∧ m77.1 229 ≤ 576 := Tm77.1 229
                    have q86_230 : 0 ≤ m77.1 230 ∧ m77.1 230 ≤ 30 := Tm77.1 230
                    have hFB := ic81
                    have hNK := ic82
                    have hGT := ic84
                    exfalso
                    omega
                  | succ n88 ih =>
                    intro v76 m77 q85 Tm77 Fm77 ic79 ic80 ic81 ic82 ic83 ic84 hmu
                    obtain ⟨q85a, q85b⟩ := id q85
                    have q86_213 : 0 ≤ m77.1 213 ∧ m77.1 213 ≤ 1 := Tm77.1 213
                    have q86_228 : 0 ≤ m77.1 228 ∧ m77.1 228 ≤ 288 := Tm77.1 228
                    have q86_229 : 0 ≤ m77.1 229 ∧ m77.1 229 ≤ 576 := Tm77.1 229
                    have q86_230 : 0 ≤ m77.1 230 ∧ m77.1 230 ≤ 30 := Tm77.1 230
                    have hFB := ic81
                    have hNK := ic82
                    have hGT := ic84
                    have ih89 := ih
                    refine T_ld 222 (.int (i32 v76)) rfl (fun _ => rfl) ?_
                    refine T_ld 225 (.int (i32 288)) rfl (fun _ => rfl) ?_
                    refine T_icmp 247 228 rfl rfl rfl (r32 (by omega) (by omega)) ⟨by decide, by decide⟩ (fun (h90 : (288 : Int) ≤ v76) => ?_) (fun (h90 : ¬ ((288 : Int) ≤ v76)) => ?_)
                    · skip
                      refine Tm_lv (a := [(0, .ref 181)]) rfl rfl ⟨rfl, trivial⟩ ?_
                      exact J247_56 (mO m77 [] []) Tm77 (fr_m (fr_s Fm77 (fr_m fr_0 rfl rfl) rfl rfl) rfl rfl) (show FBp (m77.1 229) (m42.2 68) (m77.1 228) (m77.1 230) by exact hFB) (show NKp (m77.2 18) (m77.2 19) by exact hNK) (show ((m77.1 228) = 0 ∨ TOk ((m42.2 68) ((m77.1 228) - 1))) by exact hGT) (show ((m77.1 228) = 0 ∨ (m42.2 68) ((m77.1 228) - 1) ≠ 58) by omega)
                    · skip
                      refine T_ld 229 (.ref 181) rfl (fun _ => rfl) ?_
                      refine T_callx 232 104 [.ref 181] [] rfl (fun _ => rfl) rfl rfl (c_fm_top w (mO m77 [] []) c N D (by omega) Tm77 ) (fun rr91 k92 => ?_)
                      obtain ⟨tp93, g94, h95, rfl⟩ := k92
                      refine Or.inl ⟨_, _, _, _, rfl, ?_⟩
                      refine T_ns (st' := [.int (i32 tp93)]) rfl ?_
                      obtain ⟨g94a, g94b⟩ := g94
                      replace h95 : 1 ≤ (m77.1 228) ∧ tp93 = (m77.2 68) ((m77.1 228) - 1) ∨ (m77.1 228) = 0 ∧ tp93 = -1 := h95
                      rewrite [(show (m77.2 68) = (m42.2 68) from (fr2 Fm77 68 rfl))] at h95
                      have hTp := h95
                      refine T_ld 234 (.int (i32 58)) rfl (fun _ => rfl) ?_
                      refine T_icmp 247 237 rfl rfl rfl (r32 (by omega) (by omega)) ⟨by decide, by decide⟩ (fun (h96 : tp93 ≠ 58) => ?_) (fun (h96 : ¬ (tp93 ≠ 58)) => ?_)
                      · skip
                        refine Tm_lv (a := [(0, .ref 181)]) rfl rfl ⟨rfl, trivial⟩ ?_
                        exact J247_56 (mO m77 [] []) Tm77 (fr_m (fr_s Fm77 (fr_m fr_0 rfl rfl) rfl rfl) rfl rfl) (show FBp (m77.1 229) (m42.2 68) (m77.1 228) (m77.1 230) by exact hFB) (show NKp (m77.2 18) (m77.2 19) by exact hNK) (show ((m77.1 228) = 0 ∨ TOk ((m42.2 68) ((m77.1 228) - 1))) by exact hGT) (show ((m77.1 228) = 0 ∨ (m42.2 68) ((m77.1 228) - 1) ≠ 58) by omega)
                      · skip
                        refine T_ld 238 (.ref 181) rfl (fun _ => rfl) ?_
                        refine T_callx 241 112 [.ref 181] [] rfl (fun _ => rfl) rfl rfl (c_fm_closeChoice w (mO m77 [] []) c N D (by omega) Tm77 (show FBp (m77.1 229) (m77.2 68) (m77.1 228) (m77.1 230) by rewrite [(show (m77.2 68) = (m42.2 68) from (fr2 Fm77 68 rfl))]; exact hFB) (show NKp (m77.2 18) (m77.2 19) by exact hNK) (show 1 ≤ (m77.1 228) by omega) (show (m77.2 68) ((m77.1 228) - 1) = 58 by rewrite [(show (m77.2 68) = (m42.2 68) from (fr2 Fm77 68 rfl))]; omega)) (fun rr97 k98 => ?_)
                        rcases k98 with ⟨m99, Tm99, Fm99, h100, h101, h102, h103, rfl⟩ | ⟨xx107, m104, hx105, Tm104, Fm104, h106, rfl⟩
                        rotate_left
                        · skip
                          refine Or.inr ⟨_, _, _, _, rfl, ?_⟩
                          have hNK := h106
                          exact Or.inr ⟨xx107, (mO m104 [] []), (hx105), Tm104, (fr_m (fr_s Fm104 (fr_m (fr_s Fm77 (fr_m (fr_s Fm42 (fr_m (fr_s Fm34 (fr_m (fr_s Fm27 (fr_m (fr_s Fm20 (fr_m (fr_s Fm1 (fr_m fr_0 rfl rfl) rfl rfl) rfl rfl) rfl rfl) rfl rfl) rfl rfl) rfl rfl) rfl rfl) rfl rfl) rfl rfl) rfl rfl) rfl rfl) rfl rfl) rfl rfl) rfl rfl), (show NKp (m104.2 18) (m104.2 19) by exact hNK), rfl⟩
                        refine Or.inl ⟨_, _, _, _, rfl, ?_⟩
                        refine K_nb (st' := []) rfl ?_
                        have g108 : 0 ≤ m99.1 213 ∧ m99.1 213 ≤ 1 := Tm99.1 213
                        have g109 : 0 ≤ m99.1 228 ∧ m99.1 228 ≤ 288 := Tm99.1 228
                        have g110 : 0 ≤ m99.1 229 ∧ m99.1 229 ≤ 576 := Tm99.1 229
                        have g111 : 0 ≤ m99.1 230 ∧ m99.1 230 ≤ 30 := Tm99.1 230
                        replace h100 : FBp (m99.1 229) (m77.2 68) (m99.1 228) (m99.1 230) := h100
                        rewrite [(show (m77.2 68) = (m42.2 68) from (fr2 Fm77 68 rfl))] at h100
                        have hFB := h100
                        replace h101 : NKp (m99.2 18) (m99.2 19) := h101
                        have hNK := h101
                        replace h102 : (m99.1 228) = (m77.1 228) - 1 := h102
                        replace h103 : ((m99.1 228) = 0 ∨ TOk ((m77.2 68) ((m99.1 228) - 1))) := h103
                        rewrite [(show (m77.2 68) = (m42.2 68) from (fr2 Fm77 68 rfl))] at h103
                        have hGT := h103
                        refine T_iinc 244 [(3, .int (i32 (v76 + 1))), (0, .ref 181)] rfl rfl (by decide) rfl rfl ?_
                        refine T_goto 221 rfl (fun _ => rfl) ?_
                        refine Tm_lv (a := [(0, .ref 181), (3, .int (i32 (v76 + 1)))]) rfl rfl ⟨rfl, rfl, trivial⟩ ?_
                        exact ih89 (v76 + 1) (mO m99 [] []) (r32 (by omega) (by omega)) Tm99 (fr_m (fr_s Fm99 (fr_m (fr_s Fm77 (fr_m fr_0 rfl rfl) rfl rfl) rfl rfl) rfl rfl) rfl rfl) (show 0 ≤ (v76 + 1) by omega) (show (v76 + 1) ≤ 288 by omega) (show FBp (m99.1 229) (m42.2 68) (m99.1 228) (m99.1 230) by exact hFB) (show NKp (m99.2 18) (m99.2 19) by exact hNK) (show (m99.1 228) + (v76 + 1) ≤ 288 by omega) (show ((m99.1 228) = 0 ∨ TOk ((m42.2 68) ((m99.1 228) - 1))) by first | exact GT_i hG3 hTp (by omega) | exact hGT) (show 288 - (v76 + 1) < (n88 : Int) by omega)
                refine Tm_lv (a := [(0, .ref 181), (3, .int (i32 0))]) rfl rfl ⟨rfl, rfl, trivial⟩ ?_
                exact L221_78 ((288 - (0 : Int) : Int) + 1).toNat 0 (mO m42 [] []) ⟨by decide, by decide⟩ Tm42 (fr_m fr_0 rfl rfl) (show 0 ≤ (0 : Int) by omega) (show (0 : Int) ≤ 288 by omega) (show FBp (m42.1 229) (m42.2 68) (m42.1 228) (m42.1 230) by rewrite [(show (m42.1 229) = (m34.1 229) from (fr1 Fm42 229 rfl)), (show (m42.1 230) = (m1.1 230) from ((fr1 Fm42 230 rfl).trans ((fr1 Fm34 230 rfl).trans ((fr1 Fm27 230 rfl).trans (fr1 Fm20 230 rfl)))))]; exact hFB) (show NKp (m42.2 18) (m42.2 19) by rewrite [(show (m42.2 18) = (m34.2 18) from (fr2 Fm42 18 rfl)), (show (m42.2 19) = (m34.2 19) from (fr2 Fm42 19 rfl))]; exact hNK) (show (m42.1 228) + (0 : Int) ≤ 288 by omega) (show ((m42.1 228) = 0 ∨ TOk ((m42.2 68) ((m42.1 228) - 1))) by first | exact GT_i hG3 hTp (by omega) | exact hGT) (show 288 - (0 : Int) < ((((288 - (0 : Int) : Int) + 1).toNat : Nat) : Int) by omega)
              · skip
                have h63 : 1 ≤ (m42.1 228) ∧ (m42.2 68) ((m42.1 228) - 1) = 63 := by omega
                have hbB := FB_b hFB (by omega) (by omega)
                refine T_ld 192 (.ref 181) rfl (fun _ => rfl) ?_
                refine K_gf 195 (.ref 6) rfl rfl kd_181 rfl rfl rfl ?_
                refine T_ld 197 (.int (i32 58)) rfl (fun _ => rfl) ?_
                refine T_callx 200 78 [.ref 6, .int (i32 58)] [] rfl (fun _ => rfl) rfl rfl (c_tx_expect w (mO m42 [] []) c N D (by omega) Tm42 58 ⟨by decide, by decide⟩) (fun rr112 k113 => ?_)
                rcases k113 with ⟨m114, Tm114, Fm114, h115, h116, rfl⟩ | ⟨xx119, m117, hx118, Tm117, Fm117, rfl⟩
                rotate_left
                · skip
                  refine Or.inr ⟨_, _, _, _, rfl, ?_⟩
                  exact Or.inr ⟨xx119, (mO m117 [] []), (hx118), Tm117, (fr_m (fr_s Fm117 (fr_m (fr_s Fm42 (fr_m (fr_s Fm34 (fr_m (fr_s Fm27 (fr_m (fr_s Fm20 (fr_m (fr_s Fm1 (fr_m fr_0 rfl rfl) rfl rfl) rfl rfl) rfl rfl) rfl rfl) rfl rfl) rfl rfl) rfl rfl) rfl rfl) rfl rfl) rfl rfl) rfl rfl) rfl rfl), (show NKp (m117.2 18) (m117.2 19) by rewrite [(show (m117.2 18) = (m34.2 18) from ((fr2 Fm117 18 rfl).trans (fr2 Fm42 18 rfl))), (show (m117.2 19) = (m34.2 19) from ((fr2 Fm117 19 rfl).trans (fr2 Fm42 19 rfl)))]; exact hNK), rfl⟩
                refine Or.inl ⟨_, _, _, _, rfl, ?_⟩
                refine K_nb (st' := []) rfl ?_
                have g120 : (-1) ≤ m114.1 206 ∧ m114.1 206 ≤ 65535 := Tm114.1 206
                replace h115 : (m42.1 206) = (58 : Int) := h115
                replace h116 : (m42.1 213) = 0 := h116
                rewrite [(show (m42.1 213) = (m34.1 213) from (fr1 Fm42 213 rfl))] at h116
                refine T_ld 201 (.ref 181) rfl (fun _ => rfl) ?_
                refine K_gf 204 (.ref 182) rfl rfl kd_181 rfl rfl rfl ?_
                refine T_ld 205 (.ref 181) rfl (fun _ => rfl) ?_
                refine K_gf 208 (.int (i32 (m42.1 228))) rfl rfl kd_181 rfl (kval_c2 (k := 228) (F := fun x => .int (i32 x)) rfl (show (m114.1 228) = (m42.1 228) from (fr1 Fm114 228 rfl))) rfl ?_
                refine T_ld 209 (.int (i32 1)) rfl (fun _ => rfl) ?_
                refine T_isub 210 rfl rfl ?_
                refine T_ld 212 (.int (i32 58)) rfl (fun _ => rfl) ?_
                have G121 : ∀ j, (-1) ≤ (upI (m42.2 68) ((m42.1 228) - 1) 58) j ∧ (upI (m42.2 68) ((m42.1 228) - 1) 58) j ≤ 65535 := upI_rg (Tm42.2.1 68) ⟨by omega, by omega⟩
                refine K_iast (a' := [(68, upI (m42.2 68) ((m42.1 228) - 1) 58)]) 213 68 (m42.2 68) rfl rfl rfl (by omega) (show ((m42.1 228) - 1) < (288 : Int) by omega) (show (m114.2 68) = (m42.2 68) from (fr2 Fm114 68 rfl)) rfl ?_
                refine T_ld 214 (.ref 181) rfl (fun _ => rfl) ?_
                refine T_callx 217 95 [.ref 181] [] rfl (fun _ => rfl) rfl rfl (c_fm_deepen w (mO m114 [] [(68, upI (m42.2 68) ((m42.1 228) - 1) 58)]) c N D (by omega) (KTy_mO Tm114 rfl rfl trivial ⟨G121, trivial⟩) (show (m114.1 230) ≤ 24 by rewrite [(show (m114.1 230) = (m1.1 230) from ((fr1 Fm114 230 rfl).trans ((fr1 Fm42 230 rfl).trans ((fr1 Fm34 230 rfl).trans ((fr1 Fm27 230 rfl).trans (fr1 Fm20 230 rfl))))))]; omega)) (fun rr122 k123 => ?_)
                rcases k123 with ⟨m124, Tm124, Fm124, h125, h126, rfl⟩ | ⟨xx129, m127, hx128, Tm127, Fm127, rfl⟩
                rotate_left
                · skip
                  refine Or.inr ⟨_, _, _, _, rfl, ?_⟩
                  exact Or.inr ⟨xx129, (mO m127 [] []), (hx128), Tm127, (fr_m (fr_s Fm127 (fr_m (fr_s Fm114 (fr_m (fr_s Fm42 (fr_m (fr_s Fm34 (fr_m (fr_s Fm27 (fr_m (fr_s Fm20 (fr_m (fr_s Fm1 (fr_m fr_0 rfl rfl) rfl rfl) rfl rfl) rfl rfl) rfl rfl) rfl rfl) rfl rfl) rfl rfl) rfl rfl) rfl rfl) rfl rfl) rfl rfl) rfl rfl) rfl rfl) rfl rfl), (show NKp (m127.2 18) (m127.2 19) by rewrite [(show (m127.2 18) = (m34.2 18) from ((fr2 Fm127 18 rfl).trans ((fr2 Fm114 18 rfl).trans (fr2 Fm42 18 rfl)))), (show (m127.2 19) = (m34.2 19) from ((fr2 Fm127 19 rfl).trans ((fr2 Fm114 19 rfl).trans (fr2 Fm42 19 rfl))))]; exact hNK), rfl⟩
                refine Or.inl ⟨_, _, _, _, rfl, ?_⟩
                refine K_nb (st' := []) rfl ?_
                have g130 : 0 ≤ m124.1 230 ∧ m124.1 230 ≤ 30 := Tm124.1 230
                replace h125 : (m124.1 230) = (m114.1 230) + 1 := h125
                rewrite [(show (m114.1 230) = (m1.1 230) from ((fr1 Fm114 230 rfl).trans ((fr1 Fm42 230 rfl).trans ((fr1 Fm34 230 rfl).trans ((fr1 Fm27 230 rfl).trans (fr1 Fm20 230 rfl))))))] at h125
                replace h126 : DPp (m124.1 230) (m114.1 206) := h126
                have hDp := h126
                have hFA := FB_oc hFB (by omega) h63.2 (by omega) hDp
                refine T_ld 218 (.int (i32 1)) rfl (fun _ => rfl) ?_
                refine T_ret rfl (fun _ => rfl) ?_
                exact Or.inl ⟨(mO m124 [] []), 1, Tm124, (fr_m (fr_s Fm124 (fr_m (fr_s Fm114 (fr_m (fr_s Fm42 (fr_m (fr_s Fm34 (fr_m (fr_s Fm27 (fr_m (fr_s Fm20 (fr_m (fr_s Fm1 (fr_m fr_0 rfl rfl) rfl rfl) rfl rfl) rfl rfl) rfl rfl) rfl rfl) rfl rfl) rfl rfl) rfl rfl) rfl rfl) rfl rfl) rfl rfl) rfl rfl) rfl rfl) rfl rfl), ⟨by omega, by omega⟩, (show FGp (1 : Int) (m124.1 229) (m124.2 68) (m124.1 228) (m124.1 230) (m124.1 206) by rewrite [(show (m124.1 229) = (m34.1 229) from ((fr1 Fm124 229 rfl).trans ((fr1 Fm114 229 rfl).trans (fr1 Fm42 229 rfl)))), (show (m124.2 68) = (upI (m42.2 68) ((m42.1 228) - 1) 58) from (fr2 Fm124 68 rfl)), (show (m124.1 228) = (m42.1 228) from ((fr1 Fm124 228 rfl).trans (fr1 Fm114 228 rfl))), (show (m124.1 206) = (m114.1 206) from (fr1 Fm124 206 rfl))]; first | (first | exact ⟨fun _ => hFA, fun h => absurd rfl h⟩ | exact ⟨fun h => absurd h (by omega), fun _ => hFB⟩) | (exfalso; omega)), (show NKp (m124.2 18) (m124.2 19) by rewrite [(show (m124.2 18) = (m34.2 18) from ((fr2 Fm124 18 rfl).trans ((fr2 Fm114 18 rfl).trans (fr2 Fm42 18 rfl)))), (show (m124.2 19) = (m34.2 19) from ((fr2 Fm124 19 rfl).trans ((fr2 Fm114 19 rfl).trans (fr2 Fm42 19 rfl))))]; first | (exact hNK) | (exfalso; omega)), rfl⟩
            refine T_ld 154 (.ref 181) rfl (fun _ => rfl) ?_
            refine K_gf 157 (.ref 6) rfl rfl kd_181 rfl rfl rfl ?_
            refine K_gf 160 (.int (i32 (m27.1 206))) rfl rfl kd_6 rfl (kval_c2 (k := 206) (F := fun x => .int (i32 x)) rfl (show (m34.1 206) = (m27.1 206) from (fr1 Fm34 206 rfl))) rfl ?_
            refine T_ld 162 (.int (i32 63)) rfl (fun _ => rfl) ?_
            refine T_icmp 182 165 rfl rfl rfl (r32 (by omega) (by omega)) ⟨by decide, by decide⟩ (fun (h131 : (m27.1 206) ≠ 63) => ?_) (fun (h131 : ¬ ((m27.1 206) ≠ 63)) => ?_)
            · skip
              exact J182_43 (mO m34 [] []) Tm34 (fr_m fr_0 rfl rfl) (show FBp (m34.1 229) (m34.2 68) (m34.1 228) (m1.1 230) by rewrite [(show (m34.2 68) = (m27.2 68) from (fr2 Fm34 68 rfl))]; exact hFB) (show NKp (m34.2 18) (m34.2 19) by exact hNK) (show ((m34.1 228) = 0 ∨ (m34.2 68) ((m34.1 228) - 1) = 63 ∨ TOk ((m34.2 68) ((m34.1 228) - 1))) by rewrite [(show (m34.2 68) = (m27.2 68) from (fr2 Fm34 68 rfl))]; exact hG3)
            · skip
              refine T_ld 166 (.ref 181) rfl (fun _ => rfl) ?_
              refine T_callx 169 104 [.ref 181] [] rfl (fun _ => rfl) rfl rfl (c_fm_top w (mO m34 [] []) c N D (by omega) Tm34 ) (fun rr132 k133 => ?_)
              obtain ⟨tp, g134, h135, rfl⟩ := k133
              refine Or.inl ⟨_, _, _, _, rfl, ?_⟩
              refine T_ns (st' := [.int (i32 tp)]) rfl ?_
              obtain ⟨g134a, g134b⟩ := g134
              replace h135 : 1 ≤ (m34.1 228) ∧ tp = (m34.2 68) ((m34.1 228) - 1) ∨ (m34.1 228) = 0 ∧ tp = -1 := h135
              rewrite [(show (m34.2 68) = (m27.2 68) from (fr2 Fm34 68 rfl))] at h135
              have hTp := h135
              refine T_ld 171 (.int (i32 63)) rfl (fun _ => rfl) ?_
              refine T_icmp 182 174 rfl rfl rfl (r32 (by omega) (by omega)) ⟨by decide, by decide⟩ (fun (h136 : tp = 63) => ?_) (fun (h136 : ¬ (tp = 63)) => ?_)
              · skip
                exact J182_43 (mO m34 [] []) Tm34 (fr_m fr_0 rfl rfl) (show FBp (m34.1 229) (m34.2 68) (m34.1 228) (m1.1 230) by rewrite [(show (m34.2 68) = (m27.2 68) from (fr2 Fm34 68 rfl))]; exact hFB) (show NKp (m34.2 18) (m34.2 19) by exact hNK) (show ((m34.1 228) = 0 ∨ (m34.2 68) ((m34.1 228) - 1) = 63 ∨ TOk ((m34.2 68) ((m34.1 228) - 1))) by rewrite [(show (m34.2 68) = (m27.2 68) from (fr2 Fm34 68 rfl))]; exact hG3)
              · skip
                refine T_ld 175 (.ref 181) rfl (fun _ => rfl) ?_
                refine T_ld 177 (.int (i32 63)) rfl (fun _ => rfl) ?_
                refine T_callx 180 94 [.ref 181, .int (i32 63)] [] rfl (fun _ => rfl) rfl rfl (c_fm_open w (mO m34 [] []) c N D (by omega) Tm34 63 ⟨by decide, by decide⟩ (show (-1) ≤ (63 : Int) ∧ (63 : Int) ≤ 65535 by omega)) (fun rr137 k138 => ?_)
                rcases k138 with ⟨m139, Tm139, Fm139, h140, h141, h142, rfl⟩ | ⟨xx145, m143, hx144, Tm143, Fm143, rfl⟩
                rotate_left
                · skip
                  refine Or.inr ⟨_, _, _, _, rfl, ?_⟩
                  exact Or.inr ⟨xx145, (mO m143 [] []), (hx144), Tm143, (fr_m (fr_s Fm143 (fr_m (fr_s Fm34 (fr_m (fr_s Fm27 (fr_m (fr_s Fm20 (fr_m (fr_s Fm1 (fr_m fr_0 rfl rfl) rfl rfl) rfl rfl) rfl rfl) rfl rfl) rfl rfl) rfl rfl) rfl rfl) rfl rfl) rfl rfl) rfl rfl), (show NKp (m143.2 18) (m143.2 19) by rewrite [(show (m143.2 18) = (m34.2 18) from (fr2 Fm143 18 rfl)), (show (m143.2 19) = (m34.2 19) from (fr2 Fm143 19 rfl))]; exact hNK), rfl⟩
                refine Or.inl ⟨_, _, _, _, rfl, ?_⟩
                refine K_nb (st' := []) rfl ?_
                have g146 : (-1) ≤ m139.1 206 ∧ m139.1 206 ≤ 65535 := Tm139.1 206
                have g147 : 0 ≤ m139.1 228 ∧ m139.1 228 ≤ 288 := Tm139.1 228
                replace h140 : (m139.1 228) = (m34.1 228) + 1 := h140
                replace h141 : (m34.1 228) ≤ 287 := h141
                replace h142 : (m139.2 68) = upI (m34.2 68) (m34.1 228) (63 : Int) := h142
                rewrite [(show (m34.2 68) = (m27.2 68) from (fr2 Fm34 68 rfl))] at h142
                have hMu := h142
                have hFA := FB_oq (w := (m139.1 206)) hFB (by omega) hMu (by omega) hG3 (by omega)
                refine T_ld 181 (.int (i32 1)) rfl (fun _ => rfl) ?_
                refine T_ret rfl (fun _ => rfl) ?_
                exact Or.inl ⟨(mO m139 [] []), 1, Tm139, (fr_m (fr_s Fm139 (fr_m (fr_s Fm34 (fr_m (fr_s Fm27 (fr_m (fr_s Fm20 (fr_m (fr_s Fm1 (fr_m fr_0 rfl rfl) rfl rfl) rfl rfl) rfl rfl) rfl rfl) rfl rfl) rfl rfl) rfl rfl) rfl rfl) rfl rfl) rfl rfl), ⟨by omega, by omega⟩, (show FGp (1 : Int) (m139.1 229) (m139.2 68) (m139.1 228) (m139.1 230) (m139.1 206) by rewrite [(show (m139.1 229) = (m34.1 229) from (fr1 Fm139 229 rfl)), (show (m139.1 230) = (m1.1 230) from ((fr1 Fm139 230 rfl).trans ((fr1 Fm34 230 rfl).trans ((fr1 Fm27 230 rfl).trans (fr1 Fm20 230 rfl)))))]; first | (first | exact ⟨fun _ => hFA, fun h => absurd rfl h⟩ | exact ⟨fun h => absurd h (by omega), fun _ => hFB⟩) | (exfalso; omega)), (show NKp (m139.2 18) (m139.2 19) by rewrite [(show (m139.2 18) = (m34.2 18) from (fr2 Fm139 18 rfl)), (show (m139.2 19) = (m34.2 19) from (fr2 Fm139 19 rfl))]; first | (exact hNK) | (exfalso; omega)), rfl⟩
          refine T_ld 125 (.int (i32 0)) rfl (fun _ => rfl) ?_
          refine T_sto 126 [(3, .int (i32 0)), (0, .ref 181)] rfl (fun _ => rfl) ?_
          have L126_150 : ∀ (n159 : Nat) (v148 : Int) (m149 : mR), (R32 v148) → KTy m149 → fr [211, 212, 213, 220, 228, 229] [18, 19, 20, 22, 23, 70] (mO m27 [] []) m149 → (0 ≤ v148) → (v148 ≤ 288) → (FBp (m149.1 229) (m27.2 68) (m149.1 228) (m1.1 230)) → (NKp (m149.2 18) (m149.2 19)) → ((m149.1 228) + v148 ≤ 288) → 288 - v148 < (n159 : Int) → TT w D pm_103 (126, [(0, .ref 181), (3, .int (i32 v148))], [], (khp (mO m149 [] []) c, N), 0, 0) (Q_fm_goesOn m c N) := by
            intro n159
            induction n159 with
            | zero =>
              intro v148 m149 q156 Tm149 Fm149 ic151 ic152 ic153 ic154 ic155 hmu
              obtain ⟨q156a, q156b⟩ := id q156
              have q157_213 : 0 ≤ m149.1 213 ∧ m149.1 213 ≤ 1 := Tm149.1 213
              have q157_228 : 0 ≤ m149.1 228 ∧ m149.1 228 ≤ 288 := Tm149.1 228
              have q157_229 : 0 ≤ m149.1 229 ∧ m149.1 229 ≤ 576 := Tm149.1 229
              have hFB := ic153
              have hNK := ic154
              exfalso
              omega
            | succ n159 ih =>
              intro v148 m149 q156 Tm149 Fm149 ic151 ic152 ic153 ic154 ic155 hmu
              obtain ⟨q156a, q156b⟩ := id q156
              have q157_213 : 0 ≤ m149.1 213 ∧ m149.1 213 ≤ 1 := Tm149.1 213
              have q157_228 : 0 ≤ m149.1 228 ∧ m149.1 228 ≤ 288 := Tm149.1 228
              have q157_229 : 0 ≤ m149.1 229 ∧ m149.1 229 ≤ 576 := Tm149.1 229
              have hFB := ic153
              have hNK := ic154
              have ih160 := ih
              refine T_ld 127 (.int (i32 v148)) rfl (fun _ => rfl) ?_
              refine T_ld 130 (.int (i32 288)) rfl (fun _ => rfl) ?_
              refine T_icmp 153 133 rfl rfl rfl (r32 (by omega) (by omega)) ⟨by decide, by decide⟩ (fun (h161 : (288 : Int) ≤ v148) => ?_) (fun (h161 : ¬ ((288 : Int) ≤ v148)) => ?_)
              · skip
                refine Tm_lv (a := [(0, .ref 181)]) rfl rfl ⟨rfl, trivial⟩ ?_
                exact J153_35 (mO m149 [] []) Tm149 (fr_m (fr_s Fm149 (fr_m fr_0 rfl rfl) rfl rfl) rfl rfl) (show FBp (m149.1 229) (m27.2 68) (m149.1 228) (m1.1 230) by exact hFB) (show NKp (m149.2 18) (m149.2 19) by exact hNK) (show ((m149.1 228) = 0 ∨ (m27.2 68) ((m149.1 228) - 1) = 63 ∨ TOk ((m27.2 68) ((m149.1 228) - 1))) by first | exact Or.inl (by omega) | exact SM_lv hFB.1 hTp hL0 (by omega))
              · skip
                refine T_ld 134 (.ref 181) rfl (fun _ => rfl) ?_
                refine T_callx 137 104 [.ref 181] [] rfl (fun _ => rfl) rfl rfl (c_fm_top w (mO m149 [] []) c N D (by omega) Tm149 ) (fun rr162 k163 => ?_)
                obtain ⟨tp, g164, h165, rfl⟩ := k163
                refine Or.inl ⟨_, _, _, _, rfl, ?_⟩
                refine T_ns (st' := [.int (i32 tp)]) rfl ?_
                obtain ⟨g164a, g164b⟩ := g164
                replace h165 : 1 ≤ (m149.1 228) ∧ tp = (m149.2 68) ((m149.1 228) - 1) ∨ (m149.1 228) = 0 ∧ tp = -1 := h165
                rewrite [(show (m149.2 68) = (m27.2 68) from (fr2 Fm149 68 rfl))] at h165
                have hTp := h165
                refine T_callx 140 108 [.int (i32 tp)] [] rfl (fun _ => rfl) rfl rfl (c_fm_levelOf w (mO m149 [] []) c N D (by omega) Tm149 tp (r32 (by omega) (by omega))) (fun rr166 k167 => ?_)
                obtain ⟨lv168, g169, h170, h171, rfl⟩ := k167
                refine Or.inl ⟨_, _, _, _, rfl, ?_⟩
                refine T_ns (st' := [.int (i32 lv168)]) rfl ?_
                obtain ⟨g169a, g169b⟩ := g169
                replace h170 : 1 ≤ lv168 → PRq tp := h170
                have hL1 := h170
                replace h171 : lv168 = 0 → ¬ PRq tp := h171
                have hL0 := h171
                refine T_if 153 143 rfl rfl rfl (r32 (by omega) (by omega)) (fun (h172 : lv168 ≤ 0) => ?_) (fun (h172 : ¬ (lv168 ≤ 0)) => ?_)
                · skip
                  refine Tm_lv (a := [(0, .ref 181)]) rfl rfl ⟨rfl, trivial⟩ ?_
                  exact J153_35 (mO m149 [] []) Tm149 (fr_m (fr_s Fm149 (fr_m fr_0 rfl rfl) rfl rfl) rfl rfl) (show FBp (m149.1 229) (m27.2 68) (m149.1 228) (m1.1 230) by exact hFB) (show NKp (m149.2 18) (m149.2 19) by exact hNK) (show ((m149.1 228) = 0 ∨ (m27.2 68) ((m149.1 228) - 1) = 63 ∨ TOk ((m27.2 68) ((m149.1 228) - 1))) by first | exact Or.inl (by omega) | exact SM_lv hFB.1 hTp hL0 (by omega))
                · skip
                  have hTs := TP_p hTp (hL1 (by omega))
                  have hTo := hTs.1
                  have hT1 := hTs.2
                  refine T_ld 144 (.ref 181) rfl (fun _ => rfl) ?_
                  refine T_callx 147 109 [.ref 181] [] rfl (fun _ => rfl) rfl rfl (c_fm_closePair w (mO m149 [] []) c N D (by omega) Tm149 (show FBp (m149.1 229) (m149.2 68) (m149.1 228) (m149.1 230) by rewrite [(show (m149.2 68) = (m27.2 68) from (fr2 Fm149 68 rfl)), (show (m149.1 230) = (m1.1 230) from ((fr1 Fm149 230 rfl).trans ((fr1 Fm27 230 rfl).trans (fr1 Fm20 230 rfl))))]; exact hFB) (show NKp (m149.2 18) (m149.2 19) by exact hNK) (show 1 ≤ (m149.1 228) by omega) (show PRq ((m149.2 68) ((m149.1 228) - 1)) by rewrite [(show (m149.2 68) = (m27.2 68) from (fr2 Fm149 68 rfl))]; exact hTo)) (fun rr173 k174 => ?_)
                  rcases k174 with ⟨m175, Tm175, Fm175, h176, h177, h178, rfl⟩ | ⟨xx182, m179, hx180, Tm179, Fm179, h181, rfl⟩
                  rotate_left
                  · skip
                    refine Or.inr ⟨_, _, _, _, rfl, ?_⟩
                    have hNK := h181
                    exact Or.inr ⟨xx182, (mO m179 [] []), (hx180), Tm179, (fr_m (fr_s Fm179 (fr_m (fr_s Fm149 (fr_m (fr_s Fm27 (fr_m (fr_s Fm20 (fr_m (fr_s Fm1 (fr_m fr_0 rfl rfl) rfl rfl) rfl rfl) rfl rfl) rfl rfl) rfl rfl) rfl rfl) rfl rfl) rfl rfl) rfl rfl) rfl rfl), (show NKp (m179.2 18) (m179.2 19) by exact hNK), rfl⟩
                  refine Or.inl ⟨_, _, _, _, rfl, ?_⟩
                  refine K_nb (st' := []) rfl ?_
                  have g183 : 0 ≤ m175.1 213 ∧ m175.1 213 ≤ 1 := Tm175.1 213
                  have g184 : 0 ≤ m175.1 228 ∧ m175.1 228 ≤ 288 := Tm175.1 228
                  have g185 : 0 ≤ m175.1 229 ∧ m175.1 229 ≤ 576 := Tm175.1 229
                  replace h176 : FBp (m175.1 229) (m149.2 68) (m175.1 228) (m149.1 230) := h176
                  rewrite [(show (m149.2 68) = (m27.2 68) from (fr2 Fm149 68 rfl)), (show (m149.1 230) = (m1.1 230) from ((fr1 Fm149 230 rfl).trans ((fr1 Fm27 230 rfl).trans (fr1 Fm20 230 rfl))))] at h176
                  have hFB := h176
                  replace h177 : NKp (m175.2 18) (m175.2 19) := h177
                  have hNK := h177
                  replace h178 : (m175.1 228) = (m149.1 228) - 1 := h178
                  refine T_iinc 150 [(3, .int (i32 (v148 + 1))), (0, .ref 181)] rfl rfl (by decide) rfl rfl ?_
                  refine T_goto 126 rfl (fun _ => rfl) ?_
                  refine Tm_lv (a := [(0, .ref 181), (3, .int (i32 (v148 + 1)))]) rfl rfl ⟨rfl, rfl, trivial⟩ ?_
                  exact ih160 (v148 + 1) (mO m175 [] []) (r32 (by omega) (by omega)) Tm175 (fr_m (fr_s Fm175 (fr_m (fr_s Fm149 (fr_m fr_0 rfl rfl) rfl rfl) rfl rfl) rfl rfl) rfl rfl) (show 0 ≤ (v148 + 1) by omega) (show (v148 + 1) ≤ 288 by omega) (show FBp (m175.1 229) (m27.2 68) (m175.1 228) (m1.1 230) by exact hFB) (show NKp (m175.2 18) (m175.2 19) by exact hNK) (show (m175.1 228) + (v148 + 1) ≤ 288 by omega) (show 288 - (v148 + 1) < (n159 : Int) by omega)
          refine Tm_lv (a := [(0, .ref 181), (3, .int (i32 0))]) rfl rfl ⟨rfl, rfl, trivial⟩ ?_
          exact L126_150 ((288 - (0 : Int) : Int) + 1).toNat 0 (mO m27 [] []) ⟨by decide, by decide⟩ Tm27 (fr_m fr_0 rfl rfl) (show 0 ≤ (0 : Int) by omega) (show (0 : Int) ≤ 288 by omega) (show FBp (m27.1 229) (m27.2 68) (m27.1 228) (m1.1 230) by rewrite [(show (m27.1 229) = (m20.1 229) from (fr1 Fm27 229 rfl))]; exact hFB) (show NKp (m27.2 18) (m27.2 19) by rewrite [(show (m27.2 18) = (m20.2 18) from (fr2 Fm27 18 rfl)), (show (m27.2 19) = (m20.2 19) from (fr2 Fm27 19 rfl))]; exact hNK) (show (m27.1 228) + (0 : Int) ≤ 288 by omega) (show 288 - (0 : Int) < ((((288 - (0 : Int) : Int) + 1).toNat : Nat) : Int) by omega)
        refine T_ld 92 (.int (i32 lv)) rfl (fun _ => rfl) ?_
        refine T_if 124 95 rfl rfl rfl (r32 (by omega) (by omega)) (fun (h186 : lv ≤ 0) => ?_) (fun (h186 : ¬ (lv ≤ 0)) => ?_)
        · skip
          refine Tm_lv (a := [(0, .ref 181)]) rfl rfl ⟨rfl, trivial⟩ ?_
          exact J124_28 (mO m20 [] []) Tm20 (fr_m fr_0 rfl rfl) (show FBp (m20.1 229) (m20.2 68) (m20.1 228) (m1.1 230) by rewrite [(show (m20.2 68) = (m.2 68) from ((fr2 Fm20 68 rfl).trans (fr2 Fm1 68 rfl)))]; exact hFB) (show NKp (m20.2 18) (m20.2 19) by exact hNK)
        · skip
          refine T_ld 96 (.int (i32 lv)) rfl (fun _ => rfl) ?_
          refine T_ld 97 (.int (i32 3)) rfl (fun _ => rfl) ?_
          refine T_icmp 111 100 rfl rfl rfl (r32 (by omega) (by omega)) ⟨by decide, by decide⟩ (fun (h187 : lv ≠ 3) => ?_) (fun (h187 : ¬ (lv ≠ 3)) => ?_)
          · skip
            refine T_ld 112 (.ref 181) rfl (fun _ => rfl) ?_
            refine T_ld 113 (.ref 181) rfl (fun _ => rfl) ?_
            refine K_gf 116 (.ref 6) rfl rfl kd_181 rfl rfl rfl ?_
            refine K_gf 119 (.int (i32 (m.1 206))) rfl rfl kd_6 rfl (kval_c2 (k := 206) (F := fun x => .int (i32 x)) rfl (show (m20.1 206) = (m.1 206) from ((fr1 Fm20 206 rfl).trans (fr1 Fm1 206 rfl)))) rfl ?_
            refine T_callx 122 94 [.ref 181, .int (i32 (m.1 206))] [] rfl (fun _ => rfl) rfl rfl (c_fm_open w (mO m20 [] []) c N D (by omega) Tm20 (m.1 206) (r32 (by omega) (by omega)) (show (-1) ≤ (m.1 206) ∧ (m.1 206) ≤ 65535 by omega)) (fun rr188 k189 => ?_)
            rcases k189 with ⟨m190, Tm190, Fm190, h191, h192, h193, rfl⟩ | ⟨xx196, m194, hx195, Tm194, Fm194, rfl⟩
            rotate_left
            · skip
              refine Or.inr ⟨_, _, _, _, rfl, ?_⟩
              exact Or.inr ⟨xx196, (mO m194 [] []), (hx195), Tm194, (fr_m (fr_s Fm194 (fr_m (fr_s Fm20 (fr_m (fr_s Fm1 (fr_m fr_0 rfl rfl) rfl rfl) rfl rfl) rfl rfl) rfl rfl) rfl rfl) rfl rfl), (show NKp (m194.2 18) (m194.2 19) by rewrite [(show (m194.2 18) = (m20.2 18) from (fr2 Fm194 18 rfl)), (show (m194.2 19) = (m20.2 19) from (fr2 Fm194 19 rfl))]; exact hNK), rfl⟩
            refine Or.inl ⟨_, _, _, _, rfl, ?_⟩
            refine K_nb (st' := []) rfl ?_
            have g197 : (-1) ≤ m190.1 206 ∧ m190.1 206 ≤ 65535 := Tm190.1 206
            have g198 : 0 ≤ m190.1 228 ∧ m190.1 228 ≤ 288 := Tm190.1 228
            replace h191 : (m190.1 228) = (m20.1 228) + 1 := h191
            replace h192 : (m20.1 228) ≤ 287 := h192
            replace h193 : (m190.2 68) = upI (m20.2 68) (m20.1 228) (m.1 206) := h193
            rewrite [(show (m20.2 68) = (m.2 68) from ((fr2 Fm20 68 rfl).trans (fr2 Fm1 68 rfl)))] at h193
            have hMu := h193
            have hFA := FB_op (w := (m190.1 206)) hFB (by omega) hMu (by omega) (hWl (by omega))
            refine T_ld 123 (.int (i32 1)) rfl (fun _ => rfl) ?_
            refine T_ret rfl (fun _ => rfl) ?_
            exact Or.inl ⟨(mO m190 [] []), 1, Tm190, (fr_m (fr_s Fm190 (fr_m (fr_s Fm20 (fr_m (fr_s Fm1 (fr_m fr_0 rfl rfl) rfl rfl) rfl rfl) rfl rfl) rfl rfl) rfl rfl) rfl rfl), ⟨by omega, by omega⟩, (show FGp (1 : Int) (m190.1 229) (m190.2 68) (m190.1 228) (m190.1 230) (m190.1 206) by rewrite [(show (m190.1 229) = (m20.1 229) from (fr1 Fm190 229 rfl)), (show (m190.1 230) = (m1.1 230) from ((fr1 Fm190 230 rfl).trans (fr1 Fm20 230 rfl)))]; first | (first | exact ⟨fun _ => hFA, fun h => absurd rfl h⟩ | exact ⟨fun h => absurd h (by omega), fun _ => hFB⟩) | (exfalso; omega)), (show NKp (m190.2 18) (m190.2 19) by rewrite [(show (m190.2 18) = (m20.2 18) from (fr2 Fm190 18 rfl)), (show (m190.2 19) = (m20.2 19) from (fr2 Fm190 19 rfl))]; first | (exact hNK) | (exfalso; omega)), rfl⟩
          · skip
            refine T_ld 101 (.ref 181) rfl (fun _ => rfl) ?_
            refine T_callx 104 104 [.ref 181] [] rfl (fun _ => rfl) rfl rfl (c_fm_top w (mO m20 [] []) c N D (by omega) Tm20 ) (fun rr199 k200 => ?_)
            obtain ⟨tp, g201, h202, rfl⟩ := k200
            refine Or.inl ⟨_, _, _, _, rfl, ?_⟩
            refine T_ns (st' := [.int (i32 tp)]) rfl ?_
            obtain ⟨g201a, g201b⟩ := g201
            replace h202 : 1 ≤ (m20.1 228) ∧ tp = (m20.2 68) ((m20.1 228) - 1) ∨ (m20.1 228) = 0 ∧ tp = -1 := h202
            rewrite [(show (m20.2 68) = (m.2 68) from ((fr2 Fm20 68 rfl).trans (fr2 Fm1 68 rfl)))] at h202
            have hTp := h202
            refine T_callx 107 108 [.int (i32 tp)] [] rfl (fun _ => rfl) rfl rfl (c_fm_levelOf w (mO m20 [] []) c N D (by omega) Tm20 tp (r32 (by omega) (by omega))) (fun rr203 k204 => ?_)
            obtain ⟨lv205, g206, h207, h208, rfl⟩ := k204
            refine Or.inl ⟨_, _, _, _, rfl, ?_⟩
            refine T_ns (st' := [.int (i32 lv205)]) rfl ?_
            obtain ⟨g206a, g206b⟩ := g206
            replace h207 : 1 ≤ lv205 → PRq tp := h207
            have hL1 := h207
            replace h208 : lv205 = 0 → ¬ PRq tp := h208
            have hL0 := h208
            refine T_ld 108 (.int (i32 3)) rfl (fun _ => rfl) ?_
            refine T_icmp 124 111 rfl rfl rfl (r32 (by omega) (by omega)) ⟨by decide, by decide⟩ (fun (h209 : lv205 = 3) => ?_) (fun (h209 : ¬ (lv205 = 3)) => ?_)
            · skip
              refine Tm_lv (a := [(0, .ref 181)]) rfl rfl ⟨rfl, trivial⟩ ?_
              exact J124_28 (mO m20 [] []) Tm20 (fr_m fr_0 rfl rfl) (show FBp (m20.1 229) (m20.2 68) (m20.1 228) (m1.1 230) by rewrite [(show (m20.2 68) = (m.2 68) from ((fr2 Fm20 68 rfl).trans (fr2 Fm1 68 rfl)))]; exact hFB) (show NKp (m20.2 18) (m20.2 19) by exact hNK)
            · skip
              refine T_ld 112 (.ref 181) rfl (fun _ => rfl) ?_
              refine T_ld 113 (.ref 181) rfl (fun _ => rfl) ?_
              refine K_gf 116 (.ref 6) rfl rfl kd_181 rfl rfl rfl ?_
              refine K_gf 119 (.int (i32 (m.1 206))) rfl rfl kd_6 rfl (kval_c2 (k := 206) (F := fun x => .int (i32 x)) rfl (show (m20.1 206) = (m.1 206) from ((fr1 Fm20 206 rfl).trans (fr1 Fm1 206 rfl)))) rfl ?_
              refine T_callx 122 94 [.ref 181, .int (i32 (m.1 206))] [] rfl (fun _ => rfl) rfl rfl (c_fm_open w (mO m20 [] []) c N D (by omega) Tm20 (m.1 206) (r32 (by omega) (by omega)) (show (-1) ≤ (m.1 206) ∧ (m.1 206) ≤ 65535 by omega)) (fun rr210 k211 => ?_)
              rcases k211 with ⟨m212, Tm212, Fm212, h213, h214, h215, rfl⟩ | ⟨xx218, m216, hx217, Tm216, Fm216, rfl⟩
              rotate_left
              · skip
                refine Or.inr ⟨_, _, _, _, rfl, ?_⟩
                exact Or.inr ⟨xx218, (mO m216 [] []), (hx217), Tm216, (fr_m (fr_s Fm216 (fr_m (fr_s Fm20 (fr_m (fr_s Fm1 (fr_m fr_0 rfl rfl) rfl rfl) rfl rfl) rfl rfl) rfl rfl) rfl rfl) rfl rfl), (show NKp (m216.2 18) (m216.2 19) by rewrite [(show (m216.2 18) = (m20.2 18) from (fr2 Fm216 18 rfl)), (show (m216.2 19) = (m20.2 19) from (fr2 Fm216 19 rfl))]; exact hNK), rfl⟩
              refine Or.inl ⟨_, _, _, _, rfl, ?_⟩
              refine K_nb (st' := []) rfl ?_
              have g219 : (-1) ≤ m212.1 206 ∧ m212.1 206 ≤ 65535 := Tm212.1 206
              have g220 : 0 ≤ m212.1 228 ∧ m212.1 228 ≤ 288 := Tm212.1 228
              replace h213 : (m212.1 228) = (m20.1 228) + 1 := h213
              replace h214 : (m20.1 228) ≤ 287 := h214
              replace h215 : (m212.2 68) = upI (m20.2 68) (m20.1 228) (m.1 206) := h215
              rewrite [(show (m20.2 68) = (m.2 68) from ((fr2 Fm20 68 rfl).trans (fr2 Fm1 68 rfl)))] at h215
              have hMu := h215
              have hFA := FB_op (w := (m212.1 206)) hFB (by omega) hMu (by omega) (hWl (by omega))
              refine T_ld 123 (.int (i32 1)) rfl (fun _ => rfl) ?_
              refine T_ret rfl (fun _ => rfl) ?_
              exact Or.inl ⟨(mO m212 [] []), 1, Tm212, (fr_m (fr_s Fm212 (fr_m (fr_s Fm20 (fr_m (fr_s Fm1 (fr_m fr_0 rfl rfl) rfl rfl) rfl rfl) rfl rfl) rfl rfl) rfl rfl) rfl rfl), ⟨by omega, by omega⟩, (show FGp (1 : Int) (m212.1 229) (m212.2 68) (m212.1 228) (m212.1 230) (m212.1 206) by rewrite [(show (m212.1 229) = (m20.1 229) from (fr1 Fm212 229 rfl)), (show (m212.1 230) = (m1.1 230) from ((fr1 Fm212 230 rfl).trans (fr1 Fm20 230 rfl)))]; first | (first | exact ⟨fun _ => hFA, fun h => absurd rfl h⟩ | exact ⟨fun h => absurd h (by omega), fun _ => hFB⟩) | (exfalso; omega)), (show NKp (m212.2 18) (m212.2 19) by rewrite [(show (m212.2 18) = (m20.2 18) from (fr2 Fm212 18 rfl)), (show (m212.2 19) = (m20.2 19) from (fr2 Fm212 19 rfl))]; first | (exact hNK) | (exfalso; omega)), rfl⟩
      refine T_ld 62 (.int (i32 0)) rfl (fun _ => rfl) ?_
      refine T_sto 63 [(3, .int (i32 0)), (2, .int (i32 s13)), (0, .ref 181), (1, .int (i32 lv))] rfl (fun _ => rfl) ?_
      have L63_223 : ∀ (n232 : Nat) (v221 : Int) (m222 : mR), (R32 v221) → KTy m222 → fr [211, 212, 213, 220, 228, 229] [18, 19, 20, 22, 23, 70] (mO m1 [] []) m222 → (0 ≤ v221) → (v221 ≤ 288) → (FBp (m222.1 229) (m.2 68) (m222.1 228) (m1.1 230)) → (NKp (m222.2 18) (m222.2 19)) → ((m222.1 228) + v221 ≤ 288) → 288 - v221 < (n232 : Int) → TT w D pm_103 (63, [(0, .ref 181), (1, .int (i32 lv)), (2, .int (i32 s13)), (3, .int (i32 v221))], [], (khp (mO m222 [] []) c, N), 0, 0) (Q_fm_goesOn m c N) := by
        intro n232
        induction n232 with
        | zero =>
          intro v221 m222 q229 Tm222 Fm222 ic224 ic225 ic226 ic227 ic228 hmu
          obtain ⟨q229a, q229b⟩ := id q229
          have q230_213 : 0 ≤ m222.1 213 ∧ m222.1 213 ≤ 1 := Tm222.1 213
          have q230_228 : 0 ≤ m222.1 228 ∧ m222.1 228 ≤ 288 := Tm222.1 228
          have q230_229 : 0 ≤ m222.1 229 ∧ m222.1 229 ≤ 576 := Tm222.1 229
          have hFB := ic226
          have hNK := ic227
          exfalso
          omega
        | succ n232 ih =>
          intro v221 m222 q229 Tm222 Fm222 ic224 ic225 ic226 ic227 ic228 hmu
          obtain ⟨q229a, q229b⟩ := id q229
          have q230_213 : 0 ≤ m222.1 213 ∧ m222.1 213 ≤ 1 := Tm222.1 213
          have q230_228 : 0 ≤ m222.1 228 ∧ m222.1 228 ≤ 288 := Tm222.1 228
          have q230_229 : 0 ≤ m222.1 229 ∧ m222.1 229 ≤ 576 := Tm222.1 229
          have hFB := ic226
          have hNK := ic227
          have ih233 := ih
          refine T_ld 64 (.int (i32 v221)) rfl (fun _ => rfl) ?_
          refine T_ld 67 (.int (i32 288)) rfl (fun _ => rfl) ?_
          refine T_icmp 91 70 rfl rfl rfl (r32 (by omega) (by omega)) ⟨by decide, by decide⟩ (fun (h234 : (288 : Int) ≤ v221) => ?_) (fun (h234 : ¬ ((288 : Int) ≤ v221)) => ?_)
          · skip
            refine Tm_lv (a := [(0, .ref 181), (1, .int (i32 lv))]) rfl rfl ⟨rfl, rfl, trivial⟩ ?_
            exact J91_21 (mO m222 [] []) Tm222 (fr_m (fr_s Fm222 (fr_m fr_0 rfl rfl) rfl rfl) rfl rfl) (show FBp (m222.1 229) (m.2 68) (m222.1 228) (m1.1 230) by exact hFB) (show NKp (m222.2 18) (m222.2 19) by exact hNK)
          · skip
            refine T_ld 71 (.ref 181) rfl (fun _ => rfl) ?_
            refine T_callx 74 104 [.ref 181] [] rfl (fun _ => rfl) rfl rfl (c_fm_top w (mO m222 [] []) c N D (by omega) Tm222 ) (fun rr235 k236 => ?_)
            obtain ⟨tp, g237, h238, rfl⟩ := k236
            refine Or.inl ⟨_, _, _, _, rfl, ?_⟩
            refine T_ns (st' := [.int (i32 tp)]) rfl ?_
            obtain ⟨g237a, g237b⟩ := g237
            replace h238 : 1 ≤ (m222.1 228) ∧ tp = (m222.2 68) ((m222.1 228) - 1) ∨ (m222.1 228) = 0 ∧ tp = -1 := h238
            rewrite [(show (m222.2 68) = (m.2 68) from ((fr2 Fm222 68 rfl).trans (fr2 Fm1 68 rfl)))] at h238
            have hTp := h238
            refine T_callx 77 108 [.int (i32 tp)] [] rfl (fun _ => rfl) rfl rfl (c_fm_levelOf w (mO m222 [] []) c N D (by omega) Tm222 tp (r32 (by omega) (by omega))) (fun rr239 k240 => ?_)
            obtain ⟨lv241, g242, h243, h244, rfl⟩ := k240
            refine Or.inl ⟨_, _, _, _, rfl, ?_⟩
            refine T_ns (st' := [.int (i32 lv241)]) rfl ?_
            obtain ⟨g242a, g242b⟩ := g242
            replace h243 : 1 ≤ lv241 → PRq tp := h243
            have hL1 := h243
            replace h244 : lv241 = 0 → ¬ PRq tp := h244
            have hL0 := h244
            refine T_ld 78 (.int (i32 s13)) rfl (fun _ => rfl) ?_
            refine T_icmp 91 81 rfl rfl rfl (r32 (by omega) (by omega)) (r32 (by omega) (by omega)) (fun (h245 : lv241 < s13) => ?_) (fun (h245 : ¬ (lv241 < s13)) => ?_)
            · skip
              refine Tm_lv (a := [(0, .ref 181), (1, .int (i32 lv))]) rfl rfl ⟨rfl, rfl, trivial⟩ ?_
              exact J91_21 (mO m222 [] []) Tm222 (fr_m (fr_s Fm222 (fr_m fr_0 rfl rfl) rfl rfl) rfl rfl) (show FBp (m222.1 229) (m.2 68) (m222.1 228) (m1.1 230) by exact hFB) (show NKp (m222.2 18) (m222.2 19) by exact hNK)
            · skip
              have hTs := TP_p hTp (hL1 (by omega))
              have hTo := hTs.1
              have hT1 := hTs.2
              refine T_ld 82 (.ref 181) rfl (fun _ => rfl) ?_
              refine T_callx 85 109 [.ref 181] [] rfl (fun _ => rfl) rfl rfl (c_fm_closePair w (mO m222 [] []) c N D (by omega) Tm222 (show FBp (m222.1 229) (m222.2 68) (m222.1 228) (m222.1 230) by rewrite [(show (m222.2 68) = (m.2 68) from ((fr2 Fm222 68 rfl).trans (fr2 Fm1 68 rfl))), (show (m222.1 230) = (m1.1 230) from (fr1 Fm222 230 rfl))]; exact hFB) (show NKp (m222.2 18) (m222.2 19) by exact hNK) (show 1 ≤ (m222.1 228) by omega) (show PRq ((m222.2 68) ((m222.1 228) - 1)) by rewrite [(show (m222.2 68) = (m.2 68) from ((fr2 Fm222 68 rfl).trans (fr2 Fm1 68 rfl)))]; exact hTo)) (fun rr246 k247 => ?_)
              rcases k247 with ⟨m248, Tm248, Fm248, h249, h250, h251, rfl⟩ | ⟨xx255, m252, hx253, Tm252, Fm252, h254, rfl⟩
              rotate_left
              · skip
                refine Or.inr ⟨_, _, _, _, rfl, ?_⟩
                have hNK := h254
                exact Or.inr ⟨xx255, (mO m252 [] []), (hx253), Tm252, (fr_m (fr_s Fm252 (fr_m (fr_s Fm222 (fr_m (fr_s Fm1 (fr_m fr_0 rfl rfl) rfl rfl) rfl rfl) rfl rfl) rfl rfl) rfl rfl) rfl rfl), (show NKp (m252.2 18) (m252.2 19) by exact hNK), rfl⟩
              refine Or.inl ⟨_, _, _, _, rfl, ?_⟩
              refine K_nb (st' := []) rfl ?_
              have g256 : 0 ≤ m248.1 213 ∧ m248.1 213 ≤ 1 := Tm248.1 213
              have g257 : 0 ≤ m248.1 228 ∧ m248.1 228 ≤ 288 := Tm248.1 228
              have g258 : 0 ≤ m248.1 229 ∧ m248.1 229 ≤ 576 := Tm248.1 229
              replace h249 : FBp (m248.1 229) (m222.2 68) (m248.1 228) (m222.1 230) := h249
              rewrite [(show (m222.2 68) = (m.2 68) from ((fr2 Fm222 68 rfl).trans (fr2 Fm1 68 rfl))), (show (m222.1 230) = (m1.1 230) from (fr1 Fm222 230 rfl))] at h249
              have hFB := h249
              replace h250 : NKp (m248.2 18) (m248.2 19) := h250
              have hNK := h250
              replace h251 : (m248.1 228) = (m222.1 228) - 1 := h251
              refine T_iinc 88 [(3, .int (i32 (v221 + 1))), (0, .ref 181), (1, .int (i32 lv)), (2, .int (i32 s13))] rfl rfl (by decide) rfl rfl ?_
              refine T_goto 63 rfl (fun _ => rfl) ?_
              refine Tm_lv (a := [(0, .ref 181), (1, .int (i32 lv)), (2, .int (i32 s13)), (3, .int (i32 (v221 + 1)))]) rfl rfl ⟨rfl, rfl, rfl, rfl, trivial⟩ ?_
              exact ih233 (v221 + 1) (mO m248 [] []) (r32 (by omega) (by omega)) Tm248 (fr_m (fr_s Fm248 (fr_m (fr_s Fm222 (fr_m fr_0 rfl rfl) rfl rfl) rfl rfl) rfl rfl) rfl rfl) (show 0 ≤ (v221 + 1) by omega) (show (v221 + 1) ≤ 288 by omega) (show FBp (m248.1 229) (m.2 68) (m248.1 228) (m1.1 230) by exact hFB) (show NKp (m248.2 18) (m248.2 19) by exact hNK) (show (m248.1 228) + (v221 + 1) ≤ 288 by omega) (show 288 - (v221 + 1) < (n232 : Int) by omega)
      refine Tm_lv (a := [(0, .ref 181), (1, .int (i32 lv)), (2, .int (i32 s13)), (3, .int (i32 0))]) rfl rfl ⟨rfl, rfl, rfl, rfl, trivial⟩ ?_
      exact L63_223 ((288 - (0 : Int) : Int) + 1).toNat 0 (mO m1 [] []) ⟨by decide, by decide⟩ Tm1 (fr_m fr_0 rfl rfl) (show 0 ≤ (0 : Int) by omega) (show (0 : Int) ≤ 288 by omega) (show FBp (m1.1 229) (m.2 68) (m1.1 228) (m1.1 230) by exact hFB) (show NKp (m1.2 18) (m1.2 19) by exact hNK) (show (m1.1 228) + (0 : Int) ≤ 288 by omega) (show 288 - (0 : Int) < ((((288 - (0 : Int) : Int) + 1).toNat : Nat) : Int) by omega)
    refine T_if 48 44 rfl rfl rfl (r32 (by omega) (by omega)) (fun (h259 : lv ≠ 0) => ?_) (fun (h259 : ¬ (lv ≠ 0)) => ?_)
    · skip
      refine T_ld 49 (.int (i32 lv)) rfl (fun _ => rfl) ?_
      refine T_ld 50 (.int (i32 3)) rfl (fun _ => rfl) ?_
      refine T_icmp 59 53 rfl rfl rfl (r32 (by omega) (by omega)) ⟨by decide, by decide⟩ (fun (h260 : lv ≠ 3) => ?_) (fun (h260 : ¬ (lv ≠ 3)) => ?_)
      · skip
        refine T_ld 60 (.int (i32 lv)) rfl (fun _ => rfl) ?_
        refine Tm_lv (a := [(0, .ref 181), (1, .int (i32 lv))]) rfl rfl ⟨rfl, rfl, trivial⟩ ?_
        exact J60_14 lv (r32 (by omega) (by omega)) (show 1 ≤ lv by omega) (show lv ≤ 9 by omega)
      · skip
        refine T_ld 54 (.int (i32 lv)) rfl (fun _ => rfl) ?_
        refine T_ld 55 (.int (i32 1)) rfl (fun _ => rfl) ?_
        refine T_iadd 56 rfl rfl ?_
        refine T_goto 60 rfl (fun _ => rfl) ?_
        refine Tm_lv (a := [(0, .ref 181), (1, .int (i32 lv))]) rfl rfl ⟨rfl, rfl, trivial⟩ ?_
        exact J60_14 (lv + 1) (r32 (by omega) (by omega)) (show 1 ≤ (lv + 1) by omega) (show (lv + 1) ≤ 9 by omega)
    · skip
      refine T_ld 45 (.int (i32 1)) rfl (fun _ => rfl) ?_
      refine T_goto 60 rfl (fun _ => rfl) ?_
      refine Tm_lv (a := [(0, .ref 181), (1, .int (i32 lv))]) rfl rfl ⟨rfl, rfl, trivial⟩ ?_
      exact J60_14 1 ⟨by decide, by decide⟩ (show 1 ≤ (1 : Int) by omega) (show (1 : Int) ≤ 9 by omega)
  refine T_ld 1 (.int (i32 0)) rfl (fun _ => rfl) ?_
  refine T_sto 2 [(1, .int (i32 0)), (0, .ref 181)] rfl (fun _ => rfl) ?_
  have L2_263 : ∀ (n272 : Nat) (v261 : Int) (m262 : mR), (R32 v261) → KTy m262 → fr [211, 212, 213, 220, 228, 229, 230] [18, 19, 20, 22, 23, 70] (mO m [] []) m262 → (0 ≤ v261) → (v261 ≤ 288) → (FBp (m262.1 229) (m.2 68) (m262.1 228) (m262.1 230)) → (NKp (m262.2 18) (m262.2 19)) → ((m262.1 228) + v261 ≤ 288) → 288 - v261 < (n272 : Int) → TT w D pm_103 (2, [(0, .ref 181), (1, .int (i32 v261))], [], (khp (mO m262 [] []) c, N), 0, 0) (Q_fm_goesOn m c N) := by
    intro n272
    induction n272 with
    | zero =>
      intro v261 m262 q269 Tm262 Fm262 ic264 ic265 ic266 ic267 ic268 hmu
      obtain ⟨q269a, q269b⟩ := id q269
      have q270_213 : 0 ≤ m262.1 213 ∧ m262.1 213 ≤ 1 := Tm262.1 213
      have q270_228 : 0 ≤ m262.1 228 ∧ m262.1 228 ≤ 288 := Tm262.1 228
      have q270_229 : 0 ≤ m262.1 229 ∧ m262.1 229 ≤ 576 := Tm262.1 229
      have q270_230 : 0 ≤ m262.1 230 ∧ m262.1 230 ≤ 30 := Tm262.1 230
      have hFB := ic266
      have hNK := ic267
      exfalso
      omega
    | succ n272 ih =>
      intro v261 m262 q269 Tm262 Fm262 ic264 ic265 ic266 ic267 ic268 hmu
      obtain ⟨q269a, q269b⟩ := id q269
      have q270_213 : 0 ≤ m262.1 213 ∧ m262.1 213 ≤ 1 := Tm262.1 213
      have q270_228 : 0 ≤ m262.1 228 ∧ m262.1 228 ≤ 288 := Tm262.1 228
      have q270_229 : 0 ≤ m262.1 229 ∧ m262.1 229 ≤ 576 := Tm262.1 229
      have q270_230 : 0 ≤ m262.1 230 ∧ m262.1 230 ≤ 30 := Tm262.1 230
      have hFB := ic266
      have hNK := ic267
      have ih273 := ih
      refine T_ld 3 (.int (i32 v261)) rfl (fun _ => rfl) ?_
      refine T_ld 6 (.int (i32 288)) rfl (fun _ => rfl) ?_
      refine T_icmp 29 9 rfl rfl rfl (r32 (by omega) (by omega)) ⟨by decide, by decide⟩ (fun (h274 : (288 : Int) ≤ v261) => ?_) (fun (h274 : ¬ ((288 : Int) ≤ v261)) => ?_)
      · skip
        refine Tm_lv (a := [(0, .ref 181)]) rfl rfl ⟨rfl, trivial⟩ ?_
        exact J29_2 (mO m262 [] []) Tm262 (fr_m (fr_s Fm262 (fr_m fr_0 rfl rfl) rfl rfl) rfl rfl) (show FBp (m262.1 229) (m.2 68) (m262.1 228) (m262.1 230) by exact hFB) (show NKp (m262.2 18) (m262.2 19) by exact hNK)
      · skip
        refine T_ld 10 (.ref 181) rfl (fun _ => rfl) ?_
        refine T_callx 13 104 [.ref 181] [] rfl (fun _ => rfl) rfl rfl (c_fm_top w (mO m262 [] []) c N D (by omega) Tm262 ) (fun rr275 k276 => ?_)
        obtain ⟨tp, g277, h278, rfl⟩ := k276
        refine Or.inl ⟨_, _, _, _, rfl, ?_⟩
        refine T_ns (st' := [.int (i32 tp)]) rfl ?_
        obtain ⟨g277a, g277b⟩ := g277
        replace h278 : 1 ≤ (m262.1 228) ∧ tp = (m262.2 68) ((m262.1 228) - 1) ∨ (m262.1 228) = 0 ∧ tp = -1 := h278
        rewrite [(show (m262.2 68) = (m.2 68) from (fr2 Fm262 68 rfl))] at h278
        have hTp := h278
        refine T_callx 16 105 [.int (i32 tp)] [] rfl (fun _ => rfl) rfl rfl (c_fm_isSingle w (mO m262 [] []) c N D (by omega) Tm262 tp (r32 (by omega) (by omega))) (fun rr279 k280 => ?_)
        obtain ⟨sg, g281, h282, rfl⟩ := k280
        refine Or.inl ⟨_, _, _, _, rfl, ?_⟩
        refine T_ns (st' := [.int (i32 sg)]) rfl ?_
        obtain ⟨g281a, g281b⟩ := g281
        replace h282 : sg = 1 → tp = 405 ∨ tp = 126 ∨ tp = 33 := h282
        have hSg := h282
        refine T_if 29 19 rfl rfl rfl (r32 (by omega) (by omega)) (fun (h283 : sg = 0) => ?_) (fun (h283 : ¬ (sg = 0)) => ?_)
        · skip
          refine Tm_lv (a := [(0, .ref 181)]) rfl rfl ⟨rfl, trivial⟩ ?_
          exact J29_2 (mO m262 [] []) Tm262 (fr_m (fr_s Fm262 (fr_m fr_0 rfl rfl) rfl rfl) rfl rfl) (show FBp (m262.1 229) (m.2 68) (m262.1 228) (m262.1 230) by exact hFB) (show NKp (m262.2 18) (m262.2 19) by exact hNK)
        · skip
          have hTs := TP_s hTp (hSg (by omega))
          have hTo := hTs.1
          have hT1 := hTs.2
          refine T_ld 20 (.ref 181) rfl (fun _ => rfl) ?_
          refine T_callx 23 106 [.ref 181] [] rfl (fun _ => rfl) rfl rfl (c_fm_closeSingle w (mO m262 [] []) c N D (by omega) Tm262 (show FBp (m262.1 229) (m262.2 68) (m262.1 228) (m262.1 230) by rewrite [(show (m262.2 68) = (m.2 68) from (fr2 Fm262 68 rfl))]; exact hFB) (show NKp (m262.2 18) (m262.2 19) by exact hNK) (show 1 ≤ (m262.1 228) by omega) (show (m262.2 68) ((m262.1 228) - 1) = 405 ∨ (m262.2 68) ((m262.1 228) - 1) = 126 ∨ (m262.2 68) ((m262.1 228) - 1) = 33 by rewrite [(show (m262.2 68) = (m.2 68) from (fr2 Fm262 68 rfl))]; exact hTo)) (fun rr284 k285 => ?_)
          rcases k285 with ⟨m286, Tm286, Fm286, h287, h288, h289, rfl⟩ | ⟨xx293, m290, hx291, Tm290, Fm290, h292, rfl⟩
          rotate_left
          · skip
            refine Or.inr ⟨_, _, _, _, rfl, ?_⟩
            have hNK := h292
            exact Or.inr ⟨xx293, (mO m290 [] []), (hx291), Tm290, (fr_m (fr_s Fm290 (fr_m (fr_s Fm262 (fr_m fr_0 rfl rfl) rfl rfl) rfl rfl) rfl rfl) rfl rfl), (show NKp (m290.2 18) (m290.2 19) by exact hNK), rfl⟩
          refine Or.inl ⟨_, _, _, _, rfl, ?_⟩
          refine K_nb (st' := []) rfl ?_
          have g294 : 0 ≤ m286.1 213 ∧ m286.1 213 ≤ 1 := Tm286.1 213
          have g295 : 0 ≤ m286.1 228 ∧ m286.1 228 ≤ 288 := Tm286.1 228
          have g296 : 0 ≤ m286.1 229 ∧ m286.1 229 ≤ 576 := Tm286.1 229
          have g297 : 0 ≤ m286.1 230 ∧ m286.1 230 ≤ 30 := Tm286.1 230
          replace h287 : FBp (m286.1 229) (m262.2 68) (m286.1 228) (m286.1 230) := h287
          rewrite [(show (m262.2 68) = (m.2 68) from (fr2 Fm262 68 rfl))] at h287
          have hFB := h287
          replace h288 : NKp (m286.2 18) (m286.2 19) := h288
          have hNK := h288
          replace h289 : (m286.1 228) = (m262.1 228) - 1 := h289
          refine T_iinc 26 [(1, .int (i32 (v261 + 1))), (0, .ref 181)] rfl rfl (by decide) rfl rfl ?_
          refine T_goto 2 rfl (fun _ => rfl) ?_
          refine Tm_lv (a := [(0, .ref 181), (1, .int (i32 (v261 + 1)))]) rfl rfl ⟨rfl, rfl, trivial⟩ ?_
          exact ih273 (v261 + 1) (mO m286 [] []) (r32 (by omega) (by omega)) Tm286 (fr_m (fr_s Fm286 (fr_m (fr_s Fm262 (fr_m fr_0 rfl rfl) rfl rfl) rfl rfl) rfl rfl) rfl rfl) (show 0 ≤ (v261 + 1) by omega) (show (v261 + 1) ≤ 288 by omega) (show FBp (m286.1 229) (m.2 68) (m286.1 228) (m286.1 230) by exact hFB) (show NKp (m286.2 18) (m286.2 19) by exact hNK) (show (m286.1 228) + (v261 + 1) ≤ 288 by omega) (show 288 - (v261 + 1) < (n272 : Int) by omega)
  refine Tm_lv (a := [(0, .ref 181), (1, .int (i32 0))]) rfl rfl ⟨rfl, rfl, trivial⟩ ?_
  exact L2_263 ((288 - (0 : Int) : Int) + 1).toNat 0 (mO m [] []) ⟨by decide, by decide⟩ hT (fr_m fr_0 rfl rfl) (show 0 ≤ (0 : Int) by omega) (show (0 : Int) ≤ 288 by omega) (show FBp (m.1 229) (m.2 68) (m.1 228) (m.1 230) by exact hFB) (show NKp (m.2 18) (m.2 19) by exact hNK) (show (m.1 228) + (0 : Int) ≤ 288 by omega) (show 288 - (0 : Int) < ((((288 - (0 : Int) : Int) + 1).toNat : Nat) : Int) by omega)
def fF_fm_whole : List Nat := [205, 206, 207, 208, 209, 210, 211, 212, 213, 220, 228, 229, 230, 231]
def fA_fm_whole : List Nat := [18, 19, 20, 21, 22, 23, 24, 68, 69, 70]
def Q_fm_whole (m : mR) (c : Nat → Option am_C) (N : Nat) (a : Int) : ag_Re af_T → Prop := fun R => (∃ (M : mR) (r : Int), KTy M ∧ fr fF_fm_whole fA_fm_whole m M ∧ (0 ≤ r ∧ r ≤ 1089) ∧ (NKp (M.2 18) (M.2 19)) ∧ R = (.inl (some (.int (i32 r))), (khp M c, N), 0, 0)) ∨ (∃ (x : Nat) (M : mR), (x = 0) ∧ (KTy M) ∧ (fr fF_fm_whole fA_fm_whole m M) ∧ (NKp (M.2 18) (M.2 19)) ∧ R = (.inr x, (khp M c, N), 1, 6))
set_option maxHeartbeats 3000000 in
theorem c_fm_whole (w : wX) (m : mR) (c : Nat → Option am_C) (N D : Nat) (hD : 10 ≤ D) (hT : KTy m) (a : Int) (qa : R32 a) (hNK : NKp (m.2 18) (m.2 19)) (pKP : KPp (m.1 203) (m.2 8) (m.2 9) (m.1 214) (m.1 215) (m.1 216) (m.1 217) (m.1 221) (m.1 223) (m.1 219)) (p2 : (-1) ≤ a ∧ a ≤ 15) : TC w D 92 [.ref 181, .int (i32 a)] (khp m c, N) (Q_fm_whole m c N a) := by
  obtain ⟨D, rfl⟩ : ∃ k, D = k + 1 := ⟨D - 1, by omega⟩
  obtain ⟨qaa, qab⟩ := id qa
  have f206 : (-1) ≤ m.1 206 ∧ m.1 206 ≤ 65535 := hT.1 206
  have f228 : 0 ≤ m.1 228 ∧ m.1 228 ≤ 288 := hT.1 228
  have f229 : 0 ≤ m.1 229 ∧ m.1 229 ≤ 576 := hT.1 229
  have f230 : 0 ≤ m.1 230 ∧ m.1 230 ≤ 30 := hT.1 230
  have f203 : 0 ≤ m.1 203 ∧ m.1 203 ≤ 90 := hT.1 203
  have f214 : 0 ≤ m.1 214 ∧ m.1 214 ≤ 12 := hT.1 214
  have f215 : 0 ≤ m.1 215 ∧ m.1 215 ≤ 12 := hT.1 215
  have f216 : 0 ≤ m.1 216 ∧ m.1 216 ≤ 16 := hT.1 216
  have f217 : 0 ≤ m.1 217 ∧ m.1 217 ≤ 8 := hT.1 217
  have f219 : 0 ≤ m.1 219 ∧ m.1 219 ≤ 8 := hT.1 219
  have f221 : 0 ≤ m.1 221 ∧ m.1 221 ≤ 16 := hT.1 221
  have f223 : 0 ≤ m.1 223 ∧ m.1 223 ≤ 16 := hT.1 223
  refine Tc_of rfl ?_
  rw [show (khp m c, N) = (khp (mO m [] []) c, N) from by rw [mO_nil m]]
  show TT w D pm_92 (0, [(0, .ref 181), (1, .int (i32 a))], [], (khp (mO m [] []) c, N), 0, 0) (Q_fm_whole m c N a)
  refine T_ld 1 (.ref 181) rfl (fun _ => rfl) ?_
  refine T_ld 2 (.int (i32 a)) rfl (fun _ => rfl) ?_
  refine K_pf (l' := [(231, a)]) 5 a rfl rfl kd_181 rfl rfl rfl rfl rfl rfl rfl ?_
  have g1 : (-1) ≤ a ∧ a ≤ 15 := ⟨by omega, by omega⟩
  refine T_ld 6 (.ref 181) rfl (fun _ => rfl) ?_
  refine T_ld 7 (.int (i32 0)) rfl (fun _ => rfl) ?_
  refine K_pf (l' := [(228, 0), (231, a)]) 10 0 rfl rfl kd_181 rfl rfl rfl rfl rfl rfl rfl ?_
  refine T_ld 11 (.ref 181) rfl (fun _ => rfl) ?_
  refine T_ld 12 (.int (i32 0)) rfl (fun _ => rfl) ?_
  refine K_pf (l' := [(228, 0), (229, 0), (231, a)]) 15 0 rfl rfl kd_181 rfl rfl rfl rfl rfl rfl rfl ?_
  refine T_ld 16 (.ref 181) rfl (fun _ => rfl) ?_
  refine T_ld 17 (.int (i32 1)) rfl (fun _ => rfl) ?_
  refine K_pf (l' := [(228, 0), (229, 0), (230, 1), (231, a)]) 20 1 rfl rfl kd_181 rfl rfl rfl rfl rfl rfl rfl ?_
  refine T_ld 21 (.int (i32 1)) rfl (fun _ => rfl) ?_
  refine T_sto 22 [(2, .int (i32 1)), (0, .ref 181), (1, .int (i32 a))] rfl (fun _ => rfl) ?_
  refine T_ld 23 (.int (i32 0)) rfl (fun _ => rfl) ?_
  refine T_sto 24 [(3, .int (i32 0)), (2, .int (i32 1)), (0, .ref 181), (1, .int (i32 a))] rfl (fun _ => rfl) ?_
  refine K_fl (KTy_mO hT rfl rfl ⟨⟨(by omega : (0 : Int) ≤ 0), (by omega : (0 : Int) ≤ 288)⟩, ⟨(by omega : (0 : Int) ≤ 0), (by omega : (0 : Int) ≤ 576)⟩, ⟨(by omega : (0 : Int) ≤ 1), (by omega : (1 : Int) ≤ 30)⟩, g1, trivial⟩ trivial) (fun m2 Tm2 Fm2 => ?_)
  have L24_6 : ∀ (n17 : Nat) (v3 : Int) (v4 : Int) (m5 : mR), (R32 v3) → (R32 v4) → KTy m5 → fr [205, 206, 207, 208, 209, 210, 211, 212, 213, 220, 228, 229, 230] [18, 19, 20, 21, 22, 23, 24, 68, 69, 70] (mO m2 [] []) m5 → (0 ≤ v3) → (v3 ≤ 2) → (0 ≤ v4) → (FGp v3 (m5.1 229) (m5.2 68) (m5.1 228) (m5.1 230) (m5.1 206)) → (NKp (m5.2 18) (m5.2 19)) → (0 ≤ v4 ∧ v4 ≤ 4001) → 4010 - v4 < (n17 : Int) → TT w D pm_92 (24, [(0, .ref 181), (2, .int (i32 v3)), (3, .int (i32 v4))], [], (khp (mO m5 [] []) c, N), 0, 0) (Q_fm_whole m c N a) := by
    intro n17
    induction n17 with
    | zero =>
      intro v3 v4 m5 q13 q14 Tm5 Fm5 ic7 ic8 ic9 ic10 ic11 ic12 hmu
      obtain ⟨q13a, q13b⟩ := id q13
      obtain ⟨q14a, q14b⟩ := id q14
      have q15_206 : (-1) ≤ m5.1 206 ∧ m5.1 206 ≤ 65535 := Tm5.1 206
      have q15_228 : 0 ≤ m5.1 228 ∧ m5.1 228 ≤ 288 := Tm5.1 228
      have q15_229 : 0 ≤ m5.1 229 ∧ m5.1 229 ≤ 576 := Tm5.1 229
      have q15_230 : 0 ≤ m5.1 230 ∧ m5.1 230 ≤ 30 := Tm5.1 230
      have hFG := ic10
      have hNK := ic11
      exfalso
      omega
    | succ n17 ih =>
      intro v3 v4 m5 q13 q14 Tm5 Fm5 ic7 ic8 ic9 ic10 ic11 ic12 hmu
      obtain ⟨q13a, q13b⟩ := id q13
      obtain ⟨q14a, q14b⟩ := id q14
      have q15_206 : (-1) ≤ m5.1 206 ∧ m5.1 206 ≤ 65535 := Tm5.1 206
      have q15_228 : 0 ≤ m5.1 228 ∧ m5.1 228 ≤ 288 := Tm5.1 228
      have q15_229 : 0 ≤ m5.1 229 ∧ m5.1 229 ≤ 576 := Tm5.1 229
      have q15_230 : 0 ≤ m5.1 230 ∧ m5.1 230 ≤ 30 := Tm5.1 230
      have hFG := ic10
      have hNK := ic11
      have ih18 := ih
      refine T_ld 25 (.int (i32 v4)) rfl (fun _ => rfl) ?_
      refine T_ld 28 (.int (i32 4000)) rfl (fun _ => rfl) ?_
      refine T_icmp 63 31 rfl rfl rfl (r32 (by omega) (by omega)) ⟨by decide, by decide⟩ (fun (h19 : (4000 : Int) < v4) => ?_) (fun (h19 : ¬ ((4000 : Int) < v4)) => ?_)
      · skip
        refine T_ld 64 (.ref 181) rfl (fun _ => rfl) ?_
        refine K_gf 67 (.ref 184) rfl rfl kd_181 rfl rfl rfl ?_
        refine T_ld 68 (.int (i32 0)) rfl (fun _ => rfl) ?_
        refine K_iald 69 70 (m5.2 70) rfl rfl rfl (by omega) (show 0 < (576 : Int) by omega) rfl ?_
        have e20 : 0 ≤ (m5.2 70) 0 ∧ (m5.2 70) 0 ≤ 1089 := (Tm5.2.1 70) 0
        refine T_ret rfl (fun _ => rfl) ?_
        exact Or.inl ⟨(mO m5 [] []), (m5.2 70) 0, Tm5, (fr_m (fr_s Fm5 (fr_m (fr_s Fm2 (fr_m fr_0 rfl rfl) rfl rfl) rfl rfl) rfl rfl) rfl rfl), ⟨by omega, by omega⟩, (show NKp (m5.2 18) (m5.2 19) by first | (exact hNK) | (exfalso; omega)), rfl⟩
      · skip
        refine T_ld 32 (.int (i32 v3)) rfl (fun _ => rfl) ?_
        refine T_if 63 35 rfl rfl rfl (r32 (by omega) (by omega)) (fun (h21 : v3 = 0) => ?_) (fun (h21 : ¬ (v3 = 0)) => ?_)
        · skip
          refine T_ld 64 (.ref 181) rfl (fun _ => rfl) ?_
          refine K_gf 67 (.ref 184) rfl rfl kd_181 rfl rfl rfl ?_
          refine T_ld 68 (.int (i32 0)) rfl (fun _ => rfl) ?_
          refine K_iald 69 70 (m5.2 70) rfl rfl rfl (by omega) (show 0 < (576 : Int) by omega) rfl ?_
          have e22 : 0 ≤ (m5.2 70) 0 ∧ (m5.2 70) 0 ≤ 1089 := (Tm5.2.1 70) 0
          refine T_ret rfl (fun _ => rfl) ?_
          exact Or.inl ⟨(mO m5 [] []), (m5.2 70) 0, Tm5, (fr_m (fr_s Fm5 (fr_m (fr_s Fm2 (fr_m fr_0 rfl rfl) rfl rfl) rfl rfl) rfl rfl) rfl rfl), ⟨by omega, by omega⟩, (show NKp (m5.2 18) (m5.2 19) by first | (exact hNK) | (exfalso; omega)), rfl⟩
        · skip
          refine T_ld 36 (.int (i32 v3)) rfl (fun _ => rfl) ?_
          refine T_ld 37 (.int (i32 1)) rfl (fun _ => rfl) ?_
          refine T_icmp 48 40 rfl rfl rfl (r32 (by omega) (by omega)) ⟨by decide, by decide⟩ (fun (h23 : v3 ≠ 1) => ?_) (fun (h23 : ¬ (v3 ≠ 1)) => ?_)
          · skip
            have hFB : FBp (m5.1 229) (m5.2 68) (m5.1 228) (m5.1 230) := by first | exact hFB | exact hFG.2 (by omega)
            refine T_ld 49 (.ref 181) rfl (fun _ => rfl) ?_
            refine T_callx 52 102 [.ref 181] [] rfl (fun _ => rfl) rfl rfl (c_fm_suffixes w (mO m5 [] []) c N D (by omega) Tm5 (show FBp (m5.1 229) (m5.2 68) (m5.1 228) (m5.1 230) by exact hFB) (show NKp (m5.2 18) (m5.2 19) by exact hNK)) (fun rr24 k25 => ?_)
            rcases k25 with ⟨m26, Tm26, Fm26, h27, h28, rfl⟩ | ⟨xx32, m29, hx30, Tm29, Fm29, h31, rfl⟩
            rotate_left
            · skip
              refine Or.inr ⟨_, _, _, _, rfl, ?_⟩
              have hNK := h31
              exact Or.inr ⟨xx32, (mO m29 [] []), (hx30), Tm29, (fr_m (fr_s Fm29 (fr_m (fr_s Fm5 (fr_m (fr_s Fm2 (fr_m fr_0 rfl rfl) rfl rfl) rfl rfl) rfl rfl) rfl rfl) rfl rfl) rfl rfl), (show NKp (m29.2 18) (m29.2 19) by exact hNK), rfl⟩
            refine Or.inl ⟨_, _, _, _, rfl, ?_⟩
            refine K_nb (st' := []) rfl ?_
            have g33 : (-1) ≤ m26.1 206 ∧ m26.1 206 ≤ 65535 := Tm26.1 206
            have g34 : 0 ≤ m26.1 229 ∧ m26.1 229 ≤ 576 := Tm26.1 229
            replace h27 : FBp (m26.1 229) (m5.2 68) (m5.1 228) (m5.1 230) := h27
            have hFB := h27
            replace h28 : NKp (m26.2 18) (m26.2 19) := h28
            have hNK := h28
            refine T_ld 53 (.ref 181) rfl (fun _ => rfl) ?_
            refine T_callx 56 103 [.ref 181] [] rfl (fun _ => rfl) rfl rfl (c_fm_goesOn w (mO m26 [] []) c N D (by omega) Tm26 (show FBp (m26.1 229) (m26.2 68) (m26.1 228) (m26.1 230) by rewrite [(show (m26.2 68) = (m5.2 68) from (fr2 Fm26 68 rfl)), (show (m26.1 228) = (m5.1 228) from (fr1 Fm26 228 rfl)), (show (m26.1 230) = (m5.1 230) from (fr1 Fm26 230 rfl))]; exact hFB) (show NKp (m26.2 18) (m26.2 19) by exact hNK)) (fun rr35 k36 => ?_)
            rcases k36 with ⟨m37, gn, Tm37, Fm37, g38, h39, h40, rfl⟩ | ⟨xx44, m41, hx42, Tm41, Fm41, h43, rfl⟩
            rotate_left
            · skip
              refine Or.inr ⟨_, _, _, _, rfl, ?_⟩
              have hNK := h43
              exact Or.inr ⟨xx44, (mO m41 [] []), (hx42), Tm41, (fr_m (fr_s Fm41 (fr_m (fr_s Fm26 (fr_m (fr_s Fm5 (fr_m (fr_s Fm2 (fr_m fr_0 rfl rfl) rfl rfl) rfl rfl) rfl rfl) rfl rfl) rfl rfl) rfl rfl) rfl rfl) rfl rfl), (show NKp (m41.2 18) (m41.2 19) by exact hNK), rfl⟩
            refine Or.inl ⟨_, _, _, _, rfl, ?_⟩
            refine K_nb (st' := [.int (i32 gn)]) rfl ?_
            obtain ⟨g38a, g38b⟩ := g38
            have g45 : (-1) ≤ m37.1 206 ∧ m37.1 206 ≤ 65535 := Tm37.1 206
            have g46 : 0 ≤ m37.1 228 ∧ m37.1 228 ≤ 288 := Tm37.1 228
            have g47 : 0 ≤ m37.1 229 ∧ m37.1 229 ≤ 576 := Tm37.1 229
            have g48 : 0 ≤ m37.1 230 ∧ m37.1 230 ≤ 30 := Tm37.1 230
            replace h39 : FGp gn (m37.1 229) (m37.2 68) (m37.1 228) (m37.1 230) (m37.1 206) := h39
            have hFG := h39
            replace h40 : NKp (m37.2 18) (m37.2 19) := h40
            have hNK := h40
            refine T_sto 57 [(2, .int (i32 gn)), (0, .ref 181), (3, .int (i32 v4))] rfl (fun _ => rfl) ?_
            refine T_iinc 60 [(3, .int (i32 (v4 + 1))), (2, .int (i32 gn)), (0, .ref 181)] rfl rfl (by decide) rfl rfl ?_
            refine T_goto 24 rfl (fun _ => rfl) ?_
            refine Tm_lv (a := [(0, .ref 181), (2, .int (i32 gn)), (3, .int (i32 (v4 + 1)))]) rfl rfl ⟨rfl, rfl, rfl, trivial⟩ ?_
            exact ih18 gn (v4 + 1) (mO m37 [] []) (r32 (by omega) (by omega)) (r32 (by omega) (by omega)) Tm37 (fr_m (fr_s Fm37 (fr_m (fr_s Fm26 (fr_m (fr_s Fm5 (fr_m fr_0 rfl rfl) rfl rfl) rfl rfl) rfl rfl) rfl rfl) rfl rfl) rfl rfl) (show 0 ≤ gn by omega) (show gn ≤ 2 by omega) (show 0 ≤ (v4 + 1) by omega) (show FGp gn (m37.1 229) (m37.2 68) (m37.1 228) (m37.1 230) (m37.1 206) by first | exact hFG | exact ⟨fun _ => FA_0 _ _, fun h => absurd rfl h⟩) (show NKp (m37.2 18) (m37.2 19) by exact hNK) (show 0 ≤ (v4 + 1) ∧ (v4 + 1) ≤ 4001 by omega) (show 4010 - (v4 + 1) < (n17 : Int) by omega)
          · skip
            have hFA := hFG.1 (by omega)
            refine T_ld 41 (.ref 181) rfl (fun _ => rfl) ?_
            refine T_callx 44 93 [.ref 181] [] rfl (fun _ => rfl) rfl rfl (c_fm_prefixes w (mO m5 [] []) c N D (by omega) Tm5 (show FAp (m5.1 229) (m5.2 68) (m5.1 228) (m5.1 230) (m5.1 206) by exact hFA)) (fun rr49 k50 => ?_)
            rcases k50 with ⟨m51, Tm51, Fm51, h52, rfl⟩ | ⟨xx55, m53, hx54, Tm53, Fm53, rfl⟩
            rotate_left
            · skip
              refine Or.inr ⟨_, _, _, _, rfl, ?_⟩
              exact Or.inr ⟨xx55, (mO m53 [] []), (hx54), Tm53, (fr_m (fr_s Fm53 (fr_m (fr_s Fm5 (fr_m (fr_s Fm2 (fr_m fr_0 rfl rfl) rfl rfl) rfl rfl) rfl rfl) rfl rfl) rfl rfl) rfl rfl), (show NKp (m53.2 18) (m53.2 19) by rewrite [(show (m53.2 18) = (m5.2 18) from (fr2 Fm53 18 rfl)), (show (m53.2 19) = (m5.2 19) from (fr2 Fm53 19 rfl))]; exact hNK), rfl⟩
            refine Or.inl ⟨_, _, _, _, rfl, ?_⟩
            refine K_nb (st' := []) rfl ?_
            have g56 : (-1) ≤ m51.1 206 ∧ m51.1 206 ≤ 65535 := Tm51.1 206
            have g57 : 0 ≤ m51.1 228 ∧ m51.1 228 ≤ 288 := Tm51.1 228
            have g58 : 0 ≤ m51.1 230 ∧ m51.1 230 ≤ 30 := Tm51.1 230
            replace h52 : FAp (m5.1 229) (m51.2 68) (m51.1 228) (m51.1 230) (m51.1 206) := h52
            have hFA := h52
            refine T_ld 45 (.ref 181) rfl (fun _ => rfl) ?_
            refine T_callx 48 96 [.ref 181] [] rfl (fun _ => rfl) rfl rfl (c_fm_atom w (mO m51 [] []) c N D (by omega) Tm51 (show FAp (m51.1 229) (m51.2 68) (m51.1 228) (m51.1 230) (m51.1 206) by rewrite [(show (m51.1 229) = (m5.1 229) from (fr1 Fm51 229 rfl))]; exact hFA) (show NKp (m51.2 18) (m51.2 19) by rewrite [(show (m51.2 18) = (m5.2 18) from (fr2 Fm51 18 rfl)), (show (m51.2 19) = (m5.2 19) from (fr2 Fm51 19 rfl))]; exact hNK) (show KPp (m51.1 203) (m51.2 8) (m51.2 9) (m51.1 214) (m51.1 215) (m51.1 216) (m51.1 217) (m51.1 221) (m51.1 223) (m51.1 219) by rewrite [(show (m51.1 203) = (m.1 203) from ((fr1 Fm51 203 rfl).trans ((fr1 Fm5 203 rfl).trans (fr1 Fm2 203 rfl)))), (show (m51.2 8) = (m.2 8) from ((fr2 Fm51 8 rfl).trans ((fr2 Fm5 8 rfl).trans (fr2 Fm2 8 rfl)))), (show (m51.2 9) = (m.2 9) from ((fr2 Fm51 9 rfl).trans ((fr2 Fm5 9 rfl).trans (fr2 Fm2 9 rfl)))), (show (m51.1 214) = (m.1 214) from ((fr1 Fm51 214 rfl).trans ((fr1 Fm5 214 rfl).trans (fr1 Fm2 214 rfl)))), (show (m51.1 215) = (m.1 215) from ((fr1 Fm51 215 rfl).trans ((fr1 Fm5 215 rfl).trans (fr1 Fm2 215 rfl)))), (show (m51.1 216) = (m.1 216) from ((fr1 Fm51 216 rfl).trans ((fr1 Fm5 216 rfl).trans (fr1 Fm2 216 rfl)))), (show (m51.1 217) = (m.1 217) from ((fr1 Fm51 217 rfl).trans ((fr1 Fm5 217 rfl).trans (fr1 Fm2 217 rfl)))), (show (m51.1 221) = (m.1 221) from ((fr1 Fm51 221 rfl).trans ((fr1 Fm5 221 rfl).trans (fr1 Fm2 221 rfl)))), (show (m51.1 223) = (m.1 223) from ((fr1 Fm51 223 rfl).trans ((fr1 Fm5 223 rfl).trans (fr1 Fm2 223 rfl)))), (show (m51.1 219) = (m.1 219) from ((fr1 Fm51 219 rfl).trans ((fr1 Fm5 219 rfl).trans (fr1 Fm2 219 rfl))))]; exact pKP)) (fun rr59 k60 => ?_)
            rcases k60 with ⟨m61, Tm61, Fm61, h62, h63, rfl⟩ | ⟨xx67, m64, hx65, Tm64, Fm64, h66, rfl⟩
            rotate_left
            · skip
              refine Or.inr ⟨_, _, _, _, rfl, ?_⟩
              have hNK := h66
              exact Or.inr ⟨xx67, (mO m64 [] []), (hx65), Tm64, (fr_m (fr_s Fm64 (fr_m (fr_s Fm51 (fr_m (fr_s Fm5 (fr_m (fr_s Fm2 (fr_m fr_0 rfl rfl) rfl rfl) rfl rfl) rfl rfl) rfl rfl) rfl rfl) rfl rfl) rfl rfl) rfl rfl), (show NKp (m64.2 18) (m64.2 19) by exact hNK), rfl⟩
            refine Or.inl ⟨_, _, _, _, rfl, ?_⟩
            refine K_nb (st' := []) rfl ?_
            have g68 : (-1) ≤ m61.1 206 ∧ m61.1 206 ≤ 65535 := Tm61.1 206
            have g69 : 0 ≤ m61.1 229 ∧ m61.1 229 ≤ 576 := Tm61.1 229
            replace h62 : FBp (m61.1 229) (m51.2 68) (m51.1 228) (m51.1 230) := h62
            have hFB := h62
            replace h63 : NKp (m61.2 18) (m61.2 19) := h63
            have hNK := h63
            have hFB : FBp (m61.1 229) (m51.2 68) (m51.1 228) (m51.1 230) := by first | exact hFB | exact hFG.2 (by omega)
            refine T_ld 49 (.ref 181) rfl (fun _ => rfl) ?_
            refine T_callx 52 102 [.ref 181] [] rfl (fun _ => rfl) rfl rfl (c_fm_suffixes w (mO m61 [] []) c N D (by omega) Tm61 (show FBp (m61.1 229) (m61.2 68) (m61.1 228) (m61.1 230) by rewrite [(show (m61.2 68) = (m51.2 68) from (fr2 Fm61 68 rfl)), (show (m61.1 228) = (m51.1 228) from (fr1 Fm61 228 rfl)), (show (m61.1 230) = (m51.1 230) from (fr1 Fm61 230 rfl))]; exact hFB) (show NKp (m61.2 18) (m61.2 19) by exact hNK)) (fun rr70 k71 => ?_)
            rcases k71 with ⟨m72, Tm72, Fm72, h73, h74, rfl⟩ | ⟨xx78, m75, hx76, Tm75, Fm75, h77, rfl⟩
            rotate_left
            · skip
              refine Or.inr ⟨_, _, _, _, rfl, ?_⟩
              have hNK := h77
              exact Or.inr ⟨xx78, (mO m75 [] []), (hx76), Tm75, (fr_m (fr_s Fm75 (fr_m (fr_s Fm61 (fr_m (fr_s Fm51 (fr_m (fr_s Fm5 (fr_m (fr_s Fm2 (fr_m fr_0 rfl rfl) rfl rfl) rfl rfl) rfl rfl) rfl rfl) rfl rfl) rfl rfl) rfl rfl) rfl rfl) rfl rfl) rfl rfl), (show NKp (m75.2 18) (m75.2 19) by exact hNK), rfl⟩
            refine Or.inl ⟨_, _, _, _, rfl, ?_⟩
            refine K_nb (st' := []) rfl ?_
            have g79 : (-1) ≤ m72.1 206 ∧ m72.1 206 ≤ 65535 := Tm72.1 206
            have g80 : 0 ≤ m72.1 229 ∧ m72.1 229 ≤ 576 := Tm72.1 229
            replace h73 : FBp (m72.1 229) (m61.2 68) (m61.1 228) (m61.1 230) := h73
            rewrite [(show (m61.2 68) = (m51.2 68) from (fr2 Fm61 68 rfl)), (show (m61.1 228) = (m51.1 228) from (fr1 Fm61 228 rfl)), (show (m61.1 230) = (m51.1 230) from (fr1 Fm61 230 rfl))] at h73
            have hFB := h73
            replace h74 : NKp (m72.2 18) (m72.2 19) := h74
            have hNK := h74
            refine T_ld 53 (.ref 181) rfl (fun _ => rfl) ?_
            refine T_callx 56 103 [.ref 181] [] rfl (fun _ => rfl) rfl rfl (c_fm_goesOn w (mO m72 [] []) c N D (by omega) Tm72 (show FBp (m72.1 229) (m72.2 68) (m72.1 228) (m72.1 230) by rewrite [(show (m72.2 68) = (m51.2 68) from ((fr2 Fm72 68 rfl).trans (fr2 Fm61 68 rfl))), (show (m72.1 228) = (m51.1 228) from ((fr1 Fm72 228 rfl).trans (fr1 Fm61 228 rfl))), (show (m72.1 230) = (m51.1 230) from ((fr1 Fm72 230 rfl).trans (fr1 Fm61 230 rfl)))]; exact hFB) (show NKp (m72.2 18) (m72.2 19) by exact hNK)) (fun rr81 k82 => ?_)
            rcases k82 with ⟨m83, gn, Tm83, Fm83, g84, h85, h86, rfl⟩ | ⟨xx90, m87, hx88, Tm87, Fm87, h89, rfl⟩
            rotate_left
            · skip
              refine Or.inr ⟨_, _, _, _, rfl, ?_⟩
              have hNK := h89
              exact Or.inr ⟨xx90, (mO m87 [] []), (hx88), Tm87, (fr_m (fr_s Fm87 (fr_m (fr_s Fm72 (fr_m (fr_s Fm61 (fr_m (fr_s Fm51 (fr_m (fr_s Fm5 (fr_m (fr_s Fm2 (fr_m fr_0 rfl rfl) rfl rfl) rfl rfl) rfl rfl) rfl rfl) rfl rfl) rfl rfl) rfl rfl) rfl rfl) rfl rfl) rfl rfl) rfl rfl) rfl rfl), (show NKp (m87.2 18) (m87.2 19) by exact hNK), rfl⟩
            refine Or.inl ⟨_, _, _, _, rfl, ?_⟩
            refine K_nb (st' := [.int (i32 gn)]) rfl ?_
            obtain ⟨g84a, g84b⟩ := g84
            have g91 : (-1) ≤ m83.1 206 ∧ m83.1 206 ≤ 65535 := Tm83.1 206
            have g92 : 0 ≤ m83.1 228 ∧ m83.1 228 ≤ 288 := Tm83.1 228
            have g93 : 0 ≤ m83.1 229 ∧ m83.1 229 ≤ 576 := Tm83.1 229
            have g94 : 0 ≤ m83.1 230 ∧ m83.1 230 ≤ 30 := Tm83.1 230
            replace h85 : FGp gn (m83.1 229) (m83.2 68) (m83.1 228) (m83.1 230) (m83.1 206) := h85
            have hFG := h85
            replace h86 : NKp (m83.2 18) (m83.2 19) := h86
            have hNK := h86
            refine T_sto 57 [(2, .int (i32 gn)), (0, .ref 181), (3, .int (i32 v4))] rfl (fun _ => rfl) ?_
            refine T_iinc 60 [(3, .int (i32 (v4 + 1))), (2, .int (i32 gn)), (0, .ref 181)] rfl rfl (by decide) rfl rfl ?_
            refine T_goto 24 rfl (fun _ => rfl) ?_
            refine Tm_lv (a := [(0, .ref 181), (2, .int (i32 gn)), (3, .int (i32 (v4 + 1)))]) rfl rfl ⟨rfl, rfl, rfl, trivial⟩ ?_
            exact ih18 gn (v4 + 1) (mO m83 [] []) (r32 (by omega) (by omega)) (r32 (by omega) (by omega)) Tm83 (fr_m (fr_s Fm83 (fr_m (fr_s Fm72 (fr_m (fr_s Fm61 (fr_m (fr_s Fm51 (fr_m (fr_s Fm5 (fr_m fr_0 rfl rfl) rfl rfl) rfl rfl) rfl rfl) rfl rfl) rfl rfl) rfl rfl) rfl rfl) rfl rfl) rfl rfl) rfl rfl) (show 0 ≤ gn by omega) (show gn ≤ 2 by omega) (show 0 ≤ (v4 + 1) by omega) (show FGp gn (m83.1 229) (m83.2 68) (m83.1 228) (m83.1 230) (m83.1 206) by first | exact hFG | exact ⟨fun _ => FA_0 _ _, fun h => absurd rfl h⟩) (show NKp (m83.2 18) (m83.2 19) by exact hNK) (show 0 ≤ (v4 + 1) ∧ (v4 + 1) ≤ 4001 by omega) (show 4010 - (v4 + 1) < (n17 : Int) by omega)
  refine Tm_lv (a := [(0, .ref 181), (2, .int (i32 1)), (3, .int (i32 0))]) rfl rfl ⟨rfl, rfl, rfl, trivial⟩ ?_
  exact L24_6 ((4010 - (0 : Int) : Int) + 1).toNat 1 0 (mO m2 [] []) ⟨by decide, by decide⟩ ⟨by decide, by decide⟩ Tm2 (fr_m fr_0 rfl rfl) (show 0 ≤ (1 : Int) by omega) (show (1 : Int) ≤ 2 by omega) (show 0 ≤ (0 : Int) by omega) (show FGp (1 : Int) (m2.1 229) (m2.2 68) (m2.1 228) (m2.1 230) (m2.1 206) by rewrite [(show (m2.1 229) = 0 from (fr1 Fm2 229 rfl)), (show (m2.2 68) = (m.2 68) from (fr2 Fm2 68 rfl)), (show (m2.1 228) = 0 from (fr1 Fm2 228 rfl)), (show (m2.1 230) = 1 from (fr1 Fm2 230 rfl)), (show (m2.1 206) = (m.1 206) from (fr1 Fm2 206 rfl))]; first | exact hFG | exact ⟨fun _ => FA_0 _ _, fun h => absurd rfl h⟩) (show NKp (m2.2 18) (m2.2 19) by rewrite [(show (m2.2 18) = (m.2 18) from (fr2 Fm2 18 rfl)), (show (m2.2 19) = (m.2 19) from (fr2 Fm2 19 rfl))]; exact hNK) (show 0 ≤ (0 : Int) ∧ (0 : Int) ≤ 4001 by omega) (show 4010 - (0 : Int) < ((((4010 - (0 : Int) : Int) + 1).toNat : Nat) : Int) by omega)
