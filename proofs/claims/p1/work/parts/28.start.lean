/-! ===== THE CONSTRUCTORS, AND WHAT HANGS ON NO OTHER INT: BY RECKONING ===== -/
def nk_lv : List (Nat × Value) := [(4, .int 0), (3, .ref 326), (2, .ref 189), (1, .ref 0), (0, .ref 1000000)]
noncomputable def nk_S1 (sio : Value) : Option (ag_St at_T) := kg_go (none, fun _ => none) (nm_E 0 (fun _ => 0) sio) kt_0 18 (kg_call (none, fun _ => none) (nm_E 0 (fun _ => 0) sio) kpg 100000 17) 13 (0, [(0, .ref 1000000)], [], at_0, 0, 0)
def nk_sh (q : Option am_C) : Nat × Nat × Nat × List Value := match q with
  | some (.inr (ci, fs)) => (1, ci, 0, fs)
  | some (.inl (u, n, .inl _)) => (2, u, n, [])
  | some (.inl (u, n, .inr (.inl _))) => (3, u, n, [])
  | _ => (0, 0, 0, [])
def nk_want : List (Nat × Nat × Nat × Nat × List Value) := [(0, 1, 0, 0, sv_0), (6, 1, 11, 0, sv_6), (12, 1, 6, 0, sv_12), (185, 1, 5, 0, sv_185), (189, 1, 12, 0, sv_189), (1, 2, 0, 5, []), (3, 3, 1, 4, []), (4, 3, 1, 4, []), (5, 3, 1, 4, []), (191, 2, 0, 20, []), (299, 3, 1, 4, []), (300, 3, 1, 4, []), (301, 3, 1, 4, []), (326, 3, 1, 1, [])]
def nk_X (n : Option Int32) : ag_X := (some 6, fun j => if j = 1 then n else none)
noncomputable def nk_op (sio : Value) (t : at_T) (code : Int32) (n : Option Int32) : Bool := match kg_run (nk_X n) (nm_E 0 (fun _ => 0) sio) kt_0 18 (kg_call (nk_X n) (nm_E 0 (fun _ => 0) sio) kpg 100000 17) 99976 (40, nk_lv, [.int code], t, 327, 208818) with
  | some (.inl (some (.int r)), _, nc, ns) => decide (r = 1) && (decide (nc ≤ 600002) && decide (ns ≤ 7302231))
  | _ => false
noncomputable def nk_chk (sio : Value) : Bool := match nk_S1 sio with
  | some (pc, lv, st, t, nc, ns) => decide (pc = 23) && (decide (lv = nk_lv) && (decide (st = []) && (decide (nc = 327) && (decide (ns = 208818) && (decide (t.2 = 327) && (nk_want.all (fun w => decide (nk_sh (at_O.1 t w.1) = w.2)) && (nk_op sio t 2 none)))))))
  | none => false
noncomputable def nk_end (sio : Value) (a b : Nat) : Bool := match nk_S1 sio with
  | some (_, _, _, t, _, _) => (List.range' a b).all (fun n => nk_op sio t 1 (some (Int32.ofNat n)))
  | none => false
