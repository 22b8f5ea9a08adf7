/-! ===== CHECKS, by program (wip/gen/emit2.py) ===== -/
def nm_npL : List Nat := [1, 0, 1, 0, 0, 1, 0, 2, 2, 3, 2, 2, 1, 2, 0, 0, 0, 0, 0, 0, 2, 2, 1, 5, 1, 2, 1, 1, 0, 1, 0, 2, 2, 0, 2, 1, 0, 2, 2, 1, 0, 0, 2, 0, 0, 0, 2, 1, 3, 2, 0, 2, 0, 0, 0, 0, 1, 1, 2, 4, 1, 2, 2, 4, 4, 4, 3, 3, 4, 4, 4, 1, 1, 1, 0, 3, 0, 0, 1, 2, 3, 2, 0, 1, 1, 0, 0, 0, 1, 2, 2, 1, 1, 0, 1, 0, 0, 5, 3, 0, 1, 2, 0, 0, 0, 1, 0, 2, 1, 0, 2, 2, 0, 0, 3, 1, 1, 0, 0, 2, 0, 0, 1, 1, 0, 1, 2, 0, 0, 2, 1, 2, 1, 1, 1, 0, 0, 0, 0, 3, 1, 1, 1, 0, 0, 0, 0, 1, 5, 3, 4, 2, 4, 3, 3, 3, 1, 1, 0, 4, 4, 3, 1, 0, 0, 3, 4, 3, 3, 2, 6, 4, 1, 4, 3, 3, 1, 0, 2, 3, 1, 2, 2, 4, 4, 2, 3, 2, 2, 2, 1, 1, 1, 1, 3, 3, 1, 1, 3, 2, 2, 1, 4, 2, 4, 2, 0, 0, 5, 1, 0, 0, 0, 1, 0, 1, 1, 0, 0, 1, 2, 1, 2, 0, 0, 3, 0, 0, 0, 0, 2, 2, 1, 1, 2, 0, 1, 0, 0, 0, 0, 1, 0, 1, 0, 0, 3, 0, 4, 2, 2, 1, 0, 1, 1, 0, 2, 0, 4, 1, 1, 8, 2, 1, 0, 1, 1, 0, 1, 0, 0, 0, 2, 1, 1, 0, 1, 1, 1, 0, 2, 1, 0, 0, 0, 1, 2, 1, 1, 3, 0, 2, 3, 2, 2, 4, 2, 2, 2, 2, 1, 3, 1, 0, 2, 2, 2, 1, 1, 3, 2, 4, 1, 0, 1, 2, 1, 2, 1, 2, 2, 1, 2, 1, 1, 0, 1, 2, 1, 5, 2, 1, 1, 2, 1, 2, 1, 2, 2, 1, 1, 1, 2, 1, 2, 2, 2, 2, 1]
def nm_np (a : Nat) : Nat := nm_npL.getD a 0
def nm_XL : List (String × Nat × Nat) := [("PacketWorks$Text", 97, 0), ("PacketWorks", 188, 1), ("PacketWorks", 195, 0), ("PacketWorks", 204, 2)]
def nm_E0 : am_En := nm_E 0 (fun _ => 0) .null
def nm_xw : List Cond := am_pick [2, 185, 0, 0, 0, 2, 0, 846, 42, 0, 0, 0, 0, 0, 0, 0, 0, 0, 0, 0, 0, 0, 0, 0, 0, 0, 0, 0, 0, 0, 0, 0, 0, 0, 0, 0, 0, 0, 0, 0, 0, 0, 0, 0, 0, 0, 0, 0, 0, 1, 0, 0, 0, 0, 0, 0, 0, 0, 0, 0, 0, 0, 0, 0, 0, 0, 0, 0, 0, 0, 0, 0, 0, 0, 401, 0, 4, 0, 0, 0, 0, 0, 0, 0, 0, 1, 0, 0, 0, 0, 0, 0, 1, 49, 0, 0, 0, 0, 0, 0, 0, 0, 1, 0, 0, 0, 0, 0, 1371] lw_tbl
theorem nm_eo1 : (List.range 349).all (fun a => am_eo (pg a) (nm_np a)) = true := by decide +kernel
theorem nm_eo (a : Nat) : am_eo (pg a) (nm_np a) = true := by
  by_cases h : a < 349
  · exact List.all_eq_true.mp nm_eo1 a (List.mem_range.mpr h)
  · have h1 : pg a = pg_no := by
      unfold pg
      have : Nat.blt a 349 = false := by
        cases hb : Nat.blt a 349 with
        | false => rfl
        | true => exact absurd (Nat.le_of_ble_eq_true hb) (by omega)
      rw [this]
      rfl
    have h2 : nm_np a = 0 := by
      unfold nm_np
      rw [List.getD_eq_getElem?_getD, List.getElem?_eq_none (show nm_npL.length ≤ a from Nat.le_trans (show nm_npL.length ≤ 349 by decide +kernel) (by omega))]
      rfl
    rw [h1, h2]
    decide +kernel
def nm_xw1 (w : Cond) : Bool := am_carry w || decide (w = .isRef (.static Bundle.tN "UNASSIGNED_STACK" Bundle.steD)) || decide (w = .isRef (.static Bundle.tN "SUPPRESSED_SENTINEL" Bundle.listD)) || decide (w = .laysStatic Bundle.tN "UNASSIGNED_STACK" Bundle.steD) || decide (w = .laysStatic Bundle.tN "SUPPRESSED_SENTINEL" Bundle.listD)
theorem nm_x1 : nm_XL.all (fun q => (Bundle.ownAtoms q.1 q.2.1 (nm_xn q.2.2) ["java/lang/RuntimeException", "java/lang/Exception"]).all (fun w => nm_xw1 w && (!am_carry w || decide (w ∈ nm_xw)))) = true := by decide +kernel
