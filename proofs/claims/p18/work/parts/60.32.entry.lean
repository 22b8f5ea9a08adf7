/-! ===== AT THE LAW'S ENTRY (wip/gen/emit5.py) ===== -/
def ne_ip : List (Nat × Nat) := [(200, 12), (458, 15), (825, 10), (340, 9), (1655, 15), (891, 8), (332, 19), (819, 9), (387, 15), (547, 16), (626, 19), (208, 17), (1904, 179), (1085, 6), (1559, 6), (1627, 6)]
theorem ne_i1 : (List.range 16).all (fun ci => match nm_cl[ci]?, ne_ip[ci]? with
  | some q, some w => decide (lw_tbl[w.1]? = some (Cond.instantiable q.1 w.2))
  | _, _ => false) = true := by decide +kernel
theorem ne_inst {ci : Nat} {q : vw_C} (h : nm_cl[ci]? = some q) : ∃ n, Cond.instantiable q.1 n ∈ lw_tbl := by
  have hlt : ci < 16 := (List.getElem?_eq_some_iff.mp h).1
  have := List.all_eq_true.mp ne_i1 ci (List.mem_range.mpr hlt)
  rw [h] at this
  cases hw : ne_ip[ci]? with
  | none => rw [hw] at this; cases this
  | some w =>
    rw [hw] at this
    exact ⟨w.2, List.mem_of_getElem? (of_decide_eq_true this)⟩
theorem ne_K {s : State} {b : Nat} (hts : ∀ w ∈ lw_tbl, w.before #[Value.ref b] s = true) : ∃ (D : va_G) (cA : Nat → ClassId), va_K D nm_cl (am_tys cA) s := by
  have hc : ∀ c : Nat, ∃ p : ClassId × (Nat → Nat), ∀ q, nm_cl[c]? = some q → u_Kn s q.1 q.2.1 q.2.2 p.1 p.2 := by
    intro c
    cases h : nm_cl[c]? with
    | none => exact ⟨(0, fun _ => 0), fun q hq => by cases hq⟩
    | some q =>
      obtain ⟨n, hn⟩ := ne_inst h
      obtain ⟨C, T, N⟩ := q
      have hok := (nm_PV 0 (fun _ => 0) .null (fun _ => trivial)).2.2.1 c C T N h
      obtain ⟨cC, iS, hk⟩ := u_known (ws := lw_tbl) (s := s) (args := #[Value.ref b]) (C := C) (T := T) (N := N) hts (fun w hw => (List.mem_filter.mp (hok.1.1 w hw)).1) (hts _ hn)
      exact ⟨(cC, iS), fun q hq => by cases hq; exact hk⟩
  obtain ⟨D, hD⟩ := Classical.axiomOfChoice hc
  have ha : ∀ t : Nat, ∃ cA : ClassId, t < 6 → ArrOfT s cA (am_ty t) ∧ va_RA s cA (am_ty t) := by
    intro t
    rcases t with _ | _ | _ | _ | _ | _ | t
    · obtain ⟨c, k, comp, h1, h2, h3⟩ := Cond.arrayClass_spec (hts (.arrayClass .int) (List.mem_of_getElem? (i := 328) (by decide +kernel)))
      exact ⟨c, fun _ => ⟨fun n z => ⟨fun k h => (by cases h), k, h2, comp, h3⟩, h1⟩⟩
    · obtain ⟨c, k, comp, h1, h2, h3⟩ := Cond.arrayClass_spec (hts (.arrayClass .long) (List.mem_of_getElem? (i := 330) (by decide +kernel)))
      exact ⟨c, fun _ => ⟨fun n z => ⟨fun k h => (by cases h), k, h2, comp, h3⟩, h1⟩⟩
    · obtain ⟨c, k, comp, h1, h2, h3⟩ := Cond.arrayClass_spec (hts (.arrayClass .byte) (List.mem_of_getElem? (i := 329) (by decide +kernel)))
      exact ⟨c, fun _ => ⟨fun n z => ⟨fun k h => (by cases h), k, h2, comp, h3⟩, h1⟩⟩
    · obtain ⟨c, k, comp, h1, h2, h3⟩ := Cond.arrayClass_spec (hts (.arrayClass .boolean) (List.mem_of_getElem? (i := 2448) (by decide +kernel)))
      exact ⟨c, fun _ => ⟨fun n z => ⟨fun k h => (by cases h), k, h2, comp, h3⟩, h1⟩⟩
    · obtain ⟨comp, c, k, h1, -, h3, h4, h5⟩ := Cond.arrayOver_spec (hts (.arrayOver (.object "PacketWorks$Table")) (List.mem_of_getElem? (i := 338) (by decide +kernel)))
      exact ⟨c, fun _ => ⟨fun n z => ⟨fun k h => (by cases h), k, h3, comp, h4⟩, k, comp, h3, h4, h1, h5⟩⟩
    · obtain ⟨comp, c, k, h1, -, h3, h4, h5⟩ := Cond.arrayOver_spec (hts (.arrayOver (.object "PacketWorks$Operation")) (List.mem_of_getElem? (i := 897) (by decide +kernel)))
      exact ⟨c, fun _ => ⟨fun n z => ⟨fun k h => (by cases h), k, h3, comp, h4⟩, k, comp, h3, h4, h1, h5⟩⟩
    · exact ⟨0, fun h => by omega⟩
  obtain ⟨cA, hA⟩ := Classical.axiomOfChoice ha
  refine ⟨(fun c => (D c).1, fun c => (D c).2), cA, fun c q hq => hD c q hq, fun k q hk => ?_⟩
  have hlt : k < 6 := (List.getElem?_eq_some_iff.mp hk).1
  rw [am_tys_at cA hlt] at hk
  cases hk
  exact hA k hlt
/-- the texts' words, as the Statement has them -/
def ne_tm (i : Nat) : Term := match nm_refs[i]? with
  | some q => .string q.1 q.2.1
  | none => .arg 0
def ne_ws (i : Nat) : List Cond := [.exactly (ne_tm i) "java/lang/String", .eq (.field (ne_tm i) "java/lang/String" "coder" "B") (.int 0), .arrayOf (.field (ne_tm i) "java/lang/String" "value" "[B") .byte, .eq (.length (.field (ne_tm i) "java/lang/String" "value" "[B")) (.int (Int32.ofNat (nm_len.getD i 0)))] ++
  ((List.range (nm_len.getD i 0)).map (fun j => Cond.eq (.elem (.field (ne_tm i) "java/lang/String" "value" "[B") (.int (Int32.ofNat j))) (.int ((nm_byt.getD i []).getD j 0))) ++ (List.range i).map (fun j => Cond.not (.eq (ne_tm j) (ne_tm i))))
theorem ne_flat : (flatC (Jvm.Cond.and given_1 narrow_1)).drop 56 = (List.range 22).flatMap ne_ws := by decide +kernel
theorem ne_in {s : State} {b : Nat} (hgv : (Jvm.Cond.and given_1 narrow_1).before #[Value.ref b] s = true) {i : Nat} (hi : i < 22) {w : Cond} (hw : w ∈ ne_ws i) : w.before #[Value.ref b] s = true := by
  refine flat_of_before _ hgv w (List.mem_of_mem_drop (i := 56) ?_)
  rw [ne_flat]
  exact List.mem_flatMap.mpr ⟨i, List.mem_range.mpr hi, hw⟩
theorem ne_len : (List.range 22).all (fun i => decide (nm_len.getD i 0 < 2 ^ 31)) = true := by decide +kernel
theorem ne_S {s : State} {b : Nat} (hgv : (Jvm.Cond.and given_1 narrow_1).before #[Value.ref b] s = true) {A : Nat → Prop} (hA : ∀ a : Nat, a < s.heap.size → ¬ A a) :
    ∃ adK adV : Nat → Nat, vk_S 22 nm_len nm_byt adK adV A s s.heap ∧ ∀ i : Nat, i < 22 → (ne_tm i).eval #[Value.ref b] s none [] s = some (.ref (adK i)) := by
  refine vk_Sof (fun i hi => of_decide_eq_true (List.all_eq_true.mp ne_len i (List.mem_range.mpr hi))) (fun i hi => ne_in hgv hi ?_) (fun i hi => ne_in hgv hi ?_) (fun i hi => ne_in hgv hi ?_) (fun i hi => ne_in hgv hi ?_) (fun i hi j hj => ne_in hgv hi ?_) (fun i j hi hj hij => ?_) hA
  · exact List.mem_append_left _ List.mem_cons_self
  · exact List.mem_append_left _ (List.mem_cons_of_mem _ List.mem_cons_self)
  · exact List.mem_append_left _ (List.mem_cons_of_mem _ (List.mem_cons_of_mem _ List.mem_cons_self))
  · exact List.mem_append_left _ (List.mem_cons_of_mem _ (List.mem_cons_of_mem _ (List.mem_cons_of_mem _ List.mem_cons_self)))
  · exact List.mem_append_right _ (List.mem_append_left _ (List.mem_map.mpr ⟨j, List.mem_range.mpr hj, rfl⟩))
  · rcases Nat.lt_or_gt_of_ne hij with h | h
    · exact Or.inl (ne_in hgv hj (List.mem_append_right _ (List.mem_append_right _ (List.mem_map.mpr ⟨i, List.mem_range.mpr h, rfl⟩))))
    · exact Or.inr (ne_in hgv hi (List.mem_append_right _ (List.mem_append_right _ (List.mem_map.mpr ⟨j, List.mem_range.mpr h, rfl⟩))))
