/-! ===== THE PURE MACHINE, part 18: calls, throws and ends ===== -/
section AMI
variable {E : am_En} {K : am_Ta} {cn : Nat → Nat} {pg : Nat → am_M} {D : va_G} {cA : Nat → ClassId} {A : Nat → Prop} {H0 : Heap}
variable {p : Program} {l : Launch} {e : Env} {s : State} {m : MethodId} {args : Array Value} {below : List Frame} {meth : Method} {c : Code} {H : Heap} {locs : List Loc} {Q : State → Prop} {mi : Nat} {ad : Nat → Nat} {ls : Array Slot}
variable {pc : Nat} {lv : List (Nat × Value)} {st : List Value} {h : List am_C} {nc ns : Nat} {a b k d mc ms : Nat}
/-- a method's walk: what is known all along -/
def am_Me (K : am_Ta) (pg : Nat → am_M) (D : va_G) (cA : Nat → ClassId) (p : Program) (s : State) (m : MethodId) (meth : Method) (c : Code) (mi : Nat) : Prop :=
  p.tables.exec = Jvm.exec ∧ am_Is (pg mi).1 (pg mi).2.1 (pg mi).2.2.1 (pg mi).2.2.2.1 (pg mi).2.2.2.2.1 s m meth c ∧ am_At K D cA s
theorem am_catm (ad : Nat → Nat) (st : List Value) : ((st.map (am_v ad)).map fun v => v.category).sum = am_cat st := by
  unfold am_cat
  rw [List.map_map]
  congr 1
  exact List.map_congr_left (fun v _ => am_v_cat ad v)
theorem am_take (ad : Nat → Nat) (st : List Value) (b : Nat) : st.map (am_v ad) = (((st.take b).reverse).map (am_v ad)).reverse ++ (st.drop b).map (am_v ad) := by
  rw [List.map_reverse, List.reverse_reverse, ← List.map_append, List.take_append_drop]
theorem am_okS_take {n : Nat} (hS : am_okS n st) (b : Nat) : am_okS n (st.take b).reverse := fun v hv => hS v (List.mem_of_mem_take (List.mem_reverse.mp hv))
theorem am_okS_drop {n : Nat} (hS : am_okS n st) (b : Nat) : am_okS n (st.drop b) := fun v hv => hS v (List.mem_of_mem_drop hv)
theorem am_len_take (hb : b ≤ st.length) (ad : Nat → Nat) : (((st.take b).reverse).map (am_v ad)).length = b := by
  rw [List.length_map, List.length_reverse, List.length_take, Nat.min_eq_left hb]
theorem am_s_invoke (hPV : am_PV E K cn pg) (hA : ∀ q, H0.size ≤ q → A q) {call : am_Ca} (hcs : am_CS l E K pg D cA A H0 call d) (hM : am_Me K pg D cA p s m meth c mi) {i : Instr} {len : Nat} (hi : (∃ idx, i = .invokevirtual idx) ∨ (∃ idx, i = .invokespecial idx) ∨ ∃ idx, i = .invokestatic idx) (hV : am_V1 E K cn pg (pg mi) pc (i, len, a, b, k))
    (hg : am_good E K D cA A H0 s (pg mi).2.2.1 ad ls (pc, lv, st, h, nc, ns) H locs) {x : am_St ⊕ am_Re} (hr : am_invoke E call (pg mi).2.2.2.2.1 cn a b k (pc, lv, st, h, nc, ns) = some x) (hup : (am_cnt x).1 ≤ mc ∧ (am_cnt x).2 ≤ ms)
    (hin : ∀ S', x = .inl S' → am_go E K D cA A H0 p l e (am_room (d + 1) mc ms) s m args below meth c Q (pg mi).2.2.1 ad h.length S') {n0 : Nat} {ad0 : Nat → Nat} (hout : ∀ r, x = .inr r → Q = am_MQ below (am_Qc K D cA A H0 s n0 ad0 r) s r.2.2.1 r.2.2.2 A) (hex0 : am_ex n0 ad0 ad) (hn0 : n0 ≤ h.length) :
    W p l e (am_room (d + 1) mc ms) s m args below meth c H locs nc ns Q (F0 m pc ls (st.map (am_v ad))) := by
  obtain ⟨hx, hI, hAt⟩ := hM
  obtain ⟨hnamed, hmeth, hcode, hb0, hml, hret, hlocks, hrows⟩ := id hI
  have hown : s.vm.findClass (pg mi).1.cls = some m.cls := findClass_of_methodNamed hnamed
  obtain ⟨hd, hlen, hv⟩ := hV
  dsimp only at hd hlen hv
  have hl3 : len = 3 := by rcases hi with ⟨idx, rfl⟩ | ⟨idx, rfl⟩ | ⟨idx, rfl⟩ <;> exact eq_of_beq hlen
  subst hl3
  have hg0 := hg
  obtain ⟨hl, ⟨w1, w2, w3⟩, hP, hD, hS, hX⟩ := hg
  dsimp only at hl w1 w2 w3 hP hD
  have hsz : ls.size = (pg mi).2.2.1 := hl.1
  have hc : ∀ w ∈ K.1, am_carry w = true := hPV.2.1
  unfold am_invoke at hr
  dsimp only at hr
  split at hr
  · rename_i hbl
    have hwA := am_okS_take w2 b
    have hwR := am_okS_drop w2 b
    -- what every call has in common
    have common : ∀ {rest : List Value} {av : List Value}, am_okS h.length rest → am_okS h.length av → am_back E (pg mi).2.2.2.2.1 pc lv rest nc ns (call a av h) = some x →
        ∃ r0 : am_Re, (nc + r0.2.2.1 ≤ mc ∧ ns + r0.2.2.2 ≤ ms) ∧ am_Callee p l e (am_room d r0.2.2.1 r0.2.2.2) (pg a).1 (pg a).2.1 (pg a).2.2.1 (pg a).2.2.2.1 (pg a).2.2.2.2.1 s H (av.map (am_v ad)).toArray (am_Qc K D cA A H0 s h.length ad r0) r0.2.2.1 r0.2.2.2 A ∧
          ∀ (o : Outcome) (H1 : Heap) (vm1 : Vm) (L : List Loc), (∀ q ∈ L, A q.base) → am_Qc K D cA A H0 s h.length ad r0 o H1 vm1 → s.WarmedH vm1 → am_next p l e (am_room (d + 1) mc ms) s m args below meth c H1 (locs ++ L) (nc + r0.2.2.1) (ns + r0.2.2.2) Q pc ls (rest.map (am_v ad)) o := by
      intro rest av hrest hav hk
      cases hcall : call a av h with
      | none => rw [hcall] at hk; cases hk
      | some r0 =>
        rw [hcall] at hk
        refine ⟨r0, ?_, am_callee hc hcs hcall hx hAt hav w3 hP hD hS hX, am_s_back hPV hA hAt hown hrows hlocks hg0 hrest hk hin hout hex0 hn0⟩
        have hcnt : nc + r0.2.2.1 ≤ (am_cnt x).1 ∧ ns + r0.2.2.2 ≤ (am_cnt x).2 := by
          obtain ⟨oo, h', k', n'⟩ := r0
          unfold am_back at hk
          cases oo with
          | inl v =>
            dsimp only at hk
            cases hk
            exact ⟨Nat.le_refl _, Nat.le_refl _⟩
          | inr y =>
            dsimp only at hk
            split at hk
            · split at hk
              · split at hk
                · cases hk
                  exact ⟨Nat.le_refl _, Nat.le_refl _⟩
                · cases hk
              · cases hk
            · cases hk
              exact ⟨Nat.le_refl _, Nat.le_refl _⟩
        exact ⟨Nat.le_trans hcnt.1 hup.1, Nat.le_trans hcnt.2 hup.2⟩
    have hroom : ∀ {r0 : am_Re}, (pg a).2.2.1 ≤ 13 → (am_room d r0.2.2.1 r0.2.2.2).frames + 1 ≤ (am_room (d + 1) mc ms).frames ∧ 8 + ((pg a).2.2.1 + 11) + (am_room d r0.2.2.1 r0.2.2.2).locals ≤ (am_room (d + 1) mc ms).locals := fun {r0} h13 => ⟨Nat.le_refl _, by show 8 + ((pg a).2.2.1 + 11) + (32 * d + 100) ≤ 32 * (d + 1) + 100; omega⟩
    have hstk := am_take ad st b
    split at hr
    · -- Object's own constructor
      rename_i q rest hdrop
      split at hr
      · rename_i hcat
        cases hr
        rcases hi with ⟨idx, rfl⟩ | ⟨idx, rfl⟩ | ⟨idx, rfl⟩
        · exact absurd hv.1 (by decide)
        · obtain ⟨rfl, v1, v2, v3⟩ := hv.1 rfl
          have hst0 : st = .ref q :: rest := by simpa using hdrop
          subst hst0
          refine W.objInit hx hb0 hown (hAt.1 _ v1 _) (hAt.1 _ v2 _) (hAt.1 _ v3 _) rfl (hsz.trans hml.symm) rfl hd (Nat.succ_le_succ (Nat.zero_le _)) ?_ ?_
          · have := am_catm ad rest
            show 2 * 0 + ((rest.map (am_v ad)).map fun v => v.category).sum + 12 ≤ 32 * (d + 1) + 100
            omega
          · have go := hin _ rfl ad ls H locs ⟨hl, ⟨w1, fun v hv => w2 v (List.mem_cons_of_mem _ hv), w3⟩, hP, hD, hS, hX⟩ am_ex.rf (Nat.le_refl _)
            exact go
        · obtain ⟨-, -, -, hz | hz | hz⟩ := hv
          · exact absurd hz.1 (by decide)
          · exact absurd hz.1 (by decide)
          · exact absurd hz.1 (by decide)
      · cases hr
    · -- an object of ours
      rename_i q rest hdrop
      split at hr
      · rename_i cj fs hq
        split at hr
        · rename_i hz
          obtain ⟨hcj, hcat⟩ := hz
          rcases hi with ⟨idx, rfl⟩ | ⟨idx, rfl⟩ | ⟨idx, rfl⟩
          · obtain ⟨-, ⟨e1, e2, e3, e4, e5⟩, v1, v2, v3, -⟩ := hv
            obtain ⟨C, T, N, g1, g2⟩ := v3 rfl
            rcases e5 with ⟨e5, e6⟩ | ⟨-, e6⟩
            · rw [hdrop] at hstk
              obtain ⟨r0, u1, u2, u3⟩ := common (rest := rest) (av := .ref q :: (st.take b).reverse) (fun v hv => hwR v (by rw [hdrop]; exact List.mem_cons_of_mem _ hv)) (am_okS_c.mpr ⟨hwR _ (by rw [hdrop]; exact List.mem_cons_self), hwA⟩) hr
              rw [e6] at u2
              subst hcj
              obtain ⟨cellB, b1, b2, b3⟩ := va_recv hAt.2.1 hP g1 (am_W_at hq)
              have hstk2 : st.map (am_v ad) = (((st.take b).reverse).map (am_v ad)).reverse ++ .ref (ad q) :: rest.map (am_v ad) := hstk
              rw [hstk2]
              exact am_callV hx hb0 hml hsz hown e1 e2 (fun sig hsig => (am_len_take hbl ad).trans (e4 sig hsig)) (by rw [am_catm]; exact hcat) (hAt.1 _ v1 _) (hAt.1 _ v2 _) (hAt.1 _ g2 _) (hAt.1 _ e5 _) b1 b2 b3 hd (hroom e3).1 (hroom (r0 := r0) e3).2 u1.1 u1.2 u2 u3
            · cases e6
          · obtain ⟨hz | hz, -⟩ := hv.2 (by decide)
            · exact absurd hz (by decide)
            · exact absurd hz (by decide)
          · obtain ⟨-, -, -, hz | hz | hz⟩ := hv
            · exact absurd hz.1 (by decide)
            · exact absurd hz.1 (by decide)
            · exact absurd hz.1 (by decide)
        · cases hr
      · cases hr
    · -- a text
      rename_i q rest hdrop
      split at hr
      · rename_i hz
        obtain ⟨⟨hq, hqn⟩, hcat⟩ := hz
        rcases hi with ⟨idx, rfl⟩ | ⟨idx, rfl⟩ | ⟨idx, rfl⟩
        · obtain ⟨-, ⟨e1, e2, e3, e4, e5⟩, v1, v2, -, v3⟩ := hv
          have g2 := v3 rfl
          rcases e5 with ⟨e5, e6⟩ | ⟨-, e6⟩
          · rw [hdrop] at hstk
            obtain ⟨r0, u1, u2, u3⟩ := common (rest := rest) (av := .ref q :: (st.take b).reverse) (fun v hv => hwR v (by rw [hdrop]; exact List.mem_cons_of_mem _ hv)) (am_okS_c.mpr ⟨hwR _ (by rw [hdrop]; exact List.mem_cons_self), hwA⟩) hr
            rw [e6] at u2
            obtain ⟨cellB, b1, b2, b3, -⟩ := (hX.2.1 _ hqn).1
            rw [← hq] at b1
            have hstk2 : st.map (am_v ad) = (((st.take b).reverse).map (am_v ad)).reverse ++ .ref (ad q) :: rest.map (am_v ad) := hstk
            rw [hstk2]
            exact am_callV hx hb0 hml hsz hown e1 e2 (fun sig hsig => (am_len_take hbl ad).trans (e4 sig hsig)) (by rw [am_catm]; exact hcat) (hAt.1 _ v1 _) (hAt.1 _ v2 _) (hAt.1 _ g2 _) (hAt.1 _ e5 _) b1 b2 b3 hd (hroom e3).1 (hroom (r0 := r0) e3).2 u1.1 u1.2 u2 u3
          · cases e6
        · obtain ⟨hz | hz, -⟩ := hv.2 (by decide)
          · exact absurd hz (by decide)
          · exact absurd hz (by decide)
        · obtain ⟨-, -, -, hz | hz | hz⟩ := hv
          · exact absurd hz.1 (by decide)
          · exact absurd hz.1 (by decide)
          · exact absurd hz.1 (by decide)
      · cases hr
    · -- a constructor
      rename_i q rest hdrop
      split at hr
      · rename_i hcat
        rcases hi with ⟨idx, rfl⟩ | ⟨idx, rfl⟩ | ⟨idx, rfl⟩
        · obtain ⟨hz | hz, -⟩ := hv
          · exact absurd hz (by decide)
          · exact absurd hz (by decide)
        · obtain ⟨-, ⟨e1, e2, e3, e4, e5⟩, v0, vr, v1, v2, -⟩ := hv.2 (by decide)
          rcases e5 with ⟨e5, e6⟩ | ⟨-, e6⟩
          · rw [hdrop] at hstk
            obtain ⟨r0, u1, u2, u3⟩ := common (rest := rest) (av := .ref q :: (st.take b).reverse) (fun v hv => hwR v (by rw [hdrop]; exact List.mem_cons_of_mem _ hv)) (am_okS_c.mpr ⟨hwR _ (by rw [hdrop]; exact List.mem_cons_self), hwA⟩) hr
            rw [e6, vr] at u2
            rw [vr] at e5
            have hstk2 : st.map (am_v ad) = (((st.take b).reverse).map (am_v ad)).reverse ++ .ref (ad q) :: rest.map (am_v ad) := hstk
            rw [hstk2]
            exact am_callI hx hb0 hml hsz hown e1 e2 (fun sig hsig => (am_len_take hbl ad).trans (e4 sig hsig)) (by rw [am_catm]; exact hcat) v0 (hAt.1 _ (v2 rfl) _) (hAt.1 _ v1 _) (hAt.1 _ e5 _) hd (hroom e3).1 (hroom (r0 := r0) e3).2 u1.1 u1.2 u2 u3
          · cases e6
        · obtain ⟨-, -, -, hz | hz | hz⟩ := hv
          · exact absurd hz.1 (by decide)
          · exact absurd hz.1 (by decide)
          · exact absurd hz.1 (by decide)
      · cases hr
    · -- a constructor of the nest
      rename_i q rest hdrop
      split at hr
      · rename_i hcat
        rcases hi with ⟨idx, rfl⟩ | ⟨idx, rfl⟩ | ⟨idx, rfl⟩
        · obtain ⟨hz | hz, -⟩ := hv
          · exact absurd hz (by decide)
          · exact absurd hz (by decide)
        · obtain ⟨-, ⟨e1, e2, e3, e4, e5⟩, v0, vr, v1, -, v2⟩ := hv.2 (by decide)
          obtain ⟨host, v2⟩ := v2 rfl
          rcases e5 with ⟨e5, e6⟩ | ⟨-, e6⟩
          · rw [hdrop] at hstk
            obtain ⟨r0, u1, u2, u3⟩ := common (rest := rest) (av := .ref q :: (st.take b).reverse) (fun v hv => hwR v (by rw [hdrop]; exact List.mem_cons_of_mem _ hv)) (am_okS_c.mpr ⟨hwR _ (by rw [hdrop]; exact List.mem_cons_self), hwA⟩) hr
            rw [e6, vr] at u2
            rw [vr] at e5
            have hstk2 : st.map (am_v ad) = (((st.take b).reverse).map (am_v ad)).reverse ++ .ref (ad q) :: rest.map (am_v ad) := hstk
            rw [hstk2]
            exact am_callIN hx hb0 hml hsz hown e1 e2 (fun sig hsig => (am_len_take hbl ad).trans (e4 sig hsig)) (by rw [am_catm]; exact hcat) v0 (hAt.1 _ v2 _) (hAt.1 _ v1 _) (hAt.1 _ e5 _) hd (hroom e3).1 (hroom (r0 := r0) e3).2 u1.1 u1.2 u2 u3
          · cases e6
        · obtain ⟨-, -, -, hz | hz | hz⟩ := hv
          · exact absurd hz.1 (by decide)
          · exact absurd hz.1 (by decide)
          · exact absurd hz.1 (by decide)
      · cases hr
    all_goals first
      | (-- the statics
         split at hr
         · rename_i hcat
           rcases hi with ⟨idx, rfl⟩ | ⟨idx, rfl⟩ | ⟨idx, rfl⟩
           · obtain ⟨hz | hz, -⟩ := hv <;> exact absurd hz (by decide)
           · obtain ⟨hz | hz, -⟩ := hv.2 (by decide) <;> exact absurd hz (by decide)
           · obtain ⟨⟨e1, e2, e3, e4, -⟩, v1, v2, v3⟩ := hv
             obtain ⟨r0, u1, u2, u3⟩ := common (rest := st.drop b) (av := (st.take b).reverse) hwR hwA hr
             rw [hstk]
             rcases v3 with ⟨hk, e6, e5, v3⟩ | ⟨hk, e6, e5, host, v3⟩ | ⟨hk, e5, v3⟩
             · first
                 | exact absurd hk (by decide)
                 | (rw [e6] at u2
                    exact am_callS hx hb0 hml hsz hown e1 e2 (fun sig hsig => (am_len_take hbl ad).trans (e4 sig hsig)) (by rw [am_catm]; exact hcat) (hAt.1 _ v3 _) (hAt.1 _ v1 _) (hAt.1 _ v2 _) (hAt.1 _ e5 _) hd (hroom e3).1 (hroom (r0 := r0) e3).2 u1.1 u1.2 u2 u3)
             · first
                 | exact absurd hk (by decide)
                 | (rw [e6] at u2
                    exact am_callSN hx hb0 hml hsz hown e1 e2 (fun sig hsig => (am_len_take hbl ad).trans (e4 sig hsig)) (by rw [am_catm]; exact hcat) (hAt.1 _ v3 _) (hAt.1 _ v1 _) (hAt.1 _ v2 _) (hAt.1 _ e5 _) hd (hroom e3).1 (hroom (r0 := r0) e3).2 u1.1 u1.2 u2 u3)
             · first
                 | exact absurd hk (by decide)
                 | exact am_callSH hx hb0 hml hsz hown e1 e2 (fun sig hsig => (am_len_take hbl ad).trans (e4 sig hsig)) (by rw [am_catm]; exact hcat) (hAt.1 _ v3 _) (hAt.1 _ v1 _) (hAt.1 _ v2 _) (hAt.1 _ e5 _) hd (hroom e3).1 (hroom (r0 := r0) e3).2 u1.1 u1.2 u2 u3
         · cases hr)
      | cases hr
  · cases hr
end AMI
