/-! ===== THE PURE MACHINE, part 19: every step, every method, every call ===== -/
section AMZ
variable {E : am_En} {K : am_Ta} {cn : Nat → Nat} {pg : Nat → am_M} {D : va_G} {cA : Nat → ClassId} {A : Nat → Prop} {H0 : Heap}
variable {p : Program} {l : Launch} {e : Env} {s : State} {m : MethodId} {args : Array Value} {below : List Frame} {meth : Method} {c : Code} {H : Heap} {locs : List Loc} {Q : State → Prop} {mi : Nat} {ad : Nat → Nat} {ls : Array Slot}
variable {pc : Nat} {lv : List (Nat × Value)} {st : List Value} {h : List am_C} {nc ns : Nat} {a b k d mc ms : Nat}
theorem am_MQ_of {Qc : Outcome → Heap → Vm → Prop} {free : Addr → Prop} {x : Array Value} {t : State} (hq : MQ below (fun _ _ o t => Qc o t.heap t.vm) x s mc ms free t) : am_MQ below Qc s mc ms free t := by
  obtain ⟨o, h1, h2, h3, L, ⟨-, h4, h5⟩, h6⟩ := hq
  exact ⟨o, h1, h2, h3, L, h4, h5, h6⟩
theorem am_s_make (hPV : am_PV E K cn pg) (hA : ∀ q, H0.size ≤ q → A q) (htr : l.stackTraces = false) (hM : am_Me K pg D cA p s m meth c mi) {idx len : Nat} (hV : am_V1 E K cn pg (pg mi) pc (.new idx, len, a, b, k))
    (hg : am_good E K D cA A H0 s (pg mi).2.2.1 ad ls (pc, lv, st, h, nc, ns) H locs) {x : am_St ⊕ am_Re} (hr : am_make E (d + 1) (pg mi).2.2.2.2.1 a b k (pc, lv, st, h, nc, ns) = some x) (hup : (am_cnt x).1 ≤ mc ∧ (am_cnt x).2 ≤ ms)
    (hin : ∀ S', x = .inl S' → am_go E K D cA A H0 p l e (am_room (d + 1) mc ms) s m args below meth c Q (pg mi).2.2.1 ad h.length S') {n0 : Nat} {ad0 : Nat → Nat} (hout : ∀ r, x = .inr r → Q = am_MQ below (am_Qc K D cA A H0 s n0 ad0 r) s r.2.2.1 r.2.2.2 A) (hex0 : am_ex n0 ad0 ad) (hn0 : n0 ≤ h.length) :
    W p l e (am_room (d + 1) mc ms) s m args below meth c H locs nc ns Q (F0 m pc ls (st.map (am_v ad))) := by
  obtain ⟨hx, hI, hAt⟩ := hM
  obtain ⟨hnamed, hmeth, hcode, hb0, hml, hret, hlocks, hrows⟩ := id hI
  have hown : s.vm.findClass (pg mi).1.cls = some m.cls := findClass_of_methodNamed hnamed
  obtain ⟨hd, hlen, hv⟩ := hV
  dsimp only at hd hlen hv
  have hl3 : len = 3 := eq_of_beq hlen
  subst hl3
  have hg0 := hg
  obtain ⟨hl, hw, hP, hD, hS, hX⟩ := hg
  dsimp only at hl hw hP hD
  obtain ⟨-, hcar, hcls, -, hfit, hnames, hlen2, -, -, hso⟩ := id hPV
  unfold am_make at hr
  dsimp only at hr
  split at hr
  · obtain ⟨C, T, N, g1, g2, g3, g4⟩ := hv.1 rfl
    obtain ⟨⟨k1, k2⟩, k3, k4, k5, k6, k7⟩ := hcls _ _ _ _ g1
    cases x with
    | inr r =>
      obtain ⟨_, _, _, _, _, -, hz⟩ := am_liftN_n hr
      cases hz
    | inl S' =>
      refine am_s_new (me := pg mi) (hso 0) hA hg0 hr (fun hw hp => am_new_wf k7 hw hp) (fun hp e1 e2 kk => ?_) (hin S' rfl)
      exact am_new_ok hx hb0 hd (fun w hw => hAt.1 w hw args) k1 (E.2.2.1 a) k3 hown (hAt.1 _ g2 _) (hAt.1 _ g3 _) (hAt.1 _ g4 _) hAt.2.1 hP hD hS hA g1 k4 k5 k6 hw.2.2 hw.2.1 (by show _ ≤ mc; rw [← e2]; exact hup.1) (by show _ ≤ ms; rw [← e1]; exact hup.2) hp kk
  · rename_i hc0
    split at hr
    · rename_i hz
      obtain ⟨h6, hcat, hcov⟩ := hz
      cases hr
      have hQ := hout _ rfl
      subst hQ
      obtain ⟨ha3, d3, ⟨is, ic, text, kk, d4, d6, d9, hrefs, hsp, hat⟩, v1, v2⟩ := hv.2 (fun z => hc0 (by rw [z]))
      refine am_throwS (A := A) (H0 := H) hx hb0 htr hlocks hd d3 d4 d6 d9 (fun z hz => ?_) hown (hfit a) hnames hsp (fun w hw hcw => hAt.1 w (hat w hw hcw) args) (hAt.1 _ v1 _) (hAt.1 _ v2 _) (hX.2.2.1 _ hrefs) hX.2.2.2.2.1 hX.2.2.2.2.2 ⟨Nat.le_refl _, fun _ _ _ => rfl, hS.2.2⟩ (hl.1.trans hml.symm) (by rw [am_catm]; exact hcat) (by rw [hlen2]; show 5 < d + 1; omega) (by rw [hlen2]; show 13 * 3 + 51 ≤ 32 * (d + 1) + 100; omega) hup.1 hup.2 hS.2.2 ?_
      · have hmem : (z.startPc, z.endPc, z.handlerPc, z.catchType) ∈ (pg mi).2.2.2.2.1 := by rw [← hrows]; exact List.mem_map.mpr ⟨z, hz, rfl⟩
        cases hcz : covers z (pc + 4 + b + 3) with
        | false => rfl
        | true =>
          exfalso
          have hany : am_covered (pg mi).2.2.2.2.1 (pc + 4 + b + 3) = true := by
            unfold am_covered
            rw [List.any_eq_true]
            have := am_cov.mp hcz
            exact ⟨_, hmem, by simp [this.1, this.2]⟩
          rw [hany] at hcov
          cases hcov
      · intro y H1 vm1 ce hW1 hkeep hsz hy c1 c2 c3
        have hP1 : va_P D K.2.1 (am_W cA ad h) H1 := hP.kept (fun j z hz => hkeep z.1 (hP j z hz).lt)
        refine ⟨ad, hex0, hn0, hw.2.2, hP1, hD, ⟨Nat.le_trans hS.1 hsz, fun q h1 h2 => by rw [hkeep q (Nat.lt_of_lt_of_le h1 hS.1)]; exact hS.2.1 q h1 h2, fun z hz => nomatch hz⟩, ha3, y, ce, rfl, c1, c2, c3, hA y (Nat.le_trans hS.1 hy), fun j hj => ?_⟩
        have hlt := (hP j _ (am_W_at (List.getElem?_eq_getElem hj))).lt
        dsimp only at hlt
        omega
    · cases hr
theorem am_s_ret (hM : am_Me K pg D cA p s m meth c mi) {R : Room} {i : Instr} (hd : decode (pg mi).2.1 pc = .ok (i, 1))
    (hg : am_good E K D cA A H0 s (pg mi).2.2.1 ad ls (pc, lv, st, h, nc, ns) H locs) {n0 : Nat} {ad0 : Nat → Nat} {r : am_Re} (hex0 : am_ex n0 ad0 ad) (hn0 : n0 ≤ h.length)
    (hr : (i = .ireturn ∧ am_ireturn (pg mi).2.2.2.1 st h nc ns = some (.inr r)) ∨ (i = .lreturn ∧ am_lreturn (pg mi).2.2.2.1 st h nc ns = some (.inr r)) ∨ (i = .areturn ∧ am_areturn (pg mi).2.2.2.1 st h nc ns = some (.inr r)) ∨ (i = .return_ ∧ am_return (pg mi).2.2.2.1 st h nc ns = some (.inr r))) :
    W p l e R s m args below meth c H locs nc ns (am_MQ below (am_Qc K D cA A H0 s n0 ad0 r) s r.2.2.1 r.2.2.2 A) (F0 m pc ls (st.map (am_v ad))) := by
  obtain ⟨hx, hI, hAt⟩ := hM
  obtain ⟨hnamed, hmeth, hcode, hb0, hml, hret, hlocks, hrows⟩ := id hI
  obtain ⟨hl, hw, hP, hD, hS, hX⟩ := hg
  dsimp only at hl hw hP hD
  have fin : ∀ (v : Option Value), (∀ w, v = some w → am_okv h.length w) → ∀ t : State, t.heap = H → s.WarmedH t.vm → am_Qc K D cA A H0 s n0 ad0 (.inl v, h, nc, ns) (.returned (v.map (am_v ad))) t.heap t.vm := fun v hv t ht hW =>
    ⟨ad, hex0, hn0, hw.2.2, by rw [ht]; exact hP, hD, by rw [ht]; exact ⟨hS.1, hS.2.1, fun z hz => nomatch hz⟩, rfl, hv⟩
  rcases hr with ⟨rfl, hr⟩ | ⟨rfl, hr⟩ | ⟨rfl, hr⟩ | ⟨rfl, hr⟩
  · unfold am_ireturn at hr
    split at hr
    · rename_i v
      have okv : ∀ w, some (Value.int v) = some w → am_okv h.length w := fun w hw => by cases hw; trivial
      have zr : ∀ {ty : FieldType}, meth.sig.returnType = some ty → narrow ty (.int v) = .int v → W p l e R s m args below meth c H locs nc ns (am_MQ below (am_Qc K D cA A H0 s n0 ad0 (.inl (some (.int v)), h, nc, ns)) s nc ns A) (F0 m pc ls [.int v]) := fun h1 h2 =>
        am_W_mono (fun t ht => am_MQ_of ht) (W.zret hx hb0 h1 h2 (fun t ht hW => fin (some (.int v)) okv t ht hW) hS.2.2 hd hlocks)
      split at hr
      · rename_i hq
        cases hr
        exact am_W_mono (fun t ht => am_MQ_of ht) (W.iret hx hb0 (hret.trans hq) (fun t ht hW => fin (some (.int v)) okv t ht hW) hS.2.2 hd hlocks)
      · rename_i hq
        split at hr
        · rename_i hz
          cases hr
          exact zr (hret.trans hq) (by rcases hz with rfl | rfl <;> decide)
        · cases hr
      · rename_i hq
        split at hr
        · rename_i hz
          cases hr
          obtain ⟨j, hj1, hj2⟩ := nI_of hz.1
          have hj3 : j < 65536 := by have := hz.2; rw [hj2, nI_clamp hj1] at this; exact this
          exact zr (hret.trans hq) (by rw [hj2]; exact (pk_charN hj3).1)
        · cases hr
      · rename_i hq
        split at hr
        · rename_i hz
          cases hr
          exact zr (hret.trans hq) hz
        · cases hr
      · cases hr
    · cases hr
  · unfold am_lreturn at hr
    split at hr
    · rename_i v hq
      cases hr
      exact am_W_mono (fun t ht => am_MQ_of ht) (W.lret hx hb0 (hret.trans hq) (fun t ht hW => fin (some (.long v)) (fun w hw => by cases hw; trivial) t ht hW) hS.2.2 hd hlocks)
    · cases hr
  · unfold am_areturn at hr
    split at hr
    · rename_i v n hq
      cases hr
      exact am_W_mono (fun t ht => am_MQ_of ht) (W.aret hx hb0 (hret.trans hq) (Or.inl ⟨_, rfl⟩) (Or.inr ⟨_, rfl⟩) (fun t ht hW => fin (some (.ref v)) (fun w hw2 => by cases hw2; exact hw.2.1 _ List.mem_cons_self) t ht hW) hS.2.2 hd hlocks)
    · rename_i n hq
      cases hr
      exact am_W_mono (fun t ht => am_MQ_of ht) (W.aret hx hb0 (hret.trans hq) (Or.inl ⟨_, rfl⟩) (Or.inl rfl) (fun t ht hW => fin (some .null) (fun w hw2 => by cases hw2; trivial) t ht hW) hS.2.2 hd hlocks)
    · cases hr
  · unfold am_return at hr
    split at hr
    · rename_i hq
      cases hr
      exact am_W_mono (fun t ht => am_MQ_of ht) (W.vret hx hb0 (hret.trans hq) (fun t ht hW => fin none (fun w hw2 => nomatch hw2) t ht hW) hS.2.2 hd hlocks)
    · cases hr
end AMZ
