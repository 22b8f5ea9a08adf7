/-! ===== THE PURE MACHINE, part 20: it is sound ===== -/
section AMW
variable {E : am_En} {K : am_Ta} {cn : Nat → Nat} {pg : Nat → am_M} {D : va_G} {cA : Nat → ClassId} {A : Nat → Prop} {H0 : Heap}
variable {p : Program} {l : Launch} {e : Env} {s : State} {m : MethodId} {args : Array Value} {below : List Frame} {meth : Method} {c : Code} {H : Heap} {locs : List Loc} {Q : State → Prop} {mi : Nat} {ad : Nat → Nat} {ls : Array Slot}
variable {d mc ms : Nat}
set_option maxHeartbeats 1000000 in
theorem am_s_step1 (hPV : am_PV E K cn pg) (hA : ∀ q, H0.size ≤ q → A q) (htr : l.stackTraces = false) {call : am_Ca} (hcs : am_CS l E K pg D cA A H0 call d) (hM : am_Me K pg D cA p s m meth c mi) {t : am_I} {S : am_St} (hV : am_V1 E K cn pg (pg mi) S.1 t)
    (hg : am_good E K D cA A H0 s (pg mi).2.2.1 ad ls S H locs) {x : am_St ⊕ am_Re} (hr : am_step E cn (d + 1) call (pg mi) t S = some x) (hup : (am_cnt x).1 ≤ mc ∧ (am_cnt x).2 ≤ ms)
    (hin : ∀ S', x = .inl S' → am_go E K D cA A H0 p l e (am_room (d + 1) mc ms) s m args below meth c Q (pg mi).2.2.1 ad S.2.2.2.1.length S') {n0 : Nat} {ad0 : Nat → Nat} (hout : ∀ r, x = .inr r → Q = am_MQ below (am_Qc K D cA A H0 s n0 ad0 r) s r.2.2.1 r.2.2.2 A) (hex0 : am_ex n0 ad0 ad) (hn0 : n0 ≤ S.2.2.2.1.length) :
    W p l e (am_room (d + 1) mc ms) s m args below meth c H locs S.2.2.2.2.1 S.2.2.2.2.2 Q (F0 m S.1 ls (S.2.2.1.map (am_v ad))) := by
  obtain ⟨pc, lv, st, h, nc, ns⟩ := S
  obtain ⟨i, len, a, b, k⟩ := t
  obtain ⟨hx, hI, hAt⟩ := id hM
  obtain ⟨hnamed, hmeth, hcode, hb0, hml, hret, hlocks, hrows⟩ := id hI
  have hown : s.vm.findClass (pg mi).1.cls = some m.cls := findClass_of_methodNamed hnamed
  have hmn : meth.name = (pg mi).1.name := (name_of_methodNamed hnamed hmeth).1
  obtain ⟨hd, hlen, hv⟩ := id hV
  obtain ⟨hl, hw, hP, hD, hS, hX⟩ := id hg
  dsimp only at hd hlen hv hl hw hP hD hin hn0 ⊢
  obtain ⟨hpv1, hcar, hcls, ⟨r4, r5, hr4, hr5, ht4, ht5⟩, -, -, -, -, -, hso⟩ := id hPV
  have hts : ∀ w ∈ K.1, w.before args s = true := fun w hw => hAt.1 w hw args
  unfold am_step at hr
  dsimp only at hr
  have noR : ∀ {r : am_RH} {rr : am_Re}, ¬ am_liftH r nc ns = some (.inr rr) := fun hz => by obtain ⟨_, _, _, _, -, h9⟩ := am_liftH_n hz; cases h9
  have noN : ∀ {r : am_RN} {rr : am_Re}, ¬ am_liftN r nc ns = some (.inr rr) := fun hz => by obtain ⟨_, _, _, _, _, -, h9⟩ := am_liftN_n hz; cases h9
  have noP : ∀ {r : am_R} {rr : am_Re}, ¬ am_lift r h nc ns = some (.inr rr) := fun hz => by obtain ⟨_, _, _, -, h9⟩ := am_lift_n hz; cases h9
  split at hr
  · -- getfield
    rename_i idx
    have h3 : len = 3 := eq_of_beq hlen
    subst h3
    cases x with
    | inr r => exact absurd hr noR
    | inl S' =>
      by_cases hk : k = 0
      · subst hk
        obtain ⟨C, T, N, g1, g2, g3⟩ := hv.1 rfl
        exact am_s_read (me := pg mi) hg hr (fun hw hp => am_getf_wf hw hp) (fun hp kk => am_getf_ok hx hb0 hd hts (hcls _ _ _ _ g1).1.1 hown hAt.2.1 hP g1 g2 (hAt.1 _ g3 _) hp kk) (hin S' rfl)
      · have he : am_getfield E a b k = am_xgetf E.2.1.1 a := by
          cases k with
          | zero => exact absurd rfl hk
          | succ n => rfl
        rw [he] at hr
        have hlk := hv.2 hk
        exact am_s_read (me := pg mi) hg hr (fun hw hp => am_xwf (L := E.1.1) (xs := E.1.2) (len := E.2.1.1) (byt := E.2.1.2) hw (Or.inr (Or.inr (Or.inr ⟨a, rfl⟩))) hp) (fun hp kk => am_xgetf_ok hx hb0 hd hown hX (hlk.elim (fun z => Or.inl ⟨z.1, hAt.1 _ z.2 _⟩) (fun z => Or.inr ⟨z.1, hAt.1 _ z.2 _⟩)) hp kk) (hin S' rfl)
  · -- putfield
    rename_i idx
    have h3 : len = 3 := eq_of_beq hlen
    subst h3
    cases x with
    | inr r => exact absurd hr noR
    | inl S' =>
      obtain ⟨C, T, N, g1, g2, g3, g4, g5⟩ := hv
      obtain ⟨⟨k1, k2⟩, k3, -⟩ := hcls _ _ _ _ g1
      exact am_s_write (me := pg mi) hA hg hr (fun hw hp => am_putf_wf hw hp) (fun hp kk => am_putf_ok hx hb0 hd hts k1 (E.2.2.1 a) k3 k2 hown hAt.2.1 hP hD hS g1 g2 (hAt.1 _ g3 _) (g4.imp id (fun z => ⟨z.1, hmn.trans z.2.1, z.2.2⟩)) g5 hp kk) (hin S' rfl)
  · -- iaload
    have h3 : len = 1 := eq_of_beq hlen
    subst h3
    cases x with
    | inr r => exact absurd hr noR
    | inl S' =>
      unfold am_iaload at hr
      split at hr
      · rename_i i q r
        split at hr
        · exact am_s_read (me := pg mi) (f := am_iald 0) hg hr (fun hw hp => am_iald_wf hw hp) (fun hp kk => am_iald_ok hx hb0 hd hAt.2.1 hP hp kk) (hin S' rfl)
        · exact am_s_read (me := pg mi) (f := am_xiald E.1.1 E.1.2) hg hr (fun hw hp => am_xwf (L := E.1.1) (xs := E.1.2) (len := E.2.1.1) (byt := E.2.1.2) hw (Or.inl rfl) hp) (fun hp kk => am_xiald_ok hx hb0 hd hX hp kk) (hin S' rfl)
      · cases hr
  · -- baload
    have h3 : len = 1 := eq_of_beq hlen
    subst h3
    cases x with
    | inr r => exact absurd hr noR
    | inl S' =>
      unfold am_baload at hr
      split at hr
      · rename_i i q r
        split at hr
        · exact am_s_read (me := pg mi) (f := am_bald) hg hr (fun hw hp => am_bald_wf hw hp) (fun hp kk => am_bald_ok hx hb0 hd hAt.2.1 hP hp kk) (hin S' rfl)
        · exact am_s_read (me := pg mi) (f := am_xbald E.2.1.1 E.2.1.2) hg hr (fun hw hp => am_xwf (L := E.1.1) (xs := E.1.2) (len := E.2.1.1) (byt := E.2.1.2) hw (Or.inr (Or.inl rfl)) hp) (fun hp kk => am_xbald_ok hx hb0 hd hX hp kk) (hin S' rfl)
      · cases hr
  · -- laload
    have h3 : len = 1 := eq_of_beq hlen
    subst h3
    cases x with
    | inr r => exact absurd hr noR
    | inl S' => exact am_s_read (me := pg mi) hg hr (fun hw hp => am_lald_wf hw hp) (fun hp kk => am_lald_ok hx hb0 hd hAt.2.1 hP hp kk) (hin S' rfl)
  · -- aaload
    have h3 : len = 1 := eq_of_beq hlen
    subst h3
    cases x with
    | inr r => exact absurd hr noR
    | inl S' => exact am_s_read (me := pg mi) hg hr (fun hw hp => am_aald_wf hw hp) (fun hp kk => am_aald_ok hx hb0 hd hAt.2.1 hP hp kk) (hin S' rfl)
  · -- iastore
    have h3 : len = 1 := eq_of_beq hlen
    subst h3
    cases x with
    | inr r => exact absurd hr noR
    | inl S' => exact am_s_write (me := pg mi) hA hg hr (fun hw hp => am_iast_wf hw hp) (fun hp kk => am_iast_ok hx hb0 hd hAt.2.1 hP hD hS hp kk) (hin S' rfl)
  · -- bastore
    have h3 : len = 1 := eq_of_beq hlen
    subst h3
    cases x with
    | inr r => exact absurd hr noR
    | inl S' => exact am_s_write (me := pg mi) hA hg hr (fun hw hp => am_bast_wf hw hp) (fun hp kk => am_bast_ok hx hb0 hd hAt.2.1 hP hD hS hp kk) (hin S' rfl)
  · -- lastore
    have h3 : len = 1 := eq_of_beq hlen
    subst h3
    cases x with
    | inr r => exact absurd hr noR
    | inl S' => exact am_s_write (me := pg mi) hA hg hr (fun hw hp => am_last_wf hw hp) (fun hp kk => am_last_ok hx hb0 hd hAt.2.1 hP hD hS hp kk) (hin S' rfl)
  · -- aastore
    have h3 : len = 1 := eq_of_beq hlen
    subst h3
    cases x with
    | inr r => exact absurd hr noR
    | inl S' => exact am_s_write (me := pg mi) hA hg hr (fun hw hp => am_aast_wf hw hp) (fun hp kk => am_aast_ok hr4 hr5 ht4 ht5 hx hb0 hd hAt.2.1 hP hD hS hp kk) (hin S' rfl)
  · -- arraylength
    have h3 : len = 1 := eq_of_beq hlen
    subst h3
    cases x with
    | inr r => exact absurd hr noR
    | inl S' =>
      unfold am_alength at hr
      split at hr
      · rename_i q r
        split at hr
        · exact am_s_read (me := pg mi) (f := am_alen) hg hr (fun hw hp => am_alen_wf hw hp) (fun hp kk => am_alen_ok hx hb0 hd hAt.2.1 hP hp kk) (hin S' rfl)
        · exact am_s_read (me := pg mi) (f := am_xalen E.1.1 E.2.1.1) hg hr (fun hw hp => am_xwf (L := E.1.1) (xs := E.1.2) (len := E.2.1.1) (byt := E.2.1.2) hw (Or.inr (Or.inr (Or.inl rfl))) hp) (fun hp kk => am_xalen_ok hx hb0 hd hX hp kk) (hin S' rfl)
      · cases hr
  · -- newarray
    have h3 : len = 2 := eq_of_beq hlen
    subst h3
    cases x with
    | inr r => exact absurd hr noN
    | inl S' => exact am_s_new (me := pg mi) (hso 0) hA hg hr (fun hw hp => am_newa_wf hw hp) (fun hp e1 e2 kk => am_newa_ok hv.1 hx hb0 hd (hAt.1 _ hv.2 _) hAt.2.1 hP hD hS hA hw.2.2 hw.2.1 (by show _ ≤ mc; rw [← e2]; exact hup.1) (by show _ ≤ ms; rw [← e1]; exact hup.2) hp kk) (hin S' rfl)
  · -- anewarray
    have h3 : len = 3 := eq_of_beq hlen
    subst h3
    cases x with
    | inr r => exact absurd hr noN
    | inl S' =>
      obtain ⟨C, g1, g2, g3⟩ := hv
      exact am_s_new (me := pg mi) (hso 0) hA hg hr (fun hw hp => am_newq_wf hw hp) (fun hp e1 e2 kk => am_newq_ok g1 hx hb0 hd hown (hAt.1 _ g2 _) (va_AO.of (hAt.1 _ g3 #[])) hAt.2.1 hP hD hS hA hw.2.2 hw.2.1 (by show _ ≤ mc; rw [← e2]; exact hup.1) (by show _ ≤ ms; rw [← e1]; exact hup.2) hp kk) (hin S' rfl)
  · -- new
    exact am_s_make hPV hA htr hM hV hg hr hup hin hout hex0 hn0
  · -- ldc
    rename_i idx
    have h3 : len = 2 := eq_of_beq hlen
    subst h3
    obtain ⟨pc', lv', st', hp, he⟩ := am_lift_n hr
    subst he
    by_cases hk : k = 0
    · subst hk
      cases hp
      exact lv_ldc hx hb0 hown (hAt.1 _ (hv.1 rfl) _) hd (hin _ rfl ad ls H locs ⟨hl, ⟨hw.1, am_okS_c.mpr ⟨trivial, hw.2.1⟩, hw.2.2⟩, hP, hD, hS, hX⟩ am_ex.rf (Nat.le_refl _))
    · have he : am_ldc 2 a k = am_push (.ref (am_kT a)) 2 := by
        cases k with
        | zero => exact absurd rfl hk
        | succ n => rfl
      rw [he] at hp
      cases hp
      obtain ⟨-, tx, htx⟩ := hv.2 hk
      exact va_ldcS hx hb0 hown (hX.2.2.1 _ htx) hd (hin _ rfl ad ls H locs ⟨hl, ⟨hw.1, am_okS_c.mpr ⟨Or.inr (am_kT_ge a), hw.2.1⟩, hw.2.2⟩, hP, hD, hS, hX⟩ am_ex.rf (Nat.le_refl _))
  · -- ldc_w
    rename_i idx
    have h3 : len = 3 := eq_of_beq hlen
    subst h3
    obtain ⟨pc', lv', st', hp, he⟩ := am_lift_n hr
    subst he
    by_cases hk : k = 0
    · subst hk
      cases hp
      exact lv_ldcw hx hb0 hown (hAt.1 _ (hv.1 rfl) _) hd (hin _ rfl ad ls H locs ⟨hl, ⟨hw.1, am_okS_c.mpr ⟨trivial, hw.2.1⟩, hw.2.2⟩, hP, hD, hS, hX⟩ am_ex.rf (Nat.le_refl _))
    · have he : am_ldc 3 a k = am_push (.ref (am_kT a)) 3 := by
        cases k with
        | zero => exact absurd rfl hk
        | succ n => rfl
      rw [he] at hp
      cases hp
      obtain ⟨-, tx, htx⟩ := hv.2 hk
      exact am_ldcwS hx hb0 hown (hX.2.2.1 _ htx) hd (hin _ rfl ad ls H locs ⟨hl, ⟨hw.1, am_okS_c.mpr ⟨Or.inr (am_kT_ge a), hw.2.1⟩, hw.2.2⟩, hP, hD, hS, hX⟩ am_ex.rf (Nat.le_refl _))
  · -- ldc2_w
    have h3 : len = 3 := eq_of_beq hlen
    subst h3
    obtain ⟨pc', lv', st', hp, he⟩ := am_lift_n hr
    subst he
    cases hp
    exact lv_ldc2 hx hb0 hown (hAt.1 _ hv _) hd (hin _ rfl ad ls H locs ⟨hl, ⟨hw.1, am_okS_c.mpr ⟨trivial, hw.2.1⟩, hw.2.2⟩, hP, hD, hS, hX⟩ am_ex.rf (Nat.le_refl _))
  · -- getstatic
    have h3 : len = 3 := eq_of_beq hlen
    subst h3
    obtain ⟨pc', lv', st', hp, he⟩ := am_lift_n hr
    subst he
    cases hp
    exact am_xgets_ok (k := k) hx hb0 hd hown hX (hv.elim (fun z => Or.inl ⟨z.1, hAt.1 _ z.2 _⟩) (fun z => Or.inr ⟨z.1, hAt.1 _ z.2 _⟩)) (hin _ rfl ad ls H locs ⟨hl, ⟨hw.1, am_okS_c.mpr ⟨by cases k with | zero => trivial | succ n => exact hso _, hw.2.1⟩, hw.2.2⟩, hP, hD, hS, hX⟩ am_ex.rf (Nat.le_refl _))
  · exact am_s_invoke hPV hA hcs hM (Or.inl ⟨_, rfl⟩) hV hg hr hup hin hout hex0 hn0
  · exact am_s_invoke hPV hA hcs hM (Or.inr (Or.inl ⟨_, rfl⟩)) hV hg hr hup hin hout hex0 hn0
  · split at hr
    · obtain ⟨-, -, -, hz | hz | hz⟩ := hv
      · exact absurd hz.1 (by decide)
      · exact absurd hz.1 (by decide)
      · exact absurd hz.1 (by decide)
    · exact am_s_invoke hPV hA hcs hM (Or.inr (Or.inr ⟨_, rfl⟩)) hV hg hr hup hin hout hex0 hn0
  · have h3 : len = 1 := eq_of_beq hlen
    subst h3
    cases x with
    | inl S' => exact absurd hr (by unfold am_ireturn; intro hz; split at hz <;> first | cases hz | (split at hz <;> first | cases hz | (split at hz <;> cases hz)))
    | inr r => rw [hout r rfl]; exact am_s_ret hM hd hg hex0 hn0 (Or.inl ⟨rfl, hr⟩)
  · have h3 : len = 1 := eq_of_beq hlen
    subst h3
    cases x with
    | inl S' => exact absurd hr (by unfold am_lreturn; intro hz; split at hz <;> cases hz)
    | inr r => rw [hout r rfl]; exact am_s_ret hM hd hg hex0 hn0 (Or.inr (Or.inl ⟨rfl, hr⟩))
  · have h3 : len = 1 := eq_of_beq hlen
    subst h3
    cases x with
    | inl S' => exact absurd hr (by unfold am_areturn; intro hz; split at hz <;> cases hz)
    | inr r => rw [hout r rfl]; exact am_s_ret hM hd hg hex0 hn0 (Or.inr (Or.inr (Or.inl ⟨rfl, hr⟩)))
  · have h3 : len = 1 := eq_of_beq hlen
    subst h3
    cases x with
    | inl S' => exact absurd hr (by unfold am_return; intro hz; split at hz <;> cases hz)
    | inr r => rw [hout r rfl]; exact am_s_ret hM hd hg hex0 hn0 (Or.inr (Or.inr (Or.inr ⟨rfl, hr⟩)))
  · cases x with
    | inr r => exact absurd hr noP
    | inl S' => exact am_s_pure (me := pg mi) hx hb0 hd hlen hg hr (hin S' rfl)
theorem am_s_step (hPV : am_PV E K cn pg) (hA : ∀ q, H0.size ≤ q → A q) (htr : l.stackTraces = false) {call : am_Ca} (hcs : am_CS l E K pg D cA A H0 call d) (hM : am_Me K pg D cA p s m meth c mi) {t : am_I} {S : am_St} (hV : am_V E K cn pg (pg mi) S.1 t)
    (hg : am_good E K D cA A H0 s (pg mi).2.2.1 ad ls S H locs) {x : am_St ⊕ am_Re} (hr : am_step E cn (d + 1) call (pg mi) t S = some x) (hup : (am_cnt x).1 ≤ mc ∧ (am_cnt x).2 ≤ ms)
    (hin : ∀ S', x = .inl S' → am_go E K D cA A H0 p l e (am_room (d + 1) mc ms) s m args below meth c Q (pg mi).2.2.1 ad S.2.2.2.1.length S') {n0 : Nat} {ad0 : Nat → Nat} (hout : ∀ r, x = .inr r → Q = am_MQ below (am_Qc K D cA A H0 s n0 ad0 r) s r.2.2.1 r.2.2.2 A) (hex0 : am_ex n0 ad0 ad) (hn0 : n0 ≤ S.2.2.2.1.length) :
    W p l e (am_room (d + 1) mc ms) s m args below meth c H locs S.2.2.2.2.1 S.2.2.2.2.2 Q (F0 m S.1 ls (S.2.2.1.map (am_v ad))) := by
  rcases id hV with hV | ⟨idx, a, b, rfl, hd, k1, k2, k3, k4⟩
  · exact am_s_step1 hPV hA htr hcs hM hV hg hr hup hin hout hex0 hn0
  · obtain ⟨pc, lv, st, h, nc, ns⟩ := S
    obtain ⟨hx, hI, hAt⟩ := id hM
    obtain ⟨hnamed, hmeth, hcode, hb0, hml, hret, hlocks, hrows⟩ := id hI
    have hown : s.vm.findClass (pg mi).1.cls = some m.cls := findClass_of_methodNamed hnamed
    obtain ⟨hl, hw, hP, hD, hS, hX⟩ := id hg
    dsimp only at hd hl hw hP hD hin hn0 ⊢
    have hr : am_liftH (am_copy pc lv st h) nc ns = some x := hr
    cases x with
    | inr r => obtain ⟨_, _, _, _, -, h9⟩ := am_liftH_n hr; cases h9
    | inl S' => exact am_s_write (me := pg mi) hA hg hr (fun hw hp => am_copy_wf hw hp) (fun hp kk => am_copy_ok hx hb0 (hml.trans hl.1.symm) hd hown (hAt.1 _ k1 _) (hAt.1 _ k2 _) (hAt.1 _ k3 _) (hAt.1 _ k4 _) (by show 1 ≤ d + 1; omega) (by show 100 ≤ 32 * (d + 1) + 100; omega) hAt.2.1 hP hD hS hp kk) (hin S' rfl)
theorem am_run_ok (hPV : am_PV E K cn pg) (hA : ∀ q, H0.size ≤ q → A q) (htr : l.stackTraces = false) {call : am_Ca} (hcs : am_CS l E K pg D cA A H0 call d) (hM : am_Me K pg D cA p s m meth c mi) {n0 : Nat} {ad0 : Nat → Nat} {r : am_Re} :
    ∀ (n : Nat) (S : am_St), am_run E cn (d + 1) call (pg mi) n S = some r → ∀ (ad : Nat → Nat) (ls : Array Slot) (H : Heap) (locs : List Loc), am_good E K D cA A H0 s (pg mi).2.2.1 ad ls S H locs → am_ex n0 ad0 ad → n0 ≤ S.2.2.2.1.length →
      W p l e (am_room (d + 1) r.2.2.1 r.2.2.2) s m args below meth c H locs S.2.2.2.2.1 S.2.2.2.2.2 (am_MQ below (am_Qc K D cA A H0 s n0 ad0 r) s r.2.2.1 r.2.2.2 A) (F0 m S.1 ls (S.2.2.1.map (am_v ad))) := by
  intro n
  induction n with
  | zero => intro S hr; cases hr
  | succ n ih =>
    intro S hr ad ls H locs hg hex hn
    unfold am_run at hr
    split at hr
    · rename_i t ht
      have hV := hPV.1 mi S.1 t ht
      split at hr
      · rename_i S' hs
        have hup := am_run_up n S' hr
        refine am_s_step hPV hA htr hcs hM hV hg hs hup (fun S2 h2 => ?_) (n0 := n0) (ad0 := ad0) (fun r2 h2 => by cases h2) hex hn
        cases h2
        intro ad' ls' H' locs' hg' hex' hn'
        exact ih S' hr ad' ls' H' locs' hg' (hex.tr hn hex') (Nat.le_trans hn hn')
      · rename_i r' hs
        cases hr
        exact am_s_step hPV hA htr hcs hM hV hg hs ⟨Nat.le_refl _, Nat.le_refl _⟩ (fun S2 h2 => by cases h2) (n0 := n0) (ad0 := ad0) (fun r2 h2 => by cases h2; rfl) hex hn
      · cases hr
    · cases hr
theorem am_args (ad : Nat → Nat) : ∀ (av : List Value) (i : Nat), am_L ad (lv_args i av) = lv_args i (av.map (am_v ad)) := by
  intro av
  induction av with
  | nil => intro i; rfl
  | cons v vs ih =>
    intro i
    show (i, am_v ad v) :: am_L ad (lv_args (if v.category = 2 then i + 2 else i + 1) vs) = (i, am_v ad v) :: lv_args (if (am_v ad v).category = 2 then i + 2 else i + 1) (vs.map (am_v ad))
    rw [am_v_cat, ih]
theorem am_args_ok {n : Nat} : ∀ (av : List Value) (i : Nat), am_okS n av → am_okL n (lv_args i av) := by
  intro av
  induction av with
  | nil => intro i _ q hq; cases hq
  | cons v vs ih =>
    intro i hv q hq
    rcases List.mem_cons.mp hq with rfl | hq
    · exact hv _ List.mem_cons_self
    · exact ih _ (fun w hw => hv w (List.mem_cons_of_mem _ hw)) q hq
theorem am_sl (vs : List Value) : (lg_sl vs).length = (vs.map fun v => v.category).sum := by
  induction vs with
  | nil => rfl
  | cons v t ih =>
    have e : lg_sl (v :: t) = (if v.category = 2 then [.val v, .second] else [.val v]) ++ lg_sl t := by simp [lg_sl, List.flatMap_cons]
    rw [e, List.length_append, ih, List.map_cons, List.sum_cons]
    rcases lv_cat v with h | h <;> rw [h] <;> rfl
theorem am_call_ok (hPV : am_PV E K cn pg) (hA : ∀ q, H0.size ≤ q → A q) (htr : l.stackTraces = false) (fuel : Nat) : ∀ d, am_CS l E K pg D cA A H0 (am_call E cn pg fuel d) d := by
  intro d
  induction d with
  | zero => intro mi av h r hr; cases hr
  | succ d ih =>
    intro mi av h r hr hav hH p e s m below meth c H ad hx hI hAt hP hD hS hX
    unfold am_call at hr
    split at hr
    · rename_i hcat
      have hent := lv_entry (av.map (am_v ad)) (n := (pg mi).2.2.1) (by rw [am_sl, am_catm]; exact hcat)
      rw [lg_entry_eq]
      generalize (lg_sl (av.map (am_v ad)) ++ List.replicate ((pg mi).2.2.1 - (lg_sl (av.map (am_v ad))).length) Slot.unset).toArray = ls at hent ⊢
      have hl : lv_has ls (pg mi).2.2.1 (am_L ad (lv_args 0 av)) := by rw [am_args]; exact hent
      exact am_run_ok (p := p) (s := s) (m := m) (meth := meth) (c := c) hPV hA htr ih ⟨hx, hI, hAt⟩ (n0 := h.length) (ad0 := ad) fuel (0, lv_args 0 av, [], h, 0, 0) hr ad ls H [] ⟨hl, ⟨am_args_ok av 0 hav, (fun v hv => nomatch hv), hH⟩, hP, hD, hS, hX⟩ am_ex.rf (Nat.le_refl _)
    · cases hr
end AMW
