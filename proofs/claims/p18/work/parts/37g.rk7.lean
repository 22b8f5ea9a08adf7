/-! ===== read: the declarations ===== -/
section RDL
variable {K M : mR}
def dlc (s : Int × Int × mR) (M : mR) : Prop := FB s.2.2 M ∧ s.1 = 1 ∧ s.2.1 + 3 = dcl M
def dle (u : Sum mR (Int × mR)) (M : mR) : Prop := (∃ K, u = Sum.inl K ∧ FB K M) ∨ ((∃ e : Int × mR, u = Sum.inr e ∧ e.1 ≠ 0) ∧ 0 < M.1 10)
def dlB (u : Sum (Int × Int × mR) (Sum mR (Int × mR))) (v : Sum mR mR) : Prop := (∃ s' t', u = .inl s' ∧ v = .inl t' ∧ dlc s' t') ∨ (∃ x y, u = .inr x ∧ v = .inr y ∧ dle x y) ∨ (∃ x t', u = .inr x ∧ v = .inl t' ∧ RP (whl rfb_read_160 t') (dle x)) ∨ (∃ s' y, u = .inl s' ∧ v = .inr y ∧ RP (whl kfb_pw_read_46 s') (fun x => dle x y))
theorem dcl_b (h : FB K M) : 3 ≤ dcl M ∧ dcl M ≤ 91 := by
  obtain ⟨-, r1, r2, r3, r4, r5, r6, r7, r8, hsum⟩ := id h.1.2.1.1
  unfold dcl
  omega
theorem FB_64 (h : FB K M) : FB K (mO M [(64, -1)] []) := by
  have h0 := dcl_b h
  obtain ⟨⟨hL, hB, hA, hN, -, -⟩, -, hs⟩ := h
  obtain ⟨-, r1, r2, r3, r4, r5, r6, r7, r8, hsum⟩ := id hB.1
  exact ⟨⟨hL, hB, hA, hN, (show (-1 : Int) ≤ -1 by decide), (by show (-1 : Int) < M.1 25; omega)⟩, rfl, hs⟩
theorem dl_step {X : Option (Int × Int × mR)} {Y : Option (Int × mR)} {i : Int} (hi : i + 3 = dcl M) (hb : 3 ≤ dcl M ∧ dcl M ≤ 91) (h : RR X Y (GV (FG M))) : RR (bnd X fun y => if y.1 = 0 then kfl_pw_read_196 1 i y.2.2 else some (.inr (.inr (y.1, y.2.2)))) (bnd (bnd Y fun y => some ((1 : Int), y.2)) fun y => rfl_read_171 y.1 y.2) dlB := by
  intro u v hu hv
  cases X with
  | none => cases hu
  | some y =>
    cases Y with
    | none => cases hv
    | some z =>
      rw [bnd_some] at hu
      rw [bnd_some, bnd_some] at hv
      unfold rfl_read_171 at hv
      rw [if_neg (show ¬ (1 : Int) = 0 by decide)] at hv
      cases hv
      rcases h y z rfl rfl with ⟨q0, q1, q2⟩ | ⟨q1, q2⟩
      · rw [if_pos q0] at hu
        unfold kfl_pw_read_196 at hu
        rw [cut_i (by omega) (by omega)] at hu
        cases hu
        have q2 : dcl z.2 = dcl M + 1 := q2
        refine Or.inl ⟨_, _, rfl, rfl, FB_64 q1, rfl, ?_⟩
        show i + 1 + 3 = dcl z.2
        omega
      · rw [if_neg q1] at hu
        cases hu
        refine Or.inr (Or.inr (Or.inl ⟨_, _, rfl, rfl, fun m hm => ?_⟩))
        have e : rfb_read_160 (mO z.2 [(64, (-1))] []) = some (.inr (mO z.2 [(64, (-1))] [])) := by
          unfold rfb_read_160
          rw [if_neg (show ¬ (mO z.2 [(64, (-1))] []).1 10 = 0 from (by show ¬ z.2.1 10 = 0; omega))]
        rw [whl_eq, e] at hm
        cases hm
        exact Or.inr ⟨⟨_, rfl, q1⟩, q2⟩
theorem decls_s {s : Int × Int × mR} (hI : dlc s M) : RR (whl kfb_pw_read_46 s) (whl rfb_read_160 M) dle := by
  refine RR_whl2 (I := dlc) (fun s M h => ?_) hI
  obtain ⟨v, i, K⟩ := s
  obtain ⟨hF, hv, hi⟩ := h
  have hv : v = 1 := hv
  have hi : i + 3 = dcl M := hi
  have hF : FB K M := hF
  subst hv
  have hb := dcl_b hF
  have hL := hF.1.1.2.1
  have hf := hF.1.1.2.2.2.2
  have wk : ∀ c : Int, (300 ≤ c ∧ c ≤ 330) → (K.1 206 = c ↔ M.1 7 = c) := fun c hc => by
    rw [hL.1]
    exact wm_big hL.2.1 (Or.inr hc)
  show RR _ _ dlB
  unfold kfb_pw_read_46 rfb_read_160 rf_takeOne
  dsimp only
  rw [if_neg (show ¬ (4000 : Int) < i by omega), if_neg (show ¬ (1 : Int) = 0 by decide), if_pos hf]
  by_cases w1 : M.1 7 = 300
  · rw [if_pos ((wk 300 (by omega)).mpr w1), if_pos w1]
    exact dl_step hi hb (header_fb hF w1)
  rw [if_neg (fun e => w1 ((wk 300 (by omega)).mp e)), if_neg w1]
  by_cases w2 : M.1 7 = 301
  · rw [if_pos ((wk 301 (by omega)).mpr w2), if_pos w2]
    exact dl_step hi hb (inst_fb hF w2)
  rw [if_neg (fun e => w2 ((wk 301 (by omega)).mp e)), if_neg w2]
  by_cases w3 : M.1 7 = 302
  · rw [if_pos ((wk 302 (by omega)).mpr w3), if_pos w3]
    exact dl_step hi hb (meta_fb hF w3)
  rw [if_neg (fun e => w3 ((wk 302 (by omega)).mp e)), if_neg w3]
  by_cases w4 : M.1 7 = 303
  · rw [if_pos ((wk 303 (by omega)).mpr w4), if_pos w4]
    exact dl_step hi hb (arr_fb hF w4)
  rw [if_neg (fun e => w4 ((wk 303 (by omega)).mp e)), if_neg w4]
  by_cases w5 : M.1 7 = 304
  · rw [if_pos ((wk 304 (by omega)).mpr w5), if_pos w5]
    exact dl_step hi hb (state_fb hF w5)
  rw [if_neg (fun e => w5 ((wk 304 (by omega)).mp e)), if_neg w5]
  by_cases w6 : M.1 7 = 309
  · rw [if_pos ((wk 309 (by omega)).mpr w6), if_pos w6]
    exact dl_step hi hb (action_fb hF w6)
  rw [if_neg (fun e => w6 ((wk 309 (by omega)).mp e)), if_neg w6]
  by_cases w7 : M.1 7 = 310
  · rw [if_pos ((wk 310 (by omega)).mpr w7), if_pos w7]
    exact dl_step hi hb (table_fb hF w7)
  rw [if_neg (fun e => w7 ((wk 310 (by omega)).mp e)), if_neg w7]
  simp only [ite_self]
  intro u w hu hw
  rw [bnd_some] at hw
  unfold rfl_read_171 at hw
  rw [if_pos rfl] at hw
  unfold kfl_pw_read_194 kfl_pw_read_196 at hu
  rw [cut_i (by omega) (by omega)] at hu
  cases hu
  cases hw
  refine Or.inr (Or.inr (Or.inr ⟨_, _, rfl, rfl, fun x hx => ?_⟩))
  have e : kfb_pw_read_46 (0, i + 1, K) = some (.inr (.inl K)) := by
    unfold kfb_pw_read_46
    dsimp only
    rw [if_neg (show ¬ (4000 : Int) < i + 1 by omega), if_pos rfl]
  rw [whl_eq, e] at hx
  cases hx
  exact Or.inl ⟨K, rfl, hF⟩
end RDL
