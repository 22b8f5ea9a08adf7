/-! ===== EXPRs: the class's pieces against the rest of the reference's run ===== -/
theorem RP_e {α : Type} {X : Option α} {P : α → Prop} {z : α} (hz : X = some z) (h : RP X P) : P z := h z hz
noncomputable def WX (M : mR) : Option mR := whl rfb_readExpr_19 M
theorem bnd_in {β γ : Type} {X : Option (Int × mR)} {f : mR → Option γ} {g : β → Option γ} : bnd (bnd X fun y => (some (Sum.inl y.2) : Option (Sum mR β))) (sel f g) = bnd X (fun y => f y.2) := by
  cases X with
  | none => rfl
  | some x => rfl
theorem WX_0 {M : mR} (hf : M.1 10 = 0) (h : M.1 75 = 0) : WX M = bnd (rf_wantUnit M) (fun y => WX y.2) := by
  show whl rfb_readExpr_19 M = bnd (rf_wantUnit M) (fun y => whl rfb_readExpr_19 y.2)
  rw [whl_eq]
  unfold rfb_readExpr_19
  rw [if_pos hf, if_neg (show ¬ M.1 75 = 3 by omega), if_pos h, bnd_in]
theorem WX_1 {M : mR} (hf : M.1 10 = 0) (h : M.1 75 = 1) : WX M = bnd (rf_after M) (fun y => WX y.2) := by
  show whl rfb_readExpr_19 M = bnd (rf_after M) (fun y => whl rfb_readExpr_19 y.2)
  rw [whl_eq]
  unfold rfb_readExpr_19
  rw [if_pos hf, if_neg (show ¬ M.1 75 = 3 by omega), if_neg (show ¬ M.1 75 = 0 by omega), if_pos h, bnd_in]
theorem WX_2 {M : mR} (hf : M.1 10 = 0) (h : M.1 75 = 2) : WX M = bnd (rf_goOn M) (fun y => WX y.2) := by
  show whl rfb_readExpr_19 M = bnd (rf_goOn M) (fun y => whl rfb_readExpr_19 y.2)
  rw [whl_eq]
  unfold rfb_readExpr_19
  rw [if_pos hf, if_neg (show ¬ M.1 75 = 3 by omega), if_neg (show ¬ M.1 75 = 0 by omega), if_neg (show ¬ M.1 75 = 1 by omega), bnd_in]
theorem WX_3 {M : mR} (hf : M.1 10 = 0) (h : M.1 75 = 3) : WX M = some M := by
  show whl rfb_readExpr_19 M = some M
  rw [whl_eq]
  unfold rfb_readExpr_19
  rw [if_pos hf, if_pos h]
  rfl
theorem WX_f {M : mR} (h : 0 < M.1 10) : RP (WX M) (fun z => 0 < z.1 10) := RP_w (uw_rfb_readExpr_19 M) (fun _ hz => hz.2 h)
def SM {α : Type} (X : Option α) (M : mR) (P : α → mR → Prop) (B : α → Prop) : Prop := ∀ y z, X = some y → WX M = some z → (∃ M', WX M' = some z ∧ P y M') ∨ (0 < z.1 10 ∧ B y)
def PB {α : Type} (P : α → mR → Prop) (B : α → Prop) (y : α) (z : Int × mR) : Prop := P y z.2 ∨ (0 < z.2.1 10 ∧ B y)
section SMS
variable {α β : Type} {X : Option α} {M : mR} {P P' : α → mR → Prop} {B B' : α → Prop} {k : α → Option β} {Q : β → mR → Prop} {C : β → Prop}
theorem SM_some {y : α} (h : P y M) : SM (some y) M P B := fun a z ha hz => by cases ha; exact Or.inl ⟨M, hz, h⟩
theorem SM_w (h : SM X M P B) (g1 : ∀ y M', P y M' → P' y M') (g2 : ∀ y, B y → B' y) : SM X M P' B' := by
  intro y z hy hz
  rcases h y z hy hz with ⟨M', a, b⟩ | ⟨a, b⟩
  · exact Or.inl ⟨M', a, g1 _ _ b⟩
  · exact Or.inr ⟨a, g2 _ b⟩
theorem SM_bnd (h : SM X M P B) (g : ∀ y M', P y M' → SM (k y) M' Q C) (hd : ∀ y, B y → RP (k y) C) : SM (bnd X k) M Q C := by
  intro y z hy hz
  cases hX : X with
  | none => rw [hX] at hy; cases hy
  | some x =>
    rw [hX, bnd_some] at hy
    rcases h x z hX hz with ⟨M', a, b⟩ | ⟨a, b⟩
    · exact g x M' b y z hy a
    · exact Or.inr ⟨a, hd x b y hy⟩
theorem SM_l {A : α → Prop} {M : mR} (h : RP X A) (g : ∀ y, A y → SM (k y) M Q C) : SM (bnd X k) M Q C := by
  intro y z hy hz
  cases hX : X with
  | none => rw [hX] at hy; cases hy
  | some x =>
    rw [hX, bnd_some] at hy
    exact g x (h x hX) y z hy hz
theorem SM_st {Y : Option (Int × mR)} (e : WX M = bnd Y (fun y => WX y.2)) (h : RR X Y (PB P B)) : SM X M P B := by
  intro y z hy hz
  rw [e] at hz
  cases hY : Y with
  | none => rw [hY] at hz; cases hz
  | some w =>
    rw [hY, bnd_some] at hz
    rcases h y w hy hY with a | ⟨a, b⟩
    · exact Or.inl ⟨w.2, hz, a⟩
    · exact Or.inr ⟨WX_f a z hz, b⟩
/-- one step of the reference, and the class's piece goes on from there -/
theorem SM_go {Y : Option (Int × mR)} {A : mR → Prop} (e : WX M = bnd Y (fun y => WX y.2)) (h : RP Y (fun z => A z.2)) (g : ∀ M', A M' → SM X M' P B) : SM X M P B := by
  intro y z hy hz
  rw [e] at hz
  cases hY : Y with
  | none => rw [hY] at hz; cases hz
  | some w =>
    rw [hY, bnd_some] at hz
    exact g w.2 (h w hY) y z hy hz
theorem SM_il {p : Prop} {dp : Decidable p} {A D : Option α} (h1 : p → SM A M P B) (h2 : ¬ p → SM D M P B) : SM (@ite _ p dp A D) M P B := by
  by_cases h : p
  · rw [if_pos h]; exact h1 h
  · rw [if_neg h]; exact h2 h
theorem SM_whl {σ ξ : Type} {f : σ → Option (Sum σ ξ)} {I : σ → mR → Prop} {E : ξ → mR → Prop} {D : σ → Prop} {F : ξ → Prop} (hb : ∀ s M, I s M → SM (f s) M (fun u M' => sel (fun s' => I s' M') (fun x => E x M') u) (fun u => sel D F u)) (hd : ∀ s, D s → RP (whl f s) F) {s : σ} {M : mR} (hs : I s M) : SM (whl f s) M E F := by
  intro x z hx hz
  obtain ⟨n, hn⟩ := whl_ex hx
  clear hx
  induction n generalizing s M with
  | zero => cases hn
  | succ n ih =>
    unfold whlN at hn
    cases hf : f s with
    | none => rw [hf] at hn; cases hn
    | some u =>
      rw [hf] at hn
      rcases hb s M hs u z hf hz with ⟨M', a, b⟩ | ⟨a, b⟩
      · cases u with
        | inl s' => exact ih b a hn
        | inr x' => cases hn; exact Or.inl ⟨M', a, b⟩
      · cases u with
        | inl s' => exact Or.inr ⟨a, hd s' b x (whl_of hn)⟩
        | inr x' => cases hn; exact Or.inr ⟨a, b⟩
end SMS
/-- a step of both, behind which both go on -/
theorem RR_pq {α : Type} {X : Option (Int × Int × mR)} {Y : Option (Int × mR)} {G : Int × Int × mR → Int × mR → Prop} {P : α → mR → Prop} {B : α → Prop} {k1 : Int × Int × mR → Option α} {x1 : Int × Int × mR → α} {l : Int × mR → Option (Int × mR)} (h : RR X Y (fun y z => (y.1 = 0 ∧ G y z) ∨ (y.1 ≠ 0 ∧ 0 < z.2.1 10))) (hs : ∀ z, 0 < z.2.1 10 → RP (l z) (fun w => 0 < w.2.1 10)) (hx : ∀ y, y.1 ≠ 0 → B (x1 y)) (g : ∀ y z, y.1 = 0 → G y z → RR (k1 y) (l z) (PB P B)) : RR (bnd X fun y => if y.1 = 0 then k1 y else some (x1 y)) (bnd Y l) (PB P B) := by
  intro a w ha hw
  cases hX : X with
  | none => rw [hX] at ha; cases ha
  | some y =>
    cases hY : Y with
    | none => rw [hY] at hw; cases hw
    | some z =>
      rw [hX, bnd_some] at ha
      rw [hY, bnd_some] at hw
      rcases h y z hX hY with ⟨h1, h2⟩ | ⟨h1, h2⟩
      · rw [if_pos h1] at ha
        exact g y z h1 h2 a w ha hw
      · rw [if_neg h1] at ha
        cases ha
        exact Or.inr ⟨hs z h2 w hw, hx y h1⟩
/-- the class throws, the reference has its fault -/
theorem RR_xx {α : Type} {X : Option α} {Y : Option (Int × mR)} {P : α → mR → Prop} {B : α → Prop} (h1 : RP X B) (h2 : RP Y (fun z => 0 < z.2.1 10)) : RR X Y (PB P B) := fun y z hy hz => Or.inr ⟨h2 z hz, h1 y hy⟩
theorem thr_x {α : Type} {B : α → Prop} {k1 : Int × Int × mR → Option α} {x1 : Int × Int × mR → α} {X : Option (Int × Int × mR)} (h : RP X (fun y => y.1 ≠ 0)) (hx : ∀ y, y.1 ≠ 0 → B (x1 y)) : RP (bnd X fun y => if y.1 = 0 then k1 y else some (x1 y)) B := by
  refine RP_bnd h (fun y hy => ?_)
  rw [if_neg hy]
  exact RP_some (hx y hy)
section ADV
variable {K M : mR}
theorem next_8 (h : LR K M) (h0 : M.1 7 ≠ 0) : RP (rf_next M) (fun z => M.1 8 + 1 ≤ z.2.1 8) := by
  obtain ⟨hL, hX, hN, ho, hf⟩ := h
  obtain ⟨p, p1, p2, p3, p4⟩ := LX_end hX h0 hL.1
  have hp : M.1 8 + 1 ≤ p := by
    obtain ⟨b1, b2, b3⟩ := hX.2.2.2.2.2.1 h0
    omega
  unfold rf_next
  rw [if_pos (show M.1 10 ≤ 0 by omega), p2]
  refine RP_bnd (ws_r hL.1 p3 p4) (fun e he => ?_)
  obtain ⟨q, rfl, hr⟩ := he
  unfold rfl_next_60
  refine RP_bnd (u_rf_look _) (fun y hy => RP_some ?_)
  have e8 : y.2.1 8 = q := fr1 hy.1 8 rfl
  show M.1 8 + 1 ≤ y.2.1 8
  rw [e8]
  have := hr.1
  omega
/-- both at the next word -/
def AVP (K M : mR) (y : Int × Int × mR) (z : Int × mR) : Prop := LR y.2.2 z.2 ∧ fr kF_tx_advance kA_tx_advance K y.2.2 ∧ fr rF_next rA_next M z.2 ∧ M.1 8 + 1 ≤ z.2.1 8
theorem adv_s (h : LR K M) (h0 : M.1 7 ≠ 0) : RR (kf_tx_advance K) (rf_next M) (fun y z => (y.1 = 0 ∧ AVP K M y z) ∨ (y.1 ≠ 0 ∧ 0 < z.2.1 10)) := by
  intro y z hy hz
  rcases rr_adv h h0 y z hy hz with ⟨a, -, b⟩ | a
  · exact Or.inl ⟨a, b, u_kf_tx_advance K y hy, (u_rf_next M z hz).1, next_8 h h0 z hz⟩
  · exact Or.inr a
theorem exp_s (h : LR K M) {c : Int} (hc : (33 ≤ c ∧ c ≤ 126) ∨ (300 ≤ c ∧ c ≤ 330)) : RR (kf_tx_expect c K) (rf_need c M) (fun y z => (y.1 = 0 ∧ (LR y.2.2 z.2 ∧ fr kF_tx_expect kA_tx_expect K y.2.2 ∧ fr rF_need rA_need M z.2 ∧ M.1 8 + 1 ≤ z.2.1 8)) ∨ (y.1 ≠ 0 ∧ 0 < z.2.1 10)) := by
  intro y z hy hz
  rcases rr_exp h hc y z hy hz with ⟨a, -, b⟩ | a
  · refine Or.inl ⟨a, b, u_kf_tx_expect c K y hy, (u_rf_need c M z hz).1, ?_⟩
    have hf := h.2.2.2.2
    unfold rf_need at hz
    rw [if_pos (show M.1 10 ≤ 0 by omega)] at hz
    by_cases e : M.1 7 = c
    · rw [if_pos e] at hz
      exact RP_e (P := fun z : Int × mR => M.1 8 + 1 ≤ z.2.1 8) hz (RP_bnd (next_8 h (by omega)) (fun q hq => RP_some hq))
    · rw [if_neg e] at hz
      have : 0 < z.2.1 10 := RP_e (P := fun z : Int × mR => 0 < z.2.1 10) hz (RP_bnd (bad_1 M) (fun q hq => RP_some hq))
      have := b.2.2.2.2
      omega
  · exact Or.inr a
/-- with a node too many no word more is read -/
theorem adv_d (h : K.1 213 = 1) : RP (kf_tx_advance K) (fun y => y.1 ≠ 0) := by
  unfold kf_tx_advance
  rw [if_neg (by omega)]
  exact thr_x (x1 := fun y => (y.1, 0, y.2.2)) (fail_1 _ _ _) (fun y hy => hy)
theorem exp_d {c : Int} (h : K.1 213 = 1) : RP (kf_tx_expect c K) (fun y => y.1 ≠ 0) := by
  unfold kf_tx_expect kfl_tx_expect_12
  refine RP_ite (fun _ => ?_) (fun _ => thr_l (refuse_1 _))
  exact thr_x (x1 := fun y => (y.1, 0, y.2.2)) (adv_d h) (fun y hy => hy)
end ADV
/-- a frame more -/
def OPN (F : List Nat) (M M' : mR) (kd sg : Int) : Prop := fr F [76, 77, 78, 79, 80] M M' ∧ M'.1 73 = M.1 73 + 1 ∧ M'.2 76 = upI (M.2 76) (M.1 73) kd ∧ M'.2 78 = upI (M.2 78) (M.1 73) sg ∧ M'.2 79 = upI (M.2 79) (M.1 73) 0 ∧ (∀ j, 0 ≤ j → j < 9 → M'.2 80 (9 * M.1 73 + j) = -1) ∧ ∀ i, i < 9 * M.1 73 → M'.2 80 i = M.2 80 i
theorem open_r {M : mR} {kd pl sg : Int} (h0 : 0 ≤ M.1 73) (h1 : M.1 73 ≤ 1000) : RP (rf_open kd pl sg M) (fun z => OPN [73] M z.2 kd sg) := by
  unfold rf_open
  let M1 := mO M [] [(76, upI (M.2 76) (M.1 73) kd), (77, upI (M.2 77) (M.1 73) pl), (78, upI (M.2 78) (M.1 73) sg), (79, upI (M.2 79) (M.1 73) 0)]
  refine RP_bnd (P := fun e : mR => fr [] [80] M1 e ∧ (∀ j, 0 ≤ j → j < 9 → e.2 80 (9 * M.1 73 + j) = -1) ∧ ∀ i, i < 9 * M.1 73 → e.2 80 i = M.2 80 i) ?_ (fun e he => ?_)
  · refine RP_whl (I := fun s : Int × mR => 0 ≤ s.1 ∧ s.1 ≤ 9 ∧ fr [] [80] M1 s.2 ∧ (∀ j, 0 ≤ j → j < s.1 → s.2.2 80 (9 * M.1 73 + j) = -1) ∧ ∀ i, i < 9 * M.1 73 → s.2.2 80 i = M.2 80 i) (fun s hs => ?_) ⟨(show (0 : Int) ≤ 0 by decide), (show (0 : Int) ≤ 9 by decide), fr_0, fun j j0 j1 => absurd (show j < 0 from j1) (by omega), fun i _ => rfl⟩
    obtain ⟨a1, a2, a3, a4, a5⟩ := hs
    have e73 : s.2.1 73 = M.1 73 := fr1 a3 73 rfl
    unfold rfb_open_43
    refine RP_ite (fun g => RP_some ⟨a3, fun j j0 j1 => a4 j j0 (by omega), a5⟩) (fun g => ?_)
    rw [e73, cut_i (z := 9 * M.1 73) (by omega) (by omega), cut_i (z := 9 * M.1 73 + s.1) (by omega) (by omega), cut_i (z := s.1 + 1) (by omega) (by omega)]
    refine RP_some ⟨by show 0 ≤ s.1 + 1; omega, by show s.1 + 1 ≤ 9; omega, fr_m a3 rfl rfl, fun j j0 j1 => ?_, fun i hi => ?_⟩
    · have j1 : j < s.1 + 1 := j1
      show upI (s.2.2 80) (9 * M.1 73 + s.1) (-1) (9 * M.1 73 + j) = -1
      by_cases e : j = s.1
      · rw [e, upI_s]
      · rw [upI_n (by omega)]
        exact a4 j j0 (by omega)
    · show upI (s.2.2 80) (9 * M.1 73 + s.1) (-1) i = M.2 80 i
      rw [upI_n (by omega)]
      exact a5 i hi
  · obtain ⟨a1, a2, a3⟩ := he
    unfold rfl_open_72
    have e73 : e.1 73 = M.1 73 := fr1 a1 73 rfl
    refine RP_some ⟨fr_m (fr_s (u' := [73]) (v' := [76, 77, 78, 79, 80]) a1 (fr_m fr_0 rfl rfl) rfl rfl) rfl rfl, ?_, fr2 a1 76 rfl, fr2 a1 78 rfl, fr2 a1 79 rfl, a2, a3⟩
    show cut (e.1 73 + 1) = M.1 73 + 1
    rw [e73]
    exact cut_i (by omega) (by omega)
