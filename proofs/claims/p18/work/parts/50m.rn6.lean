/-! ===== read(): its frame in the reference, rows of headers below nought ===== -/
section RD6
variable {K M : mR}
def rrF : List Nat := [1, 5, 6, 7, 8, 9, 10, 11, 12, 13, 19, 20, 21, 22, 23, 24, 25, 26, 27, 28, 64, 69, 70, 71, 72, 73, 74, 75, 99, 100, 119, 125, 127, 128, 130, 148, 149, 150, 151, 152]
def rrA : List Nat := [4, 14, 15, 16, 17, 29, 30, 31, 32, 33, 34, 35, 36, 37, 38, 39, 40, 41, 42, 43, 44, 45, 46, 47, 48, 49, 50, 51, 52, 53, 54, 55, 56, 57, 58, 59, 60, 61, 62, 63, 65, 66, 67, 68, 76, 77, 78, 79, 80, 81, 82, 83, 84, 85, 86, 87, 88, 89, 90, 91, 92, 93, 94, 95, 96, 97, 98, 101, 102, 103, 104, 105, 106, 107, 108, 109, 110, 111, 112, 113, 114, 115, 116, 117, 118, 120, 121, 122, 123, 124, 126, 138, 139]
theorem newN_b {s n b : Int} : RP (rf_newName s n b M) (fun z => z.1 ≠ 0 → n ≠ b) := by
  unfold rf_newName
  refine RP_ite (fun g => RP_ite (fun _ => RP_ite (fun e => ?_) (fun e => RP_w (RP_T _) (fun _ _ _ => e))) (fun _ => ?_)) (fun g => RP_some (fun q => absurd rfl q))
  · refine RP_bnd (wrong_1 (by decide)) (fun y hy => ?_)
    unfold rfl_newName_58
    rw [if_neg (by omega)]
    exact RP_some (fun q => absurd rfl q)
  · refine RP_bnd (bad_1 M) (fun y hy => ?_)
    unfold rfl_newName_58
    rw [if_neg (by omega)]
    exact RP_some (fun q => absurd rfl q)
theorem hdr19_r (h0 : 0 ≤ M.1 19) (h1 : M.1 19 ≤ 12) : RP (rf_takeHeader M) (fun z => 0 ≤ z.2.1 19 ∧ z.2.1 19 ≤ 12) := by
  unfold rf_takeHeader rfl_takeHeader_4 rfl_takeHeader_20
  refine RP_bnd (u_rf_next M) (fun y hy => ?_)
  have e19 : y.2.1 19 = M.1 19 := fr1 hy.1 19 rfl
  refine RP_bnd (P := fun z : Int × mR => (z.1 ≠ 0 → y.2.1 19 ≠ 12) ∧ z.2.1 19 = M.1 19) (fun z hz => ⟨newN_b z hz, (fr1 (u_rf_newName _ _ _ y.2 z hz).1 19 rfl).trans e19⟩) (fun z hz => ?_)
  refine RP_ite (fun g => RP_some ?_) (fun g => RP_bnd (u_rf_need 123 _) (fun w hw => RP_w (u_rfl_takeHeader_59 _ _ w.2) (fun q hq => ?_)))
  · rw [hz.2]
    exact ⟨h0, h1⟩
  · have := hz.1 g
    have e : q.2.1 19 = cut (z.2.1 19 + 1) := (fr1 hq.1 19 rfl).trans (fr1 hw.1 19 rfl)
    rw [e, cut_i (by omega) (by omega)]
    omega
def N29 (M m : mR) : Prop := (0 ≤ m.1 19 ∧ m.1 19 ≤ 12) ∧ ∀ h, h < 0 → m.2 29 h = M.2 29 h
theorem N29_f {M m m' : mR} {F A : List Nat} (h : N29 M m) (f : fr F A m m') (c1 : chk [19] F = true) (c2 : chk [29] A = true) : N29 M m' := by
  unfold N29
  rw [fr1 f 19 (chk_1 c1 (by decide)), fr2 f 29 (chk_1 c2 (by decide))]
  exact h
theorem one29_r {m : mR} (h : N29 M m) : RP (rf_takeOne m) (fun z => N29 M z.2) := by
  unfold rf_takeOne
  refine RP_ite (fun _ => ?_) (fun _ => RP_ite (fun _ => RP_bnd (u_rf_takeUse m) (fun y hy => RP_some (N29_f h hy.1 rfl rfl))) (fun _ => RP_ite (fun _ => RP_bnd (u_rf_takeMeta m) (fun y hy => RP_some (N29_f h hy.1 rfl rfl))) (fun _ => RP_ite (fun _ => RP_bnd (u_rf_takeArray m) (fun y hy => RP_some (N29_f h hy.1 rfl rfl))) (fun _ => RP_ite (fun _ => RP_bnd (u_rf_takeState m) (fun y hy => RP_some (N29_f h hy.1 rfl rfl))) (fun _ => RP_ite (fun _ => RP_bnd (u_rf_takeAction m) (fun y hy => RP_some (N29_f h hy.1 rfl rfl))) (fun _ => RP_ite (fun _ => RP_bnd (u_rf_takeTable m) (fun y hy => RP_some (N29_f h hy.1 rfl rfl))) (fun _ => ?_)))))))
  · refine RP_bnd (P := fun z : Int × mR => (∀ h, h ≠ m.1 19 → z.2.2 29 h = m.2 29 h) ∧ (0 ≤ z.2.1 19 ∧ z.2.1 19 ≤ 12)) (fun z hz => ⟨hdr29_r z hz, hdr19_r h.1.1 h.1.2 z hz⟩) (fun y hy => RP_some ⟨hy.2, fun q hq => ?_⟩)
    show y.2.2 29 q = _
    rw [hy.1 q (by have := h.1.1; omega)]
    exact h.2 q hq
  · exact RP_ite (fun _ => RP_some h) (fun _ => RP_ite (fun _ => RP_some h) (fun _ => RP_ite (fun _ => RP_some h) (fun _ => RP_ite (fun _ => RP_some h) (fun _ => RP_some h))))
theorem rd182_9 (m : mR) : RP (rfl_read_182 m) (fun z => z.2.2 29 = m.2 29) := by
  have t219 : ∀ m : mR, RP (rfl_read_219 m) (fun z => z.2.2 29 = m.2 29) := fun m => RP_w (rd219_u m) (fun z hz => fr2 hz.1 29 rfl)
  have t208 : ∀ m : mR, RP (rfl_read_208 m) (fun z => z.2.2 29 = m.2 29) := by
    intro m
    unfold rfl_read_208
    exact RP_ite (fun _ => RP_bnd (u_rf_checkStates m) (fun y hy => RP_w (t219 y.2) (fun z hz => hz.trans (fr2 hy.1 29 rfl)))) (fun _ => t219 m)
  unfold rfl_read_182 rfl_read_186 rfl_read_190
  refine RP_bnd (u_rf_takeControl m) (fun y hy => RP_bnd (u_rf_takeEmit y.2) (fun w hw => ?_))
  have e : w.2.2 29 = m.2 29 := (fr2 hw.1 29 rfl).trans (fr2 hy.1 29 rfl)
  exact RP_ite (fun _ => RP_ite (fun _ => RP_w (t208 w.2) (fun z hz => hz.trans e)) (fun _ => RP_bnd (u_rf_bad w.2) (fun x hx => RP_w (t208 x.2) (fun z hz => (hz.trans (fr2 hx.1 29 rfl)).trans e)))) (fun _ => RP_w (t208 w.2) (fun z hz => hz.trans e))
theorem read_rf : RP (rf_read M) (fun z => fr rrF rrA M z.2 ∧ ∀ h, h < 0 → z.2.2 29 h = M.2 29 h) := by
  unfold rf_read
  have lp1 : RP (whl rfb_read_15 (0, mO M [(5, 0), (6, M.1 5)] [])) (fun e => fr [5, 6] [4] M e) := by
    refine RP_whl (I := fun s : Int × mR => fr [5, 6] [4] M s.2) (fun s hs => ?_) (fr_m fr_0 rfl rfl)
    unfold rfb_read_15
    exact RP_ite (fun _ => RP_some hs) (fun _ => RP_some (fr_m hs rfl rfl))
  refine RP_bnd lp1 (fun e he => ?_)
  unfold rfl_read_41
  have lp2 : RP (whl rfb_read_88 (0, mO e [(8, 0), (9, 0), (10, 0), (11, (-1)), (13, 0), (19, 0), (20, 0), (21, 3), (127, 0)] [])) (fun g => fr [5, 6, 8, 9, 10, 11, 13, 19, 20, 21, 127] [4, 35] M g ∧ g.1 19 = 0) := by
    refine RP_whl (I := fun s : Int × mR => fr [5, 6, 8, 9, 10, 11, 13, 19, 20, 21, 127] [4, 35] M s.2 ∧ s.2.1 19 = 0) (fun s hs => ?_) ⟨fr_m (fr_s he fr_0 rfl rfl) rfl rfl, rfl⟩
    unfold rfb_read_88
    exact RP_ite (fun _ => RP_some hs) (fun _ => RP_some ⟨fr_m hs.1 rfl rfl, hs.2⟩)
  refine RP_bnd lp2 (fun g hg => ?_)
  unfold rfl_read_107
  refine RP_bnd (u_rf_begin _) (fun b hb => ?_)
  have fb : fr rrF rrA M b.2 := fr_s hb.1 (fr_m (fr_s hg.1 fr_0 rfl rfl) rfl rfl) rfl rfl
  have nb : N29 M b.2 := by
    refine ⟨?_, fun h hh => ?_⟩
    · rw [fr1 hb.1 19 rfl]
      show 0 ≤ g.1 19 ∧ g.1 19 ≤ 12
      rw [hg.2]
      decide
    · rw [fr2 hb.1 29 rfl]
      show g.2 29 h = _
      rw [fr2 hg.1 29 rfl]
  unfold rfl_read_156
  refine RP_bnd (u_rf_next b.2) (fun x hx => ?_)
  refine RP_bnd (P := fun w : mR => fr rrF rrA M w ∧ N29 M w) (RP_whl (I := fun w : mR => fr rrF rrA M w ∧ N29 M w) (fun s hs => ?_) ⟨fr_s hx.1 fb rfl rfl, N29_f nb hx.1 rfl rfl⟩) (fun w hw => ?_)
  · unfold rfb_read_160 rfl_read_171
    refine RP_ite (fun _ => RP_bnd (P := fun z : Int × mR => UR rF_takeOne rA_takeOne s z.2 ∧ N29 M z.2) (fun z hz => ⟨u_rf_takeOne s z hz, one29_r hs.2 z hz⟩) (fun y hy => ?_)) (fun _ => RP_some hs)
    have f : fr rrF rrA M y.2 := fr_s hy.1.1 hs.1 rfl rfl
    exact RP_ite (fun _ => RP_some ⟨f, hy.2⟩) (fun _ => RP_some ⟨fr_m f rfl rfl, hy.2⟩)
  · intro z hz
    refine ⟨fr_s (rd182_u w z hz).1 hw.1 rfl rfl, fun h hh => ?_⟩
    rw [rd182_9 w z hz]
    exact hw.2.2 h hh
end RD6
