/-! ===== THE PIPE: which rows stand in stages and in the line ===== -/
def SHp (g L : Int) (s0 s : Int → Int) : Prop := (∀ j, 0 ≤ j → j ≤ g → s j = s0 j) ∧ (∀ j, g < j → j ≤ L → s j = s0 (j - 1) ∨ s j < 0) ∧ (∀ j, L < j → s j = s0 j)
theorem SH_0 {g L : Int} {s : Int → Int} (h : g = L) : SHp g L s s := ⟨fun _ _ _ => rfl, fun j a b => absurd a (by omega), fun _ _ => rfl⟩
theorem SH_s {g g' L x : Int} {s0 s : Int → Int} (H : SHp g L s0 s) (h1 : 1 ≤ g) (h2 : g ≤ L) (hx : x = s (g - 1) ∨ x < 0) (e : g' = g - 1) : SHp g' L s0 (upI s g x) := by
  subst e
  obtain ⟨H1, H2, H3⟩ := H
  refine ⟨fun j a b => ?_, fun j a b => ?_, fun j a => ?_⟩
  · rw [upI_n (by omega)]
    exact H1 j a (by omega)
  · by_cases ej : j = g
    · rw [ej, upI_s]
      rcases hx with hx | hx
      · left
        rw [hx]
        exact H1 _ (by omega) (by omega)
      · exact Or.inr hx
    · rw [upI_n ej]
      exact H2 j (by omega) b
  · rw [upI_n (by omega)]
    exact H3 j a
theorem SH_z {g L : Int} {s0 s : Int → Int} (H : SHp g L s0 s) (e : g = 0) : SHp 0 L s0 s := by
  subst e
  exact H
def PIp (st en ca : Int) (s kd ln ex : Int → Int) : Prop := (0 ≤ en ∧ en ≤ ca ∧ ca ≤ en + 40) ∧
  (∀ g, 0 ≤ g → g < 12 → 0 ≤ s g → g < st ∧ (en - 1 - s g) % 128 ≤ g ∧ (kd (s g) = 0 → ln (s g) ≤ 128 ∧ ex (s g) ≤ ln (s g))) ∧
  (∀ g k, 0 ≤ g → g < k → k < 12 → 0 ≤ s g → 0 ≤ s k → s g ≠ s k) ∧
  (∀ r, 0 ≤ r → r < 128 → (r - en) % 128 < ca - en → kd r = 0 → ln r ≤ 128)
theorem PI_b {st en ca : Int} {s kd ln ex : Int → Int} (H : PIp st en ca s kd ln ex) : 0 ≤ en ∧ en ≤ ca ∧ ca ≤ en + 40 := H.1
theorem PI_lv {st en ca g : Int} {s kd ln ex : Int → Int} (H : PIp st en ca s kd ln ex) (h0 : 0 ≤ g) (h1 : g < 12) (h2 : 0 ≤ s g) : kd (s g) = 0 → ln (s g) ≤ 128 ∧ ex (s g) ≤ ln (s g) := (H.2.1 g h0 h1 h2).2.2
theorem PI_en {st en ca L : Int} {s kd ln ex ln1 : Int → Int} (H : PIp st en ca s kd ln ex) (hl : ∀ v, v ≠ s L → ln1 v = ln v) (h0 : 0 ≤ L) (h1 : L < 12) (he : en < ca) : kd (en % 128) = 0 → ln1 (en % 128) ≤ 128 := by
  intro hk
  obtain ⟨⟨a1, a2, a3⟩, H2, H3, H4⟩ := H
  have hne : en % 128 ≠ s L := by
    intro e
    have := (H2 L h0 h1 (by omega)).2.1
    rw [← e] at this
    omega
  rw [hl _ hne]
  exact H4 (en % 128) (by omega) (by omega) (by omega) hk
theorem PI_cy {st en ca L x en' : Int} {s0 s kd ln ex ln1 ex1 : Int → Int} (H : PIp st en ca s0 kd ln ex) (hL : L = st - 1) (hst : 1 ≤ st ∧ st ≤ 12) (hl : ∀ v, v ≠ s0 L → ln1 v = ln v) (hs : SHp 0 L s0 s)
    (hx : (x < 0 ∧ en' = en ∧ ex1 = ex) ∨ (x = en % 128 ∧ en < ca ∧ en' = en + 1 ∧ (∀ v, v ≠ x → ex1 v = ex v) ∧ (kd x = 0 → ex1 x ≤ ln1 x))) : PIp st en' ca (upI s 0 x) kd ln1 ex1 := by
  have hen := fun he => PI_en H hl (by omega) (by omega) he
  obtain ⟨⟨a1, a2, a3⟩, H2, H3, H4⟩ := H
  obtain ⟨S1, S2, S3⟩ := hs
  have hb : en ≤ en' ∧ en' ≤ en + 1 ∧ en' ≤ ca := by rcases hx with h | h <;> omega
  have hold : ∀ g, 1 ≤ g → g < 12 → 0 ≤ s g → g ≤ L ∧ s g = s0 (g - 1) := by
    intro g g1 g2 g3
    by_cases hg : g ≤ L
    · rcases S2 g (by omega) hg with h | h
      · exact ⟨hg, h⟩
      · omega
    · have e := S3 g (by omega)
      have := (H2 g (by omega) g2 (by omega)).1
      omega
  have hnx : ∀ g, 0 ≤ g → g < 12 → 0 ≤ s0 g → x < 0 ∨ x ≠ s0 g := by
    intro g g1 g2 g3
    rcases hx with h | h
    · exact Or.inl h.1
    · right
      intro e
      have := (H2 g g1 g2 g3).2.1
      have h1 := h.1
      omega
  have hnl : ∀ g, 0 ≤ g → g < L → 0 ≤ s0 g → s0 g ≠ s0 L := by
    intro g g1 g2 g3 e
    exact H3 g L g1 g2 (by omega) g3 (by omega) e
  refine ⟨by omega, fun g g1 g2 g3 => ?_, fun g k g1 g2 g3 g4 g5 => ?_, fun r r1 r2 r3 r4 => ?_⟩
  · by_cases hg : g = 0
    · subst hg
      rw [upI_s] at g3 ⊢
      rcases hx with h | ⟨h1, h2, h3, h4, h5⟩
      · omega
      · refine ⟨by omega, by omega, fun hk => ⟨?_, h5 hk⟩⟩
        have := hen h2
        rw [← h1] at this
        exact this hk
    · rw [upI_n hg] at g3 ⊢
      obtain ⟨e1, e2⟩ := hold g (by omega) g2 g3
      rw [e2] at g3 ⊢
      obtain ⟨b1, b2, b3⟩ := H2 (g - 1) (by omega) (by omega) g3
      have e3 := hl _ (hnl (g - 1) (by omega) (by omega) g3)
      have e4 : ex1 (s0 (g - 1)) = ex (s0 (g - 1)) := by
        rcases hx with ⟨-, -, h⟩ | ⟨h1, -, -, h, -⟩
        · rw [h]
        · refine h _ (fun e => ?_)
          rcases hnx (g - 1) (by omega) (by omega) g3 with h9 | h9
          · omega
          · exact h9 e.symm
      rw [e3, e4]
      exact ⟨by omega, by omega, b3⟩
  · have hk : k ≠ 0 := by omega
    rw [upI_n hk] at g5 ⊢
    obtain ⟨e1, e2⟩ := hold k (by omega) g3 g5
    rw [e2] at g5 ⊢
    by_cases hg : g = 0
    · subst hg
      rw [upI_s] at g4 ⊢
      rcases hnx (k - 1) (by omega) (by omega) g5 with h9 | h9
      · omega
      · exact h9
    · rw [upI_n hg] at g4 ⊢
      obtain ⟨f1, f2⟩ := hold g (by omega) (by omega) g4
      rw [f2] at g4 ⊢
      exact H3 (g - 1) (k - 1) (by omega) (by omega) (by omega) g4 g5
  · have hr : r ≠ s0 L := by
      intro e
      have := (H2 L (by omega) (by omega) (by omega)).2.1
      rw [← e] at this
      omega
    rw [hl r hr]
    exact H4 r r1 r2 (by omega) r4
theorem PI_ad {st en ca ca' r : Int} {s s' kd ln ex kd' ln' ex' : Int → Int} (H : PIp st en ca s kd ln ex) (h0 : ∀ g, s' g = s g ∨ s' g < 0) (hr : r = ca % 128) (hc : ca - en < 40) (e : ca' = ca + 1) (h1 : ∀ v, v ≠ r → kd' v = kd v) (h2 : ∀ v, v ≠ r → ln' v = ln v) (h3 : ∀ v, v ≠ r → ex' v = ex v) (h4 : kd' r = 0 → ln' r ≤ 128) : PIp st en ca' s' kd' ln' ex' := by
  subst e
  obtain ⟨⟨a1, a2, a3⟩, H2, H3, H4⟩ := H
  refine ⟨by omega, fun g g1 g2 g3 => ?_, fun g k g1 g2 g3 g4 g5 => ?_, fun v v1 v2 v3 v4 => ?_⟩
  · have eg : s' g = s g := (h0 g).resolve_right (by omega)
    rw [eg] at g3 ⊢
    obtain ⟨b1, b2, b3⟩ := H2 g g1 g2 g3
    have hne : s g ≠ r := by
      intro e
      rw [e] at b2
      omega
    rw [h1 _ hne, h2 _ hne, h3 _ hne]
    exact ⟨b1, b2, b3⟩
  · have e1 : s' g = s g := (h0 g).resolve_right (by omega)
    have e2 : s' k = s k := (h0 k).resolve_right (by omega)
    rw [e1] at g4 ⊢
    rw [e2] at g5 ⊢
    exact H3 g k g1 g2 g3 g4 g5
  · by_cases hv : v = r
    · subst hv
      exact h4 v4
    · rw [h1 v hv] at v4
      rw [h2 v hv]
      exact H4 v v1 v2 (by omega) v4
theorem PI_0 {st : Int} {s kd ln ex : Int → Int} (h : ∀ g, 0 ≤ g → g < 12 → s g = -1) : PIp st 0 0 s kd ln ex := ⟨by omega, fun g a b c => by have := h g a b; omega, fun g k a b c d e => by have := h g a (by omega); omega, fun r a b c => by omega⟩
theorem PI_st {st st' en ca : Int} {s kd ln ex : Int → Int} (H : PIp st en ca s kd ln ex) (h : st ≤ st') : PIp st' en ca s kd ln ex := ⟨H.1, fun g a b c => by
  obtain ⟨b1, b2, b3⟩ := H.2.1 g a b c
  exact ⟨by omega, b2, b3⟩, H.2.2⟩
theorem TL_u {n b b' : Int} {ct ls : Int → Int} (H : TLp n ct ls b) (h : b ≤ b') : TLp n ct ls b' := fun u a c i a2 c2 => Int.lt_of_lt_of_le (H u a c i a2 c2) h
