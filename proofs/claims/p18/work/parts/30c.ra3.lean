/-! ===== the class's lexer ===== -/
theorem mO_pc (K : mR) (k : Nat) {l : List (Nat × Int)} {a : List (Nat × (Int → Int))} (hk : nin (l.map Prod.fst) k = true) : mO K ((k, K.1 k) :: l) a = mO K l a := by
  unfold mO
  refine Prod.ext ?_ rfl
  funext j
  show (if k = j then K.1 k else olk l j (K.1 j)) = olk l j (K.1 j)
  split
  · rename_i e
    subst e
    exact (olk_nin _ hk).symm
  · rfl
def KSRC (K : mR) : Prop := 0 ≤ K.1 204 ∧ K.1 204 ≤ 4000 ∧ ∀ i, -128 ≤ K.2 1 i ∧ K.2 1 i ≤ 127
theorem ws_k {K : mR} (hS : KSRC K) {p : Int} (p0 : 0 ≤ p) (p1 : p ≤ K.1 204) : RP (whl kfb_tx_advance_16 (mO K [(205, p)] [])) (fun e => ∃ q, e = mO K [(205, q)] [] ∧ Run (fun i => wsP (K.2 1 i)) (K.1 204) p q) := by
  obtain ⟨s0, s1, s2⟩ := hS
  refine RP_whl (I := fun s => ∃ q, s = mO K [(205, q)] [] ∧ p ≤ q ∧ q ≤ K.1 204 ∧ ∀ i, p ≤ i → i < q → wsP (K.2 1 i)) (fun s hs => ?_) ⟨p, rfl, by omega, p1, fun i h1 h2 => by omega⟩
  obtain ⟨q, rfl, q0, q1, qa⟩ := hs
  unfold kfb_tx_advance_16 kfl_tx_advance_55
  rw [show (mO K [(205, q)] []).1 205 = q from rfl, show (mO K [(205, q)] []).1 204 = K.1 204 from rfl, show (mO K [(205, q)] []).2 1 = K.2 1 from rfl]
  have step : wsP (K.2 1 q) → q < K.1 204 → RP (some (Sum.inl (mO (mO K [(205, q)] []) [(205, cut (q + 1))] [])) : Option (Sum mR mR)) (sel (fun s => ∃ q, s = mO K [(205, q)] [] ∧ p ≤ q ∧ q ≤ K.1 204 ∧ ∀ i, p ≤ i → i < q → wsP (K.2 1 i)) (fun e => ∃ q, e = mO K [(205, q)] [] ∧ Run (fun i => wsP (K.2 1 i)) (K.1 204) p q)) := by
    intro hw hq
    refine RP_some ⟨q + 1, ?_, by omega, by omega, fun i h1 h2 => ?_⟩
    · rw [mO_f, cut_i (by omega) (by omega)]
      rfl
    · by_cases h3 : i < q
      · exact qa i h1 h3
      · rw [show i = q by omega]
        exact hw
  refine RP_ite (fun h => ?_) (fun h => ?_)
  · exact RP_some ⟨q, rfl, q0, q1, qa, fun hq => absurd h (by omega)⟩
  · refine RP_ite (fun g => step (Or.inl g) (by omega)) (fun g => ?_)
    refine RP_ite (fun g2 => step (Or.inr g2) (by omega)) (fun g2 => ?_)
    refine RP_some ⟨q, rfl, q0, q1, qa, fun hq hw => ?_⟩
    rcases hw with hw | hw
    · exact g hw
    · exact g2 hw
def lx_nI (K : mR) (p : Int) (s : Int × mR) : Prop := ∃ q h l, s.2 = mO K [(205, q), (209, h), (210, l)] [] ∧ p ≤ q ∧ q ≤ K.1 204 ∧ (∀ i, p ≤ i → i < q → namP (K.2 1 i)) ∧ PK h l (fun i => K.2 1 (p + i)) (q - p) ∧ R64 h ∧ R64 l ∧ (s.1 = 1 ∨ (s.1 = 0 ∧ (q < K.1 204 → ¬ namP (K.2 1 q))))
def lx_nE (K : mR) (p : Int) (e : mR) : Prop := ∃ q h l, e = mO K [(205, q), (209, h), (210, l)] [] ∧ Run (fun i => namP (K.2 1 i)) (K.1 204) p q ∧ PK h l (fun i => K.2 1 (p + i)) (q - p) ∧ R64 h ∧ R64 l
theorem lx_nk72 {K : mR} (hS : KSRC K) {p q h l : Int} (h7 : K.1 207 = p) (p0 : 0 ≤ p) (q0 : p ≤ q) (q1 : q < K.1 204) (qa : ∀ i, p ≤ i → i < q → namP (K.2 1 i)) (hp : PK h l (fun i => K.2 1 (p + i)) (q - p)) (rh : R64 h) (rl : R64 l) (hn : namP (K.2 1 q)) : RP (kfl_tx_scanName_72 (K.2 1 q) 1 (mO K [(205, q), (209, h), (210, l)] [])) (sel (lx_nI K p) (lx_nE K p)) := by
  obtain ⟨s0, s1, s2⟩ := hS
  have hc : 0 < K.2 1 q ∧ K.2 1 q < 128 := by
    rcases hn with h1 | h1 | h1
    · exact ⟨by have := h1.1; omega, by have := h1.2; omega⟩
    · exact ⟨by have := h1.1; omega, by have := h1.2; omega⟩
    · omega
  have ec : cut ((mO K [(205, q), (209, h), (210, l)] []).1 205 - (mO K [(205, q), (209, h), (210, l)] []).1 207) = q - p := by
    show cut (q - K.1 207) = q - p
    rw [h7, cut_i (by omega) (by omega)]
  have fin : ∀ h' l', PK h' l' (fun i => K.2 1 (p + i)) (q + 1 - p) → R64 h' → R64 l' → RP (some (Sum.inl ((1 : Int), mO (mO (mO K [(205, q), (209, h), (210, l)] []) [(209, h')] []) [(205, cut ((mO (mO K [(205, q), (209, h), (210, l)] []) [(209, h')] []).1 205 + 1)), (210, l')] [])) : Option (Sum (Int × mR) mR)) (sel (lx_nI K p) (lx_nE K p)) := by
    intro h' l' hpk r1 r2
    refine RP_some ⟨q + 1, h', l', ?_, by omega, by omega, fun i i1 i2 => ?_, hpk, r1, r2, Or.inl rfl⟩
    · show mO (mO (mO K [(205, q), (209, h), (210, l)] []) [(209, h')] []) [(205, cut (q + 1)), (210, l')] [] = _
      rw [mO_f, mO_mO _ _ _ _ _ (srt_ok rfl) (srt_ok rfl), cut_i (by omega) (by omega)]
      rfl
    · by_cases h3 : i < q
      · exact qa i i1 h3
      · rw [show i = q by omega]
        exact hn
  have hf : 0 ≤ (fun i => K.2 1 (p + i)) (q - p) ∧ (fun i => K.2 1 (p + i)) (q - p) < 128 := by
    show 0 ≤ K.2 1 (p + (q - p)) ∧ K.2 1 (p + (q - p)) < 128
    rw [show p + (q - p) = q by omega]
    omega
  have ef : K.2 1 (p + (q - p)) = K.2 1 q := by
    rw [show p + (q - p) = q by omega]
  unfold kfl_tx_scanName_72
  rw [if_neg (by decide), ec]
  unfold kfl_tx_scanName_112 kfl_tx_scanName_146 kfl_tx_scanName_147 kfl_tx_scanName_161
  by_cases h8 : q - p < 8
  · rw [if_neg (by omega), if_pos h8, cut_i (z := 8 * (q - p)) (by omega) (by omega), cut_i (z := 56 - 8 * (q - p)) (by omega) (by omega)]
    have e1 := pkH_s (b := 0) hp.1 (by omega) (by omega) hf
    rw [ef, show 8 * (0 + 7 - (q - p)) = 56 - 8 * (q - p) by omega, show q - p + 1 = q + 1 - p by omega] at e1
    have e2 := pkH_o hp.2 (Or.inl (show q - p < 8 by omega))
    rw [show q - p + 1 = q + 1 - p by omega] at e2
    exact fin _ _ ⟨e1, e2⟩ t64_r t64_r
  · rw [if_pos (by omega), if_neg h8]
    have e1 := pkH_o hp.1 (Or.inr (show (0 : Int) + 8 ≤ q - p by omega))
    rw [show q - p + 1 = q + 1 - p by omega] at e1
    by_cases h16 : 16 ≤ q - p
    · rw [if_pos h16]
      have e2 := pkH_o hp.2 (Or.inr (show (8 : Int) + 8 ≤ q - p by omega))
      rw [show q - p + 1 = q + 1 - p by omega] at e2
      exact fin _ _ ⟨e1, e2⟩ t64_r t64_r
    · rw [if_neg h16, cut_i (z := 8 * (q - p)) (by omega) (by omega), cut_i (z := 120 - 8 * (q - p)) (by omega) (by omega)]
      have e2 := pkH_s (b := 8) hp.2 (by omega) (by omega) hf
      rw [ef, show 8 * (8 + 7 - (q - p)) = 120 - 8 * (q - p) by omega, show q - p + 1 = q + 1 - p by omega] at e2
      exact fin _ _ ⟨e1, e2⟩ t64_r t64_r
theorem lx_nk {K : mR} (hS : KSRC K) {p : Int} (h5 : K.1 205 = p) (h7 : K.1 207 = p) (p0 : 0 ≤ p) (p1 : p ≤ K.1 204) : RP (kf_tx_scanName K) (fun z => lx_nE K p z.2) := by
  unfold kf_tx_scanName
  refine RP_bnd (P := lx_nE K p) ?_ (fun e he => RP_some he)
  refine RP_whl (I := lx_nI K p) (fun s hs => ?_) ⟨p, 0, 0, ?_, by omega, p1, fun i h1 h2 => by omega, ?_, ⟨by decide, by decide⟩, ⟨by decide, by decide⟩, Or.inl rfl⟩
  · obtain ⟨more, r⟩ := s
    obtain ⟨q, h, l, e, q0, q1, qa, hp, rh, rl, hm⟩ := hs
    have e : r = mO K [(205, q), (209, h), (210, l)] [] := e
    subst e
    unfold kfb_tx_scanName_12
    show RP (if more = 0 then some (Sum.inr (mO K [(205, q), (209, h), (210, l)] [])) else if K.1 204 ≤ q then some (Sum.inr (mO K [(205, q), (209, h), (210, l)] [])) else if K.2 1 q < 97 then kfl_tx_scanName_49 (K.2 1 q) (mO K [(205, q), (209, h), (210, l)] []) else if K.2 1 q ≤ 122 then kfl_tx_scanName_67 (K.2 1 q) (mO K [(205, q), (209, h), (210, l)] []) else kfl_tx_scanName_49 (K.2 1 q) (mO K [(205, q), (209, h), (210, l)] [])) _
    refine RP_ite (fun h0 => ?_) (fun h0 => ?_)
    · rcases hm with hm | hm
      · exact absurd (show more = 1 from hm) (by omega)
      · exact RP_some ⟨q, h, l, rfl, ⟨q0, q1, qa, hm.2⟩, hp, rh, rl⟩
    · refine RP_ite (fun h1 => ?_) (fun h1 => ?_)
      · exact RP_some ⟨q, h, l, rfl, ⟨q0, q1, qa, fun g => absurd h1 (by omega)⟩, hp, rh, rl⟩
      · have yes : namP (K.2 1 q) → RP (kfl_tx_scanName_67 (K.2 1 q) (mO K [(205, q), (209, h), (210, l)] [])) (sel (lx_nI K p) (lx_nE K p)) := fun hn => lx_nk72 hS h7 p0 q0 (by omega) qa hp rh rl hn
        have no : ¬ namP (K.2 1 q) → RP (kfl_tx_scanName_72 (K.2 1 q) 0 (mO K [(205, q), (209, h), (210, l)] [])) (sel (lx_nI K p) (lx_nE K p)) := by
          intro hn
          unfold kfl_tx_scanName_72 kfl_tx_scanName_161
          rw [if_pos rfl]
          exact RP_some ⟨q, h, l, rfl, q0, q1, qa, hp, rh, rl, Or.inr ⟨rfl, fun _ => hn⟩⟩
        have rest : ¬ smallP (K.2 1 q) → RP (kfl_tx_scanName_49 (K.2 1 q) (mO K [(205, q), (209, h), (210, l)] [])) (sel (lx_nI K p) (lx_nE K p)) := by
          intro hs
          unfold kfl_tx_scanName_49 kfl_tx_scanName_61
          refine RP_ite (fun g1 => ?_) (fun g1 => ?_)
          · refine RP_ite (fun g2 => yes (Or.inr (Or.inr g2))) (fun g2 => no (fun hn => ?_))
            rcases hn with hn | hn | hn
            · exact hs hn
            · have := hn.1; omega
            · exact g2 hn
          · refine RP_ite (fun g2 => yes (Or.inr (Or.inl ⟨by omega, g2⟩))) (fun g2 => ?_)
            refine RP_ite (fun g3 => yes (Or.inr (Or.inr g3))) (fun g3 => no (fun hn => ?_))
            rcases hn with hn | hn | hn
            · exact hs hn
            · have := hn.2; omega
            · exact g3 hn
        refine RP_ite (fun g1 => rest (fun hs => by have := hs.1; omega)) (fun g1 => ?_)
        exact RP_ite (fun g2 => yes (Or.inl ⟨by omega, g2⟩)) (fun g2 => rest (fun hs => by have := hs.2; omega))
  · show mO K [(209, 0), (210, 0)] [] = mO K [(205, p), (209, 0), (210, 0)] []
    rw [← h5]
    exact (mO_pc K 205 rfl).symm
  · rw [show p - p = 0 by omega]
    exact PK_0 _
theorem dc_k {K : mR} (hS : KSRC K) {p : Int} (h5 : K.1 205 = p) (p0 : 0 ≤ p) (p1 : p ≤ K.1 204) : RP (whl kfb_tx_scanDecimal_5 (mO K [(208, 0)] [])) (fun e => ∃ n : Nat, e = mO K [(205, p + n), (208, decV (K.2 1) p n)] [] ∧ Run (fun i => digP (K.2 1 i)) (K.1 204) p (p + n)) := by
  obtain ⟨s0, s1, s2⟩ := hS
  refine RP_whl (I := fun s => ∃ n : Nat, s = mO K [(205, p + n), (208, decV (K.2 1) p n)] [] ∧ p + n ≤ K.1 204 ∧ ∀ i, p ≤ i → i < p + n → digP (K.2 1 i)) (fun s hs => ?_) ⟨0, ?_, by omega, fun i h1 h2 => by omega⟩
  · obtain ⟨n, rfl, q1, qa⟩ := hs
    unfold kfb_tx_scanDecimal_5
    rw [show (mO K [(205, p + n), (208, decV (K.2 1) p n)] []).1 205 = p + n from rfl, show (mO K [(205, p + n), (208, decV (K.2 1) p n)] []).1 204 = K.1 204 from rfl, show (mO K [(205, p + n), (208, decV (K.2 1) p n)] []).2 1 = K.2 1 from rfl, show (mO K [(205, p + n), (208, decV (K.2 1) p n)] []).1 208 = decV (K.2 1) p n from rfl]
    have fin : (p + n < K.1 204 → ¬ digP (K.2 1 (p + n))) → RP (some (Sum.inr (mO K [(205, p + n), (208, decV (K.2 1) p n)] [])) : Option (Sum mR mR)) (sel (fun s => ∃ n : Nat, s = mO K [(205, p + n), (208, decV (K.2 1) p n)] [] ∧ p + n ≤ K.1 204 ∧ ∀ i, p ≤ i → i < p + n → digP (K.2 1 i)) (fun e => ∃ n : Nat, e = mO K [(205, p + n), (208, decV (K.2 1) p n)] [] ∧ Run (fun i => digP (K.2 1 i)) (K.1 204) p (p + n))) := fun hn => RP_some ⟨n, rfl, by omega, q1, qa, hn⟩
    refine RP_ite (fun h => fin (fun g => absurd h (by omega))) (fun h => ?_)
    refine RP_ite (fun h1 => fin (fun _ g => by have := g.1; omega)) (fun h1 => ?_)
    refine RP_ite (fun h2 => fin (fun _ g => by have := g.2; omega)) (fun h2 => ?_)
    refine RP_some ⟨n + 1, ?_, by omega, fun i i1 i2 => ?_⟩
    · rw [mO_mO _ _ _ _ _ (srt_ok rfl) (srt_ok rfl), cut_i (by omega) (by omega), cut_i (by omega) (by omega), i64_ca, Int.mul_comm, show p + n + 1 = p + ((n + 1 : Nat) : Int) by omega]
      rfl
    · by_cases h4 : i < p + n
      · exact qa i i1 h4
      · rw [show i = p + n by omega]
        exact ⟨by omega, by omega⟩
  · show mO K [(208, 0)] [] = mO K [(205, p + (0 : Nat)), (208, 0)] []
    rw [show p + ((0 : Nat) : Int) = K.1 205 by omega]
    exact (mO_pc K 205 rfl).symm
def hxI (K : mR) (p : Int) (s : Int × mR) : Prop := ∃ n : Nat, s.2 = mO K [(205, p + n), (208, hxV (K.2 1) p n)] [] ∧ p + n ≤ K.1 204 ∧ (∀ i, p ≤ i → i < p + n → hexP (K.2 1 i)) ∧ (s.1 = 1 ∨ (s.1 = 0 ∧ (p + n < K.1 204 → ¬ hexP (K.2 1 (p + n)))))
def hxE (K : mR) (p : Int) (e : mR) : Prop := ∃ n : Nat, e = mO K [(205, p + n), (208, hxV (K.2 1) p n)] [] ∧ Run (fun i => hexP (K.2 1 i)) (K.1 204) p (p + n)
theorem hx_k {K : mR} (hS : KSRC K) {p : Int} (p0 : 0 ≤ p) (p1 : p ≤ K.1 204) : RP (whl kfb_tx_scanHex_17 (1, mO K [(205, p), (208, 0)] [])) (hxE K p) := by
  obtain ⟨s0, s1, s2⟩ := hS
  refine RP_whl (I := hxI K p) (fun s hs => ?_) ⟨0, ?_, by omega, fun i h1 h2 => by omega, Or.inl rfl⟩
  · obtain ⟨more, r⟩ := s
    obtain ⟨n, e, q1, qa, hm⟩ := hs
    have e : r = mO K [(205, p + n), (208, hxV (K.2 1) p n)] [] := e
    subst e
    unfold kfb_tx_scanHex_17
    show RP (if more = 0 then some (Sum.inr (mO K [(205, p + n), (208, hxV (K.2 1) p n)] [])) else if K.1 204 ≤ p + n then some (Sum.inr (mO K [(205, p + n), (208, hxV (K.2 1) p n)] [])) else if K.2 1 (p + n) < 48 then kfl_tx_scanHex_58 (K.2 1 (p + n)) (mO K [(205, p + n), (208, hxV (K.2 1) p n)] []) else if (57 : Int) < K.2 1 (p + n) then kfl_tx_scanHex_58 (K.2 1 (p + n)) (mO K [(205, p + n), (208, hxV (K.2 1) p n)] []) else kfl_tx_scanHex_59 (K.2 1 (p + n)) 1 (mO K [(205, p + n), (208, hxV (K.2 1) p n)] [])) _
    refine RP_ite (fun h0 => ?_) (fun h0 => ?_)
    · rcases hm with hm | hm
      · exact absurd (show more = 1 from hm) (by omega)
      · exact RP_some ⟨n, rfl, by omega, q1, qa, hm.2⟩
    · refine RP_ite (fun h1 => RP_some ⟨n, rfl, by omega, q1, qa, fun g => absurd h1 (by omega)⟩) (fun h1 => ?_)
      have yes : ∀ x, hexP (K.2 1 (p + n)) → hexV (K.2 1 (p + n)) = x → RP (some (Sum.inl ((1 : Int), mO (mO K [(205, p + n), (208, hxV (K.2 1) p n)] []) [(205, cut ((mO K [(205, p + n), (208, hxV (K.2 1) p n)] []).1 205 + 1)), (208, or64 (shl64 ((mO K [(205, p + n), (208, hxV (K.2 1) p n)] []).1 208) 4) x)] [])) : Option (Sum (Int × mR) mR)) (sel (hxI K p) (hxE K p)) := by
        intro x hn hx
        subst hx
        refine RP_some ⟨n + 1, ?_, by omega, fun i i1 i2 => ?_, Or.inl rfl⟩
        · show mO (mO K [(205, p + n), (208, hxV (K.2 1) p n)] []) [(205, cut (p + n + 1)), (208, or64 (shl64 (hxV (K.2 1) p n) 4) (hexV (K.2 1 (p + n))))] [] = _
          rw [mO_mO _ _ _ _ _ (srt_ok rfl) (srt_ok rfl), cut_i (by omega) (by omega), show p + n + 1 = p + ((n + 1 : Nat) : Int) by omega]
          rfl
        · by_cases h4 : i < p + n
          · exact qa i i1 h4
          · rw [show i = p + n by omega]
            exact hn
      have no : ∀ v3, ¬ hexP (K.2 1 (p + n)) → RP (kfl_tx_scanHex_81 (K.2 1 (p + n)) v3 0 (mO K [(205, p + n), (208, hxV (K.2 1) p n)] [])) (sel (hxI K p) (hxE K p)) := by
        intro v3 hn
        unfold kfl_tx_scanHex_81 kfl_tx_scanHex_126
        rw [if_pos rfl]
        exact RP_some ⟨n, rfl, q1, qa, Or.inr ⟨rfl, fun _ => hn⟩⟩
      have nd : ¬ digP (K.2 1 (p + n)) → RP (kfl_tx_scanHex_58 (K.2 1 (p + n)) (mO K [(205, p + n), (208, hxV (K.2 1) p n)] [])) (sel (hxI K p) (hxE K p)) := by
        intro hd
        unfold kfl_tx_scanHex_58 kfl_tx_scanHex_59 kfl_tx_scanHex_80 kfl_tx_scanHex_76
        rw [if_pos rfl]
        refine RP_ite (fun g1 => no 0 (fun hn => ?_)) (fun g1 => ?_)
        · rcases hn with hn | hn
          · exact hd hn
          · omega
        · refine RP_ite (fun g2 => no 0 (fun hn => ?_)) (fun g2 => ?_)
          · rcases hn with hn | hn
            · exact hd hn
            · omega
          · unfold kfl_tx_scanHex_81 kfl_tx_scanHex_111 kfl_tx_scanHex_126
            rw [if_neg (by decide), if_pos rfl]
            refine yes _ (Or.inr ⟨by omega, by omega⟩) ?_
            unfold hexV
            rw [if_neg (by omega), cut_i (z := K.2 1 (p + n) - 97) (by omega) (by omega), cut_i (by omega) (by omega)]
            omega
      refine RP_ite (fun g1 => nd (fun hd => by have := hd.1; omega)) (fun g1 => ?_)
      refine RP_ite (fun g2 => nd (fun hd => by have := hd.2; omega)) (fun g2 => ?_)
      unfold kfl_tx_scanHex_59 kfl_tx_scanHex_76 kfl_tx_scanHex_81 kfl_tx_scanHex_111 kfl_tx_scanHex_126
      rw [if_neg (by decide), if_neg (by decide), if_neg (by decide)]
      refine yes _ (Or.inl ⟨by omega, by omega⟩) ?_
      unfold hexV
      rw [if_pos (by omega), cut_i (by omega) (by omega)]
  · show mO K [(205, p), (208, 0)] [] = mO K [(205, p + ((0 : Nat) : Int)), (208, 0)] []
    rw [show p + ((0 : Nat) : Int) = p by omega]
