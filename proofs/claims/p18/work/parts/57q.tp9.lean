/-! ===== run: tables and line ===== -/
section TP9
variable {K M : mR}
theorem run_e {n b b' : Int} (h225 : 0 ≤ K.1 225 ∧ K.1 225 ≤ 1000) (n0 : 0 ≤ n) (n1 : n ≤ 100) (hS : 1 ≤ M.1 129) (hS2 : M.1 129 ≤ 12) (hc : 0 ≤ M.1 152 ∧ M.1 152 ≤ 500000) (hm : M.1 148 ≤ 500000) (hrow : ∀ r, 0 ≤ r → r < 128 → r < K.1 232 → 1 ≤ K.2 107 r) (h6 : ∀ g, K.2 106 g < 128) (hG : ∀ t, 0 ≤ t → t < M.1 26 → GVQ t K M) (h26 : M.1 26 ≤ 8) (h72 : ∀ t, 0 ≤ K.2 72 t ∧ K.2 72 t ≤ 4) (hH : ∀ t, 0 ≤ t → t < M.1 26 → 0 ≤ homeK K t ∧ homeK K t < M.1 129) (L1 : M.1 149 ≤ 40) (h : RTM K M) (hq : PQ20 K M) : RR (whl (kfb_pw_run_49 n b) (0, K)) (whl (rfb_run_46 n b') (0, M)) (fun e f => (RTM e f ∧ (f.1 128 = M.1 128 ∧ f.1 129 = M.1 129) ∧ ∀ g, e.2 106 g < 128) ∧ PQ20 e f) := by
  refine RR_whl (I := fun s t => RTI K M n s t ∧ PQ20 s.2 t.2 ∧ fr pgF rA_doFirst M t.2 ∧ t.2.1 149 ≤ 40) (fun s t hs => ?_) ⟨⟨rfl, ⟨Int.le_refl _, n0⟩, fr_0, h, ⟨hc.1, by show M.1 152 ≤ M.1 152 + 0; omega⟩, rfl, rfl, rfl, h6⟩, hq, fr_0, L1⟩
  obtain ⟨hs, hQ, fM, hL⟩ := hs
  refine RR_w (run_b (b := b) (b' := b') n1 hS hS2 hc hm hrow hs) (fun u v huv => ?_)
  obtain ⟨-, -, fK, hR, ⟨c0, c1⟩, m48, m29, m28, h6s⟩ := id hs
  rcases huv with ⟨-, rfl, rfl⟩ | ⟨-, y, M', m, W', rfl, rfl, hy, hI, hw, hmm, eW⟩
  · exact ⟨⟨hR, ⟨m28, m29⟩, h6s⟩, hQ⟩
  · obtain ⟨r2, r3, r4, r5, r6, r7, r8, hT⟩ := id hR
    obtain ⟨-, -, -, hR', ⟨c0', c1'⟩, -, m29', -, -⟩ := id hI
    have hT' := hR'.2.2.2.2.2.2.2
    have e26 : t.2.1 26 = M.1 26 := fr1 fM 26 rfl
    have hh : ∀ t', homeK s.2 t' = homeK K t' := fun t' => home_c (fr1 fK 225 rfl) (fr2 fK 55 rfl) (fr2 fK 59 rfl)
    have e152 : M'.1 152 = t.2.1 152 + 1 := by rcases hmm with ⟨-, z, -, q⟩ | ⟨-, q⟩ <;> rw [q] <;> rfl
    have hT' : TMv (M'.1 129) (M'.1 152) (M'.1 151) (M'.1 150) (skp y.2) (M'.2 167) := hT'
    have m29' : M'.1 129 = M.1 129 := m29'
    rw [e152, m29', eW] at hT'
    have m29 : t.2.1 129 = M.1 129 := m29
    have hT : TMv (t.2.1 129) (t.2.1 152) (t.2.1 151) (t.2.1 150) (skp s.2) (t.2.2 167) := hT
    rw [m29] at hT
    have Q := stp_q (S := M.1 129) (by rw [fr1 fK 225 rfl]; exact h225) hS hS2 (by show s.2.1 226 = _; omega) (fun t' t0 t1 => by
      rw [e26] at t1
      exact GVQ_f (hG t' t0 t1) fK fM (by decide +kernel) (by decide +kernel) (by decide +kernel)) (by rw [e26]; exact h26) (by rw [fr2 fK 72 rfl]; exact h72) (fun t' t0 t1 => by rw [hh]; exact hH t' t0 (by rw [e26] at t1; exact t1)) hT hT' r7 hL (by omega) (by rw [m29] at hw; exact hw) hmm hy hQ eW
    refine ⟨hI, Q, ?_, ?_⟩
    · have f0 : fr pgF rA_doFirst t.2 m := by
        rcases hw with ⟨-, q⟩ | ⟨-, -, -, q⟩ <;> rw [q]
        · exact fr_0
        · exact fr_m fr_0 rfl rfl
      have f1 : fr pgF rA_doFirst m M' := by
        rcases hmm with ⟨-, z, hz, q⟩ | ⟨-, q⟩ <;> rw [q]
        · exact fr_m (fr_s (u_rf_doFirst m z hz) fr_0 (by decide +kernel) (by decide +kernel)) rfl rfl
        · exact fr_m fr_0 rfl rfl
      exact fr_s f1 (fr_s f0 fM (by decide +kernel) (by decide +kernel)) (by decide +kernel) (by decide +kernel)
    · have m149 : m.1 149 = t.2.1 149 := by rcases hw with ⟨-, q⟩ | ⟨-, -, -, q⟩ <;> rw [q] <;> rfl
      show M'.1 149 ≤ 40
      rcases hmm with ⟨p, z, hz, q⟩ | ⟨p, q⟩
      · have w : M'.1 149 = cut (m.1 149 - 1) := by
          rw [q]
          exact (df_0 m z hz).1.1
        rw [w, cut_i (by omega) (by omega)]
        omega
      · have w : M'.1 149 = m.1 149 := by rw [q]; rfl
        omega
end TP9
