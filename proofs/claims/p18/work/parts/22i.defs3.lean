/-- what the names stand for is there -/
def PN (n hd ins mt ar stt ac tb : Int) (so wh : Int → Int) : Prop := n ≤ hd + ins + (mt - 3) + ar + stt + ac + tb ∧ 3 ≤ mt ∧ ∀ k, 0 ≤ k → k < n → 0 ≤ wh k ∧ (so k = 1 → wh k < hd) ∧ (so k = 2 → wh k < ins) ∧ (so k = 3 → wh k < mt) ∧ (so k = 4 → wh k < ar) ∧ (so k = 5 → wh k < stt) ∧ (so k = 6 → wh k < ac) ∧ (so k = 7 → wh k < tb)
theorem PN_1 {n hd ins mt ar stt ac tb : Int} {so wh : Int → Int} (H : PN n hd ins mt ar stt ac tb so wh) (h0 : 0 ≤ hd) : PN (n + 1) (hd + 1) ins mt ar stt ac tb (upI so n 1) (upI wh n hd) := by
  refine ⟨by have := H.1; omega, by have := H.2.1; omega, fun k h1 h2 => ?_⟩
  by_cases e : k = n
  · subst e
    rw [upI_s, upI_s]
    omega
  · rw [upI_n e, upI_n e]
    have := H.2.2 k h1 (by omega)
    omega
theorem PN_2 {n hd ins mt ar stt ac tb : Int} {so wh : Int → Int} (H : PN n hd ins mt ar stt ac tb so wh) (h0 : 0 ≤ ins) : PN (n + 1) hd (ins + 1) mt ar stt ac tb (upI so n 2) (upI wh n ins) := by
  refine ⟨by have := H.1; omega, by have := H.2.1; omega, fun k h1 h2 => ?_⟩
  by_cases e : k = n
  · subst e
    rw [upI_s, upI_s]
    omega
  · rw [upI_n e, upI_n e]
    have := H.2.2 k h1 (by omega)
    omega
theorem PN_3 {n hd ins mt ar stt ac tb : Int} {so wh : Int → Int} (H : PN n hd ins mt ar stt ac tb so wh) (h0 : 0 ≤ mt) : PN (n + 1) hd ins (mt + 1) ar stt ac tb (upI so n 3) (upI wh n mt) := by
  refine ⟨by have := H.1; omega, by have := H.2.1; omega, fun k h1 h2 => ?_⟩
  by_cases e : k = n
  · subst e
    rw [upI_s, upI_s]
    omega
  · rw [upI_n e, upI_n e]
    have := H.2.2 k h1 (by omega)
    omega
theorem PN_4 {n hd ins mt ar stt ac tb : Int} {so wh : Int → Int} (H : PN n hd ins mt ar stt ac tb so wh) (h0 : 0 ≤ ar) : PN (n + 1) hd ins mt (ar + 1) stt ac tb (upI so n 4) (upI wh n ar) := by
  refine ⟨by have := H.1; omega, by have := H.2.1; omega, fun k h1 h2 => ?_⟩
  by_cases e : k = n
  · subst e
    rw [upI_s, upI_s]
    omega
  · rw [upI_n e, upI_n e]
    have := H.2.2 k h1 (by omega)
    omega
theorem PN_5 {n hd ins mt ar stt ac tb : Int} {so wh : Int → Int} (H : PN n hd ins mt ar stt ac tb so wh) (h0 : 0 ≤ stt) : PN (n + 1) hd ins mt ar (stt + 1) ac tb (upI so n 5) (upI wh n stt) := by
  refine ⟨by have := H.1; omega, by have := H.2.1; omega, fun k h1 h2 => ?_⟩
  by_cases e : k = n
  · subst e
    rw [upI_s, upI_s]
    omega
  · rw [upI_n e, upI_n e]
    have := H.2.2 k h1 (by omega)
    omega
theorem PN_6 {n hd ins mt ar stt ac tb : Int} {so wh : Int → Int} (H : PN n hd ins mt ar stt ac tb so wh) (h0 : 0 ≤ ac) : PN (n + 1) hd ins mt ar stt (ac + 1) tb (upI so n 6) (upI wh n ac) := by
  refine ⟨by have := H.1; omega, by have := H.2.1; omega, fun k h1 h2 => ?_⟩
  by_cases e : k = n
  · subst e
    rw [upI_s, upI_s]
    omega
  · rw [upI_n e, upI_n e]
    have := H.2.2 k h1 (by omega)
    omega
theorem PN_7 {n hd ins mt ar stt ac tb : Int} {so wh : Int → Int} (H : PN n hd ins mt ar stt ac tb so wh) (h0 : 0 ≤ tb) : PN (n + 1) hd ins mt ar stt ac (tb + 1) (upI so n 7) (upI wh n tb) := by
  refine ⟨by have := H.1; omega, by have := H.2.1; omega, fun k h1 h2 => ?_⟩
  by_cases e : k = n
  · subst e
    rw [upI_s, upI_s]
    omega
  · rw [upI_n e, upI_n e]
    have := H.2.2 k h1 (by omega)
    omega
theorem PNu_1 {n hd ins mt ar stt ac tb : Int} {so wh : Int → Int} (H : PN n hd ins mt ar stt ac tb so wh) {s v : Int} (hs : s ≠ 1) : ∀ k, 0 ≤ k → k < n + 1 → upI so n s k = 1 → 0 ≤ upI wh n v k ∧ upI wh n v k < hd := by
  intro k h1 h2 h3
  by_cases e : k = n
  · subst e
    rw [upI_s] at h3
    omega
  · rw [upI_n e] at h3 ⊢
    have := H.2.2 k h1 (by omega)
    omega
theorem PNl_1 {n hd ins mt ar stt ac tb : Int} {so wh : Int → Int} (H : PN n hd ins mt ar stt ac tb so wh) : ∀ k, 0 ≤ k → k < n → so k = 1 → 0 ≤ wh k ∧ wh k < hd := by
  intro k h1 h2 h3
  have := H.2.2 k h1 h2
  omega
theorem PNu_2 {n hd ins mt ar stt ac tb : Int} {so wh : Int → Int} (H : PN n hd ins mt ar stt ac tb so wh) {s v : Int} (hs : s ≠ 2) : ∀ k, 0 ≤ k → k < n + 1 → upI so n s k = 2 → 0 ≤ upI wh n v k ∧ upI wh n v k < ins := by
  intro k h1 h2 h3
  by_cases e : k = n
  · subst e
    rw [upI_s] at h3
    omega
  · rw [upI_n e] at h3 ⊢
    have := H.2.2 k h1 (by omega)
    omega
theorem PNl_2 {n hd ins mt ar stt ac tb : Int} {so wh : Int → Int} (H : PN n hd ins mt ar stt ac tb so wh) : ∀ k, 0 ≤ k → k < n → so k = 2 → 0 ≤ wh k ∧ wh k < ins := by
  intro k h1 h2 h3
  have := H.2.2 k h1 h2
  omega
theorem PNu_3 {n hd ins mt ar stt ac tb : Int} {so wh : Int → Int} (H : PN n hd ins mt ar stt ac tb so wh) {s v : Int} (hs : s ≠ 3) : ∀ k, 0 ≤ k → k < n + 1 → upI so n s k = 3 → 0 ≤ upI wh n v k ∧ upI wh n v k < mt := by
  intro k h1 h2 h3
  by_cases e : k = n
  · subst e
    rw [upI_s] at h3
    omega
  · rw [upI_n e] at h3 ⊢
    have := H.2.2 k h1 (by omega)
    omega
theorem PNl_3 {n hd ins mt ar stt ac tb : Int} {so wh : Int → Int} (H : PN n hd ins mt ar stt ac tb so wh) : ∀ k, 0 ≤ k → k < n → so k = 3 → 0 ≤ wh k ∧ wh k < mt := by
  intro k h1 h2 h3
  have := H.2.2 k h1 h2
  omega
theorem PNu_4 {n hd ins mt ar stt ac tb : Int} {so wh : Int → Int} (H : PN n hd ins mt ar stt ac tb so wh) {s v : Int} (hs : s ≠ 4) : ∀ k, 0 ≤ k → k < n + 1 → upI so n s k = 4 → 0 ≤ upI wh n v k ∧ upI wh n v k < ar := by
  intro k h1 h2 h3
  by_cases e : k = n
  · subst e
    rw [upI_s] at h3
    omega
  · rw [upI_n e] at h3 ⊢
    have := H.2.2 k h1 (by omega)
    omega
theorem PNl_4 {n hd ins mt ar stt ac tb : Int} {so wh : Int → Int} (H : PN n hd ins mt ar stt ac tb so wh) : ∀ k, 0 ≤ k → k < n → so k = 4 → 0 ≤ wh k ∧ wh k < ar := by
  intro k h1 h2 h3
  have := H.2.2 k h1 h2
  omega
theorem PNu_5 {n hd ins mt ar stt ac tb : Int} {so wh : Int → Int} (H : PN n hd ins mt ar stt ac tb so wh) {s v : Int} (hs : s ≠ 5) : ∀ k, 0 ≤ k → k < n + 1 → upI so n s k = 5 → 0 ≤ upI wh n v k ∧ upI wh n v k < stt := by
  intro k h1 h2 h3
  by_cases e : k = n
  · subst e
    rw [upI_s] at h3
    omega
  · rw [upI_n e] at h3 ⊢
    have := H.2.2 k h1 (by omega)
    omega
theorem PNl_5 {n hd ins mt ar stt ac tb : Int} {so wh : Int → Int} (H : PN n hd ins mt ar stt ac tb so wh) : ∀ k, 0 ≤ k → k < n → so k = 5 → 0 ≤ wh k ∧ wh k < stt := by
  intro k h1 h2 h3
  have := H.2.2 k h1 h2
  omega
theorem PNu_6 {n hd ins mt ar stt ac tb : Int} {so wh : Int → Int} (H : PN n hd ins mt ar stt ac tb so wh) {s v : Int} (hs : s ≠ 6) : ∀ k, 0 ≤ k → k < n + 1 → upI so n s k = 6 → 0 ≤ upI wh n v k ∧ upI wh n v k < ac := by
  intro k h1 h2 h3
  by_cases e : k = n
  · subst e
    rw [upI_s] at h3
    omega
  · rw [upI_n e] at h3 ⊢
    have := H.2.2 k h1 (by omega)
    omega
theorem PNl_6 {n hd ins mt ar stt ac tb : Int} {so wh : Int → Int} (H : PN n hd ins mt ar stt ac tb so wh) : ∀ k, 0 ≤ k → k < n → so k = 6 → 0 ≤ wh k ∧ wh k < ac := by
  intro k h1 h2 h3
  have := H.2.2 k h1 h2
  omega
theorem PNu_7 {n hd ins mt ar stt ac tb : Int} {so wh : Int → Int} (H : PN n hd ins mt ar stt ac tb so wh) {s v : Int} (hs : s ≠ 7) : ∀ k, 0 ≤ k → k < n + 1 → upI so n s k = 7 → 0 ≤ upI wh n v k ∧ upI wh n v k < tb := by
  intro k h1 h2 h3
  by_cases e : k = n
  · subst e
    rw [upI_s] at h3
    omega
  · rw [upI_n e] at h3 ⊢
    have := H.2.2 k h1 (by omega)
    omega
theorem PNl_7 {n hd ins mt ar stt ac tb : Int} {so wh : Int → Int} (H : PN n hd ins mt ar stt ac tb so wh) : ∀ k, 0 ≤ k → k < n → so k = 7 → 0 ≤ wh k ∧ wh k < tb := by
  intro k h1 h2 h3
  have := H.2.2 k h1 h2
  omega
