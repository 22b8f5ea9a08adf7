theorem LS_tl {t n a b : Int} {ct ls : Int → Int} (H : LSp t (ct t) a ls) (TL : TLp n ct ls b) (h0 : 0 ≤ t) (h1 : t < n) : a < b := by
  obtain ⟨i, i0, i1, rfl⟩ := H
  exact TL t h0 h1 i i0 i1
def XTp (u : Int) (f g : Int → Int) (L : Int) : Prop := (∀ v, v ≠ u → g v = f v) ∧ g u ≤ L
theorem XT_0 {u L : Int} {f : Int → Int} (h : f u ≤ L) : XTp u f f L := ⟨fun _ _ => rfl, h⟩
theorem XT_u {u L x : Int} {f g : Int → Int} (H : XTp u f g L) (h : x ≤ L) : XTp u f (upI g u x) L := ⟨fun v hv => by rw [upI_n hv]; exact H.1 v hv, by rw [upI_s]; exact h⟩
theorem XT_t {u L : Int} {f g k : Int → Int} (H : XTp u f g L) (H2 : XTp u g k L) : XTp u f k L := ⟨fun v hv => (H2.1 v hv).trans (H.1 v hv), H2.2⟩
theorem XT_i {u L x : Int} {f : Int → Int} (h : x ≤ L) : XTp u f (upI f u x) L := ⟨fun v hv => upI_n hv, by rw [upI_s]; exact h⟩
theorem hb_le {fw : Int → Int} {h n k : Int} (hf : ∀ j, 0 ≤ fw j) (h0 : 0 ≤ n) (h1 : n ≤ k) : hb fw h n ≤ hb fw h k := by
  have key : ∀ d : Nat, hb fw h n ≤ hb fw h (n + d) := by
    intro d
    induction d with
    | zero => rw [show n + ((0 : Nat) : Int) = n by omega]; exact Int.le_refl _
    | succ d ih =>
      rw [show n + ((d + 1 : Nat) : Int) = (n + d) + 1 by omega, hb_s fw h (by omega)]
      have := hf (h * 16 + (n + d))
      omega
  have := key (k - n).toNat
  rw [show n + (((k - n).toNat : Nat) : Int) = k by omega] at this
  exact this
