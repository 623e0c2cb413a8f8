/-! ===== the relation between the class's state and the reference's ===== -/
/-- who is at the other end of station q (a number of 28 or more: nobody); nb bridges, nh hosts -/
def PE (pe : Nat → Nat) (nb nh : Nat) : Prop :=
  nb ≤ 5 ∧ nh ≤ 8 ∧ (∀ q, q < 28 → pe q < 28 → pe (pe q) = q) ∧ (∀ h, h < 8 → (pe (20 + h) < 28 ↔ h < nh)) ∧ (∀ h, h < 8 → pe (20 + h) < 28 → pe (20 + h) < 20)
def Str (pe : Nat → Nat) (nb nh : Nat) (x m : St) : Prop :=
  x 1 1 = nI nb ∧ m 0 0 = nI nb ∧ x 1 2 = nI nh ∧ m 0 1 = nI nh ∧ x 1 3 = m 0 2 ∧ (∀ q, q < 28 → x 5 q = enX (pe q)) ∧ (∀ p, p < 20 → m 1 p = enM (pe p)) ∧ (∀ h, h < nh → m 2 h = nI (pe (20 + h)))
def Dat (pe : Nat → Nat) (nh : Nat) (x m : St) : Prop :=
  (x 0 8 = m 0 6 ∧ x 0 9 = m 0 7 ∧ x 0 10 = m 0 8) ∧
  (∀ k, k < 80 → x 6 k = m 4 k) ∧ (∀ k, k < 80 → x 7 k = m 5 k) ∧ (∀ k, k < 80 → x 8 k = m 6 k) ∧ (∀ k, k < 80 → m 6 k = 1 → x 9 k = m 7 k) ∧
  (∀ k, k < 32 → x 8 (80 + k) = m 10 k) ∧ (∀ k, k < 32 → m 10 k = 1 → x 9 (80 + k) = m 11 k) ∧
  (∀ p, p < 20 → x 12 p = m 8 p) ∧ (∀ p, p < 20 → x 14 p = m 9 p) ∧ (∀ h, h < 8 → x 15 (20 + h) = m 3 h) ∧ (∀ p, p < 20 → x 15 p = 0) ∧
  (∀ q, q < 28 → ¬ (q < 20 ∧ pe q < 20) → x 14 q = 0) ∧
  (∀ k, k < 80 → ¬ pe (k / 4) < 28 → x 6 k = 0 ∧ x 7 k = 0 ∧ x 8 k = 0) ∧
  (∀ k, k < 32 → ¬ k / 4 < nh → x 8 (80 + k) = 0)
def SD (pe : Nat → Nat) (nb nh : Nat) (x m : St) : Prop := Str pe nb nh x m ∧ Dat pe nh x m
section
variable {pe : Nat → Nat} {nb nh : Nat} {x m : St}
theorem D_reg {k : Nat} (h : SD pe nb nh x m) (hk : k < 80) (hc : pe (k / 4) < 28) (v : Int32) : SD pe nb nh (up2 x 6 k v) (up2 m 4 k v) := by
  unfold SD Str Dat at *
  simp only [up2_ap]
  grind
theorem D_tim {k : Nat} (h : SD pe nb nh x m) (hk : k < 80) (hc : pe (k / 4) < 28) (v : Int32) : SD pe nb nh (up2 x 7 k v) (up2 m 5 k v) := by
  unfold SD Str Dat at *
  simp only [up2_ap]
  grind
theorem D_app {k : Nat} (h : SD pe nb nh x m) (hk : k < 80) (hc : pe (k / 4) < 28) (v : Int32) (hv : v ≠ 1) : SD pe nb nh (up2 x 8 k v) (up2 m 6 k v) := by
  unfold SD Str Dat at *
  simp only [up2_ap]
  grind
theorem D_app1 {k : Nat} (h : SD pe nb nh x m) (hk : k < 80) (hc : pe (k / 4) < 28) (j : Int32) : SD pe nb nh (up2 (up2 x 8 k 1) 9 k j) (up2 (up2 m 6 k 1) 7 k j) := by
  unfold SD Str Dat at *
  simp only [up2_ap]
  grind
theorem D_jX {k : Nat} (h : SD pe nb nh x m) (hk : k < 80) (hn : m 6 k ≠ 1) (v : Int32) : SD pe nb nh (up2 x 9 k v) m := by
  unfold SD Str Dat at *
  simp only [up2_ap]
  grind
theorem D_j {k : Nat} (h : SD pe nb nh x m) (hk : k < 80) (v : Int32) : SD pe nb nh (up2 x 9 k v) (up2 m 7 k v) := by
  unfold SD Str Dat at *
  simp only [up2_ap]
  grind
theorem D_xs {c i : Nat} (h : SD pe nb nh x m) (hc : c = 10 ∨ c = 11 ∨ c = 13) (v : Int32) : SD pe nb nh (up2 x c i v) m := by
  unfold SD Str Dat at *
  rcases hc with rfl | rfl | rfl <;> simpa [up2_ap] using h
theorem D_ms {c i : Nat} (h : SD pe nb nh x m) (hc : 12 ≤ c) (v : Int32) : SD pe nb nh x (up2 m c i v) := by
  have e : ∀ c' j, c' < 12 → up2 m c i v c' j = m c' j := fun c' j hq => up2_c (by omega)
  unfold SD Str Dat at *
  simp (disch := omega) only [e]
  exact h
theorem D_la {p : Nat} (h : SD pe nb nh x m) (hk : p < 20) (v : Int32) : SD pe nb nh (up2 x 12 p v) (up2 m 8 p v) := by
  unfold SD Str Dat at *
  simp only [up2_ap]
  grind
theorem D_mk0 {p : Nat} (h : SD pe nb nh x m) (hk : p < 20) : SD pe nb nh (up2 x 14 p 0) (up2 m 9 p 0) := by
  unfold SD Str Dat at *
  simp only [up2_ap]
  grind
theorem H_app {k : Nat} (h : SD pe nb nh x m) (hk : k < 32) (hc : k / 4 < nh) (v : Int32) (hv : v ≠ 1) : SD pe nb nh (up2 x 8 (80 + k) v) (up2 m 10 k v) := by
  unfold SD Str Dat at *
  simp only [up2_ap]
  grind
theorem H_app1 {k : Nat} (h : SD pe nb nh x m) (hk : k < 32) (hc : k / 4 < nh) (j : Int32) : SD pe nb nh (up2 (up2 x 8 (80 + k) 1) 9 (80 + k) j) (up2 (up2 m 10 k 1) 11 k j) := by
  unfold SD Str Dat at *
  simp only [up2_ap]
  grind
theorem H_jX {k : Nat} (h : SD pe nb nh x m) (hk : k < 32) (hn : m 10 k ≠ 1) (v : Int32) : SD pe nb nh (up2 x 9 (80 + k) v) m := by
  unfold SD Str Dat at *
  simp only [up2_ap]
  grind
theorem H_j {k : Nat} (h : SD pe nb nh x m) (hk : k < 32) (v : Int32) : SD pe nb nh (up2 x 9 (80 + k) v) (up2 m 11 k v) := by
  unfold SD Str Dat at *
  simp only [up2_ap]
  grind
end
