/-! ===== the part of the network that a bridge belongs to, in the reference; distances ===== -/
section
variable {pe : Nat → Nat} {nb nh g : Nat} {x m : St}
theorem M_lnk1 {p : Nat} (S : ∀ p, p < 20 → m 1 p = enM (pe p)) (h : p < 20) : fX5_isLinked (nI p) m = some (if pe p < 20 then 1 else 0) := by
  unfold fX5_isLinked fX5_within
  simp (disch := omega) only [inb_nI, clN, ↓reduceIte, S p h]
  by_cases h2 : pe p < 28
  · by_cases h3 : pe p < 20
    · simp (disch := omega) only [enM_p h3, lt0, n19lt, h3, ↓reduceIte]
      rw [if_neg (by omega)]
      rfl
    · simp (disch := omega) only [enM_h h3 h2, lt0, n19lt, h3, ↓reduceIte]
      rw [if_pos (by omega)]
      rfl
  · simp only [enM_ge h2, show ¬ pe p < 20 by omega, ↓reduceIte]
    rfl
/-- between: all bridges up to r are in t, and none that can't be reached -/
def BT (g a r t : Nat) : Prop := t < 32 ∧ (∀ b, b < 5 → t.testBit b = true → way g a b ≠ 0) ∧ ∀ b, b < 5 → way g a b ≠ 0 → way g a b ≤ r → t.testBit b = true
theorem part_in (G : GR pe g) (S : ∀ p, p < 20 → m 1 p = enM (pe p)) {a : Nat} (ha : a < 5) (K6 : Int32 → Int32 → Option Int32) (v1 v3 : Int32) (r : Nat) (hr : 1 ≤ r) : ∀ (j k t n : Nat), k + j = 20 → BT g a r t → (∀ p, p < k → pe p < 20 → way g a (p / 4) ≠ 0 → way g a (p / 4) ≤ r → t.testBit (pe p / 4) = true) → ∃ t', loop2 (fX5_partOf_b14 K6 v1 v3 m) (n + 1 + j) (nI t) (nI k) = K6 (nI t') (v3 + 1) ∧ BT g a (r + 1) t' := by
  intro j
  induction j with
  | zero =>
    intro k t n e h h2
    obtain rfl : k = 20 := by omega
    refine ⟨t, rfl, h.1, h.2.1, fun b hb hn hl => ?_⟩
    by_cases e1 : way g a b ≤ r
    · exact h.2.2 b hb hn e1
    · by_cases e2 : 2 ≤ way g a b
      · obtain ⟨z, q1, q2, q3⟩ := W_par G ha hb e2
        obtain ⟨p, r1, r2, r3, r4⟩ := (G.2.2 z b q1 hb).mp q2
        rw [← r4]
        exact h2 p r1 r3 (by rw [r2]; omega) (by rw [r2]; omega)
      · omega
  | succ j ih =>
    intro k t n e h h2
    have hk : k < 20 := by omega
    have step : ∀ t2, BT g a r t2 → (∀ p, p < k + 1 → pe p < 20 → way g a (p / 4) ≠ 0 → way g a (p / 4) ≤ r → t2.testBit (pe p / 4) = true) → fX5_partOf_b14 K6 v1 v3 m (loop2 (fX5_partOf_b14 K6 v1 v3 m) (n + 1 + j)) (nI t) (nI k) = loop2 (fX5_partOf_b14 K6 v1 v3 m) (n + 1 + j) (nI t2) (nI (k + 1)) → ∃ t', loop2 (fX5_partOf_b14 K6 v1 v3 m) (n + 1 + (j + 1)) (nI t) (nI k) = K6 (nI t') (v3 + 1) ∧ BT g a (r + 1) t' := by
      intro t2 q1 q2 q3
      obtain ⟨t', c1, c2⟩ := ih (k + 1) t2 n (by omega) q1 q2
      exact ⟨t', Eq.trans q3 c1, c2⟩
    have ht := h.1
    by_cases hl : pe k < 20
    · by_cases hb : t.testBit (k / 4) = true
      · have hn := h.2.1 (k / 4) (by omega) hb
        have ad : adjm g (k / 4) (pe k / 4) = true := (G.2.2 _ _ (by omega) (by omega)).mpr ⟨k, hk, rfl, hl, rfl⟩
        refine step (t ||| 2 ^ (pe k / 4)) ⟨or2_lt ht (by omega), fun b hb q => ?_, fun b hb q1 q2 => or2_bit.mpr (Or.inl (h.2.2 b hb q1 q2))⟩ (fun p hp q1 q2 q3 => ?_) ?_
        · rcases or2_bit.mp q with q | q
          · exact h.2.1 b hb q
          · rw [← q]
            exact fun q0 => hn ((W_adj G ha (by omega) (by omega) ad).1.mpr q0)
        · by_cases e : p = k
          · subst e; exact or2_bit.mpr (Or.inr rfl)
          · exact or2_bit.mpr (Or.inl (h2 p (by omega) q1 q2 q3))
        · generalize loop2 (fX5_partOf_b14 K6 v1 v3 m) (n + 1 + j) = K
          unfold fX5_partOf_b14 fX5_partOf_b56
          simp (disch := omega) only [n20le, M_lnk1 S, hl, ↓reduceIte, Option.bind_some, ed4, sh_bit, hb, inb_nI, clN, S k hk, enM_p hl, nx_1, nx_or, ea1]
          rw [if_neg (by omega), if_neg n10]
      · refine step t h (fun p hp q1 q2 q3 => ?_) ?_
        · by_cases e : p = k
          · subst e
            exact absurd (h.2.2 (p / 4) (by omega) q2 q3) hb
          · exact h2 p (by omega) q1 q2 q3
        · generalize loop2 (fX5_partOf_b14 K6 v1 v3 m) (n + 1 + j) = K
          unfold fX5_partOf_b14 fX5_partOf_b56
          simp (disch := omega) only [n20le, M_lnk1 S, hl, ↓reduceIte, Option.bind_some, ed4, sh_bit, hb, ea1]
          rw [if_neg (by omega), if_neg n10]
          rfl
    · refine step t h (fun p hp q1 q2 q3 => ?_) ?_
      · have : p ≠ k := fun e => hl (e ▸ q1)
        exact h2 p (by omega) q1 q2 q3
      · generalize loop2 (fX5_partOf_b14 K6 v1 v3 m) (n + 1 + j) = K
        unfold fX5_partOf_b14 fX5_partOf_b56
        simp (disch := omega) only [n20le, M_lnk1 S, hl, ↓reduceIte, Option.bind_some, ea1]
        rw [if_neg (by omega)]
theorem part_out (G : GR pe g) (S : ∀ p, p < 20 → m 1 p = enM (pe p)) {a : Nat} (ha : a < 5) (v1 : Int32) : ∀ (j k t n : Nat), k + j = 5 → BT g a (k + 1) t → ∃ t', loop2 (fX5_partOf_b6 v1 m) (n + 1 + j) (nI t) (nI k) = some (nI t') ∧ BT g a 6 t' := by
  intro j
  induction j with
  | zero =>
    intro k t n e h
    obtain rfl : k = 5 := by omega
    exact ⟨t, rfl, h⟩
  | succ j ih =>
    intro k t n e h
    obtain ⟨t1, a1, b1⟩ := part_in G S ha (loop2 (fX5_partOf_b6 v1 m) (n + 1 + j)) v1 (nI k) (k + 1) (by omega) 20 0 t 1979 rfl h (fun p hp => absurd hp (Nat.not_lt_zero p))
    obtain ⟨t', a2, b2⟩ := ih (k + 1) t1 n (by omega) b1
    refine ⟨t', ?_, b2⟩
    show fX5_partOf_b6 v1 m (loop2 (fX5_partOf_b6 v1 m) (n + 1 + j)) (nI t) (nI k) = _
    rw [ea1] at a1
    refine Eq.trans ?_ (Eq.trans a1 a2)
    generalize loop2 (fX5_partOf_b6 v1 m) (n + 1 + j) = K
    unfold fX5_partOf_b6
    simp (disch := omega) only [n5le]
    rw [if_neg (by omega)]
    rfl
theorem M_part (G : GR pe g) (S : ∀ p, p < 20 → m 1 p = enM (pe p)) {a : Nat} (ha : a < 5) : ∃ t, fX5_partOf (nI a) m = some (nI t) ∧ t < 32 ∧ ∀ b, b < 5 → (t.testBit b = true ↔ way g a b ≠ 0) := by
  obtain ⟨t, e, h⟩ := part_out G S ha (nI a) 5 0 (2 ^ a) 1994 rfl ⟨Nat.pow_lt_pow_right (n := 5) (by omega) ha, fun b hb q => by
    rw [Nat.testBit_two_pow] at q
    have q : a = b := by simpa using q
    subst q
    rw [W_self G ha]; decide, fun b hb q1 q2 => by
    have q : way g a b = 1 := by omega
    rw [Nat.testBit_two_pow, W_one G ha hb q]
    simp⟩
  refine ⟨t, ?_, h.1, fun b hb => ⟨h.2.1 b hb, fun q => h.2.2 b hb q (by have := W_le G ha hb; omega)⟩⟩
  unfold fX5_partOf
  rw [nx_1 a (by omega)]
  exact e
end
