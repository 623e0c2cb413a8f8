/-! ===== ways between bridges, in both ===== -/
def adj (pe : Nat → Nat) (a b : Nat) : Prop := ∃ p, p < 20 ∧ p / 4 = a ∧ pe p < 20 ∧ pe p / 4 = b
def GR (pe : Nat → Nat) (g : Nat) : Prop := g < 1024 ∧ acyc g = true ∧ ∀ a b, a < 5 → b < 5 → (adjm g a b = true ↔ adj pe a b)
def Fo (pe : Nat → Nat) : Prop := (∀ p q, p < 20 → q < 20 → pe p < 20 → pe q < 20 → p / 4 = q / 4 → pe p / 4 = pe q / 4 → p = q) ∧ ∃ g, GR pe g
section
variable {pe : Nat → Nat} {nb nh g : Nat} {x m : St}
theorem bz {a b : Nat} (h : Nat.beq a b = true) : a = b := Nat.eq_of_beq_eq_true h
theorem bnz {a b : Nat} (h : a = b) : Nat.beq a b = true := by subst h; exact Nat.beq_refl a
theorem W_self (h : GR pe g) {a : Nat} (ha : a < 5) : way g a a = 1 := by
  have := all5_at (f_use fT h.1 h.2.1) a ha
  simp only [Bool.and_eq_true] at this
  exact bz this.1
theorem W_le (h : GR pe g) {a b : Nat} (ha : a < 5) (hb : b < 5) : way g a b ≤ 5 := by
  have := all5_at (f_use fB h.1 h.2.1) a ha
  simp only [Bool.and_eq_true] at this
  have := all5_at this.2 b hb
  simp only [Bool.and_eq_true] at this
  exact Nat.le_of_ble_eq_true this.2.1
theorem A_sym (h : GR pe g) {a b : Nat} (ha : a < 5) (hb : b < 5) : adjm g a b = adjm g b a := by
  have := all5_at (f_use fB h.1 h.2.1) a ha
  simp only [Bool.and_eq_true] at this
  have := all5_at this.2 b hb
  simp only [Bool.and_eq_true] at this
  exact beqB_eq this.1
theorem A_irr (h : GR pe g) {a : Nat} (ha : a < 5) : adjm g a a = false := by
  have := all5_at (f_use fB h.1 h.2.1) a ha
  simp only [Bool.and_eq_true] at this
  simpa using this.1
theorem W_sym (h : GR pe g) {a b : Nat} (ha : a < 5) (hb : b < 5) : (way g a b = 0 ↔ way g b a = 0) := by
  have := all5_at (f_use fB h.1 h.2.1) a ha
  simp only [Bool.and_eq_true] at this
  have := all5_at this.2 b hb
  simp only [Bool.and_eq_true] at this
  have e := beqB_eq this.2.2
  exact ⟨fun q => bz (e ▸ bnz q), fun q => bz (e.symm ▸ bnz q)⟩
theorem T_at (h : GR pe g) {a y : Nat} (ha : a < 5) (hy : y < 5) : (Nat.ble (way g a y) 1 || !(all5 fun x => !(adjm g x y && Nat.beq (way g a x + 1) (way g a y)))) = true ∧ (Nat.beq (way g a y) 0 || !(Nat.beq (way g a y) 1) || Nat.beq a y) = true ∧
    ∀ x, x < 5 → (!(adjm g x y) || (beqB (Nat.beq (way g a x) 0) (Nat.beq (way g a y) 0) && (Nat.beq (way g a x) 0 || ((Nat.beq (way g a y) (way g a x + 1) || Nat.beq (way g a y + 1) (way g a x)) &&
    (!(Nat.beq (way g a y) (way g a x + 1)) || all5 fun z => !(adjm g z y && Nat.beq (way g a y) (way g a z + 1)) || (Nat.beq (way g a z) 0 || Nat.beq x z)))))) = true := by
  have := all5_at (f_use fT h.1 h.2.1) a ha
  simp only [Bool.and_eq_true] at this
  have := all5_at this.2 y hy
  simp only [Bool.and_eq_true] at this
  exact ⟨this.1, this.2.1, fun x hx => all5_at this.2.2 x hx⟩
theorem W_one (h : GR pe g) {a y : Nat} (ha : a < 5) (hy : y < 5) (e : way g a y = 1) : y = a := by
  have := (T_at h ha hy).2.1
  rw [e] at this
  have e2 : Nat.beq a y = true := by simpa using this
  exact (bz e2).symm
theorem W_par (h : GR pe g) {a y : Nat} (ha : a < 5) (hy : y < 5) (e : 2 ≤ way g a y) : ∃ z, z < 5 ∧ adjm g z y = true ∧ way g a z + 1 = way g a y := by
  have h1 := (T_at h ha hy).1
  have h2 : Nat.ble (way g a y) 1 = false := by
    rw [← Bool.not_eq_true]
    intro q
    have := Nat.le_of_ble_eq_true q
    omega
  rw [h2, Bool.false_or] at h1
  apply Classical.byContradiction
  intro hn
  have h3 : all5 (fun x => !(adjm g x y && Nat.beq (way g a x + 1) (way g a y))) = true := by
    have q : ∀ z, z < 5 → (!(adjm g z y && Nat.beq (way g a z + 1) (way g a y))) = true := by
      intro z hz
      cases h5 : adjm g z y
      · rfl
      · cases h6 : Nat.beq (way g a z + 1) (way g a y)
        · rfl
        · exact absurd ⟨z, hz, h5, bz h6⟩ hn
    unfold all5
    simp only [q 0 (by omega), q 1 (by omega), q 2 (by omega), q 3 (by omega), q 4 (by omega), Bool.and_self]
  rw [h3] at h1
  exact absurd h1 (by decide)
theorem W_adj (h : GR pe g) {a z y : Nat} (ha : a < 5) (hz : z < 5) (hy : y < 5) (e : adjm g z y = true) : (way g a z = 0 ↔ way g a y = 0) ∧ (way g a z ≠ 0 → way g a y = way g a z + 1 ∨ way g a y + 1 = way g a z) := by
  have h1 := (T_at h ha hy).2.2 z hz
  rw [e] at h1
  simp only [Bool.not_true, Bool.false_or, Bool.and_eq_true, Bool.or_eq_true] at h1
  have e1 := beqB_eq h1.1
  refine ⟨⟨fun q => bz (e1 ▸ bnz q), fun q => bz (e1.symm ▸ bnz q)⟩, fun hn => ?_⟩
  rcases h1.2 with q | q
  · exact absurd (bz q) hn
  · rcases q.1 with q | q
    · exact Or.inl (bz q)
    · exact Or.inr (bz q)
theorem W_uni (h : GR pe g) {a z w y : Nat} (ha : a < 5) (hz : z < 5) (hw : w < 5) (hy : y < 5) (e : adjm g z y = true) (e2 : adjm g w y = true) (n : way g a z ≠ 0) (n2 : way g a w ≠ 0) (l : way g a y = way g a z + 1) (l2 : way g a y = way g a w + 1) : z = w := by
  have h1 := (T_at h ha hy).2.2 z hz
  rw [e] at h1
  simp only [Bool.not_true, Bool.false_or, Bool.and_eq_true, Bool.or_eq_true] at h1
  rcases h1.2 with q | q
  · exact absurd (bz q) n
  · rcases q.2 with q | q
    · rw [bnz l] at q
      exact absurd q (by decide)
    · have := all5_at q w hw
      rw [e2, bnz l2] at this
      simp only [Bool.and_self, Bool.not_true, Bool.false_or, Bool.or_eq_true] at this
      rcases this with q | q
      · exact absurd (bz q) n2
      · exact bz q
theorem row_lt (hg : g < 1024) (a : Nat) : row g a < 32 := by
  unfold row
  split <;> omega
theorem ite_lt {c : Prop} [Decidable c] {a : Nat} (h : a < 32) : (if c then a else 0) < 2 ^ 5 := by
  split
  · exact h
  · omega
theorem nbs_lt (hg : g < 1024) (s : Nat) : nbs g s < 32 := by
  unfold nbs
  exact Nat.or_lt_two_pow (n := 5) (ite_lt (row_lt hg 0)) (Nat.or_lt_two_pow (ite_lt (row_lt hg 1)) (Nat.or_lt_two_pow (ite_lt (row_lt hg 2)) (Nat.or_lt_two_pow (ite_lt (row_lt hg 3)) (ite_lt (row_lt hg 4)))))
theorem ite_bit {c : Bool} {a b : Nat} : (if c = true then a else 0).testBit b = (c && a.testBit b) := by
  cases c <;> simp
theorem nbs_bit (s b : Nat) : (nbs g s).testBit b = true ↔ ∃ a, a < 5 ∧ s.testBit a = true ∧ adjm g a b = true := by
  unfold nbs
  simp only [Nat.testBit_or, ite_bit, Bool.or_eq_true, Bool.and_eq_true]
  constructor
  · intro h
    rcases h with h | h | h | h | h
    · exact ⟨0, by omega, h⟩
    · exact ⟨1, by omega, h⟩
    · exact ⟨2, by omega, h⟩
    · exact ⟨3, by omega, h⟩
    · exact ⟨4, by omega, h⟩
  · intro ⟨a, ha, h⟩
    rcases (show a = 0 ∨ a = 1 ∨ a = 2 ∨ a = 3 ∨ a = 4 by omega) with rfl | rfl | rfl | rfl | rfl
    · exact Or.inl h
    · exact Or.inr (Or.inl h)
    · exact Or.inr (Or.inr (Or.inl h))
    · exact Or.inr (Or.inr (Or.inr (Or.inl h)))
    · exact Or.inr (Or.inr (Or.inr (Or.inr h)))
theorem or2_lt {t b : Nat} (h : t < 32) (hb : b < 5) : t ||| 2 ^ b < 32 := Nat.or_lt_two_pow (n := 5) h (Nat.pow_lt_pow_right (by omega) hb)
theorem or2_bit {t b c : Nat} : (t ||| 2 ^ b).testBit c = true ↔ t.testBit c = true ∨ b = c := by
  rw [Nat.testBit_or, Nat.testBit_two_pow]
  simp
theorem bit_lt {t b : Nat} (h : t < 32) (hb : t.testBit b = true) : b < 5 := by
  apply Classical.byContradiction
  intro q
  have h2 : t.testBit b = false := Nat.testBit_lt_two_pow (Nat.lt_of_lt_of_le h (Nat.pow_le_pow_right (n := 2) (i := 5) (by omega) (by omega)))
  rw [h2] at hb
  cases hb
/-- the neighbours of a set of bridges, in the class -/
theorem nbr_loop (S5 : ∀ q, q < 28 → x 5 q = enX (pe q)) {s : Nat} (hs : s < 32) : ∀ (j k t n : Nat), k + j = 20 → t < 32 → (∀ b, t.testBit b = true ↔ ∃ p, p < k ∧ s.testBit (p / 4) = true ∧ pe p < 20 ∧ pe p / 4 = b) → ∃ t', loop2 (fX1_neighboursOf_b4 (nI s) x) (n + 1 + j) (nI t) (nI k) = some (nI t') ∧ t' < 32 ∧ ∀ b, t'.testBit b = true ↔ ∃ p, p < 20 ∧ s.testBit (p / 4) = true ∧ pe p < 20 ∧ pe p / 4 = b := by
  intro j
  induction j with
  | zero =>
    intro k t n e ht h
    obtain rfl : k = 20 := by omega
    exact ⟨t, rfl, ht, h⟩
  | succ j ih =>
    intro k t n e ht h
    have hk : k < 20 := by omega
    have step : ∀ t2, t2 < 32 → (∀ b, t2.testBit b = true ↔ ∃ p, p < k + 1 ∧ s.testBit (p / 4) = true ∧ pe p < 20 ∧ pe p / 4 = b) → fX1_neighboursOf_b4 (nI s) x (loop2 (fX1_neighboursOf_b4 (nI s) x) (n + 1 + j)) (nI t) (nI k) = loop2 (fX1_neighboursOf_b4 (nI s) x) (n + 1 + j) (nI t2) (nI (k + 1)) → ∃ t', loop2 (fX1_neighboursOf_b4 (nI s) x) (n + 1 + (j + 1)) (nI t) (nI k) = some (nI t') ∧ t' < 32 ∧ ∀ b, t'.testBit b = true ↔ ∃ p, p < 20 ∧ s.testBit (p / 4) = true ∧ pe p < 20 ∧ pe p / 4 = b := by
      intro t2 h2 h3 h4
      obtain ⟨t', a, b, c⟩ := ih (k + 1) t2 n (by omega) h2 h3
      exact ⟨t', Eq.trans h4 a, b, c⟩
    by_cases hb : s.testBit (k / 4) = true
    · by_cases hl : pe k < 20
      · refine step (t ||| 2 ^ (pe k / 4)) (or2_lt ht (by omega)) ?_ ?_
        · intro b
          rw [or2_bit, h b]
          constructor
          · rintro (⟨p, q⟩ | q)
            · exact ⟨p, by omega, q.2⟩
            · exact ⟨k, by omega, hb, hl, q⟩
          · rintro ⟨p, q1, q2⟩
            by_cases e : p = k
            · subst e; exact Or.inr q2.2.2
            · exact Or.inl ⟨p, by omega, q2⟩
        · generalize loop2 (fX1_neighboursOf_b4 (nI s) x) (n + 1 + j) = K
          unfold fX1_neighboursOf_b4 fX1_neighboursOf_b47 fX4_bridgeOf
          simp (disch := omega) only [n20le, inb_nI, clN, ↓reduceIte, S5, Option.bind_some, ed4, X_has, hb, X_prt, X_prtN, hl, enX_lt, nx_1, nx_or, ea1]
          rw [if_neg (by omega), if_neg n10, if_neg n10]
      · refine step t ht ?_ ?_
        · intro b
          rw [h b]
          constructor
          · rintro ⟨p, q⟩; exact ⟨p, by omega, q.2⟩
          · rintro ⟨p, q1, q2⟩
            have : p ≠ k := fun e => hl (e ▸ q2.2.1)
            exact ⟨p, by omega, q2⟩
        · generalize loop2 (fX1_neighboursOf_b4 (nI s) x) (n + 1 + j) = K
          unfold fX1_neighboursOf_b4 fX1_neighboursOf_b47 fX4_bridgeOf
          simp (disch := omega) only [n20le, inb_nI, clN, ↓reduceIte, S5, Option.bind_some, ed4, X_has, hb, X_prt, hl, ea1]
          rw [if_neg (by omega), if_neg n10]
    · refine step t ht ?_ ?_
      · intro b
        rw [h b]
        constructor
        · rintro ⟨p, q⟩; exact ⟨p, by omega, q.2⟩
        · rintro ⟨p, q1, q2⟩
          have : p ≠ k := fun e => hb (e ▸ q2.1)
          exact ⟨p, by omega, q2⟩
      · generalize loop2 (fX1_neighboursOf_b4 (nI s) x) (n + 1 + j) = K
        unfold fX1_neighboursOf_b4 fX1_neighboursOf_b47 fX4_bridgeOf
        simp (disch := omega) only [n20le, inb_nI, clN, ↓reduceIte, S5, Option.bind_some, ed4, X_has, hb, ea1]
        rw [if_neg (by omega)]
        rfl
theorem X_nbr (G : GR pe g) (S5 : ∀ q, q < 28 → x 5 q = enX (pe q)) {s : Nat} (hs : s < 32) : fX1_neighboursOf (nI s) x = some (nI (nbs g s)) := by
  obtain ⟨t', a, b, c⟩ := nbr_loop (x := x) S5 hs 20 0 0 1979 rfl (by omega) (fun b => by rw [Nat.zero_testBit]; exact ⟨fun q => Bool.noConfusion q, fun ⟨p, q, _⟩ => absurd q (Nat.not_lt_zero p)⟩)
  have e : t' = nbs g s := by
    apply Nat.eq_of_testBit_eq
    intro i
    rw [Bool.eq_iff_iff, c i, nbs_bit]
    constructor
    · rintro ⟨p, q1, q2, q3, q4⟩
      refine ⟨p / 4, by omega, q2, ?_⟩
      exact (G.2.2 (p / 4) i (by omega) (by omega)).mpr ⟨p, q1, rfl, q3, q4⟩
    · rintro ⟨a, q1, q2, q3⟩
      have hi : i < 5 := bit_lt (row_lt G.1 a) q3
      obtain ⟨p, r1, r2, r3, r4⟩ := (G.2.2 a i q1 hi).mp q3
      exact ⟨p, r1, by rw [r2]; exact q2, r3, r4⟩
  rw [← e]
  exact a
theorem way_loop (G : GR pe g) (S5 : ∀ q, q < 28 → x 5 q = enX (pe q)) (v : Int32) {b : Nat} (hb : b < 5) : ∀ (n c s N : Nat), c + n = 6 → s < 32 → loop2 (fX1_bridgesOnWay_b7 v (nI b) x) (N + 1 + n) (nI s) (nI c) = some (nI (wl g b n c s)) := by
  intro n
  induction n with
  | zero =>
    intro c s N e hs
    obtain rfl : c = 6 := by omega
    rfl
  | succ n ih =>
    intro c s N e hs
    show fX1_bridgesOnWay_b7 v (nI b) x (loop2 (fX1_bridgesOnWay_b7 v (nI b) x) (N + 1 + n)) (nI s) (nI c) = _
    have ih2 := ih (c + 1) (s ||| nbs g s) N (by omega) (Nat.or_lt_two_pow (n := 5) hs (nbs_lt G.1 s))
    generalize loop2 (fX1_bridgesOnWay_b7 v (nI b) x) (N + 1 + n) = K at ih2 ⊢
    unfold fX1_bridgesOnWay_b7 wl
    simp (disch := omega) only [n5lt, X_has, Option.bind_some, X_nbr G S5, nx_or, ea1]
    rw [if_neg (by omega)]
    by_cases h : s.testBit b = true
    · rw [if_pos h, if_pos h, if_neg n10]
    · rw [if_neg h, if_neg h, if_pos rfl]
      exact ih2
theorem X_way (G : GR pe g) (S5 : ∀ q, q < 28 → x 5 q = enX (pe q)) {a b : Nat} (ha : a < 5) (hb : b < 5) : fX1_bridgesOnWay (nI a) (nI b) x = some (nI (way g a b)) := by
  unfold fX1_bridgesOnWay
  rw [nx_1 a (by omega)]
  exact way_loop G S5 (nI a) hb 5 1 (2 ^ a) 1994 rfl (Nat.pow_lt_pow_right (n := 5) (by omega) ha)
end
