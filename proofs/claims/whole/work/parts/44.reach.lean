/-! ===== the way of a frame, in both ===== -/
theorem loop3s_S {α : Type} (body : (Int32 → Int32 → Int32 → St → Option α) → Int32 → Int32 → Int32 → St → Option α) (n : Nat) (u v w : Int32) (σ : St) : loop3s body (n + 1) u v w σ = body (loop3s body n) u v w σ := rfl
theorem loop2_S {α : Type} (body : (Int32 → Int32 → Option α) → Int32 → Int32 → Option α) (n : Nat) (u v : Int32) : loop2 body (n + 1) u v = body (loop2 body n) u v := rfl
theorem loop3_S {α : Type} (body : (Int32 → Int32 → Int32 → Option α) → Int32 → Int32 → Int32 → Option α) (n : Nat) (u v w : Int32) : loop3 body (n + 1) u v w = body (loop3 body n) u v w := rfl
/-- the group is registered at port p -/
def rg (pe : Nat → Nat) (reg : Nat → Int32) (gr p : Nat) : Prop := pe p < 28 ∧ reg (4 * p + gr) ≠ 0
/-- a frame that arrives at port a goes out of port p -/
def out (pe : Nat → Nat) (reg : Nat → Int32) (gr a p : Nat) : Prop := p < 20 ∧ p / 4 = a / 4 ∧ p ≠ a ∧ rg pe reg gr p
/-- the stations where it arrives behind i bridges -/
def arr (pe : Nat → Nat) (reg : Nat → Int32) (gr a0 : Nat) : Nat → Nat → Prop
  | 0, q => q = a0
  | i + 1, q => ∃ a p, arr pe reg gr a0 i a ∧ a < 20 ∧ out pe reg gr a p ∧ pe p = q
section
variable {pe : Nat → Nat} {nb nh g : Nat} {x m : St}
theorem X_bes {p s : Nat} (hp : p < 20) (hs : s < 2147483648) (σ : St) : fX4_arrivesBeside (nI p) (nI s) σ = some (if (((decide (4 * (p / 4) + 0 ≠ p) && s.testBit (4 * (p / 4) + 0)) || (decide (4 * (p / 4) + 1 ≠ p) && s.testBit (4 * (p / 4) + 1)) || (decide (4 * (p / 4) + 2 ≠ p) && s.testBit (4 * (p / 4) + 2)) || (decide (4 * (p / 4) + 3 ≠ p) && s.testBit (4 * (p / 4) + 3))) = true) then 1 else 0) := by
  unfold fX4_arrivesBeside fX4_bridgeOf
  simp (disch := omega) only [ed4, Option.bind_some, em4]
  refine loop1_4b _ (4 * (p / 4)) (fun i => decide (4 * (p / 4) + i ≠ p) && s.testBit (4 * (p / 4) + i)) ?_ ?_
  · intro K i hi
    unfold fX4_arrivesBeside_b9 fX4_arrivesBeside_b31
    simp (disch := omega) only [ea4, ea1, leN, eqN, X_has, Option.bind_some]
    rw [if_neg (by omega)]
    by_cases h1 : 4 * (p / 4) + i = p
    · simp [h1]
    · cases h3 : s.testBit (4 * (p / 4) + i) <;> simp [h1]
  · intro K
    unfold fX4_arrivesBeside_b9
    simp (disch := omega) only [ea4, leN, Nat.le_refl, ↓reduceIte]
theorem bes_iff {p s : Nat} (hp : p < 20) : (((decide (4 * (p / 4) + 0 ≠ p) && s.testBit (4 * (p / 4) + 0)) || (decide (4 * (p / 4) + 1 ≠ p) && s.testBit (4 * (p / 4) + 1)) || (decide (4 * (p / 4) + 2 ≠ p) && s.testBit (4 * (p / 4) + 2)) || (decide (4 * (p / 4) + 3 ≠ p) && s.testBit (4 * (p / 4) + 3))) = true) ↔ ∃ a, a < 20 ∧ s.testBit a = true ∧ p / 4 = a / 4 ∧ p ≠ a := by
  simp only [Bool.or_eq_true, Bool.and_eq_true, decide_eq_true_eq]
  constructor
  · intro h
    rcases h with ((h | h) | h) | h
    · exact ⟨_, by omega, h.2, by omega, fun e => h.1 e.symm⟩
    · exact ⟨_, by omega, h.2, by omega, fun e => h.1 e.symm⟩
    · exact ⟨_, by omega, h.2, by omega, fun e => h.1 e.symm⟩
    · exact ⟨_, by omega, h.2, by omega, fun e => h.1 e.symm⟩
  · rintro ⟨a, h1, h2, h3, h4⟩
    rcases (show a = 4 * (p / 4) + 0 ∨ a = 4 * (p / 4) + 1 ∨ a = 4 * (p / 4) + 2 ∨ a = 4 * (p / 4) + 3 by omega) with e | e | e | e
    · exact Or.inl (Or.inl (Or.inl ⟨by omega, e ▸ h2⟩))
    · exact Or.inl (Or.inl (Or.inr ⟨by omega, e ▸ h2⟩))
    · exact Or.inl (Or.inr ⟨by omega, e ▸ h2⟩)
    · exact Or.inr ⟨by omega, e ▸ h2⟩
theorem or28_lt {t b : Nat} (h : t < 268435456) (hb : b < 28) : t ||| 2 ^ b < 268435456 := Nat.or_lt_two_pow (n := 28) h (Nat.pow_lt_pow_right (by omega) hb)
def nxA (pe : Nat → Nat) (reg : Nat → Int32) (gr s k q : Nat) : Prop := ∃ p, p < k ∧ p < 20 ∧ rg pe reg gr p ∧ (∃ a, a < 20 ∧ s.testBit a = true ∧ p / 4 = a / 4 ∧ p ≠ a) ∧ pe p = q
theorem nxt_loop (S5 : ∀ q, q < 28 → x 5 q = enX (pe q)) {gr s : Nat} (hg : gr < 4) (hs : s < 268435456) : ∀ (j k t n : Nat), k + j = 20 → t < 268435456 → (∀ q, t.testBit q = true ↔ nxA pe (x 6) gr s k q) → ∃ t', loop2 (fX4_nextArrivals_b5 (nI s) (nI gr) x) (n + 1 + j) (nI t) (nI k) = some (nI t') ∧ t' < 268435456 ∧ ∀ q, t'.testBit q = true ↔ nxA pe (x 6) gr s 20 q := by
  intro j
  induction j with
  | zero =>
    intro k t n e ht h
    obtain rfl : k = 20 := by omega
    exact ⟨t, rfl, ht, h⟩
  | succ j ih =>
    intro k t n e ht h
    have hk : k < 20 := by omega
    have step : ∀ t2, t2 < 268435456 → (∀ q, t2.testBit q = true ↔ nxA pe (x 6) gr s (k + 1) q) → fX4_nextArrivals_b5 (nI s) (nI gr) x (loop2 (fX4_nextArrivals_b5 (nI s) (nI gr) x) (n + 1 + j)) (nI t) (nI k) = loop2 (fX4_nextArrivals_b5 (nI s) (nI gr) x) (n + 1 + j) (nI t2) (nI (k + 1)) → ∃ t', loop2 (fX4_nextArrivals_b5 (nI s) (nI gr) x) (n + 1 + (j + 1)) (nI t) (nI k) = some (nI t') ∧ t' < 268435456 ∧ ∀ q, t'.testBit q = true ↔ nxA pe (x 6) gr s 20 q := by
      intro t2 h2 h3 h4
      obtain ⟨t', a, b, c⟩ := ih (k + 1) t2 n (by omega) h2 h3
      exact ⟨t', Eq.trans h4 a, b, c⟩
    have keep : ¬ (rg pe (x 6) gr k ∧ ∃ a, a < 20 ∧ s.testBit a = true ∧ k / 4 = a / 4 ∧ k ≠ a) → ∀ q, t.testBit q = true ↔ nxA pe (x 6) gr s (k + 1) q := by
      intro hn q
      rw [h q]
      constructor
      · rintro ⟨p, q1, q2⟩; exact ⟨p, by omega, q2⟩
      · rintro ⟨p, q1, q2, q3, q4, q5⟩
        have : p ≠ k := fun e => hn (e ▸ ⟨q3, q4⟩)
        exact ⟨p, by omega, q2, q3, q4, q5⟩
    by_cases hr : pe k < 28 ∧ x 6 (4 * k + gr) ≠ 0
    · by_cases hb : ∃ a, a < 20 ∧ s.testBit a = true ∧ k / 4 = a / 4 ∧ k ≠ a
      · refine step (t ||| 2 ^ (pe k)) (or28_lt ht hr.1) ?_ ?_
        · intro q
          rw [or2_bit, h q]
          constructor
          · rintro (⟨p, q1, q2⟩ | q1)
            · exact ⟨p, by omega, q2⟩
            · exact ⟨k, by omega, hk, hr, hb, q1⟩
          · rintro ⟨p, q1, q2, q3, q4, q5⟩
            by_cases e : p = k
            · subst e; exact Or.inr q5
            · exact Or.inl ⟨p, by omega, q2, q3, q4, q5⟩
        · generalize loop2 (fX4_nextArrivals_b5 (nI s) (nI gr) x) (n + 1 + j) = K
          unfold fX4_nextArrivals_b5 fX4_nextArrivals_b46
          have hb2 := (bes_iff (s := s) hk).mpr hb
          have hr1 := hr.1
          simp (disch := omega) only [n20le, X_reg S5, Option.bind_some, X_bes, inb_nI, clN, ↓reduceIte, S5, enX_lt, nx_1, nx_or, ea1]
          rw [if_neg (by omega), if_pos hr, if_neg n10, if_pos hb2, if_neg n10]
      · refine step t ht (keep (fun q => hb q.2)) ?_
        generalize loop2 (fX4_nextArrivals_b5 (nI s) (nI gr) x) (n + 1 + j) = K
        unfold fX4_nextArrivals_b5 fX4_nextArrivals_b46
        have hb2 := fun q => hb ((bes_iff (s := s) hk).mp q)
        simp (disch := omega) only [n20le, X_reg S5, Option.bind_some, X_bes, ea1]
        rw [if_neg (by omega), if_pos hr, if_neg n10, if_neg hb2, if_pos rfl]
    · refine step t ht (keep (fun q => hr q.1)) ?_
      generalize loop2 (fX4_nextArrivals_b5 (nI s) (nI gr) x) (n + 1 + j) = K
      unfold fX4_nextArrivals_b5 fX4_nextArrivals_b46
      simp (disch := omega) only [n20le, X_reg S5, Option.bind_some, ea1]
      rw [if_neg (by omega), if_neg hr, if_pos rfl]
theorem X_nxt (S5 : ∀ q, q < 28 → x 5 q = enX (pe q)) {gr s a0 i : Nat} (hg : gr < 4) (hs : s < 268435456) (h : ∀ q, s.testBit q = true ↔ arr pe (x 6) gr a0 i q) : ∃ t, fX4_nextArrivals (nI s) (nI gr) x = some (nI t) ∧ t < 268435456 ∧ ∀ q, t.testBit q = true ↔ arr pe (x 6) gr a0 (i + 1) q := by
  obtain ⟨t, a, b, c⟩ := nxt_loop (x := x) S5 hg hs 20 0 0 1979 rfl (by omega) (fun q => by rw [Nat.zero_testBit]; exact ⟨fun q => Bool.noConfusion q, fun ⟨p, q, _⟩ => absurd q (Nat.not_lt_zero p)⟩)
  refine ⟨t, a, b, fun q => ?_⟩
  rw [c q]
  constructor
  · rintro ⟨p, _, q2, q3, ⟨a, r1, r2, r3, r4⟩, q5⟩
    exact ⟨a, p, (h a).mp r2, r1, ⟨q2, r3, r4, q3⟩, q5⟩
  · rintro ⟨a, p, r1, r2, ⟨q2, r3, r4, q3⟩, q5⟩
    exact ⟨p, q2, q2, q3, ⟨a, r2, (h a).mpr r1, r3, r4⟩, q5⟩
theorem ush20 {t : Nat} (h : t < 268435456) : ((nI t).toUInt32 >>> ((20 : Int32).toUInt32 &&& Int32.toUInt32 31)).toInt32 = nI (t / 2 ^ 20) := pk_ushrN (by omega) 20 20 (by decide)
theorem X_rch_loop (S5 : ∀ q, q < 28 → x 5 q = enX (pe q)) {gr a0 : Nat} (hg : gr < 4) (v1 v3 : Int32) : ∀ (j i s hs n : Nat), i + j = 5 → s < 268435456 → hs < 256 → (∀ q, s.testBit q = true ↔ arr pe (x 6) gr a0 i q) → (∀ h, hs.testBit h = true ↔ ∃ k, 1 ≤ k ∧ k ≤ i ∧ arr pe (x 6) gr a0 k (20 + h)) → ∃ H, loop3 (fX4_hostsReached_b33 v1 (nI gr) v3 x) (n + 1 + j) (nI hs) (nI s) (nI i) = some (nI H) ∧ H < 256 ∧ ∀ h, H.testBit h = true ↔ ∃ k, 1 ≤ k ∧ k ≤ 5 ∧ arr pe (x 6) gr a0 k (20 + h) := by
  intro j
  induction j with
  | zero =>
    intro i s hs n e h1 h2 h3 h4
    obtain rfl : i = 5 := by omega
    exact ⟨hs, rfl, h2, h4⟩
  | succ j ih =>
    intro i s hs n e h1 h2 h3 h4
    obtain ⟨t, a, b, c⟩ := X_nxt S5 hg h1 h3
    have ht : t / 2 ^ 20 < 256 := by omega
    obtain ⟨H, d1, d2, d3⟩ := ih (i + 1) t (hs ||| t / 2 ^ 20) n (by omega) b (Nat.or_lt_two_pow (n := 8) h2 ht) c (by
      intro h
      rw [Nat.testBit_or, Bool.or_eq_true, h4 h, Nat.testBit_div_two_pow, Nat.add_comm h 20, c (20 + h)]
      constructor
      · rintro (⟨k, r1, r2, r3⟩ | r)
        · exact ⟨k, r1, by omega, r3⟩
        · exact ⟨i + 1, by omega, by omega, r⟩
      · rintro ⟨k, r1, r2, r3⟩
        by_cases e : k = i + 1
        · exact Or.inr (e ▸ r3)
        · exact Or.inl ⟨k, r1, by omega, r3⟩)
    refine ⟨H, ?_, d2, d3⟩
    show fX4_hostsReached_b33 v1 (nI gr) v3 x (loop3 (fX4_hostsReached_b33 v1 (nI gr) v3 x) (n + 1 + j)) (nI hs) (nI s) (nI i) = _
    generalize loop3 (fX4_hostsReached_b33 v1 (nI gr) v3 x) (n + 1 + j) = K at d1 ⊢
    unfold fX4_hostsReached_b33
    simp (disch := omega) only [n5le, a, Option.bind_some, ush20, nx_or, ea1]
    rw [if_neg (by omega)]
    exact d1
theorem pow28 {q : Nat} (h : q < 28) : 2 ^ q < 268435456 := Nat.pow_lt_pow_right (n := 28) (by omega) h
theorem bit2 {a q : Nat} : (2 ^ a).testBit q = true ↔ q = a := by
  rw [Nat.testBit_two_pow]
  exact ⟨fun q => (of_decide_eq_true q).symm, fun q => decide_eq_true q.symm⟩
theorem bindS {α β : Type} {o : Option α} {a : α} {f : α → Option β} (h : o = some a) : o.bind f = f a := by subst h; rfl
theorem fuel5 : fuel = 1994 + 1 + 5 := rfl
theorem X_rch0 (S5 : ∀ q, q < 28 → x 5 q = enX (pe q)) {gr a0 : Nat} (hg : gr < 4) (ha : a0 < 28) (v1 v3 : Int32) : ∃ H, loop3 (fX4_hostsReached_b33 v1 (nI gr) v3 x) fuel (0 : Int32) (nI (2 ^ a0)) (0 : Int32) = some (nI H) ∧ H < 256 ∧ ∀ h, H.testBit h = true ↔ ∃ k, 1 ≤ k ∧ k ≤ 5 ∧ arr pe (x 6) gr a0 k (20 + h) := by
  rw [fuel5, ← nI_0]
  refine X_rch_loop (x := x) (a0 := a0) S5 hg v1 v3 5 0 (2 ^ a0) 0 1994 (Nat.zero_add 5) (pow28 ha) (Nat.lt_of_lt_of_le Nat.zero_lt_one (by omega)) (fun q => bit2) ?_
  intro h'
  rw [Nat.zero_testBit]
  exact ⟨fun q => Bool.noConfusion q, fun ⟨k, q1, q2, _⟩ => absurd q1 (by omega)⟩
theorem X_rch (hPE : PE pe nb nh) (S : Str pe nb nh x m) {h gr : Nat} (hh : h < nh) (hg : gr < 4) : ∃ H, fX4_hostsReached (nI h) (nI gr) x = some (nI H) ∧ H < 256 ∧ ∀ h', H.testBit h' = true ↔ ∃ k, 1 ≤ k ∧ k ≤ 5 ∧ arr pe (x 6) gr (pe (20 + h)) k (20 + h') := by
  have hb := hPE.2.1
  have l1 : pe (20 + h) < 20 := hPE.2.2.2.2 h (by omega) ((hPE.2.2.2.1 h (by omega)).mpr hh)
  have S5 := S.2.2.2.2.2.1
  obtain ⟨H, d1, d2, d3⟩ := X_rch0 (x := x) (a0 := pe (20 + h)) S5 hg (by omega) (nI h) (nI (pe (20 + h)))
  refine ⟨H, ?_, d2, d3⟩
  have e1 : fX4_isPort (x 5 (20 + h)) x = some 1 := by rw [S5 _ (by omega), X_prt, if_pos l1]
  have e2 : x 5 (20 + h) = nI (pe (20 + h)) := by rw [S5 _ (by omega), enX_lt (by omega)]
  have e3 : inb (nI (20 + h)) 28 = true := inb_nI (by omega) (by omega)
  unfold fX4_hostsReached
  rw [e20a, clN (show 20 + h < 2147483648 by omega), if_pos e3, bindS e1, if_neg n10, e2, nx_1 _ (show pe (20 + h) < 31 by omega)]
  exact d1
end
