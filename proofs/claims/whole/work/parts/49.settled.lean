/-! ===== isSettled ===== -/
theorem loop1_S {α : Type} (body : (Int32 → Option α) → Int32 → Option α) (n : Nat) (v : Int32) : loop1 body (n + 1) v = body (loop1 body n) v := rfl
theorem l1_hit {body : (Int32 → Option Int32) → Int32 → Option Int32} {N : Nat} {c : Nat → Bool} {V : Int32} (h : ∀ K i, i < N → body K (nI i) = if c i = true then some V else K (nI (i + 1))) : ∀ (j i n : Nat), i + j = N → (∃ k, i ≤ k ∧ k < N ∧ c k = true) → loop1 body (n + 1 + j) (nI i) = some V := by
  intro j
  induction j with
  | zero => rintro i n e ⟨k, q1, q2, _⟩; omega
  | succ j ih =>
    rintro i n e ⟨k, q1, q2, q3⟩
    rw [show n + 1 + (j + 1) = (n + 1 + j) + 1 by omega, loop1_S, h _ _ (by omega)]
    by_cases ci : c i = true
    · rw [if_pos ci]
    · rw [if_neg ci]
      have : k ≠ i := fun e => ci (e ▸ q3)
      exact ih (i + 1) n (by omega) ⟨k, by omega, q2, q3⟩
theorem l1_end {body : (Int32 → Option Int32) → Int32 → Option Int32} {N : Nat} {c : Nat → Bool} {V : Int32} {E : Option Int32} (h : ∀ K i, i < N → body K (nI i) = if c i = true then some V else K (nI (i + 1))) (hE : ∀ K, body K (nI N) = E) : ∀ (j i n : Nat), i + j = N → (∀ k, i ≤ k → k < N → ¬ c k = true) → loop1 body (n + 1 + j) (nI i) = E := by
  intro j
  induction j with
  | zero =>
    intro i n e _
    obtain rfl : i = N := by omega
    rw [Nat.add_zero, loop1_S, hE]
  | succ j ih =>
    intro i n e hn
    rw [show n + 1 + (j + 1) = (n + 1 + j) + 1 by omega, loop1_S, h _ _ (by omega), if_neg (hn i (Nat.le_refl _) (by omega))]
    exact ih (i + 1) n (by omega) (fun k q1 q2 => hn k (by omega) q2)
theorem fuelN {n : Nat} (h : n ≤ 100) : fuel = (1999 - n) + 1 + n := by unfold fuel; omega
theorem l1_both {body : (Int32 → Option Int32) → Int32 → Option Int32} {N : Nat} {c : Nat → Bool} {V : Int32} {E : Option Int32} (hN : N ≤ 100) (h : ∀ K i, i < N → body K (nI i) = if c i = true then some V else K (nI (i + 1))) (hE : ∀ K, body K (nI N) = E) : ((∃ k, k < N ∧ c k = true) → loop1 body fuel (0 : Int32) = some V) ∧ ((∀ k, k < N → ¬ c k = true) → loop1 body fuel (0 : Int32) = E) := by
  rw [fuelN hN, ← nI_0]
  exact ⟨fun ⟨k, q1, q2⟩ => l1_hit h N 0 _ (by omega) ⟨k, Nat.zero_le _, q1, q2⟩, fun q => l1_end h hE N 0 _ (by omega) (fun k _ q1 => q k q1)⟩
section
variable {pe : Nat → Nat} {nb nh g : Nat} {x m : St}
def bsy (v : Int32) : Prop := v = 1 ∨ v = 3
theorem X_hts {q : Nat} (hq : q < 28) : ((∃ i, i < 4 ∧ bsy (x 8 (4 * q + i))) → fX4_hasToSend (nI q) x = some 1) ∧ ((∀ i, i < 4 → ¬ bsy (x 8 (4 * q + i))) → fX4_hasToSend (nI q) x = some 0) := by
  unfold fX4_hasToSend
  have l := l1_both (body := fX4_hasToSend_b2 (nI q) x) (N := 4) (c := fun i => decide (x 8 (4 * q + i) = 1 ∨ x 8 (4 * q + i) = 3)) (V := 1) (E := some 0) (by omega) (by
    intro K i hi
    unfold fX4_hasToSend_b2 fX4_cellOf
    simp (disch := omega) only [n4le, em4, eaa, Option.bind_some, inb_nI, clN, ↓reduceIte, ea1]
    rw [if_neg (by omega)]
    by_cases c1 : x 8 (4 * q + i) = 1
    · simp [c1]
    · by_cases c2 : x 8 (4 * q + i) = 3
      · simp [c2]
      · simp [c1, c2]) (by
    intro K
    rfl)
  exact ⟨fun ⟨i, q1, q2⟩ => l.1 ⟨i, q1, decide_eq_true (show x 8 (4 * q + i) = 1 ∨ x 8 (4 * q + i) = 3 from q2)⟩, fun w => l.2 (fun i q1 q2 => w i q1 (show x 8 (4 * q + i) = 1 ∨ x 8 (4 * q + i) = 3 from of_decide_eq_true q2))⟩
/-- what is wrong at a port, busy applicants apart -/
def flt (pe : Nat → Nat) (x : St) (p i : Nat) : Prop := x 6 (4 * p + i) = 2 ∨ ¬ ((x 8 (4 * p + i) = 2) ↔ want pe (x 6) p i = true)
theorem X_pst (S5 : ∀ q, q < 28 → x 5 q = enX (pe q)) {p : Nat} (hp : p < 20) : ((∃ i, i < 4 ∧ flt pe x p i) → fX4_isPortSettled (nI p) x = some 0) ∧ ((∀ i, i < 4 → ¬ flt pe x p i) → fX4_isPortSettled (nI p) x = some 1) := by
  unfold fX4_isPortSettled
  have l := l1_both (body := fX4_isPortSettled_b2 (nI p) x) (N := 4) (c := fun i => decide (x 6 (4 * p + i) = 2) || (decide (x 8 (4 * p + i) = 2) != want pe (x 6) p i)) (V := 0) (E := some 1) (by omega) (by
    intro K i hi
    unfold fX4_isPortSettled_b2 fX4_isPortSettled_b31 fX4_cellOf
    simp (disch := omega) only [n4le, em4, eaa, Option.bind_some, inb_nI, clN, ↓reduceIte, ea1, X_want S5]
    rw [if_neg (by omega)]
    by_cases c1 : x 6 (4 * p + i) = 2 <;> by_cases c2 : x 8 (4 * p + i) = 2 <;> cases want pe (x 6) p i <;> simp [c1, c2]) (by
    intro K
    rfl)
  have e : ∀ i, (decide (x 6 (4 * p + i) = 2) || (decide (x 8 (4 * p + i) = 2) != want pe (x 6) p i)) = true ↔ flt pe x p i := by
    intro i
    unfold flt
    by_cases c1 : x 6 (4 * p + i) = 2 <;> by_cases c2 : x 8 (4 * p + i) = 2 <;> cases want pe (x 6) p i <;> simp [c1, c2]
  exact ⟨fun ⟨i, q1, q2⟩ => l.1 ⟨i, q1, (e i).mpr q2⟩, fun q => l.2 (fun i q1 q2 => q i q1 ((e i).mp q2))⟩
theorem M_bsy (v : Int32) (σ : St) : fX5_isBusy v σ = some (if v = 1 ∨ v = 3 then 1 else 0) := by
  unfold fX5_isBusy fX5_isBusy_b10
  grind
theorem M_pst (h : SD pe nb nh x m) {p : Nat} (hp : p < 20) : ((∃ i, i < 4 ∧ (bsy (x 8 (4 * p + i)) ∨ flt pe x p i)) → fX5_isPortSettled (nI p) m = some 0) ∧ ((∀ i, i < 4 → ¬ (bsy (x 8 (4 * p + i)) ∨ flt pe x p i)) → fX5_isPortSettled (nI p) m = some 1) := by
  unfold fX5_isPortSettled
  have S1 := h.1.2.2.2.2.2.2.1
  have l := l1_both (body := fX5_isPortSettled_b2 (nI p) m) (N := 4) (c := fun i => decide (x 8 (4 * p + i) = 1 ∨ x 8 (4 * p + i) = 3) || (decide (x 6 (4 * p + i) = 2) || (decide (x 8 (4 * p + i) = 2) != want pe (x 6) p i))) (V := 0) (E := some 1) (by omega) (by
    intro K i hi
    unfold fX5_isPortSettled_b2 fX5_isPortSettled_b50
    have e6 : m 6 (4 * p + i) = x 8 (4 * p + i) := (h.2.2.2.2.1 _ (by omega)).symm
    have e4' : m 4 (4 * p + i) = x 6 (4 * p + i) := (h.2.2.1 _ (by omega)).symm
    simp (disch := omega) only [n4le, e4m, eaa, Option.bind_some, inb_nI, clN, ↓reduceIte, ea1, M_want S1, M_bsy, e6, e4', want_eq (r1 := m 4) (r2 := x 6) (fun k hk => (h.2.2.1 k hk).symm) hp hi]
    rw [if_neg (by omega)]
    by_cases c0 : x 8 (4 * p + i) = 1 ∨ x 8 (4 * p + i) = 3
    · simp [c0]
    · by_cases c1 : x 6 (4 * p + i) = 2 <;> by_cases c2 : x 8 (4 * p + i) = 2 <;> cases want pe (x 6) p i <;> simp [c0, c1, c2]) (by
    intro K
    rfl)
  have e : ∀ i, (decide (x 8 (4 * p + i) = 1 ∨ x 8 (4 * p + i) = 3) || (decide (x 6 (4 * p + i) = 2) || (decide (x 8 (4 * p + i) = 2) != want pe (x 6) p i))) = true ↔ (bsy (x 8 (4 * p + i)) ∨ flt pe x p i) := by
    intro i
    unfold flt bsy
    rw [Bool.or_eq_true, decide_eq_true_eq]
    by_cases c1 : x 6 (4 * p + i) = 2 <;> by_cases c2 : x 8 (4 * p + i) = 2 <;> cases want pe (x 6) p i <;> simp [c1, c2]
  exact ⟨fun ⟨i, q1, q2⟩ => l.1 ⟨i, q1, (e i).mpr q2⟩, fun q => l.2 (fun i q1 q2 => q i q1 ((e i).mp q2))⟩
theorem dec_b (P : Prop) : ∃ b : Bool, (b = true ↔ P) := by
  by_cases h : P
  · exact ⟨true, by simp [h]⟩
  · exact ⟨false, by simp [h]⟩
theorem cho (P : Nat → Prop) : ∃ c : Nat → Bool, ∀ i, (c i = true ↔ P i) := ⟨fun i => Classical.choose (dec_b (P i)), fun i => Classical.choose_spec (dec_b (P i))⟩
theorem X_set (h : SD pe nb nh x m) : (((∃ q, q < 28 ∧ x 15 q = 0 ∧ ∃ i, i < 4 ∧ bsy (x 8 (4 * q + i))) ∨ (∃ p, p < 20 ∧ pe p < 28 ∧ ∃ i, i < 4 ∧ flt pe x p i)) → fX4_isSettled x = some 0) ∧ (¬ ((∃ q, q < 28 ∧ x 15 q = 0 ∧ ∃ i, i < 4 ∧ bsy (x 8 (4 * q + i))) ∨ (∃ p, p < 20 ∧ pe p < 28 ∧ ∃ i, i < 4 ∧ flt pe x p i)) → fX4_isSettled x = some 1) := by
  have S := h.1
  have S5 := S.2.2.2.2.2.1
  obtain ⟨c1, hc1⟩ := cho (fun q => x 15 q = 0 ∧ ∃ i, i < 4 ∧ bsy (x 8 (4 * q + i)))
  obtain ⟨c2, hc2⟩ := cho (fun p => pe p < 28 ∧ ∃ i, i < 4 ∧ flt pe x p i)
  have l2 := l1_both (body := fX4_isSettled_b35 x) (N := 20) (c := c2) (V := 0) (E := some 1) (by omega) (by
    intro K p hp
    unfold fX4_isSettled_b35 fX4_isSettled_b62
    simp (disch := omega) only [n20le, X_con S, ea1]
    rw [if_neg (by omega)]
    by_cases hc : pe p < 28
    · simp only [hc, ↓reduceIte, Option.bind_some]
      rw [if_neg n10]
      by_cases hf : ∃ i, i < 4 ∧ flt pe x p i
      · rw [(X_pst S5 hp).1 hf, if_pos ((hc2 p).mpr ⟨hc, hf⟩)]
        rfl
      · rw [(X_pst S5 hp).2 (fun i q1 q2 => hf ⟨i, q1, q2⟩), if_neg (fun q => hf ((hc2 p).mp q).2)]
        rfl
    · rw [if_neg (fun q => hc ((hc2 p).mp q).1)]
      simp only [hc, ↓reduceIte, Option.bind_some]) (by
    intro K
    rfl)
  have l1 := l1_both (body := fX4_isSettled_b2 x) (N := 28) (c := c1) (V := 0) (E := loop1 (fX4_isSettled_b35 x) fuel (0 : Int32)) (by omega) (by
    intro K q hq
    unfold fX4_isSettled_b2 fX4_isSettled_b27
    simp (disch := omega) only [n28le, inb_nI, clN, ↓reduceIte, ea1]
    rw [if_neg (by omega)]
    by_cases hz : x 15 q = 0
    · rw [if_pos hz]
      by_cases hf : ∃ i, i < 4 ∧ bsy (x 8 (4 * q + i))
      · rw [(X_hts hq).1 hf, if_pos ((hc1 q).mpr ⟨hz, hf⟩)]
        rfl
      · rw [(X_hts hq).2 (fun i q1 q2 => hf ⟨i, q1, q2⟩), if_neg (fun r => hf ((hc1 q).mp r).2)]
        rfl
    · rw [if_neg hz, if_neg (fun r => hz ((hc1 q).mp r).1)]) (by
    intro K
    unfold fX4_isSettled_b2 fX4_isSettled_b33
    rw [if_pos (by decide)])
  unfold fX4_isSettled
  constructor
  · intro hb
    by_cases hq : ∃ q, q < 28 ∧ c1 q = true
    · exact l1.1 hq
    · rw [l1.2 (fun k q1 q2 => hq ⟨k, q1, q2⟩)]
      rcases hb with ⟨q, r1, r2⟩ | ⟨p, r1, r2⟩
      · exact absurd ⟨q, r1, (hc1 q).mpr r2⟩ hq
      · exact l2.1 ⟨p, r1, (hc2 p).mpr r2⟩
  · intro hb
    rw [l1.2 (fun k q1 q2 => hb (Or.inl ⟨k, q1, (hc1 k).mp q2⟩)), l2.2 (fun k q1 q2 => hb (Or.inr ⟨k, q1, (hc2 k).mp q2⟩))]
theorem M_set (hPE : PE pe nb nh) (h : SD pe nb nh x m) : (((∃ p, p < 20 ∧ pe p < 28 ∧ ∃ i, i < 4 ∧ (bsy (x 8 (4 * p + i)) ∨ flt pe x p i)) ∨ (∃ k, k < 4 * nh ∧ m 3 (k / 4) = 0 ∧ bsy (x 8 (80 + k)))) → fX5_isSettled m = some 0) ∧ (¬ ((∃ p, p < 20 ∧ pe p < 28 ∧ ∃ i, i < 4 ∧ (bsy (x 8 (4 * p + i)) ∨ flt pe x p i)) ∨ (∃ k, k < 4 * nh ∧ m 3 (k / 4) = 0 ∧ bsy (x 8 (80 + k)))) → fX5_isSettled m = some 1) := by
  have S := h.1
  have hb8 := hPE.2.1
  obtain ⟨c1, hc1⟩ := cho (fun p => pe p < 28 ∧ ∃ i, i < 4 ∧ (bsy (x 8 (4 * p + i)) ∨ flt pe x p i))
  obtain ⟨c2, hc2⟩ := cho (fun k => m 3 (k / 4) = 0 ∧ bsy (x 8 (80 + k)))
  have l2 := l1_both (body := fX5_isSettled_b34 m) (N := 4 * nh) (c := c2) (V := 0) (E := some 1) (by omega) (by
    intro K k hk
    unfold fX5_isSettled_b34 fX5_isSettled_b69
    have e10 : m 10 k = x 8 (80 + k) := (h.2.2.2.2.2.2.1 _ (by omega)).symm
    simp (disch := omega) only [S.2.2.2.1, e4m, leN, ed4, inb_nI, clN, ↓reduceIte, M_bsy, e10, Option.bind_some, ea1]
    rw [if_neg (by omega)]
    by_cases hz : m 3 (k / 4) = 0
    · rw [if_pos hz]
      by_cases hf : x 8 (80 + k) = 1 ∨ x 8 (80 + k) = 3
      · rw [if_pos hf, if_pos ((hc2 k).mpr ⟨hz, hf⟩), if_neg n10]
      · rw [if_neg hf, if_neg (fun r => hf ((hc2 k).mp r).2), if_pos rfl]
    · rw [if_neg hz, if_neg (fun r => hz ((hc2 k).mp r).1)]) (by
    intro K
    unfold fX5_isSettled_b34
    rw [S.2.2.2.1, e4m, if_pos (by rw [leN (by omega) (by omega)]; omega)])
  have l1 := l1_both (body := fX5_isSettled_b2 m) (N := 20) (c := c1) (V := 0) (E := loop1 (fX5_isSettled_b34 m) fuel (0 : Int32)) (by omega) (by
    intro K p hp
    unfold fX5_isSettled_b2 fX5_isSettled_b26
    simp (disch := omega) only [n20le, M_con S, ea1]
    rw [if_neg (by omega)]
    by_cases hc : pe p < 28
    · simp only [hc, ↓reduceIte, Option.bind_some]
      rw [if_neg n10]
      by_cases hf : ∃ i, i < 4 ∧ (bsy (x 8 (4 * p + i)) ∨ flt pe x p i)
      · rw [(M_pst h hp).1 hf, if_pos ((hc1 p).mpr ⟨hc, hf⟩)]
        rfl
      · rw [(M_pst h hp).2 (fun i q1 q2 => hf ⟨i, q1, q2⟩), if_neg (fun q => hf ((hc1 p).mp q).2)]
        rfl
    · rw [if_neg (fun q => hc ((hc1 p).mp q).1)]
      simp only [hc, ↓reduceIte, Option.bind_some]) (by
    intro K
    unfold fX5_isSettled_b2 fX5_isSettled_b32
    rw [if_pos (by decide)])
  unfold fX5_isSettled
  constructor
  · intro hb
    by_cases hq : ∃ q, q < 20 ∧ c1 q = true
    · exact l1.1 hq
    · rw [l1.2 (fun k q1 q2 => hq ⟨k, q1, q2⟩)]
      rcases hb with ⟨q, r1, r2⟩ | ⟨p, r1, r2⟩
      · exact absurd ⟨q, r1, (hc1 q).mpr r2⟩ hq
      · exact l2.1 ⟨p, r1, (hc2 p).mpr r2⟩
  · intro hb
    rw [l1.2 (fun k q1 q2 => hb (Or.inl ⟨k, q1, (hc1 k).mp q2⟩)), l2.2 (fun k q1 q2 => hb (Or.inr ⟨k, q1, (hc2 k).mp q2⟩))]
theorem bsy_ne {v : Int32} (h : bsy v) : v ≠ 0 := by
  rcases h with h | h <;> rw [h] <;> decide
theorem sim_isSettled (hPE : PE pe nb nh) (h : SD pe nb nh x m) : ∃ r, fX4_isSettled x = some r ∧ fX5_isSettled m = some r := by
  have hb8 := hPE.2.1
  have hs15 := h.2.2.2.2.2.2.2.2.2.2.1
  have hs0 := h.2.2.2.2.2.2.2.2.2.2.2.1
  have hfree := h.2.2.2.2.2.2.2.2.2.2.2.2.2.1
  have hno := h.2.2.2.2.2.2.2.2.2.2.2.2.2.2
  have key : ((∃ q, q < 28 ∧ x 15 q = 0 ∧ ∃ i, i < 4 ∧ bsy (x 8 (4 * q + i))) ∨ (∃ p, p < 20 ∧ pe p < 28 ∧ ∃ i, i < 4 ∧ flt pe x p i)) ↔ ((∃ p, p < 20 ∧ pe p < 28 ∧ ∃ i, i < 4 ∧ (bsy (x 8 (4 * p + i)) ∨ flt pe x p i)) ∨ (∃ k, k < 4 * nh ∧ m 3 (k / 4) = 0 ∧ bsy (x 8 (80 + k)))) := by
    constructor
    · rintro (⟨q, r1, r2, i, r3, r4⟩ | ⟨p, r1, r2, i, r3, r4⟩)
      · by_cases hq : q < 20
        · left
          refine ⟨q, hq, ?_, i, r3, Or.inl r4⟩
          apply Classical.byContradiction
          intro hn
          exact bsy_ne r4 (hfree (4 * q + i) (by omega) (by rw [show (4 * q + i) / 4 = q by omega]; exact hn)).2.2
        · right
          obtain ⟨o, rfl⟩ : ∃ o, q = 20 + o := ⟨q - 20, by omega⟩
          rw [show 4 * (20 + o) + i = 80 + (4 * o + i) by omega] at r4
          have ho : o < nh := by
            apply Classical.byContradiction
            intro hn
            exact bsy_ne r4 (hno (4 * o + i) (by omega) (by omega))
          refine ⟨4 * o + i, by omega, ?_, r4⟩
          rw [show (4 * o + i) / 4 = o by omega, ← hs15 o (by omega)]
          exact r2
      · exact Or.inl ⟨p, r1, r2, i, r3, Or.inr r4⟩
    · rintro (⟨p, r1, r2, i, r3, r4 | r4⟩ | ⟨k, r1, r2, r3⟩)
      · exact Or.inl ⟨p, by omega, hs0 p r1, i, r3, r4⟩
      · exact Or.inr ⟨p, r1, r2, i, r3, r4⟩
      · refine Or.inl ⟨20 + k / 4, by omega, by rw [hs15 _ (by omega)]; exact r2, k % 4, by omega, ?_⟩
        rw [show 4 * (20 + k / 4) + k % 4 = 80 + k by omega]
        exact r3
  by_cases hb : (∃ q, q < 28 ∧ x 15 q = 0 ∧ ∃ i, i < 4 ∧ bsy (x 8 (4 * q + i))) ∨ (∃ p, p < 20 ∧ pe p < 28 ∧ ∃ i, i < 4 ∧ flt pe x p i)
  · exact ⟨0, (X_set h).1 hb, (M_set hPE h).1 (key.mp hb)⟩
  · exact ⟨1, (X_set h).2 hb, (M_set hPE h).2 (fun q => hb (key.mpr q))⟩
end
