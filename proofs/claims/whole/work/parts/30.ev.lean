/-! ===== numbers, writes, loops: how the printed functions are read ===== -/
theorem up2_ap (σ : St) (c i : Nat) (v : Int32) (c' j : Nat) : up2 σ c i v c' j = if c' = c ∧ j = i then v else σ c' j := by
  unfold up2
  by_cases h : c' = c
  · subst h
    rw [show Nat.beq c' c' = true from Nat.beq_refl c']
    by_cases hj : j = i <;> simp [upd, hj]
  · rw [show Nat.beq c' c = false from by rw [← Bool.not_eq_true]; intro hb; exact h (Nat.eq_of_beq_eq_true hb)]
    simp [h]
theorem up2_self {σ : St} {c i : Nat} {v : Int32} (h : σ c i = v) : up2 σ c i v = σ := by
  funext c' j
  rw [up2_ap]
  by_cases hc : c' = c ∧ j = i
  · rw [if_pos hc, hc.1, hc.2, h]
  · rw [if_neg hc]
theorem up2_hit (σ : St) (c i : Nat) (v : Int32) : up2 σ c i v c i = v := by rw [up2_ap, if_pos ⟨rfl, rfl⟩]
theorem up2_c {σ : St} {c i c' j : Nat} {v : Int32} (h : c' ≠ c) : up2 σ c i v c' j = σ c' j := by rw [up2_ap, if_neg (fun q => h q.1)]
theorem up2_j {σ : St} {c i c' j : Nat} {v : Int32} (h : j ≠ i) : up2 σ c i v c' j = σ c' j := by rw [up2_ap, if_neg (fun q => h q.2)]
theorem inb_nI {k n : Nat} (h : k < n) (hn : n < 2147483648) : inb (nI k) n = true := by
  have h1 : k < 2 ^ 31 := by omega
  unfold inb
  have a : ¬ nI k < 0 := nI_pos h1
  have b : ¬ n ≤ (nI k).toNatClampNeg := by rw [nI_clamp h1]; omega
  simp [a, b]
theorem clN {k : Nat} (h : k < 2147483648) : (nI k).toNatClampNeg = k := nI_clamp (by omega)
theorem e4m (a : Nat) : (4 : Int32) * nI a = nI (4 * a) := by rw [show (4 : Int32) = nI 4 from rfl, pk_mul]
theorem em4 (a : Nat) : nI a * (4 : Int32) = nI (4 * a) := by rw [show (4 : Int32) = nI 4 from rfl, pk_mul, Nat.mul_comm]
theorem ea4 (a : Nat) : nI a + (4 : Int32) = nI (a + 4) := by rw [show (4 : Int32) = nI 4 from rfl, nI_add]
theorem ea1 (a : Nat) : nI a + (1 : Int32) = nI (a + 1) := nI_1 a
theorem e20a (a : Nat) : (20 : Int32) + nI a = nI (20 + a) := by rw [show (20 : Int32) = nI 20 from rfl, nI_add]
theorem ed4 {a : Nat} (h : a < 2147483648) : nI a / (4 : Int32) = nI (a / 4) := by rw [show (4 : Int32) = nI 4 from rfl, pk_div (by omega) (by omega) (by omega)]
theorem er4 {a : Nat} (h : a < 2147483648) : nI a - nI a / (4 : Int32) * (4 : Int32) = nI (a % 4) := by rw [show (4 : Int32) = nI 4 from rfl, pk_rem (by omega) (by omega) (by omega)]
theorem eaa (a b : Nat) : nI a + nI b = nI (a + b) := nI_add a b
theorem es1 (a : Nat) : nI (a + 1) - (1 : Int32) = nI a := nI_pred a
theorem lt0 {k : Nat} (h : k < 2147483648) : (nI k < 0) = False := eq_false (nI_pos (by omega))
theorem ge0 {k : Nat} (h : k < 2147483648) : (0 ≤ nI k) = True := eq_true (nI_pos' (by omega))
theorem leN {a b : Nat} (ha : a < 2147483648) (hb : b < 2147483648) : (nI a ≤ nI b) = (a ≤ b) := propext (nI_leI (by omega) (by omega))
theorem ltN {a b : Nat} (ha : a < 2147483648) (hb : b < 2147483648) : (nI a < nI b) = (a < b) := propext (nI_ltI (by omega) (by omega))
theorem eqN {a b : Nat} (ha : a < 2147483648) (hb : b < 2147483648) : (nI a = nI b) = (a = b) := propext (nI_eq (by omega) (by omega))
theorem n4le {k : Nat} (h : k < 2147483648) : ((4 : Int32) ≤ nI k) = (4 ≤ k) := leN (a := 4) (by omega) h
theorem n20le {k : Nat} (h : k < 2147483648) : ((20 : Int32) ≤ nI k) = (20 ≤ k) := leN (a := 20) (by omega) h
theorem n28le {k : Nat} (h : k < 2147483648) : ((28 : Int32) ≤ nI k) = (28 ≤ k) := leN (a := 28) (by omega) h
theorem n5le {k : Nat} (h : k < 2147483648) : ((5 : Int32) ≤ nI k) = (5 ≤ k) := leN (a := 5) (by omega) h
theorem n112le {k : Nat} (h : k < 2147483648) : ((112 : Int32) ≤ nI k) = (112 ≤ k) := leN (a := 112) (by omega) h
theorem n5lt {k : Nat} (h : k < 2147483648) : ((5 : Int32) < nI k) = (5 < k) := ltN (a := 5) (by omega) h
theorem nlt4 {k : Nat} (h : k < 2147483648) : (nI k < (4 : Int32)) = (k < 4) := ltN (b := 4) h (by omega)
theorem nlt5 {k : Nat} (h : k < 2147483648) : (nI k < (5 : Int32)) = (k < 5) := ltN (b := 5) h (by omega)
theorem nlt8 {k : Nat} (h : k < 2147483648) : (nI k < (8 : Int32)) = (k < 8) := ltN (b := 8) h (by omega)
theorem n19lt {k : Nat} (h : k < 2147483648) : ((19 : Int32) < nI k) = (19 < k) := ltN (a := 19) (by omega) h
theorem n3lt {k : Nat} (h : k < 2147483648) : ((3 : Int32) < nI k) = (3 < k) := ltN (a := 3) (by omega) h
theorem nz0 {k : Nat} (h : k < 2147483648) : (nI k = 0) = (k = 0) := eqN (b := 0) h (by omega)
theorem nm1 {k : Nat} (h : k < 2147483648) : (nI k = (-1 : Int32)) = False := by
  refine eq_false (fun e => ?_)
  have h1 := nI_pos (n := k) (by omega)
  rw [e] at h1
  exact h1 (by decide)
theorem zb0 : vp_nar .boolean (0 : Int32) = 0 := rfl
theorem zb1 : vp_nar .boolean (1 : Int32) = 1 := rfl
/-- an int is negative, or a natural number -/
theorem i_cases (x : Int32) : x < 0 ∨ ∃ k : Nat, k < 2147483648 ∧ x = nI k := by
  by_cases h : x < 0
  · exact Or.inl h
  · obtain ⟨j, hj, e⟩ := nI_of h
    exact Or.inr ⟨j, by omega, e⟩
/-- what a station's other end is: 28 or more: nobody -/
def enX (q : Nat) : Int32 := if q < 28 then nI q else -1
def enM (q : Nat) : Int32 := if q < 20 then nI q else if q < 28 then nI (q + 80) else -1
theorem enX_lt {q : Nat} (h : q < 28) : enX q = nI q := if_pos h
theorem enX_ge {q : Nat} (h : ¬ q < 28) : enX q = -1 := if_neg h
theorem enM_p {q : Nat} (h : q < 20) : enM q = nI q := if_pos h
theorem enM_h {q : Nat} (h : ¬ q < 20) (h2 : q < 28) : enM q = nI (q + 80) := by unfold enM; rw [if_neg h, if_pos h2]
theorem enM_ge {q : Nat} (h : ¬ q < 28) : enM q = -1 := by unfold enM; rw [if_neg (by omega), if_neg h]
/-! loops -/
theorem fuel_eq (k : Nat) (h : k ≤ 2000) : fuel = (2000 - k) + k := by unfold fuel; omega
theorem loop1s_go {α : Type} (body : (Int32 → St → Option α) → Int32 → St → Option α) (N b : Nat) (f : Nat → St → St) (I : Nat → St → Prop)
    (h : ∀ (K : Int32 → St → Option α) (i : Nat) (σ : St), i < N → I i σ → body K (nI (b + i)) σ = K (nI (b + (i + 1))) (f i σ) ∧ I (i + 1) (f i σ)) :
    ∀ (m i : Nat) (σ : St) (n : Nat), i + m = N → I i σ → ∃ σ', loop1s body (n + m) (nI (b + i)) σ = loop1s body n (nI (b + N)) σ' ∧ I N σ' := by
  intro m
  induction m with
  | zero => intro i σ n e hI; obtain rfl : i = N := by omega
            exact ⟨σ, rfl, hI⟩
  | succ m ih =>
    intro i σ n e hI
    obtain ⟨h1, h2⟩ := h (loop1s body (n + m)) i σ (by omega) hI
    obtain ⟨σ', h3, h4⟩ := ih (i + 1) (f i σ) n (by omega) h2
    refine ⟨σ', ?_, h4⟩
    show body (loop1s body (n + m)) (nI (b + i)) σ = _
    rw [h1]
    exact h3
/-- four places in a row -/
theorem loop1s_4 {α : Type} (body : (Int32 → St → Option α) → Int32 → St → Option α) (b : Nat) (f : Nat → St → St) (E : Option α)
    (σ : St) (h : ∀ (K : Int32 → St → Option α) (i : Nat) (σ : St), i < 4 → body K (nI (b + i)) σ = K (nI (b + i + 1)) (f i σ))
    (hE : ∀ (K : Int32 → St → Option α), body K (nI (b + 4)) (f 3 (f 2 (f 1 (f 0 σ)))) = E) : loop1s body fuel (nI b) σ = E := by
  show body (loop1s body 1999) (nI (b + 0)) σ = E
  rw [h _ 0 σ (by omega)]
  show body (loop1s body 1998) (nI (b + 1)) _ = E
  rw [h _ 1 _ (by omega)]
  show body (loop1s body 1997) (nI (b + 2)) _ = E
  rw [h _ 2 _ (by omega)]
  show body (loop1s body 1996) (nI (b + 3)) _ = E
  rw [h _ 3 _ (by omega)]
  show body (loop1s body 1995) (nI (b + 4)) _ = E
  exact hE _
