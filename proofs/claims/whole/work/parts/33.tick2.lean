/-! ===== part 2 of a tick ===== -/
theorem loop1s_4I {α : Type} (body : (Int32 → St → Option α) → Int32 → St → Option α) (I : St → Prop) (b : Nat) (f : Nat → St → St) (E : Option α)
    (σ : St) (h0 : I σ) (h : ∀ (K : Int32 → St → Option α) (i : Nat) (σ : St), i < 4 → I σ → body K (nI (b + i)) σ = K (nI (b + i + 1)) (f i σ)) (hI : ∀ (i : Nat) (σ : St), i < 4 → I σ → I (f i σ))
    (hE : ∀ (K : Int32 → St → Option α), body K (nI (b + 4)) (f 3 (f 2 (f 1 (f 0 σ)))) = E) : loop1s body fuel (nI b) σ = E := by
  have i1 := hI 0 σ (by omega) h0
  have i2 := hI 1 _ (by omega) i1
  have i3 := hI 2 _ (by omega) i2
  show body (loop1s body 1999) (nI (b + 0)) σ = E
  rw [h _ 0 σ (by omega) h0]
  show body (loop1s body 1998) (nI (b + 1)) _ = E
  rw [h _ 1 _ (by omega) i1]
  show body (loop1s body 1997) (nI (b + 2)) _ = E
  rw [h _ 2 _ (by omega) i2]
  show body (loop1s body 1996) (nI (b + 3)) _ = E
  rw [h _ 3 _ (by omega) i3]
  show body (loop1s body 1995) (nI (b + 4)) _ = E
  exact hE _
theorem loop2s_4I {α : Type} (body : (Int32 → Int32 → St → Option α) → Int32 → Int32 → St → Option α) (I : St → Prop) (b : Nat) (f : Nat → St → St) (c : Nat → St → Int32) (E : Option α)
    (v : Int32) (σ : St) (h0 : I σ) (h : ∀ (K : Int32 → Int32 → St → Option α) (i : Nat) (v : Int32) (σ : St), i < 4 → I σ → body K v (nI (b + i)) σ = K (v + c i σ) (nI (b + i + 1)) (f i σ)) (hI : ∀ (i : Nat) (σ : St), i < 4 → I σ → I (f i σ))
    (hE : ∀ (K : Int32 → Int32 → St → Option α), body K (v + c 0 σ + c 1 (f 0 σ) + c 2 (f 1 (f 0 σ)) + c 3 (f 2 (f 1 (f 0 σ)))) (nI (b + 4)) (f 3 (f 2 (f 1 (f 0 σ)))) = E) : loop2s body fuel v (nI b) σ = E := by
  have i1 := hI 0 σ (by omega) h0
  have i2 := hI 1 _ (by omega) i1
  have i3 := hI 2 _ (by omega) i2
  show body (loop2s body 1999) v (nI (b + 0)) σ = E
  rw [h _ 0 v σ (by omega) h0]
  show body (loop2s body 1998) _ (nI (b + 1)) _ = E
  rw [h _ 1 _ _ (by omega) i1]
  show body (loop2s body 1997) _ (nI (b + 2)) _ = E
  rw [h _ 2 _ _ (by omega) i2]
  show body (loop2s body 1996) _ (nI (b + 3)) _ = E
  rw [h _ 3 _ _ (by omega) i3]
  show body (loop2s body 1995) _ (nI (b + 4)) _ = E
  exact hE _
/-- a loop over four places that ends with 1 at the first that has c -/
theorem loop1_4b (body : (Int32 → Option Int32) → Int32 → Option Int32) (b : Nat) (c : Nat → Bool) (h : ∀ (K : Int32 → Option Int32) (i : Nat), i < 4 → body K (nI (b + i)) = if c i = true then some 1 else K (nI (b + i + 1))) (hE : ∀ (K : Int32 → Option Int32), body K (nI (b + 4)) = some 0) : loop1 body fuel (nI b) = some (if (c 0 || c 1 || c 2 || c 3) = true then 1 else 0) := by
  show body (loop1 body 1999) (nI (b + 0)) = _
  rw [h _ 0 (by omega)]
  cases c0 : c 0
  · show loop1 body 1999 (nI (b + 1)) = _
    show body (loop1 body 1998) (nI (b + 1)) = _
    rw [h _ 1 (by omega)]
    cases c1 : c 1
    · show body (loop1 body 1997) (nI (b + 2)) = _
      rw [h _ 2 (by omega)]
      cases c2 : c 2
      · show body (loop1 body 1996) (nI (b + 3)) = _
        rw [h _ 3 (by omega)]
        cases c3 : c 3
        · show body (loop1 body 1995) (nI (b + 4)) = _
          rw [hE]
          rfl
        · rfl
      · rfl
    · rfl
  · rfl
section
variable {pe : Nat → Nat} {nb nh : Nat} {x m : St}
theorem X_con5 {q : Nat} (S : ∀ q, q < 28 → x 5 q = enX (pe q)) (h : q < 28) : fX1_isConnected (nI q) x = some (if pe q < 28 then 1 else 0) := by
  unfold fX1_isConnected
  simp (disch := omega) only [inb_nI, clN, ↓reduceIte, S q h, X_sta, Option.bind_some]
  by_cases h2 : pe q < 28 <;> simp [h2]
theorem M_con1 {p : Nat} (S : ∀ p, p < 20 → m 1 p = enM (pe p)) (h : p < 20) : fX5_isConnected (nI p) m = some (if pe p < 28 then 1 else 0) := by
  unfold fX5_isConnected
  simp (disch := omega) only [inb_nI, clN, ↓reduceIte, S p h]
  by_cases h2 : pe p < 28
  · by_cases h3 : pe p < 20
    · simp (disch := omega) only [enM_p h3, nm1, h2, ↓reduceIte]
    · simp (disch := omega) only [enM_h h3 h2, nm1, h2, ↓reduceIte]
  · simp only [enM_ge h2, h2, ↓reduceIte]
/-- group g is registered at another connected port of p's bridge; reg: the registrars -/
def wnt (pe : Nat → Nat) (reg : Nat → Int32) (p g i : Nat) : Bool := decide (4 * (p / 4) + i ≠ p ∧ pe (4 * (p / 4) + i) < 28 ∧ reg (4 * (4 * (p / 4) + i) + g) ≠ 0)
def want (pe : Nat → Nat) (reg : Nat → Int32) (p g : Nat) : Bool := wnt pe reg p g 0 || wnt pe reg p g 1 || wnt pe reg p g 2 || wnt pe reg p g 3
theorem X_reg {q g : Nat} (S : ∀ q, q < 28 → x 5 q = enX (pe q)) (h : q < 20) (hg : g < 4) : fX4_isRegisteredAt (nI q) (nI g) x = some (if pe q < 28 ∧ x 6 (4 * q + g) ≠ 0 then 1 else 0) := by
  unfold fX4_isRegisteredAt fX4_cellOf
  simp (disch := omega) only [X_con5 S, Option.bind_some, em4, eaa, inb_nI, clN, ↓reduceIte]
  by_cases h2 : pe q < 28
  · by_cases h3 : x 6 (4 * q + g) = 0 <;> simp [h2, h3]
  · simp [h2]
theorem X_want {p g : Nat} (S : ∀ q, q < 28 → x 5 q = enX (pe q)) (h : p < 20) (hg : g < 4) : fX4_isWanted (nI p) (nI g) x = some (if want pe (x 6) p g = true then 1 else 0) := by
  unfold fX4_isWanted fX4_bridgeOf
  simp (disch := omega) only [ed4, Option.bind_some, em4]
  refine loop1_4b _ (4 * (p / 4)) (wnt pe (x 6) p g) ?_ ?_
  · intro K i hi
    unfold fX4_isWanted_b10 fX4_isWanted_b36 wnt
    simp (disch := omega) only [ea4, ea1, leN, eqN, X_reg S, Option.bind_some]
    rw [if_neg (by omega)]
    by_cases h1 : 4 * (p / 4) + i = p
    · simp [h1]
    · by_cases h2 : pe (4 * (p / 4) + i) < 28
      · by_cases h3 : x 6 (4 * (4 * (p / 4) + i) + g) = 0 <;> simp [h1, h2, h3]
      · simp [h1, h2]
  · intro K
    unfold fX4_isWanted_b10
    simp (disch := omega) only [ea4, leN, Nat.le_refl, ↓reduceIte]
theorem M_want {p g : Nat} (S : ∀ p, p < 20 → m 1 p = enM (pe p)) (h : p < 20) (hg : g < 4) : fX5_isWanted (nI p) (nI g) m = some (if want pe (m 4) p g = true then 1 else 0) := by
  unfold fX5_isWanted
  simp (disch := omega) only [ed4, em4]
  refine loop1_4b _ (4 * (p / 4)) (wnt pe (m 4) p g) ?_ ?_
  · intro K i hi
    unfold fX5_isWanted_b6 fX5_isWanted_b45 wnt
    simp (disch := omega) only [ed4, em4, e4m, eaa, ea4, ea1, leN, eqN, M_con1 S, Option.bind_some, inb_nI, clN, ↓reduceIte]
    rw [if_neg (by omega)]
    by_cases h1 : 4 * (p / 4) + i = p
    · simp [h1]
    · by_cases h2 : pe (4 * (p / 4) + i) < 28
      · by_cases h3 : m 4 (4 * (4 * (p / 4) + i) + g) = 0 <;> simp [h1, h2, h3]
      · simp [h1, h2]
  · intro K
    unfold fX5_isWanted_b6
    simp (disch := omega) only [ed4, em4, ea4, leN, Nat.le_refl, ↓reduceIte]
theorem want_eq {p g : Nat} {r1 r2 : Nat → Int32} (h : ∀ k, k < 80 → r1 k = r2 k) (hp : p < 20) (hg : g < 4) : want pe r1 p g = want pe r2 p g := by
  unfold want wnt
  rw [h _ (show 4 * (4 * (p / 4) + 0) + g < 80 by omega), h _ (show 4 * (4 * (p / 4) + 1) + g < 80 by omega), h _ (show 4 * (4 * (p / 4) + 2) + g < 80 by omega), h _ (show 4 * (4 * (p / 4) + 3) + g < 80 by omega)]
/-- an applicant starts, or stops, to declare -/
def dcl (v : Int32) : Prop := v = 1 ∨ v = 2
theorem X_isd {k : Nat} (h : k < 112) (σ : St) : fX0_isDeclaring (nI k) σ = some (if σ 8 k = 1 ∨ σ 8 k = 2 then 1 else 0) := by
  unfold fX0_isDeclaring fX0_isDeclaring_b20
  simp (disch := omega) only [inb_nI, clN, ↓reduceIte]
  grind
theorem X_start {k : Nat} (h : k < 112) (σ : St) : fX0_startDeclaring (nI k) σ = some (if σ 8 k = 1 ∨ σ 8 k = 2 then ((0 : Int32), σ) else (1, up2 (up2 σ 8 k 1) 9 k 2)) := by
  unfold fX0_startDeclaring fX0_change
  simp (disch := omega) only [X_isd, Option.bind_some, inb_nI, clN, ↓reduceIte]
  by_cases c : σ 8 k = 1 ∨ σ 8 k = 2 <;> simp [c]
theorem X_stop {k : Nat} (h : k < 112) (σ : St) : fX0_stopDeclaring (nI k) σ = some (if σ 8 k = 1 ∨ σ 8 k = 2 then ((1 : Int32), up2 (up2 σ 8 k 3) 9 k 0) else (0, σ)) := by
  unfold fX0_stopDeclaring fX0_change
  simp (disch := omega) only [X_isd, Option.bind_some, inb_nI, clN, ↓reduceIte]
  by_cases c : σ 8 k = 1 ∨ σ 8 k = 2 <;> simp [c]
theorem M_dcl (v : Int32) (σ : St) : fX5_declares v σ = some (if v = 1 ∨ v = 2 then 1 else 0) := by
  unfold fX5_declares fX5_declares_b10
  grind
def prX (w : Bool) (k : Nat) (σ : St) : St := if w = true then (if σ 8 k = 1 ∨ σ 8 k = 2 then σ else up2 (up2 σ 8 k 1) 9 k 2) else (if σ 8 k = 1 ∨ σ 8 k = 2 then up2 (up2 σ 8 k 3) 9 k 0 else σ)
def prM (w : Bool) (k : Nat) (σ : St) : St := if w = true then (if σ 6 k = 1 ∨ σ 6 k = 2 then σ else up2 (up2 σ 6 k 1) 7 k 2) else (if σ 6 k = 1 ∨ σ 6 k = 2 then up2 σ 6 k 3 else σ)
theorem pr_rel {k : Nat} {w : Bool} (h : SD pe nb nh x m) (hk : k < 80) (hc : pe (k / 4) < 28) : SD pe nb nh (prX w k x) (prM w k m) := by
  unfold prX prM
  rw [← h.2.2.2.2.1 k hk]
  split
  · split
    · exact h
    · exact D_app1 h hk hc _
  · split
    · exact D_jX (D_app h hk hc 3 (by decide)) hk (by rw [up2_hit]; decide) _
    · exact h
theorem prX_c {w : Bool} {k c j : Nat} {σ : St} (h1 : c ≠ 8) (h2 : c ≠ 9) : prX w k σ c j = σ c j := by
  unfold prX
  split <;> split <;> first | rfl | rw [up2_c h2, up2_c h1]
theorem prM_c {w : Bool} {k c j : Nat} {σ : St} (h1 : c ≠ 6) (h2 : c ≠ 7) : prM w k σ c j = σ c j := by
  unfold prM
  split <;> split <;> first | rfl | rw [up2_c h2, up2_c h1] | rw [up2_c h1]
def sgX (pe : Nat → Nat) (p i : Nat) (σ : St) : St := prX (want pe (σ 6) p i) (4 * p + i) σ
def sgM (pe : Nat → Nat) (p i : Nat) (σ : St) : St := prM (want pe (σ 4) p i) (4 * p + i) σ
def do4 (f : Nat → St → St) (σ : St) : St := f 3 (f 2 (f 1 (f 0 σ)))
theorem X_ppg {p : Nat} (S : ∀ q, q < 28 → x 5 q = enX (pe q)) (hp : p < 20) : fX4_propagateTo (nI p) x = some (do4 (sgX pe p) x) := by
  unfold fX4_propagateTo
  refine loop1s_4I (fX4_propagateTo_b2 (nI p)) (fun σ => ∀ q, q < 28 → σ 5 q = enX (pe q)) 0 (sgX pe p) _ x S ?_ ?_ ?_
  · intro K i σ hi hI
    unfold fX4_propagateTo_b2 fX4_propagateTo_b45 sgX prX fX4_cellOf
    simp (disch := omega) only [Nat.zero_add, n4le, X_want hI, Option.bind_some, em4, eaa, ea1]
    rw [if_neg (by omega)]
    cases want pe (σ 6) p i
    · simp (disch := omega) only [X_stop, bind2, Option.bind_some, Bool.false_eq_true, ↓reduceIte]
      by_cases c : σ 8 (4 * p + i) = 1 ∨ σ 8 (4 * p + i) = 2 <;> simp [c]
    · simp (disch := omega) only [X_start, bind2, Option.bind_some, ↓reduceIte]
      by_cases c : σ 8 (4 * p + i) = 1 ∨ σ 8 (4 * p + i) = 2 <;> simp [c]
  · intro i σ hi hI q hq
    unfold sgX
    rw [prX_c (by omega) (by omega)]
    exact hI q hq
  · intro K
    rfl
theorem M_ppg {p : Nat} (S : ∀ p, p < 20 → m 1 p = enM (pe p)) (hp : p < 20) : fX5_propagates (nI p) m = some (do4 (sgM pe p) m) := by
  unfold fX5_propagates
  refine loop1s_4I (fX5_propagates_b2 (nI p)) (fun σ => ∀ p, p < 20 → σ 1 p = enM (pe p)) 0 (sgM pe p) _ m S ?_ ?_ ?_
  · intro K i σ hi hI
    unfold fX5_propagates_b2 fX5_propagates_b55 fX5_propagates_b79 sgM prM
    simp (disch := omega) only [Nat.zero_add, n4le, M_want hI, Option.bind_some, e4m, eaa, ea1, inb_nI, clN, ↓reduceIte, M_dcl]
    rw [if_neg (by omega)]
    cases want pe (σ 4) p i <;> by_cases c : σ 6 (4 * p + i) = 1 ∨ σ 6 (4 * p + i) = 2 <;> simp [c]
  · intro i σ hi hI q hq
    unfold sgM
    rw [prM_c (by omega) (by omega)]
    exact hI q hq
  · intro K
    rfl
theorem sg_rel {p i : Nat} (hp : p < 20) (hi : i < 4) (hc : pe p < 28) (h : SD pe nb nh x m) : SD pe nb nh (sgX pe p i x) (sgM pe p i m) := by
  unfold sgX sgM
  rw [want_eq (r1 := x 6) (r2 := m 4) h.2.2.1 hp hi]
  exact pr_rel h (by omega) (by rw [show (4 * p + i) / 4 = p by omega]; exact hc)
theorem do4_rel {R : St → St → Prop} {f g : Nat → St → St} (hf : ∀ (i : Nat) (x m : St), i < 4 → R x m → R (f i x) (g i m)) (h : R x m) : R (do4 f x) (do4 g m) :=
  hf 3 _ _ (by omega) (hf 2 _ _ (by omega) (hf 1 _ _ (by omega) (hf 0 _ _ (by omega) h)))
theorem do4_at {f : Nat → St → St} {c j : Nat} (hf : ∀ (i : Nat) (σ : St), i < 4 → f i σ c j = σ c j) (σ : St) : do4 f σ c j = σ c j := by
  unfold do4
  rw [hf 3 _ (by omega), hf 2 _ (by omega), hf 1 _ (by omega), hf 0 _ (by omega)]
theorem p2 (v : Int32) : ∀ (j p : Nat) (x m : St) (n n' : Nat), p + j = 20 → T1 pe nb nh 20 x m → ∃ x' m', loop1s fX4_propagate_b2 (n + 1 + j) (nI p) x = some x' ∧ loop1s (fX5_passes_b31 v) (n' + 1 + j) (nI p) m = fX5_passes_b56 v (nI 20) m' ∧ T1 pe nb nh 20 x' m' := by
  intro j
  induction j with
  | zero =>
    intro p x m n n' e h
    obtain rfl : p = 20 := by omega
    exact ⟨x, m, rfl, rfl, h⟩
  | succ j ih =>
    intro p x m n n' e h
    have hp : p < 20 := by omega
    have S := h.1.1
    have S5 := S.2.2.2.2.2.1
    have S1 := S.2.2.2.2.2.2.1
    by_cases hc : pe p < 28
    · have hn : T1 pe nb nh 20 (do4 (sgX pe p) x) (do4 (sgM pe p) m) := by
        refine ⟨do4_rel (R := SD pe nb nh) (fun i x m hi h => sg_rel hp hi hc h) h.1, fun q hq hcq => ?_⟩
        rw [do4_at (fun i σ hi => by unfold sgX; exact prX_c (by omega) (by omega)), do4_at (fun i σ hi => by unfold sgM; exact prM_c (by omega) (by omega))]
        exact h.2 q hq hcq
      obtain ⟨x', m', a, b, c⟩ := ih (p + 1) _ _ n n' (by omega) hn
      refine ⟨x', m', ?_, ?_, c⟩
      · show fX4_propagate_b2 (loop1s fX4_propagate_b2 (n + 1 + j)) (nI p) x = _
        unfold fX4_propagate_b2 fX4_propagate_b24
        simp (disch := omega) only [n20le, X_con S, hc, ↓reduceIte, Option.bind_some, X_ppg S5, ea1]
        rw [if_neg (by omega), if_neg (by decide)]
        exact a
      · show fX5_passes_b31 v (loop1s (fX5_passes_b31 v) (n' + 1 + j)) (nI p) m = _
        unfold fX5_passes_b31 fX5_passes_b50
        simp (disch := omega) only [n20le, M_con S, hc, ↓reduceIte, Option.bind_some, M_ppg S1, ea1]
        rw [if_neg (by omega), if_neg (by decide)]
        exact b
    · obtain ⟨x', m', a, b, c⟩ := ih (p + 1) _ _ n n' (by omega) h
      refine ⟨x', m', ?_, ?_, c⟩
      · show fX4_propagate_b2 (loop1s fX4_propagate_b2 (n + 1 + j)) (nI p) x = _
        unfold fX4_propagate_b2 fX4_propagate_b24
        simp (disch := omega) only [n20le, X_con S, hc, ↓reduceIte, Option.bind_some, ea1]
        rw [if_neg (by omega)]
        exact a
      · show fX5_passes_b31 v (loop1s (fX5_passes_b31 v) (n' + 1 + j)) (nI p) m = _
        unfold fX5_passes_b31 fX5_passes_b50
        simp (disch := omega) only [n20le, M_con S, hc, ↓reduceIte, Option.bind_some, ea1]
        rw [if_neg (by omega)]
        exact b
/-- PART 2, whole -/
theorem P2 (v w : Int32) (h : T1 pe nb nh 20 x m) : ∃ x' m', fX4_propagate x = some x' ∧ fX5_passes_b29 v w m = fX5_passes_b56 v (nI 20) m' ∧ T1 pe nb nh 20 x' m' :=
  p2 v 20 0 x m 1979 1979 rfl h
end
