/-! ===== reading the structure; part 1 of a tick ===== -/
section
variable {pe : Nat → Nat} {nb nh : Nat} {x m : St}
theorem X_sta (q : Nat) (σ : St) : fX4_isStation (enX q) σ = some (if q < 28 then 1 else 0) := by
  unfold fX4_isStation enX
  by_cases h : q < 28
  · simp (disch := omega) only [h, ↓reduceIte, lt0, n28le]
    rw [if_neg (by omega)]
  · simp only [h, ↓reduceIte]
    rfl
theorem X_prt (q : Nat) (σ : St) : fX4_isPort (enX q) σ = some (if q < 20 then 1 else 0) := by
  unfold fX4_isPort enX
  by_cases h : q < 28
  · simp (disch := omega) only [h, ↓reduceIte, lt0, n20le]
    by_cases h2 : q < 20
    · rw [if_neg (by omega), if_pos h2]
    · rw [if_pos (by omega), if_neg h2]
  · simp only [h, ↓reduceIte]
    rw [if_neg (show ¬ q < 20 by omega)]
    rfl
theorem X_prtN {q : Nat} (h : q < 28) (σ : St) : fX4_isPort (nI q) σ = some (if q < 20 then 1 else 0) := by
  have := X_prt q σ
  rwa [enX_lt h] at this
theorem X_con {q : Nat} (S : Str pe nb nh x m) (h : q < 28) : fX1_isConnected (nI q) x = some (if pe q < 28 then 1 else 0) := by
  unfold fX1_isConnected
  simp (disch := omega) only [inb_nI, clN, ↓reduceIte, S.2.2.2.2.2.1 q h, X_sta, Option.bind_some]
  by_cases h2 : pe q < 28 <;> simp [h2]
theorem M_con {p : Nat} (S : Str pe nb nh x m) (h : p < 20) : fX5_isConnected (nI p) m = some (if pe p < 28 then 1 else 0) := by
  unfold fX5_isConnected
  simp (disch := omega) only [inb_nI, clN, ↓reduceIte, S.2.2.2.2.2.2.1 p h]
  by_cases h2 : pe p < 28
  · by_cases h3 : pe p < 20
    · simp (disch := omega) only [enM_p h3, nm1, h2, ↓reduceIte]
    · simp (disch := omega) only [enM_h h3 h2, nm1, h2, ↓reduceIte]
  · simp only [enM_ge h2, h2, ↓reduceIte]
theorem M_lnk {p : Nat} (S : Str pe nb nh x m) (h : p < 20) : fX5_isLinked (nI p) m = some (if pe p < 20 then 1 else 0) := by
  unfold fX5_isLinked fX5_within
  simp (disch := omega) only [inb_nI, clN, ↓reduceIte, S.2.2.2.2.2.2.1 p h]
  by_cases h2 : pe p < 28
  · by_cases h3 : pe p < 20
    · simp (disch := omega) only [enM_p h3, lt0, n19lt, h3, ↓reduceIte]
      rw [if_neg (by omega)]
      rfl
    · simp (disch := omega) only [enM_h h3 h2, lt0, n19lt, h3, ↓reduceIte]
      rw [if_pos (by omega)]
      rfl
  · simp only [enM_ge h2, show ¬ pe p < 20 by omega, ↓reduceIte]
    rfl
/-- a registrar's timer runs -/
def cdS (a b k : Nat) (σ : St) : St := if σ a k = 2 then (if σ b k - 1 = 0 then up2 (up2 σ b k (σ b k - 1)) a k 0 else up2 σ b k (σ b k - 1)) else σ
theorem X_cd {k : Nat} (h : k < 80) (σ : St) : fX3_countDown (nI k) σ = some (cdS 6 7 k σ) := by
  unfold fX3_countDown cdS
  simp (disch := omega) only [inb_nI, clN, ↓reduceIte, up2_hit]
  grind
theorem cd_rel {k : Nat} (h : SD pe nb nh x m) (hk : k < 80) (hc : pe (k / 4) < 28) : SD pe nb nh (cdS 6 7 k x) (cdS 4 5 k m) := by
  unfold cdS
  rw [← h.2.2.1 k hk, ← h.2.2.2.1 k hk]
  split
  · split
    · exact D_reg (D_tim h hk hc _) hk hc 0
    · exact D_tim h hk hc _
  · exact h
def it4 (f : Nat → St → St) (p : Nat) (σ : St) : St := f (4 * p + 3) (f (4 * p + 2) (f (4 * p + 1) (f (4 * p + 0) σ)))
theorem it4_rel {f g : Nat → St → St} {p : Nat} (hp : p < 20) (hc : pe p < 28) (hf : ∀ (k : Nat) (x m : St), k < 80 → pe (k / 4) < 28 → SD pe nb nh x m → SD pe nb nh (f k x) (g k m)) (h : SD pe nb nh x m) : SD pe nb nh (it4 f p x) (it4 g p m) := by
  have hq : ∀ i, i < 4 → pe ((4 * p + i) / 4) < 28 := fun i hi => by rw [show (4 * p + i) / 4 = p by omega]; exact hc
  exact hf _ _ _ (by omega) (hq 3 (by omega)) (hf _ _ _ (by omega) (hq 2 (by omega)) (hf _ _ _ (by omega) (hq 1 (by omega)) (hf _ _ _ (by omega) (hq 0 (by omega)) h)))
theorem it4_at {f : Nat → St → St} {c : Nat} (hf : ∀ (k : Nat) (σ : St) (j : Nat), f k σ c j = σ c j) (p : Nat) (σ : St) (j : Nat) : it4 f p σ c j = σ c j := by
  unfold it4
  rw [hf, hf, hf, hf]
theorem X_cdr {p : Nat} (h : p < 20) (σ : St) : fX4_countDownRegistrars (nI p) σ = some (it4 (cdS 6 7) p σ) := by
  unfold fX4_countDownRegistrars
  refine loop1s_4 (fX4_countDownRegistrars_b2 (nI p)) 0 (fun i => cdS 6 7 (4 * p + i)) _ σ ?_ ?_
  · intro K i σ hi
    unfold fX4_countDownRegistrars_b2 fX4_cellOf
    simp (disch := omega) only [Nat.zero_add, n4le, em4, eaa, ea1, X_cd, Option.bind_some]
    rw [if_neg (by omega)]
  · intro K
    rfl
theorem cdS_c {a b k : Nat} {σ : St} {c j : Nat} (h1 : c ≠ a) (h2 : c ≠ b) : cdS a b k σ c j = σ c j := by
  unfold cdS
  split
  · split
    · rw [up2_c h1, up2_c h2]
    · rw [up2_c h2]
  · rfl
/-- the leave-all timer runs: t its cell, d the cell of what is due, a, l where the leave-all time lies -/
def laS (t d l p : Nat) (σ : St) : St := if σ t p ≤ 0 then σ else if σ t p - 1 = 0 then up2 (up2 (up2 σ t p (σ t p - 1)) d p 1) t p (σ 0 l) else up2 σ t p (σ t p - 1)
theorem X_la {p : Nat} (h : p < 20) (σ : St) : fX4_countDownToLeaveAll (nI p) σ = some (laS 12 13 9 p σ) := by
  unfold fX4_countDownToLeaveAll laS
  simp (disch := omega) only [inb_nI, clN, ↓reduceIte, up2_hit, zb1]
  rw [up2_c (by omega), up2_c (by omega)]
  grind
theorem M_la {p : Nat} (h : p < 20) (v : Int32) (σ : St) : fX5_ages_b66 (nI p) v σ = some (laS 8 12 7 p σ) := by
  unfold fX5_ages_b66 laS
  simp (disch := omega) only [inb_nI, clN, ↓reduceIte, up2_hit, zb1]
  rw [up2_c (by omega), up2_c (by omega)]
  grind
theorem la_rel {p : Nat} (h : SD pe nb nh x m) (hp : p < 20) (hd : x 13 p = m 12 p) (hz : m 12 p = 0 ∨ m 12 p = 1) : SD pe nb nh (laS 12 13 9 p x) (laS 8 12 7 p m) ∧ laS 12 13 9 p x 13 p = laS 8 12 7 p m 12 p ∧ (laS 8 12 7 p m 12 p = 0 ∨ laS 8 12 7 p m 12 p = 1) := by
  unfold laS
  have e := h.2.2.2.2.2.2.2.2.1 p hp
  rw [← e, ← h.2.1.2.1]
  split
  · exact ⟨h, hd, hz⟩
  · split
    · refine ⟨D_la (D_xs (D_ms (D_la h hp _) (by omega) _) (by omega) _) hp _, ?_, ?_⟩
      · rw [up2_c (by omega), up2_hit, up2_c (by omega), up2_hit]
      · rw [up2_c (by omega), up2_hit]; exact Or.inr rfl
    · refine ⟨D_la h hp _, ?_, ?_⟩
      · rw [up2_c (by omega), up2_c (by omega)]; exact hd
      · rw [up2_c (by omega)]; exact hz
theorem laS_d {t d l p c j : Nat} {σ : St} (h1 : c ≠ t) (h : j ≠ p) : laS t d l p σ c j = σ c j := by
  unfold laS
  split
  · rfl
  · split
    · rw [up2_c h1, up2_j h, up2_c h1]
    · rw [up2_c h1]
theorem M_ages {p : Nat} (h : p < 20) (σ : St) : fX5_ages (nI p) σ = some (laS 8 12 7 p (it4 (cdS 4 5) p (up2 σ 12 p 0))) := by
  unfold fX5_ages
  simp (disch := omega) only [inb_nI, clN, ↓reduceIte, zb0, e4m]
  refine loop1s_4 (fX5_ages_b11 (nI p)) (4 * p) (fun i => cdS 4 5 (4 * p + i)) _ _ ?_ ?_
  · intro K i σ hi
    unfold fX5_ages_b11 fX5_ages_b59 fX5_ages_b60 cdS
    simp (disch := omega) only [e4m, ea4, ea1, leN, inb_nI, clN, ↓reduceIte, up2_hit]
    rw [if_neg (by omega)]
    by_cases c1 : σ 4 (4 * p + i) = 2
    · simp only [c1, ↓reduceIte]
      split
      · rfl
      · rw [up2_self (σ := up2 _ _ _ _) (c := 4)]
        rw [up2_c (by omega)]
        exact c1
    · simp only [c1, ↓reduceIte]
  · intro K
    unfold fX5_ages_b11
    simp (disch := omega) only [e4m, ea4, leN, Nat.le_refl, ↓reduceIte, M_la]
    rfl
/-- behind part 1 at the ports below k -/
def T1 (pe : Nat → Nat) (nb nh k : Nat) (x m : St) : Prop := SD pe nb nh x m ∧ ∀ p, p < k → pe p < 28 → x 13 p = m 12 p ∧ (m 12 p = 0 ∨ m 12 p = 1)
theorem t1_step {p : Nat} (hp : p < 20) (h : T1 pe nb nh p x m) :
    (pe p < 28 → T1 pe nb nh (p + 1) (laS 12 13 9 p (it4 (cdS 6 7) p (up2 x 13 p 0))) (laS 8 12 7 p (it4 (cdS 4 5) p (up2 m 12 p 0)))) ∧ (¬ pe p < 28 → T1 pe nb nh (p + 1) (up2 x 13 p 0) m) := by
  obtain ⟨h1, h2⟩ := h
  constructor
  · intro hc
    have a1 := it4_rel (f := cdS 6 7) (g := cdS 4 5) hp hc (fun k x m hk hq h => cd_rel h hk hq) (D_xs (D_ms h1 (c := 12) (i := p) (by omega) 0) (c := 13) (i := p) (by omega) 0)
    have ex : ∀ j, it4 (cdS 6 7) p (up2 x 13 p 0) 13 j = up2 x 13 p 0 13 j := fun j => it4_at (c := 13) (fun k σ j => cdS_c (by omega) (by omega)) p _ j
    have em : ∀ j, it4 (cdS 4 5) p (up2 m 12 p 0) 12 j = up2 m 12 p 0 12 j := fun j => it4_at (c := 12) (fun k σ j => cdS_c (by omega) (by omega)) p _ j
    obtain ⟨a2, a3, a4⟩ := la_rel a1 hp (by rw [ex, em, up2_hit, up2_hit]) (by rw [em, up2_hit]; exact Or.inl rfl)
    refine ⟨a2, fun q hq hcq => ?_⟩
    by_cases e : q = p
    · subst e; exact ⟨a3, a4⟩
    · rw [laS_d (by omega) e, laS_d (by omega) e, ex, em, up2_j e, up2_j e]
      exact h2 q (by omega) hcq
  · intro hc
    refine ⟨D_xs h1 (by omega) _, fun q hq hcq => ?_⟩
    have e : q ≠ p := fun e => hc (e ▸ hcq)
    rw [up2_j e]
    exact h2 q (by omega) hcq
theorem p1 (v : Int32) : ∀ (j p : Nat) (x m : St) (n n' : Nat), p + j = 20 → T1 pe nb nh p x m → ∃ x' m', loop1s fX4_runTimers_b2 (n + 1 + j) (nI p) x = some x' ∧ loop1s (fX5_passes_b4 v) (n' + 1 + j) (nI p) m = fX5_passes_b29 v (nI 20) m' ∧ T1 pe nb nh 20 x' m' := by
  intro j
  induction j with
  | zero =>
    intro p x m n n' e h
    obtain rfl : p = 20 := by omega
    refine ⟨x, m, ?_, ?_, h⟩
    · show fX4_runTimers_b2 _ (nI 20) x = _
      rfl
    · show fX5_passes_b4 v _ (nI 20) m = _
      rfl
  | succ j ih =>
    intro p x m n n' e h
    have hp : p < 20 := by omega
    have S := h.1.1
    have st := t1_step hp h
    have Sx : Str pe nb nh (up2 x 13 p 0) m := (D_xs h.1 (by omega) _).1
    by_cases hc : pe p < 28
    · obtain ⟨x', m', a, b, c⟩ := ih (p + 1) _ _ n n' (by omega) (st.1 hc)
      refine ⟨x', m', ?_, ?_, c⟩
      · show fX4_runTimers_b2 (loop1s fX4_runTimers_b2 (n + 1 + j)) (nI p) x = _
        unfold fX4_runTimers_b2 fX4_runTimers_b36
        simp (disch := omega) only [n20le, inb_nI, clN, ↓reduceIte, zb0, X_con Sx, hc, Option.bind_some, X_cdr, X_la, ea1]
        rw [if_neg (by omega), if_neg (by decide)]
        exact a
      · show fX5_passes_b4 v (loop1s (fX5_passes_b4 v) (n' + 1 + j)) (nI p) m = _
        unfold fX5_passes_b4 fX5_passes_b23
        simp (disch := omega) only [n20le, M_con S, hc, ↓reduceIte, Option.bind_some, M_ages, ea1]
        rw [if_neg (by omega), if_neg (by decide)]
        exact b
    · obtain ⟨x', m', a, b, c⟩ := ih (p + 1) _ _ n n' (by omega) (st.2 hc)
      refine ⟨x', m', ?_, ?_, c⟩
      · show fX4_runTimers_b2 (loop1s fX4_runTimers_b2 (n + 1 + j)) (nI p) x = _
        unfold fX4_runTimers_b2 fX4_runTimers_b36
        simp (disch := omega) only [n20le, inb_nI, clN, ↓reduceIte, zb0, X_con Sx, hc, Option.bind_some, ea1]
        rw [if_neg (by omega)]
        exact a
      · show fX5_passes_b4 v (loop1s (fX5_passes_b4 v) (n' + 1 + j)) (nI p) m = _
        unfold fX5_passes_b4 fX5_passes_b23
        simp (disch := omega) only [n20le, M_con S, hc, ↓reduceIte, Option.bind_some, ea1]
        rw [if_neg (by omega)]
        exact b
/-- PART 1, whole -/
theorem P1 (v : Int32) (h : SD pe nb nh x m) : ∃ x' m', fX4_runTimers x = some x' ∧ loop1s (fX5_passes_b4 v) fuel (0 : Int32) m = fX5_passes_b29 v (nI 20) m' ∧ T1 pe nb nh 20 x' m' :=
  p1 v 20 0 x m 1979 1979 rfl ⟨h, fun p hp => absurd hp (Nat.not_lt_zero p)⟩
end
