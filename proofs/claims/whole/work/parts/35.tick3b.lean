/-! ===== part 3 of a tick, the loops ===== -/
section
variable {pe : Nat → Nat} {nb nh : Nat} {x m : St}
theorem SD_cX {x' : St} (e : ∀ c j, c ≠ 10 → c ≠ 11 → c ≠ 13 → x' c j = x c j) (h : SD pe nb nh x m) : SD pe nb nh x' m := by
  unfold SD Str Dat at *
  simp (disch := omega) only [e]
  exact h
/-- the outbox is cleared -/
theorem X_clear (x : St) : ∃ x', fX2_clear x = some x' ∧ (∀ q, q < 28 → x' 10 q = 0) ∧ (∀ k, k < 112 → x' 11 k = 0) ∧ ∀ c j, c ≠ 10 → c ≠ 11 → x' c j = x c j := by
  obtain ⟨x1, e1, i1⟩ := loop1s_go fX2_clear_b2 28 0 (fun i σ => up2 σ 10 i 0) (fun i σ => (∀ q, q < i → σ 10 q = 0) ∧ ∀ c j, c ≠ 10 → σ c j = x c j) (by
    intro K i σ hi hI
    refine ⟨?_, ?_, ?_⟩
    · unfold fX2_clear_b2
      simp (disch := omega) only [Nat.zero_add, n28le, inb_nI, clN, ↓reduceIte, zb0, ea1]
      rw [if_neg (by omega)]
    · intro q hq
      by_cases e : q = i
      · subst e; exact up2_hit _ _ _ _
      · show up2 σ 10 i 0 10 q = 0
        rw [up2_j e]; exact hI.1 q (by omega)
    · intro c j hc
      show up2 σ 10 i 0 c j = _
      rw [up2_c hc]; exact hI.2 c j hc) 28 0 x 1972 rfl ⟨fun q hq => absurd hq (Nat.not_lt_zero q), fun _ _ _ => rfl⟩
  obtain ⟨x2, e2, i2⟩ := loop1s_go (fJ7_fill_53178_b5 0 112) 112 0 (fun i σ => up2 σ 11 i 0) (fun i σ => (∀ q, q < i → σ 11 q = 0) ∧ ∀ c j, c ≠ 11 → σ c j = x1 c j) (by
    intro K i σ hi hI
    refine ⟨?_, ?_, ?_⟩
    · unfold fJ7_fill_53178_b5
      simp (disch := omega) only [Nat.zero_add, n112le, inb_nI, clN, ↓reduceIte, ea1]
      rw [if_neg (by omega)]
    · intro q hq
      by_cases e : q = i
      · subst e; exact up2_hit _ _ _ _
      · show up2 σ 11 i 0 11 q = 0
        rw [up2_j e]; exact hI.1 q (by omega)
    · intro c j hc
      show up2 σ 11 i 0 c j = _
      rw [up2_c hc]; exact hI.2 c j hc) 112 0 x1 1888 rfl ⟨fun q hq => absurd hq (Nat.not_lt_zero q), fun _ _ _ => rfl⟩
  have f2 : fJ7_fill_53178 0 x1 = some x2 := by
    unfold fJ7_fill_53178
    refine Eq.trans e2 ?_
    show fJ7_fill_53178_b5 0 112 _ (nI (0 + 112)) x2 = some x2
    unfold fJ7_fill_53178_b5
    simp (disch := omega) only [Nat.zero_add, n112le, Nat.le_refl, ↓reduceIte]
  refine ⟨x2, ?_, ?_, i2.1, ?_⟩
  · unfold fX2_clear
    refine Eq.trans e1 ?_
    show fX2_clear_b2 _ (nI (0 + 28)) x1 = some x2
    unfold fX2_clear_b2 fX2_clear_b21
    simp (disch := omega) only [Nat.zero_add, n28le, Nat.le_refl, ↓reduceIte, f2, Option.bind_some]
  · intro q hq
    rw [i2.2 10 q (by omega)]
    exact i1.1 q hq
  · intro c j h1 h2
    rw [i2.2 c j h2, i1.2 c j h1]
/-- what has been sent by the stations below k -/
def OutR (pe : Nat → Nat) (nh k : Nat) (x m : St) : Prop :=
  (∀ p, p < 20 → p < k → pe p < 28 → (x 10 p = 0 ↔ m 13 p = 0) ∧ ∀ g, g < 4 → x 11 (4 * p + g) = m 14 (4 * p + g)) ∧
  (∀ h, h < nh → 20 + h < k → ∀ g, g < 4 → x 11 (80 + (4 * h + g)) = m 15 (4 * h + g)) ∧
  (∀ h, h < 8 → x 10 (20 + h) = 0) ∧ (∀ j, 4 * k ≤ j → j < 112 → x 11 j = 0) ∧ (∀ q, k ≤ q → q < 28 → x 10 q = 0)
def T3 (pe : Nat → Nat) (nb nh k : Nat) (x m : St) : Prop := T1 pe nb nh 20 x m ∧ OutR pe nh k x m
theorem t3_skip {k : Nat} (hk : k < 28) (hn : k < 20 → ¬ pe k < 28) (hn2 : 20 ≤ k → ¬ k - 20 < nh) (h : T3 pe nb nh k x m) : T3 pe nb nh (k + 1) x m := by
  obtain ⟨h1, o1, o2, o3, o4, o5⟩ := h
  refine ⟨h1, fun p hp hk hc => ?_, fun h hh hk => ?_, o3, fun j hj => o4 j (by omega), fun q hq => o5 q (by omega)⟩
  · have : p ≠ k := fun e => hn (by omega) (e ▸ hc)
    exact o1 p hp (by omega) hc
  · have : 20 + h ≠ k := fun e => hn2 (by omega) (by omega)
    exact o2 h hh (by omega)
/-- one port's messages, group by group -/
theorem sn_step {p : Nat} (hp : p < 20) (hc : pe p < 28) : ∀ (i : Nat) (x m : St), i < 4 → (SD pe nb nh x m ∧ ∀ g, g < i → x 11 (4 * p + g) = m 14 (4 * p + g)) → SD pe nb nh (snX (4 * p + i) x) (snM 6 7 14 (4 * p + i) m) ∧ ∀ g, g < i + 1 → snX (4 * p + i) x 11 (4 * p + g) = snM 6 7 14 (4 * p + i) m 14 (4 * p + g) := by
  intro i x m hi ⟨h, hg⟩
  have hq : pe ((4 * p + i) / 4) < 28 := by rw [show (4 * p + i) / 4 = p by omega]; exact hc
  have em : msg 8 (4 * p + i) x = msg 6 (4 * p + i) m := by unfold msg; rw [h.2.2.2.2.1 _ (by omega)]
  refine ⟨?_, ?_⟩
  · unfold snX snM
    exact D_xs (nx_rel (D_ms h (by omega) _) (by omega) hq) (by omega) _
  · intro g hg2
    unfold snX snM
    rw [nxS_c (by omega) (by omega)]
    by_cases e : g = i
    · subst e; rw [up2_hit, up2_hit, em]
    · rw [up2_j (by omega), up2_j (by omega), nxS_c (by omega) (by omega)]
      exact hg g (by omega)
theorem cnt_eq {p i : Nat} (hp : p < 20) (hi : i < 4) (h : SD pe nb nh x m) : cnt 8 (4 * p + i) x = cnt 6 (4 * p + i) m := by
  unfold cnt msg
  rw [h.2.2.2.2.1 _ (by omega)]
theorem snX_c {k c j : Nat} {σ : St} (h : c ≠ 8 ∧ c ≠ 9 ∧ c ≠ 11) : snX k σ c j = σ c j := by
  unfold snX
  rw [up2_c h.2.2, nxS_c h.1 h.2.1]
theorem snX_j {k j : Nat} {σ : St} (h : j ≠ k) : snX k σ 11 j = σ 11 j := by
  unfold snX
  rw [up2_j h, nxS_c (by omega) (by omega)]
theorem snM_c {a b s k c j : Nat} {σ : St} (h1 : c ≠ a) (h2 : c ≠ b) (h3 : c ≠ s) : snM a b s k σ c j = σ c j := by
  unfold snM
  rw [nxS_c h1 h2, up2_c h3]
theorem snM_j {a b s k j : Nat} {σ : St} (h1 : s ≠ a) (h2 : s ≠ b) (h : j ≠ k) : snM a b s k σ s j = σ s j := by
  unfold snM
  rw [nxS_c h1 h2, up2_j h]
theorem sn_all {p : Nat} (hp : p < 20) (hc : pe p < 28) (v : Int32) (h : SD pe nb nh x m) :
    SD pe nb nh (do4 (fun i => snX (4 * p + i)) x) (do4 (fun i => snM 6 7 14 (4 * p + i)) m) ∧ (∀ g, g < 4 → do4 (fun i => snX (4 * p + i)) x 11 (4 * p + g) = do4 (fun i => snM 6 7 14 (4 * p + i)) m 14 (4 * p + g)) ∧
    acc4 (fun i => cnt 8 (4 * p + i)) (fun i => snX (4 * p + i)) v x = acc4 (fun i => cnt 6 (4 * p + i)) (fun i => snM 6 7 14 (4 * p + i)) v m := by
  have a := do4_relI (R := fun i x m => SD pe nb nh x m ∧ ∀ g, g < i → x 11 (4 * p + g) = m 14 (4 * p + g)) (f := fun i => snX (4 * p + i)) (g := fun i => snM 6 7 14 (4 * p + i)) (sn_step hp hc) ⟨h, fun g hg => absurd hg (Nat.not_lt_zero g)⟩
  exact ⟨a.1, a.2, acc4_eq (R := fun i x m => SD pe nb nh x m ∧ ∀ g, g < i → x 11 (4 * p + g) = m 14 (4 * p + g)) v (sn_step hp hc) (fun i x m hi h => cnt_eq hp hi h.1) ⟨h, fun g hg => absurd hg (Nat.not_lt_zero g)⟩⟩
/-- a port sends -/
theorem s_port {p : Nat} (hp : p < 20) (hc : pe p < 28) (h : T3 pe nb nh p x m) : ∃ r x' m', fX4_sendFrom (nI p) x = some (r, x') ∧ fX5_sendsOf (nI p) m = some (r, m') ∧ T3 pe nb nh (p + 1) x' m' := by
  obtain ⟨⟨h1, hd⟩, o1, o2, o3, o4, o5⟩ := h
  obtain ⟨d1, d2⟩ := hd p hp hc
  have key : ∀ (x1 m1 : St) (v : Int32), SD pe nb nh x1 m1 → (∀ c j, c ≠ 6 → c ≠ 7 → c ≠ 8 → c ≠ 9 → c ≠ 10 → x1 c j = x c j) → (∀ q, q ≠ p → x1 10 q = x 10 q) → (∀ c j, c ≠ 4 → c ≠ 5 → c ≠ 6 → c ≠ 7 → c ≠ 13 → m1 c j = m c j) → (∀ q, q ≠ p → m1 13 q = m 13 q) → (x1 10 p = 0 ↔ m1 13 p = 0) →
      ∃ r x' m', fX4_sendFrom_b36 (nI p) v x1 = some (r, x') ∧ fX5_sendsOf_b31 (nI p) v m1 = some (r, m') ∧ T3 pe nb nh (p + 1) x' m' := by
    intro x1 m1 v hs ex ex10 em em13 hla
    obtain ⟨a1, a2, a3⟩ := sn_all hp hc v hs
    refine ⟨_, _, _, X_snd (by omega) v x1, by rw [M_snd hp v m1, a3], ?_⟩
    have fx : ∀ c j, c ≠ 8 → c ≠ 9 → c ≠ 11 → do4 (fun i => snX (4 * p + i)) x1 c j = x1 c j := fun c j q1 q2 q3 => do4_at (fun i σ hi => snX_c ⟨q1, q2, q3⟩) x1
    have fm : ∀ c j, c ≠ 6 → c ≠ 7 → c ≠ 14 → do4 (fun i => snM 6 7 14 (4 * p + i)) m1 c j = m1 c j := fun c j q1 q2 q3 => do4_at (fun i σ hi => snM_c q1 q2 q3) m1
    have fxj : ∀ j, (∀ i, i < 4 → j ≠ 4 * p + i) → do4 (fun i => snX (4 * p + i)) x1 11 j = x1 11 j := fun j q => do4_at (fun i σ hi => snX_j (q i hi)) x1
    have fmj : ∀ j, (∀ i, i < 4 → j ≠ 4 * p + i) → do4 (fun i => snM 6 7 14 (4 * p + i)) m1 14 j = m1 14 j := fun j q => do4_at (fun i σ hi => snM_j (by omega) (by omega) (q i hi)) m1
    refine ⟨⟨a1, fun q hq hcq => ?_⟩, fun q hq hqk hcq => ⟨?_, fun g hg => ?_⟩, fun h hh hk g hg => ?_, fun h hh => ?_, fun j hj hj2 => ?_, fun q hq hq2 => ?_⟩
    · rw [fx 13 q (by omega) (by omega) (by omega), fm 12 q (by omega) (by omega) (by omega), ex 13 q (by omega) (by omega) (by omega) (by omega) (by omega), em 12 q (by omega) (by omega) (by omega) (by omega) (by omega)]
      exact hd q hq hcq
    · rw [fx 10 q (by omega) (by omega) (by omega), fm 13 q (by omega) (by omega) (by omega)]
      by_cases e : q = p
      · subst e; exact hla
      · rw [ex10 q e, em13 q e]
        exact (o1 q hq (by omega) hcq).1
    · by_cases e : q = p
      · subst e; exact a2 g hg
      · rw [fxj _ (fun i hi => by omega), fmj _ (fun i hi => by omega), ex 11 _ (by omega) (by omega) (by omega) (by omega) (by omega), em 14 _ (by omega) (by omega) (by omega) (by omega) (by omega)]
        exact (o1 q hq (by omega) hcq).2 g hg
    · omega
    · rw [fx 10 _ (by omega) (by omega) (by omega), ex10 _ (by omega)]
      exact o3 h hh
    · rw [fxj _ (fun i hi => by omega), ex 11 _ (by omega) (by omega) (by omega) (by omega) (by omega)]
      exact o4 j (by omega) hj2
    · rw [fx 10 _ (by omega) (by omega) (by omega), ex10 _ (by omega)]
      exact o5 q (by omega) hq2
  unfold fX4_sendFrom fX5_sendsOf
  simp (disch := omega) only [X_prtN, hp, ↓reduceIte, Option.bind_some, inb_nI, clN, zb1]
  rw [if_neg (by decide), up2_c (c := 13) (c' := 12) (by omega), d1]
  by_cases c0 : m 12 p = 0
  · rw [if_pos c0, if_pos c0]
    refine key _ _ _ (D_ms h1 (by omega) _) (fun _ _ _ _ _ _ _ => rfl) (fun _ _ => rfl) (fun c j _ _ _ _ q => up2_c q) (fun q hq => up2_j hq) ?_
    rw [up2_hit, c0, zb0]
    exact iff_of_true (o5 p (by omega) (by omega)) rfl
  · have c1 : m 12 p = 1 := d2.resolve_left c0
    rw [if_neg c0, if_neg c0, X_ob hp, M_lva hp]
    simp only [Option.bind_some]
    refine key _ _ _ (do4_rel (R := SD pe nb nh) (fun i x m hi h => ob_rel hp hi hc h) (D_xs (D_ms h1 (by omega) _) (by omega) _)) ?_ ?_ ?_ ?_ ?_
    · intro c j q1 q2 q3 q4 q5
      rw [do4_at (fun i σ hi => obX_c ⟨q1, q2, q3, q4⟩), up2_c q5]
    · intro q hq
      rw [do4_at (fun i σ hi => obX_c (by omega)), up2_j hq]
    · intro c j q1 q2 q3 q4 q5
      rw [do4_at (fun i σ hi => obM_c ⟨q1, q2, q3, q4⟩), up2_c q5]
    · intro q hq
      rw [do4_at (fun i σ hi => obM_c (by omega)), up2_j hq]
    · rw [do4_at (fun i σ hi => obX_c (by omega)), do4_at (fun i σ hi => obM_c (by omega)), up2_hit, up2_hit, c1, zb1]
theorem p3 : ∀ (j p : Nat) (v : Int32) (x m : St) (n n' : Nat), p + j = 20 → T3 pe nb nh p x m → ∃ v' x' m', loop2s fX4_sendAll_b11 (n + j) v (nI p) x = loop2s fX4_sendAll_b11 n v' (nI 20) x' ∧ loop2s fX5_passes_b58 (n' + 1 + j) v (nI p) m = fX5_passes_b90 v' (nI 20) m' ∧ T3 pe nb nh 20 x' m' := by
  intro j
  induction j with
  | zero =>
    intro p v x m n n' e h
    obtain rfl : p = 20 := by omega
    exact ⟨v, x, m, rfl, rfl, h⟩
  | succ j ih =>
    intro p v x m n n' e h
    have hp : p < 20 := by omega
    have S := h.1.1.1
    have hs : x 15 p = 0 := h.1.1.2.2.2.2.2.2.2.2.2.2.2.1 p hp
    by_cases hc : pe p < 28
    · obtain ⟨r, x1, m1, e1, e2, h2⟩ := s_port hp hc h
      obtain ⟨v', x', m', a, b, c⟩ := ih (p + 1) (v + r) _ _ n n' (by omega) h2
      refine ⟨v', x', m', ?_, ?_, c⟩
      · show fX4_sendAll_b11 (loop2s fX4_sendAll_b11 (n + j)) v (nI p) x = _
        unfold fX4_sendAll_b11 fX4_sendAll_b45
        simp (disch := omega) only [n28le, X_con S, hc, ↓reduceIte, Option.bind_some, inb_nI, clN, hs, bind2, e1, ea1]
        rw [if_neg (by omega), if_neg (by decide)]
        exact a
      · show fX5_passes_b58 (loop2s fX5_passes_b58 (n' + 1 + j)) v (nI p) m = _
        unfold fX5_passes_b58 fX5_passes_b82
        simp (disch := omega) only [n20le, M_con S, hc, ↓reduceIte, Option.bind_some, bind2, e2, ea1]
        rw [if_neg (by omega), if_neg (by decide)]
        exact b
    · obtain ⟨v', x', m', a, b, c⟩ := ih (p + 1) v _ _ n n' (by omega) (t3_skip (by omega) (fun _ => hc) (fun h => by omega) h)
      refine ⟨v', x', m', ?_, ?_, c⟩
      · show fX4_sendAll_b11 (loop2s fX4_sendAll_b11 (n + j)) v (nI p) x = _
        unfold fX4_sendAll_b11 fX4_sendAll_b45
        simp (disch := omega) only [n28le, X_con S, hc, ↓reduceIte, Option.bind_some, ea1]
        rw [if_neg (by omega)]
        exact a
      · show fX5_passes_b58 (loop2s fX5_passes_b58 (n' + 1 + j)) v (nI p) m = _
        generalize loop2s fX5_passes_b58 (n' + 1 + j) = K at b ⊢
        unfold fX5_passes_b58 fX5_passes_b82
        simp (disch := omega) only [n20le, M_con S, hc, ↓reduceIte, Option.bind_some, ea1, Int32.add_zero]
        rw [if_neg (by omega)]
        exact b
end
