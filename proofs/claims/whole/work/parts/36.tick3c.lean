/-! ===== part 3 of a tick, the hosts ===== -/
section
variable {pe : Nat → Nat} {nb nh : Nat} {x m : St}
theorem snh_step {h : Nat} (hh : h < nh) (h8 : h < 8) : ∀ (i : Nat) (x m : St), i < 4 → (SD pe nb nh x m ∧ ∀ g, g < i → x 11 (80 + (4 * h + g)) = m 15 (4 * h + g)) → SD pe nb nh (snX (80 + (4 * h + i)) x) (snM 10 11 15 (4 * h + i) m) ∧ ∀ g, g < i + 1 → snX (80 + (4 * h + i)) x 11 (80 + (4 * h + g)) = snM 10 11 15 (4 * h + i) m 15 (4 * h + g) := by
  intro i x m hi ⟨hs, hg⟩
  have em : msg 8 (80 + (4 * h + i)) x = msg 10 (4 * h + i) m := by unfold msg; rw [hs.2.2.2.2.2.2.1 _ (by omega)]
  refine ⟨?_, ?_⟩
  · unfold snX snM
    exact D_xs (nxh_rel (D_ms hs (by omega) _) (by omega) (by omega)) (by omega) _
  · intro g hg2
    unfold snX snM
    rw [nxS_c (c := 15) (by omega) (by omega)]
    by_cases e : g = i
    · subst e; rw [up2_hit, up2_hit, em]
    · rw [up2_j (by omega), up2_j (by omega), nxS_c (by omega) (by omega)]
      exact hg g (by omega)
theorem snh_all {h : Nat} (hh : h < nh) (h8 : h < 8) (v : Int32) (hs : SD pe nb nh x m) :
    SD pe nb nh (do4 (fun i => snX (80 + (4 * h + i))) x) (do4 (fun i => snM 10 11 15 (4 * h + i)) m) ∧ (∀ g, g < 4 → do4 (fun i => snX (80 + (4 * h + i))) x 11 (80 + (4 * h + g)) = do4 (fun i => snM 10 11 15 (4 * h + i)) m 15 (4 * h + g)) ∧
    acc4 (fun i => cnt 8 (80 + (4 * h + i))) (fun i => snX (80 + (4 * h + i))) v x = acc4 (fun i => cnt 10 (4 * h + i)) (fun i => snM 10 11 15 (4 * h + i)) v m := by
  have a := do4_relI (R := fun i x m => SD pe nb nh x m ∧ ∀ g, g < i → x 11 (80 + (4 * h + g)) = m 15 (4 * h + g)) (f := fun i => snX (80 + (4 * h + i))) (g := fun i => snM 10 11 15 (4 * h + i)) (snh_step hh h8) ⟨hs, fun g hg => absurd hg (Nat.not_lt_zero g)⟩
  refine ⟨a.1, a.2, acc4_eq (R := fun i x m => SD pe nb nh x m ∧ ∀ g, g < i → x 11 (80 + (4 * h + g)) = m 15 (4 * h + g)) v (snh_step hh h8) (fun i x m hi hs => ?_) ⟨hs, fun g hg => absurd hg (Nat.not_lt_zero g)⟩⟩
  unfold cnt msg
  rw [hs.1.2.2.2.2.2.2.1 _ (by omega)]
/-- a host that is not silent sends -/
theorem s_host {h : Nat} (hh : h < nh) (h8 : h < 8) (hz : m 3 h = 0) (ht : T3 pe nb nh (20 + h) x m) : ∃ r x' m', fX4_sendFrom (nI (20 + h)) x = some (r, x') ∧ fX5_sendsOfHost (nI h) m = some (r, m') ∧ T3 pe nb nh (20 + (h + 1)) x' m' := by
  obtain ⟨⟨h1, hd⟩, o1, o2, o3, o4, o5⟩ := ht
  obtain ⟨a1, a2, a3⟩ := snh_all hh h8 0 h1
  have e36 : fX4_sendFrom (nI (20 + h)) x = some (acc4 (fun i => cnt 8 (80 + (4 * h + i))) (fun i => snX (80 + (4 * h + i))) 0 x, do4 (fun i => snX (80 + (4 * h + i))) x) := by
    unfold fX4_sendFrom
    simp (disch := omega) only [X_prtN, show ¬ 20 + h < 20 by omega, ↓reduceIte, Option.bind_some]
    rw [X_snd (by omega)]
    simp only [show ∀ i, 4 * (20 + h) + i = 80 + (4 * h + i) from fun i => by omega]
  refine ⟨_, _, _, e36, by rw [M_sndh h8 m hz, a3], ?_⟩
  have fx : ∀ c j, c ≠ 8 → c ≠ 9 → c ≠ 11 → do4 (fun i => snX (80 + (4 * h + i))) x c j = x c j := fun c j q1 q2 q3 => do4_at (fun i σ hi => snX_c ⟨q1, q2, q3⟩) x
  have fm : ∀ c j, c ≠ 10 → c ≠ 11 → c ≠ 15 → do4 (fun i => snM 10 11 15 (4 * h + i)) m c j = m c j := fun c j q1 q2 q3 => do4_at (fun i σ hi => snM_c q1 q2 q3) m
  have fxj : ∀ j, (∀ i, i < 4 → j ≠ 80 + (4 * h + i)) → do4 (fun i => snX (80 + (4 * h + i))) x 11 j = x 11 j := fun j q => do4_at (fun i σ hi => snX_j (q i hi)) x
  have fmj : ∀ j, (∀ i, i < 4 → j ≠ 4 * h + i) → do4 (fun i => snM 10 11 15 (4 * h + i)) m 15 j = m 15 j := fun j q => do4_at (fun i σ hi => snM_j (by omega) (by omega) (q i hi)) m
  refine ⟨⟨a1, fun q hq hcq => ?_⟩, fun q hq hqk hcq => ⟨?_, fun g hg => ?_⟩, fun h' hh' hk g hg => ?_, fun h' hh' => ?_, fun j hj hj2 => ?_, fun q hq hq2 => ?_⟩
  · rw [fx 13 q (by omega) (by omega) (by omega), fm 12 q (by omega) (by omega) (by omega)]
    exact hd q hq hcq
  · rw [fx 10 q (by omega) (by omega) (by omega), fm 13 q (by omega) (by omega) (by omega)]
    exact (o1 q hq (by omega) hcq).1
  · rw [fxj _ (fun i hi => by omega), fm 14 _ (by omega) (by omega) (by omega)]
    exact (o1 q hq (by omega) hcq).2 g hg
  · by_cases e : h' = h
    · subst e; exact a2 g hg
    · rw [fxj _ (fun i hi => by omega), fmj _ (fun i hi => by omega)]
      exact o2 h' hh' (by omega) g hg
  · rw [fx 10 _ (by omega) (by omega) (by omega)]
    exact o3 h' hh'
  · rw [fxj _ (fun i hi => by omega)]
    exact o4 j (by omega) hj2
  · rw [fx 10 _ (by omega) (by omega) (by omega)]
    exact o5 q (by omega) hq2
/-- a silent host -/
theorem s_mute {h : Nat} (hh : h < nh) (h8 : h < 8) (hz : ¬ m 3 h = 0) (ht : T3 pe nb nh (20 + h) x m) : ∃ m', fX5_sendsOfHost (nI h) m = some (0, m') ∧ T3 pe nb nh (20 + (h + 1)) x m' := by
  obtain ⟨⟨h1, hd⟩, o1, o2, o3, o4, o5⟩ := ht
  refine ⟨_, by rw [M_sndz h8 m hz]; rfl, ?_⟩
  have fm : ∀ c j, c ≠ 15 → do4 (fun i σ => up2 σ 15 (4 * h + i) 0) m c j = m c j := fun c j q1 => do4_at (fun i σ hi => up2_c q1) m
  have fmj : ∀ j, (∀ i, i < 4 → j ≠ 4 * h + i) → do4 (fun i σ => up2 σ 15 (4 * h + i) 0) m 15 j = m 15 j := fun j q => do4_at (fun i σ hi => up2_j (q i hi)) m
  have f0 : ∀ g, g < 4 → do4 (fun i σ => up2 σ 15 (4 * h + i) 0) m 15 (4 * h + g) = 0 := by
    intro g hg
    unfold do4
    simp only [up2_ap]
    grind
  refine ⟨⟨?_, fun q hq hcq => ?_⟩, fun q hq hqk hcq => ⟨?_, fun g hg => ?_⟩, fun h' hh' hk g hg => ?_, o3, fun j hj hj2 => o4 j (by omega) hj2, fun q hq hq2 => o5 q (by omega) hq2⟩
  · exact D_ms (D_ms (D_ms (D_ms h1 (by omega) _) (by omega) _) (by omega) _) (by omega) _
  · rw [fm 12 q (by omega)]
    exact hd q hq hcq
  · rw [fm 13 q (by omega)]
    exact (o1 q hq (by omega) hcq).1
  · rw [fm 14 _ (by omega)]
    exact (o1 q hq (by omega) hcq).2 g hg
  · by_cases e : h' = h
    · subst e
      rw [f0 g hg]
      exact o4 _ (by omega) (by omega)
    · rw [fmj _ (fun i hi => by omega)]
      exact o2 h' hh' (by omega) g hg
theorem p3h (hPE : PE pe nb nh) : ∀ (j h : Nat) (v : Int32) (x m : St) (n n' : Nat), h + j = nh → T3 pe nb nh (20 + h) x m → ∃ v' x' m', loop2s fX4_sendAll_b11 (n + j) v (nI (20 + h)) x = loop2s fX4_sendAll_b11 n v' (nI (20 + nh)) x' ∧ loop2s fX5_passes_b92 (n' + 1 + j) v (nI h) m = fX5_passes_b114 v' (nI nh) m' ∧ T3 pe nb nh (20 + nh) x' m' := by
  intro j
  induction j with
  | zero =>
    intro h v x m n n' e ht
    obtain rfl : h = nh := by omega
    refine ⟨v, x, m, rfl, ?_, ht⟩
    have hb := hPE.2.1
    show fX5_passes_b92 _ v (nI h) m = _
    unfold fX5_passes_b92
    rw [ht.1.1.1.2.2.2.1]
    simp (disch := omega) only [leN, Nat.le_refl, ↓reduceIte]
  | succ j ih =>
    intro h v x m n n' e ht
    have hb := hPE.2.1
    have hh : h < nh := by omega
    have h8 : h < 8 := by omega
    have S := ht.1.1.1
    have hc : pe (20 + h) < 28 := (hPE.2.2.2.1 h h8).mpr hh
    have hs : x 15 (20 + h) = m 3 h := ht.1.1.2.2.2.2.2.2.2.2.2.2.1 h h8
    have hn : m 0 1 = nI nh := S.2.2.2.1
    by_cases hz : m 3 h = 0
    · obtain ⟨r, x1, m1, e1, e2, h2⟩ := s_host hh h8 hz ht
      obtain ⟨v', x', m', a, b, c⟩ := ih (h + 1) (v + r) _ _ n n' (by omega) h2
      refine ⟨v', x', m', ?_, ?_, c⟩
      · show fX4_sendAll_b11 (loop2s fX4_sendAll_b11 (n + j)) v (nI (20 + h)) x = _
        generalize loop2s fX4_sendAll_b11 (n + j) = K at a ⊢
        unfold fX4_sendAll_b11 fX4_sendAll_b45
        simp (disch := omega) only [n28le, X_con S, hc, ↓reduceIte, Option.bind_some, inb_nI, clN, hs, hz, bind2, e1, ea1]
        rw [if_neg (by omega), if_neg (by decide)]
        exact a
      · show fX5_passes_b92 (loop2s fX5_passes_b92 (n' + 1 + j)) v (nI h) m = _
        generalize loop2s fX5_passes_b92 (n' + 1 + j) = K at b ⊢
        unfold fX5_passes_b92
        simp (disch := omega) only [hn, leN, Option.bind_some, bind2, e2, ea1]
        rw [if_neg (by omega)]
        exact b
    · obtain ⟨m1, e2, h2⟩ := s_mute hh h8 hz ht
      obtain ⟨v', x', m', a, b, c⟩ := ih (h + 1) v _ _ n n' (by omega) h2
      refine ⟨v', x', m', ?_, ?_, c⟩
      · show fX4_sendAll_b11 (loop2s fX4_sendAll_b11 (n + j)) v (nI (20 + h)) x = _
        generalize loop2s fX4_sendAll_b11 (n + j) = K at a ⊢
        unfold fX4_sendAll_b11 fX4_sendAll_b45
        simp (disch := omega) only [n28le, X_con S, hc, ↓reduceIte, Option.bind_some, inb_nI, clN, hs, hz, ea1]
        rw [if_neg (by omega), if_neg (by decide)]
        exact a
      · show fX5_passes_b92 (loop2s fX5_passes_b92 (n' + 1 + j)) v (nI h) m = _
        generalize loop2s fX5_passes_b92 (n' + 1 + j) = K at b ⊢
        unfold fX5_passes_b92
        simp (disch := omega) only [hn, leN, Option.bind_some, bind2, e2, ea1, Int32.add_zero]
        rw [if_neg (by omega)]
        exact b
theorem p3r (hPE : PE pe nb nh) (v : Int32) : ∀ (j h n : Nat), h + j = 8 → nh ≤ h → T3 pe nb nh (20 + h) x m → loop2s fX4_sendAll_b11 (n + 1 + j) v (nI (20 + h)) x = some (v, x) ∧ T3 pe nb nh 28 x m := by
  intro j
  induction j with
  | zero =>
    intro h n e hn ht
    obtain rfl : h = 8 := by omega
    exact ⟨rfl, ht⟩
  | succ j ih =>
    intro h n e hn ht
    have hc : ¬ pe (20 + h) < 28 := fun q => by have := (hPE.2.2.2.1 h (by omega)).mp q; omega
    obtain ⟨a, b⟩ := ih (h + 1) n (by omega) (by omega) (t3_skip (k := 20 + h) (by omega) (fun q => by omega) (fun _ => by omega) ht)
    refine ⟨?_, b⟩
    have S := ht.1.1.1
    show fX4_sendAll_b11 (loop2s fX4_sendAll_b11 (n + 1 + j)) v (nI (20 + h)) x = _
    generalize loop2s fX4_sendAll_b11 (n + 1 + j) = K at a ⊢
    unfold fX4_sendAll_b11 fX4_sendAll_b45
    simp (disch := omega) only [n28le, X_con S, hc, ↓reduceIte, Option.bind_some, ea1]
    rw [if_neg (by omega)]
    exact a
/-- PART 3, whole -/
theorem P3 (hPE : PE pe nb nh) (w : Int32) (h : T1 pe nb nh 20 x m) : ∃ r x' m', fX4_sendAll x = some (r, x') ∧ fX5_passes_b56 0 w m = fX5_passes_b114 r (nI nh) m' ∧ T3 pe nb nh 28 x' m' := by
  obtain ⟨x0, c1, c2, c3, c4⟩ := X_clear x
  have ht0 : T3 pe nb nh 0 x0 m := by
    refine ⟨⟨SD_cX (fun c j h1 h2 _ => c4 c j h1 h2) h.1, fun p hp hc => ?_⟩, fun p hp hk => absurd hk (Nat.not_lt_zero p), fun h hh hk => absurd hk (Nat.not_lt_zero _), fun h hh => c2 _ (by omega), fun j _ hj => c3 j hj, fun q _ hq => c2 q hq⟩
    rw [c4 13 p (by omega) (by omega)]
    exact h.2 p hp hc
  have hb := hPE.2.1
  obtain ⟨v1, x1, m1, a1, b1, t1⟩ := p3 20 0 0 x0 m 1980 1979 rfl ht0
  obtain ⟨v2, x2, m2, a2, b2, t2⟩ := p3h hPE nh 0 v1 x1 m1 (1980 - nh) (1999 - nh) (by omega) t1
  obtain ⟨a3, t3⟩ := p3r hPE v2 (8 - nh) nh (1980 - nh - 1 - (8 - nh)) (by omega) (Nat.le_refl _) t2
  refine ⟨v2, x2, m2, ?_, ?_, t3⟩
  · unfold fX4_sendAll
    rw [c1]
    show loop2s fX4_sendAll_b11 fuel 0 0 x0 = _
    refine Eq.trans a1 ?_
    rw [show (1980 : Nat) - nh + nh = 1980 by omega] at a2
    refine Eq.trans a2 ?_
    rw [show 1980 - nh - 1 - (8 - nh) + 1 + (8 - nh) = 1980 - nh by omega] at a3
    exact a3
  · unfold fX5_passes_b56
    refine Eq.trans b1 ?_
    unfold fX5_passes_b90
    rw [show 1999 - nh + 1 + nh = 2000 by omega] at b2
    exact b2
end
