/-! ===== arguments; distance ===== -/
theorem loop1s_S {α : Type} (body : (Int32 → St → Option α) → Int32 → St → Option α) (n : Nat) (v : Int32) (σ : St) : loop1s body (n + 1) v σ = body (loop1s body n) v σ := rfl
section
variable {pe : Nat → Nat} {nb nh g : Nat} {x m : St}
theorem SD_cM {m' : St} (e : ∀ c j, c < 12 → m' c j = m c j) (h : SD pe nb nh x m) : SD pe nb nh x m' := by
  unfold SD Str Dat at *
  simp (disch := omega) only [e]
  exact h
theorem pred_lt {n k : Nat} (hn : n ≤ 8) (hk : k < 2147483648) : (nI n - 1 < nI k) = (n ≤ k) := by
  cases n with
  | zero =>
    refine (eq_true ?_).trans (eq_true (Nat.zero_le k)).symm
    have := nI_pos' (n := k) (by omega)
    exact Int32.lt_of_lt_of_le (by decide) this
  | succ n => rw [es1, ltN (by omega) hk]; exact propext ⟨fun h => by omega, fun h => by omega⟩
theorem a_host (hPE : PE pe nb nh) (S : Str pe nb nh x m) (v : Int32) : (∃ h, h < nh ∧ h < 8 ∧ v = nI h ∧ fX1_stationOfHost v x = some (nI (20 + h)) ∧ fX5_isHost v m = some 1) ∨ (fX1_stationOfHost v x = some (-2) ∧ fX5_isHost v m = some 0) := by
  have hb := hPE.2.1
  unfold fX1_stationOfHost fX5_isHost fX5_within
  rw [S.2.2.1, S.2.2.2.1]
  rcases i_cases v with h | ⟨k, hk, rfl⟩
  · right
    rw [if_pos h, if_pos h]
    exact ⟨rfl, rfl⟩
  · simp (disch := omega) only [lt0, ↓reduceIte, ltN, e20a, pred_lt]
    by_cases hl : k < nh
    · left
      refine ⟨k, hl, by omega, rfl, ?_, ?_⟩
      · rw [if_pos hl]
      · rw [if_neg (by omega)]; rfl
    · right
      rw [if_neg hl, if_pos (by omega)]
      exact ⟨rfl, rfl⟩
theorem a_port (hPE : PE pe nb nh) (S : Str pe nb nh x m) (v w : Int32) : (∃ b q, b < nb ∧ b < 5 ∧ q < 4 ∧ v = nI b ∧ w = nI q ∧ fX1_stationOfPort v w x = some (nI (4 * b + q)) ∧ fX5_isPort v w m = some 1) ∨ (fX1_stationOfPort v w x = some (-1) ∧ fX5_isPort v w m = some 0) := by
  have hb := hPE.1
  unfold fX1_stationOfPort fX5_isPort fX5_within
  rw [S.1, S.2.1]
  rcases i_cases v with h | ⟨k, hk, rfl⟩
  · right
    rw [if_pos h, if_pos h]
    exact ⟨rfl, rfl⟩
  · simp (disch := omega) only [lt0, ↓reduceIte, leN, pred_lt]
    by_cases hl : nb ≤ k
    · right
      rw [if_pos hl, if_pos hl]
      exact ⟨rfl, rfl⟩
    · rw [if_neg hl, if_neg hl]
      simp only [Option.bind_some]
      rw [if_neg n10]
      rcases i_cases w with h | ⟨q, hq, rfl⟩
      · right
        rw [if_pos h, if_pos h]
        exact ⟨rfl, rfl⟩
      · simp (disch := omega) only [lt0, ↓reduceIte, nlt4, n3lt, em4, eaa]
        by_cases hl2 : q < 4
        · left
          refine ⟨k, q, by omega, by omega, hl2, rfl, rfl, ?_, ?_⟩
          · rw [if_pos hl2]
          · rw [if_neg (by omega)]; rfl
        · right
          rw [if_neg hl2, if_pos (by omega)]
          exact ⟨rfl, rfl⟩
theorem a_group (v : Int32) (x m : St) : (∃ k, k < 4 ∧ v = nI k ∧ fX4_isGroup v x = some 1 ∧ fX5_isGroup v m = some 1) ∨ (fX4_isGroup v x = some 0 ∧ fX5_isGroup v m = some 0) := by
  unfold fX4_isGroup fX5_isGroup fX5_within
  rcases i_cases v with h | ⟨k, hk, rfl⟩
  · right
    rw [if_pos h, if_pos h]
    exact ⟨rfl, rfl⟩
  · simp (disch := omega) only [lt0, ↓reduceIte, n4le, n3lt]
    by_cases hl : k < 4
    · left
      refine ⟨k, hl, rfl, ?_, ?_⟩
      · rw [if_neg (by omega)]
      · rw [if_neg (by omega)]; rfl
    · right
      rw [if_pos (by omega), if_pos (by omega)]
      exact ⟨rfl, rfl⟩
/-- far holds distances, closed under parents; all up to r are there -/
def FAR (g a r : Nat) (m σ : St) : Prop := (∀ c j, c ≠ 17 → σ c j = m c j) ∧ (∀ y, y < 5 → σ 17 y = 0 ∨ (σ 17 y = nI (way g a y) ∧ way g a y ≠ 0 ∧ ∀ z, z < 5 → adjm g z y = true → way g a y = way g a z + 1 → way g a z ≠ 0 → σ 17 z ≠ 0)) ∧ ∀ y, y < 5 → way g a y ≠ 0 → way g a y ≤ r → σ 17 y ≠ 0
theorem nI_nz {k : Nat} (h : k ≠ 0) (h2 : k < 2147483648) : nI k ≠ 0 := fun e => h (by rw [nz0 h2] at e; exact e)
theorem far_in (G : GR pe g) (S : ∀ p, p < 20 → m 1 p = enM (pe p)) {a : Nat} (ha : a < 5) (K : Int32 → St → Option (Int32 × St)) (v1 v2 v3 : Int32) (r : Nat) (hr : 1 ≤ r) : ∀ (j k : Nat) (σ : St) (n : Nat), k + j = 20 → FAR g a r m σ → (∀ p, p < k → pe p < 20 → way g a (p / 4) ≠ 0 → way g a (p / 4) ≤ r → σ 17 (pe p / 4) ≠ 0) → ∃ σ', loop1s (fX5_distance_b63 K v1 v2 v3) (n + 1 + j) (nI k) σ = K (v3 + 1) σ' ∧ FAR g a (r + 1) m σ' := by
  intro j
  induction j with
  | zero =>
    intro k σ n e h h2
    obtain rfl : k = 20 := by omega
    refine ⟨σ, rfl, h.1, h.2.1, fun b hb hn hl => ?_⟩
    by_cases e1 : way g a b ≤ r
    · exact h.2.2 b hb hn e1
    · obtain ⟨z, q1, q2, q3⟩ := W_par G ha hb (by omega)
      obtain ⟨p, r1, r2, r3, r4⟩ := (G.2.2 z b q1 hb).mp q2
      rw [← r4]
      exact h2 p r1 r3 (by rw [r2]; omega) (by rw [r2]; omega)
  | succ j ih =>
    intro k σ n e h h2
    have hk : k < 20 := by omega
    have step : ∀ σ2, FAR g a r m σ2 → (∀ p, p < k + 1 → pe p < 20 → way g a (p / 4) ≠ 0 → way g a (p / 4) ≤ r → σ2 17 (pe p / 4) ≠ 0) → fX5_distance_b63 K v1 v2 v3 (loop1s (fX5_distance_b63 K v1 v2 v3) (n + 1 + j)) (nI k) σ = loop1s (fX5_distance_b63 K v1 v2 v3) (n + 1 + j) (nI (k + 1)) σ2 → ∃ σ', loop1s (fX5_distance_b63 K v1 v2 v3) (n + 1 + (j + 1)) (nI k) σ = K (v3 + 1) σ' ∧ FAR g a (r + 1) m σ' := by
      intro σ2 q1 q2 q3
      obtain ⟨t', c1, c2⟩ := ih (k + 1) σ2 n (by omega) q1 q2
      exact ⟨t', Eq.trans q3 c1, c2⟩
    have S' : ∀ p, p < 20 → σ 1 p = enM (pe p) := fun p hp => by rw [h.1 1 p (by omega)]; exact S p hp
    by_cases hl : pe k < 20
    · have ad : adjm g (k / 4) (pe k / 4) = true := (G.2.2 _ _ (by omega) (by omega)).mpr ⟨k, hk, rfl, hl, rfl⟩
      have wl5 := W_le G ha (show k / 4 < 5 by omega)
      rcases h.2.1 (k / 4) (by omega) with hx | ⟨hx, hxn, hxp⟩
      · refine step σ h (fun p hp q1 q2 q3 => ?_) ?_
        · by_cases e : p = k
          · subst e
            exact absurd hx (h.2.2 (p / 4) (by omega) q2 q3)
          · exact h2 p (by omega) q1 q2 q3
        · generalize loop1s (fX5_distance_b63 K v1 v2 v3) (n + 1 + j) = K2
          unfold fX5_distance_b63 fX5_distance_b133
          simp (disch := omega) only [n20le, M_lnk1 S', hl, ↓reduceIte, Option.bind_some, ed4, inb_nI, clN, hx, ea1]
          rw [if_neg (by omega), if_neg n10, if_pos (by decide)]
      · have hx0 : ¬ nI (way g a (k / 4)) ≤ 0 := nI_nle (by omega) (by omega)
        by_cases hy : σ 17 (pe k / 4) = 0
        · have wy : way g a (pe k / 4) = way g a (k / 4) + 1 := by
            have wa := W_adj G ha (show k / 4 < 5 by omega) (show pe k / 4 < 5 by omega) ad
            rcases wa.2 hxn with q | q
            · exact q
            · exfalso
              exact hxp (pe k / 4) (by omega) (by rw [A_sym G (by omega) (by omega)]; exact ad) q.symm (fun q0 => hxn (wa.1.mpr q0)) hy
          have wl5y := W_le G ha (show pe k / 4 < 5 by omega)
          have hne : k / 4 ≠ pe k / 4 := fun q => by rw [← q, A_irr G (by omega)] at ad; cases ad
          refine step (up2 σ 17 (pe k / 4) (nI (way g a (pe k / 4)))) ⟨fun c j hc => ?_, fun y hy5 => ?_, fun y hy5 q1 q2 => ?_⟩ (fun p hp q1 q2 q3 => ?_) ?_
          · rw [up2_c hc]; exact h.1 c j hc
          · by_cases e : y = pe k / 4
            · subst e
              right
              refine ⟨up2_hit _ _ _ _, by omega, fun z hz q1 q2 q3 => ?_⟩
              have ez : k / 4 = z := W_uni G ha (show k / 4 < 5 by omega) hz (by omega) ad q1 hxn q3 wy q2
              rw [← ez, up2_j hne, hx]
              exact nI_nz hxn (by omega)
            · rw [up2_j e]
              rcases h.2.1 y hy5 with q | ⟨q1, q2, q3⟩
              · exact Or.inl q
              · refine Or.inr ⟨q1, q2, fun z hz r1 r2 r3 => ?_⟩
                by_cases ez : z = pe k / 4
                · rw [ez, up2_hit]; exact nI_nz (by omega) (by omega)
                · rw [up2_j ez]; exact q3 z hz r1 r2 r3
          · by_cases e : y = pe k / 4
            · rw [e, up2_hit]; exact nI_nz (by omega) (by omega)
            · rw [up2_j e]; exact h.2.2 y hy5 q1 q2
          · by_cases e : pe p / 4 = pe k / 4
            · rw [e, up2_hit]; exact nI_nz (by omega) (by omega)
            · have : p ≠ k := fun q => e (by rw [q])
              rw [up2_j e]; exact h2 p (by omega) q1 q2 q3
          · generalize loop1s (fX5_distance_b63 K v1 v2 v3) (n + 1 + j) = K2
            unfold fX5_distance_b63 fX5_distance_b133
            simp (disch := omega) only [n20le, M_lnk1 S', hl, ↓reduceIte, Option.bind_some, ed4, inb_nI, clN, hx, S' k hk, enM_p hl, hy, ea1, wy]
            rw [if_neg (by omega), if_neg n10, if_neg hx0]
        · refine step σ h (fun p hp q1 q2 q3 => ?_) ?_
          · by_cases e : p = k
            · subst e; exact hy
            · exact h2 p (by omega) q1 q2 q3
          · generalize loop1s (fX5_distance_b63 K v1 v2 v3) (n + 1 + j) = K2
            unfold fX5_distance_b63 fX5_distance_b133
            simp (disch := omega) only [n20le, M_lnk1 S', hl, ↓reduceIte, Option.bind_some, ed4, inb_nI, clN, hx, S' k hk, enM_p hl, hy, ea1]
            rw [if_neg (by omega), if_neg n10, if_neg hx0]
    · refine step σ h (fun p hp q1 q2 q3 => ?_) ?_
      · have : p ≠ k := fun e => hl (e ▸ q1)
        exact h2 p (by omega) q1 q2 q3
      · generalize loop1s (fX5_distance_b63 K v1 v2 v3) (n + 1 + j) = K2
        unfold fX5_distance_b63 fX5_distance_b133
        simp (disch := omega) only [n20le, M_lnk1 S', hl, ↓reduceIte, Option.bind_some, ea1]
        rw [if_neg (by omega)]
theorem far_out (G : GR pe g) (S : ∀ p, p < 20 → m 1 p = enM (pe p)) {a : Nat} (ha : a < 5) (v1 v2 : Int32) : ∀ (j k : Nat) (σ : St) (n : Nat), k + j = 5 → FAR g a (k + 1) m σ → ∃ σ', loop1s (fX5_distance_b55 v1 v2) (n + 1 + j) (nI k) σ = fX5_distance_b145 v1 v2 (nI 5) σ' ∧ FAR g a 6 m σ' := by
  intro j
  induction j with
  | zero =>
    intro k σ n e h
    obtain rfl : k = 5 := by omega
    exact ⟨σ, rfl, h⟩
  | succ j ih =>
    intro k σ n e h
    obtain ⟨t1, a1, b1⟩ := far_in G S ha (loop1s (fX5_distance_b55 v1 v2) (n + 1 + j)) v1 v2 (nI k) (k + 1) (by omega) 20 0 σ 1979 rfl h (fun p hp => absurd hp (Nat.not_lt_zero p))
    obtain ⟨t', a2, b2⟩ := ih (k + 1) t1 n (by omega) b1
    refine ⟨t', ?_, b2⟩
    show fX5_distance_b55 v1 v2 (loop1s (fX5_distance_b55 v1 v2) (n + 1 + j)) (nI k) σ = _
    rw [ea1] at a1
    refine Eq.trans ?_ (Eq.trans a1 a2)
    generalize loop1s (fX5_distance_b55 v1 v2) (n + 1 + j) = K
    unfold fX5_distance_b55
    simp (disch := omega) only [n5le]
    rw [if_neg (by omega)]
    rfl
theorem far_all (G : GR pe g) (S : ∀ p, p < 20 → m 1 p = enM (pe p)) {a : Nat} (ha : a < 5) (v1 v2 : Int32) {σ : St} (h : FAR g a 1 m σ) : ∃ σ', loop1s (fX5_distance_b55 v1 v2) fuel (0 : Int32) σ = fX5_distance_b145 v1 v2 (nI 5) σ' ∧ FAR g a 6 m σ' := by
  have e := far_out G S ha v1 v2 5 0 σ 1994 rfl h
  rw [show (1994 : Nat) + 1 + 5 = fuel from rfl, nI_0] at e
  exact e
theorem far_clear (v1 v2 : Int32) (m : St) : ∃ m1, loop1s (fX5_distance_b21 v1 v2) fuel (0 : Int32) m = fX5_distance_b39 v1 v2 (nI 5) m1 ∧ (∀ q, q < 5 → m1 17 q = 0) ∧ ∀ c j, c ≠ 17 → m1 c j = m c j := by
  obtain ⟨m1, e1, i1⟩ := loop1s_go (fX5_distance_b21 v1 v2) 5 0 (fun i σ => up2 σ 17 i 0) (fun i σ => (∀ q, q < i → σ 17 q = 0) ∧ ∀ c j, c ≠ 17 → σ c j = m c j) (by
    intro K i σ hi hI
    refine ⟨?_, ?_, ?_⟩
    · unfold fX5_distance_b21
      simp (disch := omega) only [Nat.zero_add, n5le, inb_nI, clN, ↓reduceIte, ea1]
      rw [if_neg (by omega)]
    · intro q hq
      by_cases e : q = i
      · subst e; exact up2_hit _ _ _ _
      · show up2 σ 17 i 0 17 q = 0
        rw [up2_j e]; exact hI.1 q (by omega)
    · intro c j hc
      show up2 σ 17 i 0 c j = _
      rw [up2_c hc]; exact hI.2 c j hc) 5 0 m (1994 + 1) rfl ⟨fun q hq => absurd hq (Nat.not_lt_zero q), fun _ _ _ => rfl⟩
  refine ⟨m1, ?_, i1.1, i1.2⟩
  have e2 : loop1s (fX5_distance_b21 v1 v2) (1994 + 1) (nI (0 + 5)) m1 = fX5_distance_b39 v1 v2 (nI 5) m1 := by
    rw [loop1s_S]
    generalize loop1s (fX5_distance_b21 v1 v2) 1994 = K
    unfold fX5_distance_b21
    simp (disch := omega) only [Nat.zero_add, n5le, Nat.le_refl, ↓reduceIte]
  have e3 := Eq.trans e1 e2
  have e4 : fuel = 1994 + 1 + 5 := rfl
  rw [e4, ← nI_0]
  exact e3
theorem M_dist (hPE : PE pe nb nh) (G : GR pe g) (S : Str pe nb nh x m) {h1 h2 : Nat} (q1 : h1 < nh) (q2 : h2 < nh) : ∃ m', loop1s (fX5_distance_b21 (nI h1) (nI h2)) fuel (0 : Int32) m = some (nI (way g (pe (20 + h1) / 4) (pe (20 + h2) / 4)), m') ∧ ∀ c j, c ≠ 17 → m' c j = m c j := by
  have hb := hPE.2.1
  have l1 : pe (20 + h1) < 20 := hPE.2.2.2.2 h1 (by omega) ((hPE.2.2.2.1 h1 (by omega)).mpr q1)
  have l2 : pe (20 + h2) < 20 := hPE.2.2.2.2 h2 (by omega) ((hPE.2.2.2.1 h2 (by omega)).mpr q2)
  have S1 := S.2.2.2.2.2.2.1
  obtain ⟨m1, e1, i1⟩ := far_clear (nI h1) (nI h2) m
  have ha : pe (20 + h1) / 4 < 5 := by omega
  have f0 : FAR g (pe (20 + h1) / 4) 1 m (up2 m1 17 (pe (20 + h1) / 4) 1) := by
    refine ⟨fun c j hc => by rw [up2_c hc]; exact i1.2 c j hc, fun y hy => ?_, fun y hy n1 n2 => ?_⟩
    · by_cases e : y = pe (20 + h1) / 4
      · subst e
        right
        rw [up2_hit, W_self G ha]
        exact ⟨rfl, by omega, fun z hz _ r2 r3 => absurd r2 (by omega)⟩
      · left
        rw [up2_j e]; exact i1.1 y hy
    · have : y = pe (20 + h1) / 4 := W_one G ha hy (by omega)
      rw [this, up2_hit]
      decide
  obtain ⟨m2, e2, f2⟩ := far_all G S1 ha (nI h1) (nI h2) f0
  refine ⟨m2, ?_, f2.1⟩
  have ev : m1 2 h1 = nI (pe (20 + h1)) := by rw [i1.2 2 h1 (by omega)]; exact S.2.2.2.2.2.2.2 h1 q1
  have ew : m2 2 h2 = nI (pe (20 + h2)) := by rw [f2.1 2 h2 (by omega)]; exact S.2.2.2.2.2.2.2 h2 q2
  have fin : m2 17 (pe (20 + h2) / 4) = nI (way g (pe (20 + h1) / 4) (pe (20 + h2) / 4)) := by
    rcases f2.2.1 (pe (20 + h2) / 4) (by omega) with q | q
    · have w0 : way g (pe (20 + h1) / 4) (pe (20 + h2) / 4) = 0 := by
        apply Classical.byContradiction
        intro hn
        exact f2.2.2 _ (by omega) hn (by have := W_le G ha (show pe (20 + h2) / 4 < 5 by omega); omega) q
      rw [q, w0]; rfl
    · exact q.1
  rw [e1]
  unfold fX5_distance_b39
  simp (disch := omega) only [↓reduceIte, inb_nI, clN, ev, ed4]
  rw [e2]
  unfold fX5_distance_b145
  simp (disch := omega) only [inb_nI, clN, ↓reduceIte, ew, ed4, fin]
theorem X_btw (hPE : PE pe nb nh) (G : GR pe g) (S : Str pe nb nh x m) {h1 h2 : Nat} (q1 : h1 < nh) (q2 : h2 < nh) : fX4_bridgesBetweenHosts (nI h1) (nI h2) x = some (nI (way g (pe (20 + h1) / 4) (pe (20 + h2) / 4))) := by
  have hb := hPE.2.1
  have l1 : pe (20 + h1) < 20 := hPE.2.2.2.2 h1 (by omega) ((hPE.2.2.2.1 h1 (by omega)).mpr q1)
  have l2 : pe (20 + h2) < 20 := hPE.2.2.2.2 h2 (by omega) ((hPE.2.2.2.1 h2 (by omega)).mpr q2)
  have S5 := S.2.2.2.2.2.1
  unfold fX4_bridgesBetweenHosts fX4_bridgeOf
  simp (disch := omega) only [e20a, inb_nI, clN, ↓reduceIte, S5, enX_lt, X_prtN, l1, l2, Option.bind_some, ed4, X_way G S5]
  rw [if_neg n10, if_neg n10]
theorem sim_distance (hPE : PE pe nb nh) (G : GR pe g) (h : SD pe nb nh x m) (v w : Int32) : ∃ r m', fX4_distance v w x = some r ∧ fX5_distance v w m = some (r, m') ∧ SD pe nb nh x m' := by
  unfold fX4_distance fX5_distance
  have hb := hPE.2.1
  rcases a_host hPE h.1 v with ⟨h1, q1, q1', rfl, e1, e2⟩ | ⟨e1, e2⟩
  · rcases a_host hPE h.1 w with ⟨h2, q2, q2', rfl, e3, e4⟩ | ⟨e3, e4⟩
    · obtain ⟨m', a, b⟩ := M_dist hPE G h.1 q1 q2
      refine ⟨nI (way g (pe (20 + h1) / 4) (pe (20 + h2) / 4)), m', ?_, ?_, SD_cM (fun c j hc => b c j (by omega)) h⟩
      · simp (disch := omega) only [e1, e3, Option.bind_some, lt0, ge0, ↓reduceIte, X_btw hPE G h.1 q1 q2]
      · simp only [e2, e4, Option.bind_some]
        rw [if_neg n10, if_neg n10]
        exact a
    · refine ⟨-2, m, ?_, ?_, h⟩
      · simp (disch := omega) only [e1, e3, Option.bind_some, lt0, ↓reduceIte]
        rfl
      · simp only [e2, e4, Option.bind_some]
        rw [if_neg n10]
        rfl
  · refine ⟨-2, m, ?_, ?_, h⟩
    · simp only [e1, Option.bind_some]
      rfl
    · simp only [e2, Option.bind_some]
      rfl
end
