/-! ===== the relation behind connect, cut, addHost ===== -/
section
variable {pe : Nat → Nat} {nb nh g : Nat} {x m x' m' : St}
theorem enX_lk {p q r : Nat} (hp : p < 28) (hq : q < 28) : enX (lk pe p q r) = if r = p then nI q else if r = q then nI p else enX (pe r) := by
  unfold lk
  split
  · exact enX_lt hq
  · split
    · exact enX_lt hp
    · rfl
theorem M_rst2 {p : Nat} (hp : p < 20) (v : Int32) (σ : St) (hv : ¬ v = -1) : ∃ σ1, fX5_resets (nI p) v σ = some σ1 ∧ ∀ c j, σ1 c j = if c = 1 ∧ j = p then v else if c = 9 ∧ j = p then 0 else if c = 8 ∧ j = p then σ 0 7 else if (4 ≤ c ∧ c ≤ 7) ∧ j / 4 = p then 0 else σ c j :=
  ⟨_, M_rst hp v σ, fun c j => by rw [if_neg hv]; exact rst_ap v _ σ c j⟩
theorem M_rst3 {p : Nat} (hp : p < 20) (σ : St) : ∃ σ1, fX5_resets (nI p) (-1) σ = some σ1 ∧ ∀ c j, σ1 c j = if c = 1 ∧ j = p then -1 else if c = 9 ∧ j = p then 0 else if c = 8 ∧ j = p then 0 else if (4 ≤ c ∧ c ≤ 7) ∧ j / 4 = p then 0 else σ c j :=
  ⟨_, M_rst hp (-1) σ, fun c j => by rw [if_pos rfl]; exact rst_ap (-1) _ σ c j⟩
theorem X_clp2 {p : Nat} (hp : p < 20) (σ : St) : ∃ σ1, fX4_clearPort (nI p) σ = some σ1 ∧ ∀ c j, σ1 c j = if c = 12 ∧ j = p then 0 else if c = 14 ∧ j = p then 0 else if (6 ≤ c ∧ c ≤ 9) ∧ j / 4 = p then 0 else σ c j :=
  ⟨_, X_clp hp σ, fun c j => clp_ap σ c j⟩
theorem ifs1 {p q c j : Nat} (hpq : p ≠ q) {P Q w e o : Int32} : (if c = 0 ∧ j = 2 then e else if c = 1 ∧ j = q then P else if c = 9 ∧ j = q then 0 else if c = 8 ∧ j = q then w else if (4 ≤ c ∧ c ≤ 7) ∧ j / 4 = q then 0 else if c = 1 ∧ j = p then Q else if c = 9 ∧ j = p then 0 else if c = 8 ∧ j = p then w else if (4 ≤ c ∧ c ≤ 7) ∧ j / 4 = p then 0 else o) = (if c = 1 ∧ j = p then Q else if c = 1 ∧ j = q then P else if c = 9 ∧ (j = p ∨ j = q) then 0 else if c = 8 ∧ (j = p ∨ j = q) then w else if (4 ≤ c ∧ c ≤ 7) ∧ (j / 4 = p ∨ j / 4 = q) then 0 else if c = 0 ∧ j = 2 then e else o) := by
  by_cases c0 : c = 0
  · subst c0; simp
  · by_cases c1 : c = 1
    · subst c1
      by_cases j1 : j = p
      · subst j1; simp [hpq]
      · simp [j1]
    · by_cases c9 : c = 9
      · subst c9
        by_cases j1 : j = p <;> by_cases j2 : j = q <;> simp [j1, j2]
      · by_cases c8 : c = 8
        · subst c8
          by_cases j1 : j = p <;> by_cases j2 : j = q <;> simp [j1, j2]
        · by_cases c4 : 4 ≤ c ∧ c ≤ 7
          · by_cases j1 : j / 4 = p <;> by_cases j2 : j / 4 = q <;> simp [c0, c1, c9, c8, c4, j1, j2]
          · simp [c0, c1, c9, c8, c4]
theorem SD_link {p q : Nat} (h : SD pe nb nh x m) (hp : p < 20) (hq : q < 20) (hpq : p ≠ q) (fp : ¬ pe p < 28) (fq : ¬ pe q < 28)
    (hx : ∀ c j, x' c j = if c = 5 ∧ j = p then nI q else if c = 5 ∧ j = q then nI p else if c = 12 ∧ (j = p ∨ j = q) then x 0 9 else if c = 1 ∧ j = 3 then x 1 3 + 1 else x c j)
    (hm : ∀ c j, m' c j = if c = 1 ∧ j = p then nI q else if c = 1 ∧ j = q then nI p else if c = 9 ∧ (j = p ∨ j = q) then 0 else if c = 8 ∧ (j = p ∨ j = q) then m 0 7 else if (4 ≤ c ∧ c ≤ 7) ∧ (j / 4 = p ∨ j / 4 = q) then 0 else if c = 0 ∧ j = 2 then m 0 2 + 1 else m c j) : SD (lk pe p q) nb nh x' m' := by
  obtain ⟨⟨s1, s2, s3, s4, s5, s6, s7, s8⟩, ⟨t1, t2, t3⟩, d2, d3, d4, d5, d6, d7, d8, d9, d10, d11, d12, d13, d14⟩ := h
  have e12 : ∀ k, k < 80 → (k / 4 = p ∨ k / 4 = q) → x 6 k = 0 ∧ x 7 k = 0 ∧ x 8 k = 0 := by
    intro k hk hc
    refine d13 k hk ?_
    rcases hc with e | e <;> rw [e]
    · exact fp
    · exact fq
  refine ⟨⟨?_, ?_, ?_, ?_, ?_, ?_, ?_, ?_⟩, ⟨?_, ?_, ?_⟩, ?_, ?_, ?_, ?_, ?_, ?_, ?_, ?_, ?_, ?_, ?_, ?_, ?_⟩
  · rw [hx]; simpa using s1
  · rw [hm]; simpa using s2
  · rw [hx]; simpa using s3
  · rw [hm]; simpa using s4
  · rw [hx, hm]; simp [s5]
  · intro r hr
    rw [hx, enX_lk (by omega) (by omega), ← s6 r hr]
    simp
  · intro r hr
    rw [hm]
    by_cases e1 : r = p
    · subst e1; rw [lk_p, enM_p hq]; simp
    · by_cases e2 : r = q
      · subst e2; rw [lk_q hpq, enM_p hp]; simp [e1]
      · rw [lk_o e1 e2]; simp [e1, e2, s7 r hr]
  · intro k hk
    rw [hm, lk_o (by omega) (by omega)]; simp [s8 k hk]
  · rw [hx, hm]; simp [t1]
  · rw [hx, hm]; simp [t2]
  · rw [hx, hm]; simp [t3]
  · intro k hk
    rw [hx, hm]
    by_cases c : k / 4 = p ∨ k / 4 = q
    · simp [c, (e12 k hk c).1]
    · simp [c, d2 k hk]
  · intro k hk
    rw [hx, hm]
    by_cases c : k / 4 = p ∨ k / 4 = q
    · simp [c, (e12 k hk c).2.1]
    · simp [c, d3 k hk]
  · intro k hk
    rw [hx, hm]
    by_cases c : k / 4 = p ∨ k / 4 = q
    · simp [c, (e12 k hk c).2.2]
    · simp [c, d4 k hk]
  · intro k hk
    rw [hx, hm, hm]
    by_cases c : k / 4 = p ∨ k / 4 = q
    · simp [c]
    · simp [c]; exact d5 k hk
  · intro k hk
    rw [hx, hm]; simp [d6 k hk]
  · intro k hk
    rw [hx, hm, hm]; simp; exact d7 k hk
  · intro r hr
    rw [hx, hm]
    by_cases c : r = p ∨ r = q
    · simp [c, t2]
    · simp [c, d8 r hr]
  · intro r hr
    rw [hx, hm]
    by_cases c : r = p ∨ r = q
    · have : x 14 r = 0 := d12 r (by omega) (fun q => by rcases c with e | e <;> rw [e] at q <;> omega)
      simp [c, this]
    · simp [c, d9 r hr]
  · intro k hk
    rw [hx, hm]; simp [d10 k hk]
  · intro r hr
    rw [hx]; simp [d11 r hr]
  · intro r hr hn
    rw [hx]
    have e1 : r ≠ p := fun e => hn (by rw [e, lk_p]; exact ⟨hp, hq⟩)
    have e2 : r ≠ q := fun e => hn (by rw [e, lk_q hpq]; exact ⟨hq, hp⟩)
    rw [lk_o e1 e2] at hn
    simp [d12 r hr hn]
  · intro k hk hn
    have e1 : k / 4 ≠ p := fun e => hn (by rw [e, lk_p]; omega)
    have e2 : k / 4 ≠ q := fun e => hn (by rw [e, lk_q hpq]; omega)
    rw [lk_o e1 e2] at hn
    rw [hx, hx, hx]; simpa using d13 k hk hn
  · intro k hk hn
    rw [hx]; simp [d14 k hk hn]
theorem PE_link {p q : Nat} (hPE : PE pe nb nh) (hp : p < 20) (hq : q < 20) (hpq : p ≠ q) (fp : ¬ pe p < 28) (fq : ¬ pe q < 28) : PE (lk pe p q) nb nh := by
  obtain ⟨a, b, c, d, e⟩ := hPE
  refine ⟨a, b, fun r hr h => ?_, fun k hk => ?_, fun k hk => ?_⟩
  · by_cases e1 : r = p
    · subst e1; rw [lk_p, lk_q hpq]
    · by_cases e2 : r = q
      · subst e2; rw [lk_q hpq, lk_p]
      · rw [lk_o e1 e2] at h ⊢
        have hi := c r hr h
        have n1 : pe r ≠ p := fun q => by rw [q] at hi; omega
        have n2 : pe r ≠ q := fun q => by rw [q] at hi; omega
        rw [lk_o n1 n2]; exact hi
  · rw [lk_o (by omega) (by omega)]; exact d k hk
  · rw [lk_o (by omega) (by omega)]; exact e k hk
theorem fin_s {pe' : Nat → Nat} {xF mF : St} (hs : SD pe' nb nh xF mF) (hp : PE pe' nb nh) (hf : Fo pe') : ∃ r x' m' pe2, some (xF 1 3, xF) = some (r, x') ∧ some (mF 0 2, mF) = some (r, m') ∧ PE pe2 nb nh ∧ Fo pe2 ∧ SD pe2 nb nh x' m' := ⟨xF 1 3, xF, mF, pe', rfl, by rw [hs.1.2.2.2.2.1], hp, hf, hs⟩
theorem sim_connect (hPE : PE pe nb nh) (hF : Fo pe) (h : SD pe nb nh x m) (v1 v2 v3 v4 : Int32) : ∃ r x' m' pe', fX4_connect v1 v2 v3 v4 x = some (r, x') ∧ fX5_connect v1 v2 v3 v4 m = some (r, m') ∧ PE pe' nb nh ∧ Fo pe' ∧ SD pe' nb nh x' m' := by
  unfold fX4_connect fX5_connect
  obtain ⟨U, g, G⟩ := id hF
  have S := h.1
  have S5 := S.2.2.2.2.2.1
  rcases a_port hPE S v1 v2 with ⟨b1, q1, l1, l1', l1'', rfl, rfl, e1, e2⟩ | ⟨e1, e2⟩
  · rcases a_port hPE S v3 v4 with ⟨b2, q2, l2, l2', l2'', rfl, rfl, e3, e4⟩ | ⟨e3, e4⟩
    · rw [bindS e1, bindS e2, bindS e3, bindS e4, if_neg n10, if_neg n10, if_neg (by rw [lt0 (by omega)]; exact id), if_pos (by rw [ge0 (by omega)]; trivial), e4m, eaa, e4m, eaa, bindS (X_con S (show 4 * b1 + q1 < 28 by omega)), bindS (M_con S (show 4 * b1 + q1 < 20 by omega)), bindS (X_con S (show 4 * b2 + q2 < 28 by omega)), bindS (M_con S (show 4 * b2 + q2 < 20 by omega))]
      by_cases c1 : pe (4 * b1 + q1) < 28
      · rw [if_pos c1, if_neg n10, if_neg n10]
        exact ⟨_, _, _, pe, rfl, rfl, hPE, hF, h⟩
      · rw [if_neg c1, if_pos rfl, if_pos rfl]
        by_cases c2 : pe (4 * b2 + q2) < 28
        · rw [if_pos c2, if_neg n10, if_neg n10]
          exact ⟨_, _, _, pe, rfl, rfl, hPE, hF, h⟩
        · obtain ⟨t, p1, p2, p3⟩ := M_part (m := m) G S.2.2.2.2.2.2.1 l1'
          have w5 := W_le G l1' l2'
          rw [if_neg c2, if_pos rfl, if_pos rfl, bindS (X_way G S5 l1' l2'), bindS p1, sh_bit (by omega) (by omega)]
          by_cases c3 : way g b1 b2 = 0
          · have tb : ¬ t.testBit b2 = true := fun q => (p3 b2 l2').mp q c3
            have hp : 4 * b1 + q1 < 20 := by omega
            have hq : 4 * b2 + q2 < 20 := by omega
            have hw : way g ((4 * b1 + q1) / 4) ((4 * b2 + q2) / 4) = 0 := by rw [show (4 * b1 + q1) / 4 = b1 by omega, show (4 * b2 + q2) / 4 = b2 by omega]; exact c3
            have hpq : 4 * b1 + q1 ≠ 4 * b2 + q2 := fun e => by rw [e, W_self G (by omega)] at hw; cases hw
            rw [c3, if_pos (by decide), if_neg tb, if_neg (by decide)]
            obtain ⟨σ1, r1, a1⟩ := M_rst2 hp (nI (4 * b2 + q2)) m (by rw [nm1 (by omega)]; exact id)
            obtain ⟨σ2, r2, a2⟩ := M_rst2 hq (nI (4 * b1 + q1)) σ1 (by rw [nm1 (by omega)]; exact id)
            rw [bindS r1, bindS r2]
            have et : fX1_tie (nI (4 * b1 + q1)) (nI (4 * b2 + q2)) x = some (up2 (up2 x 5 (4 * b1 + q1) (nI (4 * b2 + q2))) 5 (4 * b2 + q2) (nI (4 * b1 + q1))) := by
              unfold fX1_tie
              simp (disch := omega) only [inb_nI, clN, ↓reduceIte]
            have es : ∀ p, p < 20 → ∀ σ : St, fX4_startPort (nI p) σ = some (up2 σ 12 p (σ 0 9)) := by
              intro p hp σ
              unfold fX4_startPort
              simp (disch := omega) only [inb_nI, clN, ↓reduceIte]
            rw [bindS et, bindS (es _ hp _), bindS (es _ hq _)]
            refine fin_s (SD_link h hp hq hpq c1 c2 ?_ ?_) (PE_link hPE hp hq hpq c1 c2) (Fo_link hF G hp hq c1 c2 hw)
            · intro c j
              simp only [up2_ap]
              grind
            · intro c j
              have v02 : σ2 0 2 = m 0 2 := by rw [a2 0 2, a1 0 2]; simp
              have v07 : σ1 0 7 = m 0 7 := by rw [a1 0 7]; simp
              rw [up2_ap, v02, a2 c j, v07, a1 c j]
              exact ifs1 hpq
          · have tb : t.testBit b2 = true := (p3 b2 l2').mpr c3
            rw [if_neg (show ¬ nI (way g b1 b2) ≤ 0 from nI_nle (by omega) (by omega)), if_pos tb, if_pos rfl]
            exact ⟨_, _, _, pe, rfl, rfl, hPE, hF, h⟩
    · refine ⟨-1, x, m, pe, ?_, ?_, hPE, hF, h⟩
      · rw [bindS e1, bindS e3, if_neg (by rw [lt0 (by omega)]; exact id), if_neg (by decide)]
      · rw [bindS e2, if_neg n10, bindS e4, if_pos rfl]
  · refine ⟨-1, x, m, pe, ?_, ?_, hPE, hF, h⟩
    · obtain ⟨r, hr⟩ : ∃ r, fX1_stationOfPort v3 v4 x = some r := by
        rcases a_port hPE S v3 v4 with ⟨_, _, _, _, _, _, _, q, _⟩ | ⟨q, _⟩ <;> exact ⟨_, q⟩
      rw [bindS e1, bindS hr, if_pos (by decide)]
    · rw [bindS e2, if_pos rfl]
end
