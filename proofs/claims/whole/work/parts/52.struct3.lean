/-! ===== cut, addHost ===== -/
section
variable {pe : Nat → Nat} {nb nh g : Nat} {x m x' m' : St}
theorem ifs2 {p q c j : Nat} {e o : Int32} : (if c = 0 ∧ j = 2 then e else if c = 1 ∧ j = p then -1 else if c = 9 ∧ j = p then 0 else if c = 8 ∧ j = p then 0 else if (4 ≤ c ∧ c ≤ 7) ∧ j / 4 = p then 0 else if c = 1 ∧ j = q then -1 else if c = 9 ∧ j = q then 0 else if c = 8 ∧ j = q then 0 else if (4 ≤ c ∧ c ≤ 7) ∧ j / 4 = q then 0 else o) = (if c = 1 ∧ (j = p ∨ j = q) then -1 else if c = 9 ∧ (j = p ∨ j = q) then 0 else if c = 8 ∧ (j = p ∨ j = q) then 0 else if (4 ≤ c ∧ c ≤ 7) ∧ (j / 4 = p ∨ j / 4 = q) then 0 else if c = 0 ∧ j = 2 then e else o) := by
  by_cases c0 : c = 0
  · subst c0; simp
  · by_cases c1 : c = 1
    · subst c1
      by_cases j1 : j = p <;> by_cases j2 : j = q <;> simp [j1, j2]
    · by_cases c9 : c = 9
      · subst c9
        by_cases j1 : j = p <;> by_cases j2 : j = q <;> simp [j1, j2]
      · by_cases c8 : c = 8
        · subst c8
          by_cases j1 : j = p <;> by_cases j2 : j = q <;> simp [j1, j2]
        · by_cases c4 : 4 ≤ c ∧ c ≤ 7
          · by_cases j1 : j / 4 = p <;> by_cases j2 : j / 4 = q <;> simp [c0, c1, c9, c8, c4, j1, j2]
          · simp [c0, c1, c9, c8, c4]
theorem ifs3 {p q c j : Nat} {e o : Int32} : (if c = 12 ∧ j = q then 0 else if c = 14 ∧ j = q then 0 else if (6 ≤ c ∧ c ≤ 9) ∧ j / 4 = q then 0 else if c = 12 ∧ j = p then 0 else if c = 14 ∧ j = p then 0 else if (6 ≤ c ∧ c ≤ 9) ∧ j / 4 = p then 0 else if c = 1 ∧ j = 3 then e else if c = 5 ∧ j = q then -1 else if c = 5 ∧ j = p then -1 else o) = (if c = 5 ∧ (j = p ∨ j = q) then -1 else if c = 12 ∧ (j = p ∨ j = q) then 0 else if c = 14 ∧ (j = p ∨ j = q) then 0 else if (6 ≤ c ∧ c ≤ 9) ∧ (j / 4 = p ∨ j / 4 = q) then 0 else if c = 1 ∧ j = 3 then e else o) := by
  by_cases c0 : c = 1
  · subst c0; simp
  · by_cases c1 : c = 5
    · subst c1
      by_cases j1 : j = p <;> by_cases j2 : j = q <;> simp [j1, j2]
    · by_cases c9 : c = 12
      · subst c9
        by_cases j1 : j = p <;> by_cases j2 : j = q <;> simp [j1, j2]
      · by_cases c8 : c = 14
        · subst c8
          by_cases j1 : j = p <;> by_cases j2 : j = q <;> simp [j1, j2]
        · by_cases c4 : 6 ≤ c ∧ c ≤ 9
          · by_cases j1 : j / 4 = p <;> by_cases j2 : j / 4 = q <;> simp [c0, c1, c9, c8, c4, j1, j2]
          · simp [c0, c1, c9, c8, c4]
theorem SD_cut {p q : Nat} (hPE : PE pe nb nh) (h : SD pe nb nh x m) (hp : p < 20) (hq : q < 20) (hpq : p ≠ q)
    (hx : ∀ c j, x' c j = if c = 5 ∧ (j = p ∨ j = q) then -1 else if c = 12 ∧ (j = p ∨ j = q) then 0 else if c = 14 ∧ (j = p ∨ j = q) then 0 else if (6 ≤ c ∧ c ≤ 9) ∧ (j / 4 = p ∨ j / 4 = q) then 0 else if c = 1 ∧ j = 3 then x 1 3 - 1 else x c j)
    (hm : ∀ c j, m' c j = if c = 1 ∧ (j = p ∨ j = q) then -1 else if c = 9 ∧ (j = p ∨ j = q) then 0 else if c = 8 ∧ (j = p ∨ j = q) then 0 else if (4 ≤ c ∧ c ≤ 7) ∧ (j / 4 = p ∨ j / 4 = q) then 0 else if c = 0 ∧ j = 2 then m 0 2 - 1 else m c j) : SD (un pe p q) nb nh x' m' := by
  obtain ⟨⟨s1, s2, s3, s4, s5, s6, s7, s8⟩, ⟨t1, t2, t3⟩, d2, d3, d4, d5, d6, d7, d8, d9, d10, d11, d12, d13, d14⟩ := h
  have hb8 := hPE.2.1
  have h20 : ∀ k, k < 32 → ¬ ((80 + k) / 4 = p ∨ (80 + k) / 4 = q) := fun k hk => by omega
  refine ⟨⟨?_, ?_, ?_, ?_, ?_, ?_, ?_, ?_⟩, ⟨?_, ?_, ?_⟩, ?_, ?_, ?_, ?_, ?_, ?_, ?_, ?_, ?_, ?_, ?_, ?_, ?_⟩
  · rw [hx]; simpa using s1
  · rw [hm]; simpa using s2
  · rw [hx]; simpa using s3
  · rw [hm]; simpa using s4
  · rw [hx, hm]; simp [s5]
  · intro r hr
    rw [hx]
    by_cases c : r = p ∨ r = q
    · rw [un_h c]; simp [c]; rfl
    · rw [un_o c]; simp [c, s6 r hr]
  · intro r hr
    rw [hm]
    by_cases c : r = p ∨ r = q
    · rw [un_h c]; simp [c]; rfl
    · rw [un_o c]; simp [c, s7 r hr]
  · intro k hk
    rw [hm, un_o (by omega)]; simp [s8 k hk]
  · rw [hx, hm]; simp [t1]
  · rw [hx, hm]; simp [t2]
  · rw [hx, hm]; simp [t3]
  · intro k hk
    rw [hx, hm]
    by_cases c : k / 4 = p ∨ k / 4 = q
    · simp [c]
    · simp [c, d2 k hk]
  · intro k hk
    rw [hx, hm]
    by_cases c : k / 4 = p ∨ k / 4 = q
    · simp [c]
    · simp [c, d3 k hk]
  · intro k hk
    rw [hx, hm]
    by_cases c : k / 4 = p ∨ k / 4 = q
    · simp [c]
    · simp [c, d4 k hk]
  · intro k hk
    rw [hx, hm, hm]
    by_cases c : k / 4 = p ∨ k / 4 = q
    · simp [c]
    · simp [c]; exact d5 k hk
  · intro k hk
    rw [hx, hm]; simp only [h20 k hk]; simp [d6 k hk]
  · intro k hk
    rw [hx, hm, hm]; simp only [h20 k hk]; simp; exact d7 k hk
  · intro r hr
    rw [hx, hm]
    by_cases c : r = p ∨ r = q
    · simp [c]
    · simp [c, d8 r hr]
  · intro r hr
    rw [hx, hm]
    by_cases c : r = p ∨ r = q
    · simp [c]
    · simp [c, d9 r hr]
  · intro k hk
    rw [hx, hm]; simp [d10 k hk]
  · intro r hr
    rw [hx]; simp [d11 r hr]
  · intro r hr hn
    rw [hx]
    by_cases c : r = p ∨ r = q
    · simp [c]
    · rw [un_o c] at hn
      simp [c, d12 r hr hn]
  · intro k hk hn
    rw [hx, hx, hx]
    by_cases c : k / 4 = p ∨ k / 4 = q
    · simp [c]
    · rw [un_o c] at hn
      simp only [c]; simpa using d13 k hk hn
  · intro k hk hn
    rw [hx]; simp only [h20 k hk]; simp [d14 k hk hn]
theorem PE_cut {p : Nat} (hPE : PE pe nb nh) (hp : p < 20) (hl : pe p < 20) : PE (un pe p (pe p)) nb nh := by
  obtain ⟨a, b, c, d, e⟩ := hPE
  have hinv := c p (by omega) (by omega)
  refine ⟨a, b, fun r hr h => ?_, fun k hk => ?_, fun k hk => ?_⟩
  · by_cases c1 : r = p ∨ r = pe p
    · rw [un_h c1] at h; omega
    · rw [un_o c1] at h ⊢
      have hi := c r hr h
      have c2 : ¬ (pe r = p ∨ pe r = pe p) := by
        rintro (q | q)
        · exact c1 (Or.inr (by rw [← hi, q]))
        · exact c1 (Or.inl (by rw [← hi, q, hinv]))
      rw [un_o c2]; exact hi
  · rw [un_o (by omega)]; exact d k hk
  · rw [un_o (by omega)]; exact e k hk
theorem sim_cut (hPE : PE pe nb nh) (hF : Fo pe) (h : SD pe nb nh x m) (v1 v2 : Int32) : ∃ r x' m' pe', fX4_cut v1 v2 x = some (r, x') ∧ fX5_cut v1 v2 m = some (r, m') ∧ PE pe' nb nh ∧ Fo pe' ∧ SD pe' nb nh x' m' := by
  unfold fX4_cut fX5_cut
  have S := h.1
  have S5 := S.2.2.2.2.2.1
  rcases a_port hPE S v1 v2 with ⟨b1, q1, l1, l1', l1'', rfl, rfl, e1, e2⟩ | ⟨e1, e2⟩
  · have hp : 4 * b1 + q1 < 20 := by omega
    have ex := S5 (4 * b1 + q1) (by omega)
    have em := S.2.2.2.2.2.2.1 (4 * b1 + q1) hp
    rw [bindS e1, bindS e2, if_neg n10, if_pos (by rw [ge0 (by omega)]; trivial), clN (show 4 * b1 + q1 < 2147483648 by omega), if_pos (inb_nI (show 4 * b1 + q1 < 28 by omega) (by omega)), ex, bindS (X_prt _ _), e4m, eaa, bindS (M_lnk S hp), if_pos (inb_nI (show 4 * b1 + q1 < 20 by omega) (by omega)), clN (show 4 * b1 + q1 < 2147483648 by omega), em]
    by_cases c1 : pe (4 * b1 + q1) < 20
    · have hinv := hPE.2.2.1 (4 * b1 + q1) (by omega) (by omega)
      obtain ⟨U, g, G⟩ := id hF
      have hpq : 4 * b1 + q1 ≠ pe (4 * b1 + q1) := by
        intro e
        have ad : adjm g ((4 * b1 + q1) / 4) (pe (4 * b1 + q1) / 4) = true := (G.2.2 _ _ (by omega) (by omega)).mpr ⟨_, hp, rfl, c1, rfl⟩
        rw [← e, A_irr G (by omega)] at ad
        cases ad
      rw [if_pos c1, if_neg n10, if_neg n10, enX_lt (show pe (4 * b1 + q1) < 28 by omega), enM_p c1]
      have eu : fX1_untie (nI (4 * b1 + q1)) (nI (pe (4 * b1 + q1))) x = some (up2 (up2 x 5 (4 * b1 + q1) (-1)) 5 (pe (4 * b1 + q1)) (-1)) := by
        unfold fX1_untie
        simp (disch := omega) only [inb_nI, clN, ↓reduceIte]
      obtain ⟨x1, rx1, ax1⟩ := X_clp2 hp (up2 (up2 (up2 x 5 (4 * b1 + q1) (-1)) 5 (pe (4 * b1 + q1)) (-1)) 1 3 ((up2 (up2 x 5 (4 * b1 + q1) (-1)) 5 (pe (4 * b1 + q1)) (-1)) 1 3 - 1))
      obtain ⟨x2, rx2, ax2⟩ := X_clp2 c1 x1
      obtain ⟨m1, rm1, am1⟩ := M_rst3 c1 m
      obtain ⟨m2, rm2, am2⟩ := M_rst3 hp m1
      rw [bindS eu, bindS rx1, bindS rx2, bindS rm1, bindS rm2]
      refine fin_s (SD_cut hPE h hp c1 hpq ?_ ?_) (PE_cut hPE hp c1) (Fo_cut hPE hF hp c1)
      · intro c j
        have v13 : up2 (up2 x 5 (4 * b1 + q1) (-1)) 5 (pe (4 * b1 + q1)) (-1) 1 3 = x 1 3 := by rw [up2_c (by omega), up2_c (by omega)]
        rw [ax2 c j, ax1 c j, v13, up2_ap, up2_ap, up2_ap]
        exact ifs3
      · intro c j
        have v02 : m2 0 2 = m 0 2 := by rw [am2 0 2, am1 0 2]; simp
        rw [up2_ap, v02, am2 c j, am1 c j]
        exact ifs2
    · rw [if_neg c1, if_pos rfl, if_pos rfl]
      exact ⟨_, _, _, pe, rfl, rfl, hPE, hF, h⟩
  · refine ⟨-1, x, m, pe, ?_, ?_, hPE, hF, h⟩
    · rw [bindS e1, if_neg (by decide)]
    · rw [bindS e2, if_pos rfl]
theorem SD_host {p : Nat} (h : SD pe nb nh x m) (hn : nh < 8) (hp : p < 20) (fp : ¬ pe p < 28)
    (hx : ∀ c j, x' c j = if c = 5 ∧ j = p then nI (20 + nh) else if c = 5 ∧ j = 20 + nh then nI p else if c = 12 ∧ j = p then x 0 9 else if c = 1 ∧ j = 2 then nI (nh + 1) else x c j)
    (hm : ∀ c j, m' c j = if c = 1 ∧ j = p then nI (100 + nh) else if c = 2 ∧ j = nh then nI p else if c = 9 ∧ j = p then 0 else if c = 8 ∧ j = p then m 0 7 else if (4 ≤ c ∧ c ≤ 7) ∧ j / 4 = p then 0 else if c = 0 ∧ j = 1 then nI (nh + 1) else m c j) : SD (lk pe p (20 + nh)) nb (nh + 1) x' m' := by
  obtain ⟨⟨s1, s2, s3, s4, s5, s6, s7, s8⟩, ⟨t1, t2, t3⟩, d2, d3, d4, d5, d6, d7, d8, d9, d10, d11, d12, d13, d14⟩ := h
  have hpq : p ≠ 20 + nh := by omega
  have e12 : ∀ k, k < 80 → k / 4 = p → x 6 k = 0 ∧ x 7 k = 0 ∧ x 8 k = 0 := by
    intro k hk hc
    exact d13 k hk (by rw [hc]; exact fp)
  refine ⟨⟨?_, ?_, ?_, ?_, ?_, ?_, ?_, ?_⟩, ⟨?_, ?_, ?_⟩, ?_, ?_, ?_, ?_, ?_, ?_, ?_, ?_, ?_, ?_, ?_, ?_, ?_⟩
  · rw [hx]; simpa using s1
  · rw [hm]; simpa using s2
  · rw [hx]; simp
  · rw [hm]; simp
  · rw [hx, hm]; simp [s5]
  · intro r hr
    rw [hx, enX_lk (by omega) (by omega), ← s6 r hr]
    simp
  · intro r hr
    rw [hm]
    by_cases e1 : r = p
    · subst e1
      rw [lk_p, enM_h (by omega) (by omega), show 20 + nh + 80 = 100 + nh by omega]; simp
    · rw [lk_o e1 (by omega)]; simp [e1, s7 r hr]
  · intro k hk
    rw [hm]
    by_cases e1 : k = nh
    · subst e1; rw [lk_q hpq]; simp
    · rw [lk_o (by omega) (by omega)]; simp [e1, s8 k (by omega)]
  · rw [hx, hm]; simp [t1]
  · rw [hx, hm]; simp [t2]
  · rw [hx, hm]; simp [t3]
  · intro k hk
    rw [hx, hm]
    by_cases c : k / 4 = p
    · simp [c, (e12 k hk c).1]
    · simp [c, d2 k hk]
  · intro k hk
    rw [hx, hm]
    by_cases c : k / 4 = p
    · simp [c, (e12 k hk c).2.1]
    · simp [c, d3 k hk]
  · intro k hk
    rw [hx, hm]
    by_cases c : k / 4 = p
    · simp [c, (e12 k hk c).2.2]
    · simp [c, d4 k hk]
  · intro k hk
    rw [hx, hm, hm]
    by_cases c : k / 4 = p
    · simp [c]
    · simp [c]; exact d5 k hk
  · intro k hk
    rw [hx, hm]; simp [d6 k hk]
  · intro k hk
    rw [hx, hm, hm]; simp; exact d7 k hk
  · intro r hr
    rw [hx, hm]
    by_cases c : r = p
    · simp [c, t2]
    · simp [c, d8 r hr]
  · intro r hr
    rw [hx, hm]
    by_cases c : r = p
    · have : x 14 r = 0 := d12 r (by omega) (fun q => by rw [c] at q; omega)
      simp [c]; rw [← c]; exact this
    · simp [c, d9 r hr]
  · intro k hk
    rw [hx, hm]; simp [d10 k hk]
  · intro r hr
    rw [hx]; simp [d11 r hr]
  · intro r hr hn2
    rw [hx]
    have : x 14 r = 0 := by
      refine d12 r hr (fun q => ?_)
      have e1 : r ≠ p := fun e => by rw [e] at q; omega
      exact hn2 (by rw [lk_o e1 (by omega)]; exact q)
    simp [this]
  · intro k hk hn2
    have e1 : k / 4 ≠ p := fun e => hn2 (by rw [e, lk_p]; omega)
    rw [lk_o e1 (by omega)] at hn2
    rw [hx, hx, hx]; simpa using d13 k hk hn2
  · intro k hk hn2
    rw [hx]; simp [d14 k hk (by omega)]
theorem PE_host {p : Nat} (hPE : PE pe nb nh) (hn : nh < 8) (hp : p < 20) (fp : ¬ pe p < 28) : PE (lk pe p (20 + nh)) nb (nh + 1) := by
  obtain ⟨a, b, c, d, e⟩ := hPE
  have hpq : p ≠ 20 + nh := by omega
  have fq : ¬ pe (20 + nh) < 28 := fun q => by have := (d nh hn).mp q; omega
  refine ⟨a, by omega, fun r hr h => ?_, fun k hk => ?_, fun k hk => ?_⟩
  · by_cases e1 : r = p
    · subst e1; rw [lk_p, lk_q hpq]
    · by_cases e2 : r = 20 + nh
      · subst e2; rw [lk_q hpq, lk_p]
      · rw [lk_o e1 e2] at h ⊢
        have hi := c r hr h
        have n1 : pe r ≠ p := fun q => by rw [q] at hi; omega
        have n2 : pe r ≠ 20 + nh := fun q => by rw [q] at hi; omega
        rw [lk_o n1 n2]; exact hi
  · by_cases e1 : k = nh
    · subst e1; rw [lk_q hpq]; omega
    · rw [lk_o (by omega) (by omega), d k hk]; omega
  · by_cases e1 : k = nh
    · subst e1; rw [lk_q hpq]; omega
    · rw [lk_o (by omega) (by omega)]; exact e k hk
theorem sim_addHost (hPE : PE pe nb nh) (hF : Fo pe) (h : SD pe nb nh x m) (v1 v2 : Int32) : ∃ r x' m' pe' nh', fX4_addHost v1 v2 x = some (r, x') ∧ fX5_addHost v1 v2 m = some (r, m') ∧ PE pe' nb nh' ∧ Fo pe' ∧ SD pe' nb nh' x' m' := by
  unfold fX4_addHost fX5_addHost
  have S := h.1
  have hb8 := hPE.2.1
  rcases a_port hPE S v1 v2 with ⟨b1, q1, l1, l1', l1'', rfl, rfl, e1, e2⟩ | ⟨e1, e2⟩
  · have hp : 4 * b1 + q1 < 20 := by omega
    rw [bindS e1, bindS e2, if_neg n10, if_pos (by rw [ge0 (by omega)]; trivial), e4m, eaa, bindS (X_con S (show 4 * b1 + q1 < 28 by omega)), bindS (M_con S hp)]
    by_cases c1 : pe (4 * b1 + q1) < 28
    · rw [if_pos c1, if_neg n10, if_neg n10]
      exact ⟨_, _, _, pe, nh, rfl, rfl, hPE, hF, h⟩
    · rw [if_neg c1, if_pos rfl, if_pos rfl, S.2.2.1, S.2.2.2.1]
      by_cases c2 : nh < 8
      · have n8 : ¬ nI nh = (8 : Int32) := by
          intro q
          have : nh = 8 := by
            have e8 : (nI nh = nI 8) = (nh = 8) := eqN (by omega) (by omega)
            rw [← e8]; exact q
          omega
        rw [if_pos (show nI nh < (8 : Int32) by rw [nlt8 (by omega)]; exact c2), if_neg n8]
        have et : fX1_tie (nI (4 * b1 + q1)) ((20 : Int32) + nI nh) (up2 x 1 2 (nI nh + 1)) = some (up2 (up2 (up2 x 1 2 (nI (nh + 1))) 5 (4 * b1 + q1) (nI (20 + nh))) 5 (20 + nh) (nI (4 * b1 + q1))) := by
          unfold fX1_tie
          simp (disch := omega) only [e20a, ea1, inb_nI, clN, ↓reduceIte]
        have es : ∀ σ : St, fX4_startPort (nI (4 * b1 + q1)) σ = some (up2 σ 12 (4 * b1 + q1) (σ 0 9)) := by
          intro σ
          unfold fX4_startPort
          simp (disch := omega) only [inb_nI, clN, ↓reduceIte]
        have e100 : (100 : Int32) + nI nh = nI (100 + nh) := by rw [show (100 : Int32) = nI 100 from rfl, eaa]
        obtain ⟨m1, rm1, am1⟩ := M_rst2 hp (nI (100 + nh)) m (by rw [nm1 (by omega)]; exact id)
        have v01 : m1 0 1 = nI nh := by rw [am1 0 1]; simp [S.2.2.2.1]
        rw [bindS et, bindS (es _), e100, bindS rm1, v01, if_pos (inb_nI c2 (by omega)), clN (show nh < 2147483648 by omega), up2_hit, up2_c (c := 2) (by omega), v01, ea1, es1]
        refine ⟨_, _, _, lk pe (4 * b1 + q1) (20 + nh), nh + 1, rfl, rfl, PE_host hPE c2 hp c1, Fo_host hF hp c1, SD_host h c2 hp c1 ?_ ?_⟩
        · intro c j
          simp only [up2_ap]
          grind
        · intro c j
          simp only [up2_ap, am1]
          grind
      · have e8 : nh = 8 := by omega
        rw [if_neg (show ¬ nI nh < (8 : Int32) by rw [nlt8 (by omega)]; exact c2), if_pos (show nI nh = (8 : Int32) by rw [e8]; rfl)]
        exact ⟨_, _, _, pe, nh, rfl, rfl, hPE, hF, h⟩
  · refine ⟨-1, x, m, pe, nh, ?_, ?_, hPE, hF, h⟩
    · rw [bindS e1, if_neg (by decide)]
    · rw [bindS e2, if_pos rfl]
end
