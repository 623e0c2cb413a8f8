/-! ===== delivery: receivers, missedCount, needlessCount ===== -/
theorem bind2S {α : Type} {f : Option (Int32 × St)} {r : Int32} {σ : St} {G : Int32 → St → Option α} (h : f = some (r, σ)) : bind2 f G = G r σ := by subst h; rfl
theorem fuel8 {n : Nat} (h : n ≤ 8) : fuel = (1999 - n) + 1 + n := by unfold fuel; omega
theorem cnt_go {β : Type} (b : (Int32 → Int32 → Option β) → Int32 → Int32 → Option β) (d : Nat → Int32) (E : Int32 → β) (N : Nat) (hb : ∀ K v h, h < N → b K v (nI h) = K (v + d h) (nI (h + 1))) (he : ∀ K v, b K v (nI N) = some (E v)) (f : Int32 → Nat → Nat → Int32) (hf0 : ∀ v h, f v h 0 = v) (hfS : ∀ v h j, f v h (j + 1) = f (v + d h) (h + 1) j) : ∀ (j h : Nat) (v : Int32) (n : Nat), h + j = N → loop2 b (n + 1 + j) v (nI h) = some (E (f v h j)) := by
  intro j
  induction j with
  | zero =>
    intro h v n e
    obtain rfl : h = N := by omega
    rw [Nat.add_zero, loop2_S, he, hf0]
  | succ j ih =>
    intro h v n e
    rw [show n + 1 + (j + 1) = (n + 1 + j) + 1 by omega, loop2_S, hb _ _ _ (by omega), hfS]
    exact ih (h + 1) _ n (by omega)
def sumd (d : Nat → Int32) : Int32 → Nat → Nat → Int32
  | v, _, 0 => v
  | v, h, j + 1 => sumd d (v + d h) (h + 1) j
theorem cnt_both (bX : (Int32 → Int32 → Option Int32) → Int32 → Int32 → Option Int32) (bM : (Int32 → Int32 → Option (Int32 × St)) → Int32 → Int32 → Option (Int32 × St)) (d : Nat → Int32) (m' : St) {N : Nat} (hN : N ≤ 8) (hX : ∀ K v h, h < N → bX K v (nI h) = K (v + d h) (nI (h + 1))) (hM : ∀ K v h, h < N → bM K v (nI h) = K (v + d h) (nI (h + 1))) (eX : ∀ K v, bX K v (nI N) = some v) (eM : ∀ K v, bM K v (nI N) = some (v, m')) : ∃ r, loop2 bX fuel (0 : Int32) (0 : Int32) = some r ∧ loop2 bM fuel (0 : Int32) (0 : Int32) = some (r, m') := by
  refine ⟨sumd d 0 0 N, ?_, ?_⟩
  · have := cnt_go bX d (fun v => v) N hX eX (sumd d) (fun _ _ => rfl) (fun _ _ _ => rfl) N 0 0 (1999 - N) (by omega)
    rw [← fuel8 hN, nI_0] at this
    exact this
  · have := cnt_go bM d (fun v => (v, m')) N hM eM (sumd d) (fun _ _ => rfl) (fun _ _ _ => rfl) N 0 0 (1999 - N) (by omega)
    rw [← fuel8 hN, nI_0] at this
    exact this
section
variable {pe : Nat → Nat} {nb nh g : Nat} {x m : St}
theorem a_hcell (hPE : PE pe nb nh) (S : Str pe nb nh x m) (v w : Int32) : (∃ h k, h < nh ∧ h < 8 ∧ k < 4 ∧ v = nI h ∧ w = nI k ∧ fX4_cellOfHost v w x = some (nI (80 + (4 * h + k))) ∧ fX5_refusedHost v w m = some 0) ∨ (∃ e, ¬ (0 : Int32) ≤ e ∧ ¬ e = 0 ∧ fX4_cellOfHost v w x = some e ∧ fX5_refusedHost v w m = some e) := by
  unfold fX4_cellOfHost fX5_refusedHost
  rcases a_host hPE S v with ⟨h, q1, q2, rfl, e1, e2⟩ | ⟨e1, e2⟩
  · rcases a_group w x m with ⟨k, q3, rfl, e3, e4⟩ | ⟨e3, e4⟩
    · left
      refine ⟨h, k, q1, q2, q3, rfl, rfl, ?_, ?_⟩
      · simp (disch := omega) only [e1, e3, Option.bind_some, ge0, ↓reduceIte, fX4_cellOf, em4, eaa]
        rw [if_neg n10, show 4 * (20 + h) + k = 80 + (4 * h + k) by omega]
      · simp only [e2, e4, Option.bind_some]
        rw [if_neg n10, if_neg n10]
    · right
      refine ⟨-3, by decide, by decide, ?_, ?_⟩
      · simp (disch := omega) only [e1, e3, Option.bind_some, ge0, ↓reduceIte]
      · simp only [e2, e4, Option.bind_some]
        rw [if_neg n10]
        rfl
  · right
    refine ⟨-2, by decide, by decide, ?_, ?_⟩
    · simp only [e1, Option.bind_some]
      rw [if_neg (by decide)]
    · simp only [e2, Option.bind_some]
      rfl
theorem SD_16 {m' : St} (e : ∀ c j, c ≠ 16 → m' c j = m c j) (h : SD pe nb nh x m) : SD pe nb nh x m' := SD_cM (fun c j hc => e c j (by omega)) h
theorem sim_receivers (hPE : PE pe nb nh) (hF : Fo pe) (hs : SD pe nb nh x m) (v w : Int32) : ∃ r m', fX4_receivers v w x = some r ∧ fX5_receivers v w m = some (r, m') ∧ SD pe nb nh x m' := by
  unfold fX4_receivers fX5_receivers
  rcases a_hcell hPE hs.1 v w with ⟨h, k, q1, q2, q3, rfl, rfl, e1, e2⟩ | ⟨e, n1, n2, e1, e2⟩
  · obtain ⟨s, m', a, b, c, d⟩ := rch_both hPE hF hs q1 q3
    refine ⟨nI s, m', ?_, ?_, SD_16 d hs⟩
    · rw [bindS e1, if_pos (by rw [ge0 (by omega)]; trivial), bindS a]
    · rw [bindS e2, if_pos rfl, bind2S b]
  · exact ⟨e, m, by rw [bindS e1, if_neg n1], by rw [bindS e2, if_neg n2], hs⟩
theorem sim_needless (hPE : PE pe nb nh) (hF : Fo pe) (hs : SD pe nb nh x m) (v w : Int32) : ∃ r m', fX4_needlessCount v w x = some r ∧ fX5_needlessCount v w m = some (r, m') ∧ SD pe nb nh x m' := by
  unfold fX4_needlessCount fX5_needlessCount
  rcases a_hcell hPE hs.1 v w with ⟨h, k, q1, q2, q3, rfl, rfl, e1, e2⟩ | ⟨e, n1, n2, e1, e2⟩
  · obtain ⟨s, m', a, b, c, d⟩ := rch_both hPE hF hs q1 q3
    have hb := hPE.2.1
    have hs' := SD_16 d hs
    obtain ⟨r, c1, c2⟩ := cnt_both (fX4_needlessCount_b27 (nI h) (nI k) (nI (80 + (4 * h + k))) (nI s) x) (fX5_needlessCount_b27 (nI h) (nI k) 0 (nI s) m') (fun o => if s.testBit o = true ∧ ¬ (x 8 (80 + (4 * o + k)) = 1 ∨ x 8 (80 + (4 * o + k)) = 2) then 1 else 0) m' hb (by
      intro K v o ho
      unfold fX4_needlessCount_b27 fX4_needlessCount_b75 fX4_cellOf
      have h8 : o < 8 := by omega
      simp (disch := omega) only [hs.1.2.2.1, leN, e20a, em4, eaa, Option.bind_some, X_isd, X_has, ea1, show 4 * (20 + o) + k = 80 + (4 * o + k) by omega]
      rw [if_neg (by omega)]
      cases s.testBit o <;> by_cases cc : x 8 (80 + (4 * o + k)) = 1 ∨ x 8 (80 + (4 * o + k)) = 2 <;> simp [cc]) (by
      intro K v o ho
      unfold fX5_needlessCount_b27 fX5_needlessCount_b70 fX5_needlessCount_b71
      have h8 : o < 8 := by omega
      have em : m' 10 (4 * o + k) = x 8 (80 + (4 * o + k)) := (hs'.2.2.2.2.2.2.1 _ (by omega)).symm
      simp (disch := omega) only [hs'.1.2.2.2.1, leN, sh_bit, e4m, eaa, inb_nI, clN, ↓reduceIte, M_dcl, em, Option.bind_some, ea1]
      rw [if_neg (by omega)]
      cases s.testBit o <;> by_cases cc : x 8 (80 + (4 * o + k)) = 1 ∨ x 8 (80 + (4 * o + k)) = 2 <;> simp [cc]) (by
      intro K v
      unfold fX4_needlessCount_b27
      rw [hs.1.2.2.1, if_pos (by rw [leN (by omega) (by omega)]; omega)]) (by
      intro K v
      unfold fX5_needlessCount_b27
      rw [hs'.1.2.2.2.1, if_pos (by rw [leN (by omega) (by omega)]; omega)])
    refine ⟨r, m', ?_, ?_, hs'⟩
    · rw [bindS e1, if_pos (by rw [ge0 (by omega)]; trivial), bindS a]
      exact c1
    · rw [bindS e2, if_pos rfl, bind2S b]
      exact c2
  · exact ⟨e, m, by rw [bindS e1, if_neg n1], by rw [bindS e2, if_neg n2], hs⟩
theorem sim_missed (hPE : PE pe nb nh) (hF : Fo pe) (hs : SD pe nb nh x m) (v w : Int32) : ∃ r m', fX4_missedCount v w x = some r ∧ fX5_missedCount v w m = some (r, m') ∧ SD pe nb nh x m' := by
  unfold fX4_missedCount fX5_missedCount
  rcases a_hcell hPE hs.1 v w with ⟨h, k, q1, q2, q3, rfl, rfl, e1, e2⟩ | ⟨e, n1, n2, e1, e2⟩
  · obtain ⟨s, m', a, b, c, d⟩ := rch_both hPE hF hs q1 q3
    obtain ⟨U, g, G⟩ := hF
    have hb := hPE.2.1
    have hs' := SD_16 d hs
    have l1 : pe (20 + h) < 20 := hPE.2.2.2.2 h (by omega) ((hPE.2.2.2.1 h (by omega)).mpr q1)
    obtain ⟨t, p1, p2, p3⟩ := M_part (m := m') G hs'.1.2.2.2.2.2.2.1 (show pe (20 + h) / 4 < 5 by omega)
    obtain ⟨r, c1, c2⟩ := cnt_both (fX4_missedCount_b27 (nI h) (nI k) (nI (80 + (4 * h + k))) (nI s) x) (fX5_missedCount_b41 (nI h) (nI k) 0 (nI s) (nI t) m') (fun o => if (o ≠ h ∧ way g (pe (20 + h) / 4) (pe (20 + o) / 4) ≠ 0 ∧ (x 8 (80 + (4 * o + k)) = 1 ∨ x 8 (80 + (4 * o + k)) = 2)) ∧ s.testBit o = false then 1 else 0) m' hb (by
      intro K v o ho
      unfold fX4_missedCount_b27 fX4_missedCount_b78 fX4_missedCount_b79 fX4_missedCount_b99 fX4_cellOf
      have h8 : o < 8 := by omega
      have l2 : pe (20 + o) < 20 := hPE.2.2.2.2 o (by omega) ((hPE.2.2.2.1 o (by omega)).mpr ho)
      have w5 := W_le G (show pe (20 + h) / 4 < 5 by omega) (show pe (20 + o) / 4 < 5 by omega)
      have wle : (nI (way g (pe (20 + h) / 4) (pe (20 + o) / 4)) ≤ 0) = (way g (pe (20 + h) / 4) (pe (20 + o) / 4) = 0) := by
        rw [← nI_0, leN (by omega) (by omega)]
        exact propext ⟨fun q => by omega, fun q => by omega⟩
      simp (disch := omega) only [hs.1.2.2.1, leN, eqN, e20a, em4, eaa, Option.bind_some, X_btw hPE G hs.1 q1 ho, wle, X_isd, X_has, ea1, show 4 * (20 + o) + k = 80 + (4 * o + k) by omega]
      rw [if_neg (by omega)]
      by_cases c1 : o = h
      · simp [c1]
      · by_cases c2 : way g (pe (20 + h) / 4) (pe (20 + o) / 4) = 0
        · simp [c1, c2]
        · by_cases cc : x 8 (80 + (4 * o + k)) = 1 ∨ x 8 (80 + (4 * o + k)) = 2 <;> cases s.testBit o <;> simp [c1, c2, cc]) (by
      intro K v o ho
      unfold fX5_missedCount_b41 fX5_missedCount_b95 fX5_missedCount_b96 fX5_missedCount_b119 fX5_missedCount_b120
      have h8 : o < 8 := by omega
      have l2 : pe (20 + o) < 20 := hPE.2.2.2.2 o (by omega) ((hPE.2.2.2.1 o (by omega)).mpr ho)
      have em : m' 10 (4 * o + k) = x 8 (80 + (4 * o + k)) := (hs'.2.2.2.2.2.2.1 _ (by omega)).symm
      have e2o : m' 2 o = nI (pe (20 + o)) := hs'.1.2.2.2.2.2.2.2 o ho
      have bt := p3 (pe (20 + o) / 4) (by omega)
      simp (disch := omega) only [hs'.1.2.2.2.1, leN, eqN, e2o, ed4, sh_bit, e4m, eaa, inb_nI, clN, ↓reduceIte, M_dcl, em, Option.bind_some, ea1]
      rw [if_neg (by omega)]
      by_cases c1 : o = h
      · simp [c1]
      · by_cases c2 : way g (pe (20 + h) / 4) (pe (20 + o) / 4) = 0
        · have bf : t.testBit (pe (20 + o) / 4) = false := by
            rw [← Bool.not_eq_true]; exact fun q => bt.mp q c2
          simp [c1, c2, bf]
        · have bf : t.testBit (pe (20 + o) / 4) = true := bt.mpr c2
          by_cases cc : x 8 (80 + (4 * o + k)) = 1 ∨ x 8 (80 + (4 * o + k)) = 2 <;> cases s.testBit o <;> simp [c1, c2, cc, bf]) (by
      intro K v
      unfold fX4_missedCount_b27
      rw [hs.1.2.2.1, if_pos (by rw [leN (by omega) (by omega)]; omega)]) (by
      intro K v
      unfold fX5_missedCount_b41
      rw [hs'.1.2.2.2.1, if_pos (by rw [leN (by omega) (by omega)]; omega)])
    refine ⟨r, m', ?_, ?_, hs'⟩
    · rw [bindS e1, if_pos (by rw [ge0 (by omega)]; trivial), bindS a]
      exact c1
    · rw [bindS e2, if_pos rfl, bind2S b, if_pos (inb_nI (show h < 8 by omega) (by omega)), clN (show h < 2147483648 by omega), hs'.1.2.2.2.2.2.2.2 h q1, ed4 (by omega), bindS p1]
      exact c2
  · exact ⟨e, m, by rw [bindS e1, if_neg n1], by rw [bindS e2, if_neg n2], hs⟩
end
