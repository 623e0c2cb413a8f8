/-! ===== the plain methods ===== -/
section
variable {pe : Nat → Nat} {nb nh g : Nat} {x m : St}
theorem D_bridge (h : SD pe nb nh x m) (v : Nat) : SD pe v nh (up2 x 1 1 (nI v)) (up2 m 0 0 (nI v)) := by
  unfold SD Str Dat at *
  simp only [up2_ap]
  grind
theorem D_times (h : SD pe nb nh x m) (a b : Int32) : SD pe nb nh (up2 (up2 x 0 8 a) 0 9 b) (up2 (up2 m 0 6 a) 0 7 b) := by
  unfold SD Str Dat at *
  simp only [up2_ap]
  grind
theorem D_sil {k : Nat} (h : SD pe nb nh x m) (hk : k < 8) (v : Int32) : SD pe nb nh (up2 x 15 (20 + k) v) (up2 m 3 k v) := by
  unfold SD Str Dat at *
  simp only [up2_ap]
  grind
theorem D_mark {p : Nat} (h : SD pe nb nh x m) (hp : p < 20) (hl : pe p < 20) (v : Int32) : SD pe nb nh (up2 x 14 p v) (up2 m 9 p v) := by
  unfold SD Str Dat at *
  simp only [up2_ap]
  grind
theorem sim_addBridge (hPE : PE pe nb nh) (h : SD pe nb nh x m) : ∃ r x' m' nb', fX4_addBridge x = some (r, x') ∧ fX5_addBridge m = some (r, m') ∧ PE pe nb' nh ∧ SD pe nb' nh x' m' := by
  unfold fX4_addBridge fX5_addBridge
  have hb := hPE.1
  rw [h.1.1, h.1.2.1]
  simp (disch := omega) only [nlt5, up2_hit, ea1, es1, show ((nI nb = (5 : Int32)) = (nb = 5)) from eqN (b := 5) (by omega) (by omega)]
  by_cases c : nb < 5
  · rw [if_pos c, if_neg (by omega)]
    exact ⟨_, _, _, nb + 1, rfl, rfl, ⟨by omega, hPE.2⟩, D_bridge h (nb + 1)⟩
  · rw [if_neg c, if_pos (by omega)]
    exact ⟨_, _, _, nb, rfl, rfl, hPE, h⟩
theorem set_loop (v1 v2 : Int32) : ∀ (j p : Nat) (v : Int32) (x m : St) (n n' : Nat), p + j = 20 → SD pe nb nh x m → x 0 9 = v2 → ∃ r x' m', loop2s (fX4_setTimes_b40 v1 v2) (n + 1 + j) v (nI p) x = some (r, x') ∧ loop2s (fX5_setTimes_b39 v1 v2) (n' + 1 + j) v (nI p) m = some (r, m') ∧ SD pe nb nh x' m' := by
  intro j
  induction j with
  | zero =>
    intro p v x m n n' e h h9
    obtain rfl : p = 20 := by omega
    exact ⟨v, x, m, rfl, rfl, h⟩
  | succ j ih =>
    intro p v x m n n' e h h9
    have hp : p < 20 := by omega
    have S := h.1
    by_cases hc : pe p < 28
    · obtain ⟨r, x', m', a, b, c⟩ := ih (p + 1) (v + 1) (up2 x 12 p v2) (up2 m 8 p v2) n n' (by omega) (D_la h hp _) (by rw [up2_c (by omega)]; exact h9)
      refine ⟨r, x', m', ?_, ?_, c⟩
      · show fX4_setTimes_b40 v1 v2 (loop2s (fX4_setTimes_b40 v1 v2) (n + 1 + j)) v (nI p) x = _
        generalize loop2s (fX4_setTimes_b40 v1 v2) (n + 1 + j) = K at a ⊢
        unfold fX4_setTimes_b40 fX4_setTimes_b68 fX4_startPort
        simp (disch := omega) only [n20le, X_con S, hc, ↓reduceIte, Option.bind_some, inb_nI, clN, h9, ea1]
        rw [if_neg (by omega), if_neg n10]
        exact a
      · show fX5_setTimes_b39 v1 v2 (loop2s (fX5_setTimes_b39 v1 v2) (n' + 1 + j)) v (nI p) m = _
        generalize loop2s (fX5_setTimes_b39 v1 v2) (n' + 1 + j) = K at b ⊢
        unfold fX5_setTimes_b39 fX5_setTimes_b66
        simp (disch := omega) only [n20le, M_con S, hc, ↓reduceIte, Option.bind_some, inb_nI, clN, ea1]
        rw [if_neg (by omega), if_neg n10]
        exact b
    · obtain ⟨r, x', m', a, b, c⟩ := ih (p + 1) v x m n n' (by omega) h h9
      refine ⟨r, x', m', ?_, ?_, c⟩
      · show fX4_setTimes_b40 v1 v2 (loop2s (fX4_setTimes_b40 v1 v2) (n + 1 + j)) v (nI p) x = _
        generalize loop2s (fX4_setTimes_b40 v1 v2) (n + 1 + j) = K at a ⊢
        unfold fX4_setTimes_b40 fX4_setTimes_b68
        simp (disch := omega) only [n20le, X_con S, hc, ↓reduceIte, Option.bind_some, ea1]
        rw [if_neg (by omega)]
        exact a
      · show fX5_setTimes_b39 v1 v2 (loop2s (fX5_setTimes_b39 v1 v2) (n' + 1 + j)) v (nI p) m = _
        generalize loop2s (fX5_setTimes_b39 v1 v2) (n' + 1 + j) = K at b ⊢
        unfold fX5_setTimes_b39 fX5_setTimes_b66
        simp (disch := omega) only [n20le, M_con S, hc, ↓reduceIte, Option.bind_some, ea1]
        rw [if_neg (by omega)]
        exact b
theorem fuel20 : fuel = 1979 + 1 + 20 := rfl
theorem set_all (v1 v2 : Int32) (h : SD pe nb nh x m) (h9 : x 0 9 = v2) : ∃ r x' m', loop2s (fX4_setTimes_b40 v1 v2) fuel (0 : Int32) (0 : Int32) x = some (r, x') ∧ loop2s (fX5_setTimes_b39 v1 v2) fuel (0 : Int32) (0 : Int32) m = some (r, m') ∧ SD pe nb nh x' m' := by
  have := set_loop v1 v2 20 0 0 x m 1979 1979 rfl h h9
  rw [← fuel20, nI_0] at this
  exact this
theorem sim_setTimes (h : SD pe nb nh x m) (v w : Int32) : ∃ r x' m', fX4_setTimes v w x = some (r, x') ∧ fX5_setTimes v w m = some (r, m') ∧ SD pe nb nh x' m' := by
  unfold fX4_setTimes fX5_setTimes
  have wi : ∀ (v lo hi : Int32) (σ : St), fX5_within v lo hi σ = some (if v < lo then 0 else if hi < v then 0 else 1) := by
    intro v lo hi σ
    unfold fX5_within
    split
    · rfl
    · split <;> rfl
  rw [bindS (wi _ _ _ _)]
  by_cases c1 : v < 1
  · rw [if_pos c1, if_pos c1, if_pos rfl]
    exact ⟨_, _, _, rfl, rfl, h⟩
  · rw [if_neg c1, if_neg c1]
    by_cases c2 : 50 < v
    · rw [if_pos c2, if_pos c2, if_pos rfl]
      exact ⟨_, _, _, rfl, rfl, h⟩
    · rw [if_neg c2, if_neg c2, if_neg n10, bindS (wi _ _ _ _)]
      by_cases c3 : w < 0
      · rw [if_pos c3, if_pos c3, if_pos rfl]
        exact ⟨_, _, _, rfl, rfl, h⟩
      · rw [if_neg c3, if_neg c3]
        by_cases c4 : w ≤ 200
        · rw [if_pos c4, if_neg (Int32.not_lt.mpr c4), if_neg n10]
          exact set_all v w (D_times h v w) (by rw [up2_hit])
        · rw [if_neg c4, if_pos (Int32.not_le.mp c4), if_pos rfl]
          exact ⟨_, _, _, rfl, rfl, h⟩
theorem sim_join (hPE : PE pe nb nh) (h : SD pe nb nh x m) (v w : Int32) : ∃ r x' m', fX4_join v w x = some (r, x') ∧ fX5_join v w m = some (r, m') ∧ SD pe nb nh x' m' := by
  unfold fX4_join fX5_join
  rcases a_hcell hPE h.1 v w with ⟨k, g, q1, q2, q3, rfl, rfl, e1, e2⟩ | ⟨e, n1, n2, e1, e2⟩
  · have em : m 10 (4 * k + g) = x 8 (80 + (4 * k + g)) := (h.2.2.2.2.2.2.1 _ (by omega)).symm
    simp (disch := omega) only [e1, e2, Option.bind_some, ge0, ↓reduceIte, X_start, bind2, e4m, eaa, inb_nI, clN, M_dcl, em]
    by_cases c : x 8 (80 + (4 * k + g)) = 1 ∨ x 8 (80 + (4 * k + g)) = 2
    · simp only [c, ↓reduceIte]
      rw [if_neg n10]
      exact ⟨_, _, _, rfl, rfl, h⟩
    · simp only [c, ↓reduceIte]
      rw [if_neg n10]
      exact ⟨_, _, _, rfl, rfl, H_app1 h (by omega) (by omega) _⟩
  · exact ⟨e, x, m, by rw [bindS e1, if_neg n1], by rw [bindS e2, if_neg n2], h⟩
theorem sim_leave (hPE : PE pe nb nh) (h : SD pe nb nh x m) (v w : Int32) : ∃ r x' m', fX4_leave v w x = some (r, x') ∧ fX5_leave v w m = some (r, m') ∧ SD pe nb nh x' m' := by
  unfold fX4_leave fX5_leave
  rcases a_hcell hPE h.1 v w with ⟨k, g, q1, q2, q3, rfl, rfl, e1, e2⟩ | ⟨e, n1, n2, e1, e2⟩
  · have em : m 10 (4 * k + g) = x 8 (80 + (4 * k + g)) := (h.2.2.2.2.2.2.1 _ (by omega)).symm
    simp (disch := omega) only [e1, e2, Option.bind_some, ge0, ↓reduceIte, X_stop, bind2, e4m, eaa, inb_nI, clN, M_dcl, em]
    by_cases c : x 8 (80 + (4 * k + g)) = 1 ∨ x 8 (80 + (4 * k + g)) = 2
    · simp only [c, ↓reduceIte]
      rw [if_neg n10, if_neg n10]
      exact ⟨_, _, _, rfl, rfl, H_jX (H_app h (by omega) (by omega) 3 (by decide)) (by omega) (by rw [up2_hit]; decide) _⟩
    · simp only [c, ↓reduceIte]
      exact ⟨_, _, _, rfl, rfl, h⟩
  · exact ⟨e, x, m, by rw [bindS e1, if_neg n1], by rw [bindS e2, if_neg n2], h⟩
theorem sim_setSilent (hPE : PE pe nb nh) (h : SD pe nb nh x m) (v w : Int32) : ∃ r x' m', fX4_setSilent v w x = some (r, x') ∧ fX5_setSilent v w m = some (r, m') ∧ SD pe nb nh x' m' := by
  unfold fX4_setSilent fX5_setSilent fX4_setSilent_b30 fX5_setSilent_b26
  rcases a_host hPE h.1 v with ⟨k, q1, q2, rfl, e1, e2⟩ | ⟨e1, e2⟩
  · have em : m 3 k = x 15 (20 + k) := (h.2.2.2.2.2.2.2.2.2.2.1 k q2).symm
    simp (disch := omega) only [e1, e2, Option.bind_some, ge0, ↓reduceIte, inb_nI, clN, em]
    rw [if_neg n10]
    by_cases c : x 15 (20 + k) = w
    · simp only [c, ↓reduceIte]
      exact ⟨_, _, _, rfl, rfl, D_sil h q2 _⟩
    · simp only [c, ↓reduceIte]
      rw [if_neg n10]
      exact ⟨_, _, _, rfl, rfl, D_sil h q2 _⟩
  · refine ⟨-2, x, m, ?_, ?_, h⟩
    · rw [bindS e1, if_neg (by decide)]
    · rw [bindS e2, if_pos rfl]
theorem sim_loseNext (hPE : PE pe nb nh) (h : SD pe nb nh x m) (v w : Int32) : ∃ r x' m', fX4_loseNext v w x = some (r, x') ∧ fX5_loseNext v w m = some (r, m') ∧ SD pe nb nh x' m' := by
  unfold fX4_loseNext fX5_loseNext fX4_loseNext_b48 fX5_loseNext_b42
  rcases a_port hPE h.1 v w with ⟨b, q, q1, q2, q3, rfl, rfl, e1, e2⟩ | ⟨e1, e2⟩
  · have hp : 4 * b + q < 20 := by omega
    have S := h.1
    have S5 := S.2.2.2.2.2.1
    have em : m 9 (4 * b + q) = x 14 (4 * b + q) := (h.2.2.2.2.2.2.2.2.2.1 _ hp).symm
    simp (disch := omega) only [e1, e2, Option.bind_some, ge0, ↓reduceIte, inb_nI, clN, S5, X_prt, e4m, eaa, M_lnk S, em, zb1]
    rw [if_neg n10]
    by_cases c : pe (4 * b + q) < 20
    · simp only [c, ↓reduceIte]
      rw [if_neg n10, if_neg n10]
      by_cases c2 : x 14 (4 * b + q) = 0
      · simp only [c2, ↓reduceIte]
        rw [if_neg n10]
        exact ⟨_, _, _, rfl, rfl, D_mark h hp c _⟩
      · simp only [c2, ↓reduceIte]
        exact ⟨_, _, _, rfl, rfl, D_mark h hp c _⟩
    · simp only [c, ↓reduceIte]
      exact ⟨_, _, _, rfl, rfl, h⟩
  · refine ⟨-1, x, m, ?_, ?_, h⟩
    · rw [bindS e1, if_neg (by decide)]
    · rw [bindS e2, if_pos rfl]
theorem a_pcell (hPE : PE pe nb nh) (S : Str pe nb nh x m) (v w u : Int32) : (∃ b q k, b < nb ∧ b < 5 ∧ q < 4 ∧ k < 4 ∧ v = nI b ∧ w = nI q ∧ u = nI k ∧ fX4_cellOfPort v w u x = some (nI (4 * (4 * b + q) + k)) ∧ fX5_refusedPort v w u m = some 0) ∨ (∃ e, ¬ (0 : Int32) ≤ e ∧ ¬ e = 0 ∧ fX4_cellOfPort v w u x = some e ∧ fX5_refusedPort v w u m = some e) := by
  unfold fX4_cellOfPort fX5_refusedPort
  rcases a_port hPE S v w with ⟨b, q, q1, q2, q2', rfl, rfl, e1, e2⟩ | ⟨e1, e2⟩
  · rcases a_group u x m with ⟨k, q3, rfl, e3, e4⟩ | ⟨e3, e4⟩
    · left
      refine ⟨b, q, k, q1, q2, q2', q3, rfl, rfl, rfl, ?_, ?_⟩
      · simp (disch := omega) only [e1, e3, Option.bind_some, ge0, ↓reduceIte, fX4_cellOf, em4, eaa]
        rw [if_neg n10]
      · simp only [e2, e4, Option.bind_some]
        rw [if_neg n10, if_neg n10]
    · right
      refine ⟨-3, by decide, by decide, ?_, ?_⟩
      · simp (disch := omega) only [e1, e3, Option.bind_some, ge0, ↓reduceIte]
      · simp only [e2, e4, Option.bind_some]
        rw [if_neg n10]
        rfl
  · right
    refine ⟨-1, by decide, by decide, ?_, ?_⟩
    · simp only [e1, Option.bind_some]
      rw [if_neg (by decide)]
    · simp only [e2, Option.bind_some]
      rfl
theorem e16m (a : Nat) : (16 : Int32) * nI a = nI (16 * a) := by rw [show (16 : Int32) = nI 16 from rfl, pk_mul]
theorem sim_registrar (hPE : PE pe nb nh) (h : SD pe nb nh x m) (v w u : Int32) : ∃ r, fX4_registrar v w u x = some r ∧ fX5_registrar v w u m = some r := by
  unfold fX4_registrar fX5_registrar
  rcases a_pcell hPE h.1 v w u with ⟨b, q, k, q1, q2, q2', q3, rfl, rfl, rfl, e1, e2⟩ | ⟨e, n1, n2, e1, e2⟩
  · refine ⟨x 6 (4 * (4 * b + q) + k), ?_, ?_⟩
    · simp (disch := omega) only [e1, Option.bind_some, ge0, ↓reduceIte, inb_nI, clN]
    · simp (disch := omega) only [e2, Option.bind_some, ↓reduceIte, e16m, e4m, eaa, inb_nI, clN, show 16 * b + 4 * q + k = 4 * (4 * b + q) + k by omega, h.2.2.1]
  · exact ⟨e, by rw [bindS e1, if_neg n1], by rw [bindS e2, if_neg n2]⟩
theorem sim_registrarTimer (hPE : PE pe nb nh) (h : SD pe nb nh x m) (v w u : Int32) : ∃ r, fX4_registrarTimer v w u x = some r ∧ fX5_registrarTimer v w u m = some r := by
  unfold fX4_registrarTimer fX5_registrarTimer
  rcases a_pcell hPE h.1 v w u with ⟨b, q, k, q1, q2, q2', q3, rfl, rfl, rfl, e1, e2⟩ | ⟨e, n1, n2, e1, e2⟩
  · refine ⟨x 7 (4 * (4 * b + q) + k), ?_, ?_⟩
    · simp (disch := omega) only [e1, Option.bind_some, ge0, ↓reduceIte, inb_nI, clN]
    · simp (disch := omega) only [e2, Option.bind_some, ↓reduceIte, e16m, e4m, eaa, inb_nI, clN, show 16 * b + 4 * q + k = 4 * (4 * b + q) + k by omega, h.2.2.2.1]
  · exact ⟨e, by rw [bindS e1, if_neg n1], by rw [bindS e2, if_neg n2]⟩
theorem sim_applicant (hPE : PE pe nb nh) (h : SD pe nb nh x m) (v w u : Int32) : ∃ r, fX4_applicant v w u x = some r ∧ fX5_applicant v w u m = some r := by
  unfold fX4_applicant fX5_applicant
  rcases a_pcell hPE h.1 v w u with ⟨b, q, k, q1, q2, q2', q3, rfl, rfl, rfl, e1, e2⟩ | ⟨e, n1, n2, e1, e2⟩
  · refine ⟨x 8 (4 * (4 * b + q) + k), ?_, ?_⟩
    · simp (disch := omega) only [e1, Option.bind_some, ge0, ↓reduceIte, inb_nI, clN]
    · simp (disch := omega) only [e2, Option.bind_some, ↓reduceIte, e16m, e4m, eaa, inb_nI, clN, show 16 * b + 4 * q + k = 4 * (4 * b + q) + k by omega, h.2.2.2.2.1]
  · exact ⟨e, by rw [bindS e1, if_neg n1], by rw [bindS e2, if_neg n2]⟩
theorem sim_hostApplicant (hPE : PE pe nb nh) (h : SD pe nb nh x m) (v w : Int32) : ∃ r, fX4_hostApplicant v w x = some r ∧ fX5_hostApplicant v w m = some r := by
  unfold fX4_hostApplicant fX5_hostApplicant
  rcases a_hcell hPE h.1 v w with ⟨k, g, q1, q2, q3, rfl, rfl, e1, e2⟩ | ⟨e, n1, n2, e1, e2⟩
  · refine ⟨x 8 (80 + (4 * k + g)), ?_, ?_⟩
    · simp (disch := omega) only [e1, Option.bind_some, ge0, ↓reduceIte, inb_nI, clN]
    · simp (disch := omega) only [e2, Option.bind_some, ↓reduceIte, e4m, eaa, inb_nI, clN, h.2.2.2.2.2.2.1]
  · exact ⟨e, by rw [bindS e1, if_neg n1], by rw [bindS e2, if_neg n2]⟩
theorem sim_leaveAllTimer (hPE : PE pe nb nh) (h : SD pe nb nh x m) (v w : Int32) : ∃ r, fX4_leaveAllTimer v w x = some r ∧ fX5_leaveAllTimer v w m = some r := by
  unfold fX4_leaveAllTimer fX5_leaveAllTimer
  rcases a_port hPE h.1 v w with ⟨b, q, q1, q2, q3, rfl, rfl, e1, e2⟩ | ⟨e1, e2⟩
  · refine ⟨x 12 (4 * b + q), ?_, ?_⟩
    · simp (disch := omega) only [e1, Option.bind_some, ge0, ↓reduceIte, inb_nI, clN]
    · simp (disch := omega) only [e2, Option.bind_some, e4m, eaa, inb_nI, clN, ↓reduceIte, h.2.2.2.2.2.2.2.2.1]
      rw [if_neg n10]
  · refine ⟨-1, ?_, ?_⟩
    · rw [bindS e1, if_neg (by decide)]
    · rw [bindS e2, if_pos rfl]
theorem sim_time (h : SD pe nb nh x m) : ∃ r, fX4_time x = some r ∧ fX5_time m = some r := ⟨x 0 10, rfl, by unfold fX5_time; rw [h.2.1.2.2]⟩
end
