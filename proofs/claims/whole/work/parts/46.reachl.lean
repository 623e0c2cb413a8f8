/-! ===== receivers in both ===== -/
section
variable {pe : Nat → Nat} {nb nh g : Nat} {x m : St}
theorem rch_in (hPE : PE pe nb nh) (U : ∀ p q, p < 20 → q < 20 → pe p < 20 → pe q < 20 → p / 4 = q / 4 → pe p / 4 = pe q / 4 → p = q) (G : GR pe g) (S : ∀ p, p < 20 → m 1 p = enM (pe p)) {gr a0 : Nat} (hg : gr < 4) (ha0 : a0 < 20) (K : Int32 → Int32 → Int32 → St → Option (Int32 × St)) (v1 : Int32) (k l0 : Nat) (hl0 : l0 < 20) :
    ∀ (j c sz s : Nat) (L : Nat → Nat) (σ : St) (n : Nat), c + j = 4 * (l0 / 4) + 4 → 4 * (l0 / 4) ≤ c → L k = l0 → k < sz → QV pe g gr a0 m k c sz s L σ → ∃ sz' s' L' σ', loop3s (fX5_reached_b44 K v1 (nI gr) (nI k) (nI (l0 / 4))) (n + 1 + j) (nI s) (nI sz) (nI c) σ = K (nI s') (nI sz') (nI (k + 1)) σ' ∧ QV pe g gr a0 m (k + 1) 0 sz' s' L' σ' ∧ k < sz' := by
  intro j
  induction j with
  | zero =>
    intro c sz s L σ n e1 e2 e3 hk h
    refine ⟨sz, s, L, σ, ?_, q_next (by rw [e3, ← e1]; exact h), hk⟩
    rw [Nat.add_zero, loop3s_S]
    generalize loop3s (fX5_reached_b44 K v1 (nI gr) (nI k) (nI (l0 / 4))) n = K2
    have hs5 := h.2.2.1
    unfold fX5_reached_b44 fX5_reached_b143
    simp (disch := omega) only [e4m, ea4, ea1, leN]
    rw [if_pos (by omega)]
  | succ j ih =>
    intro c sz s L σ n e1 e2 e3 hk h
    have hc : c < 20 := by omega
    have hs5 := h.2.2.1
    have hs256 := h.2.2.2.1
    have S' : ∀ p, p < 20 → σ 1 p = enM (pe p) := fun p hp => by rw [h.1 1 p (by omega)]; exact S p hp
    have e4 : ∀ j, σ 4 j = m 4 j := fun j => h.1 4 j (by omega)
    have e16 : σ 16 k = nI l0 := by rw [(h.2.2.2.2.2.1 k hk).1, e3]
    have go : ∀ sz2 s2 L2 σ2, L2 k = l0 → k < sz2 → QV pe g gr a0 m k (c + 1) sz2 s2 L2 σ2 → (∀ K2, fX5_reached_b44 K v1 (nI gr) (nI k) (nI (l0 / 4)) K2 (nI s) (nI sz) (nI c) σ = K2 (nI s2) (nI sz2) (nI (c + 1)) σ2) → ∃ sz' s' L' σ', loop3s (fX5_reached_b44 K v1 (nI gr) (nI k) (nI (l0 / 4))) (n + 1 + (j + 1)) (nI s) (nI sz) (nI c) σ = K (nI s') (nI sz') (nI (k + 1)) σ' ∧ QV pe g gr a0 m (k + 1) 0 sz' s' L' σ' ∧ k < sz' := by
      intro sz2 s2 L2 σ2 q1 q2 q3 q4
      obtain ⟨sz', s', L', σ', a, b, c'⟩ := ih (c + 1) sz2 s2 L2 σ2 n (by omega) (by omega) q1 q2 q3
      refine ⟨sz', s', L', σ', ?_, b, c'⟩
      rw [show n + 1 + (j + 1) = (n + 1 + j) + 1 by omega, loop3s_S, q4]
      exact a
    have h44 : ¬ 4 * (l0 / 4) + 4 ≤ c := by omega
    by_cases c1 : c = l0
    · refine go sz s L σ e3 hk (q_skip h (fun ho => ho.2.2.1 (by rw [e3]; exact c1))) (fun K2 => ?_)
      unfold fX5_reached_b44 fX5_reached_b137
      simp (disch := omega) only [e4m, ea4, ea1, leN, h44, ↓reduceIte, inb_nI, clN, e16, eqN, c1]
      rw [if_neg (by omega)]
    · by_cases c2 : pe c < 28
      · by_cases c3 : m 4 (4 * c + gr) = 0
        · refine go sz s L σ e3 hk (q_skip h (fun ho => ho.2.2.2.2 c3)) (fun K2 => ?_)
          unfold fX5_reached_b44 fX5_reached_b137
          simp (disch := omega) only [e4m, ea4, ea1, eaa, leN, h44, ↓reduceIte, inb_nI, clN, e16, eqN, c1, M_con1 S', c2, Option.bind_some, e4, c3]
          rw [if_neg n10]
        · have ho : out pe (m 4) gr (L k) c := ⟨hc, by rw [e3]; omega, by rw [e3]; exact c1, c2, c3⟩
          by_cases c4 : pe c < 20
          · obtain ⟨z5, h2⟩ := q_push hPE U G ha0 h hk ho c4
            refine go (sz + 1) s _ _ ?_ (by omega) h2 (fun K2 => ?_)
            · show (if k = sz then pe c else L k) = l0
              rw [if_neg (by omega)]; exact e3
            · unfold fX5_reached_b44 fX5_reached_b137
              simp (disch := omega) only [e4m, ea4, ea1, eaa, leN, h44, ↓reduceIte, inb_nI, clN, e16, eqN, c1, M_con1 S', c2, Option.bind_some, e4, c3, M_lnk1 S', c4, S', enM_p]
              rw [if_neg n10, if_neg n10]
          · obtain ⟨h', eh⟩ : ∃ h', pe c = 20 + h' := ⟨pe c - 20, by omega⟩
            have ep : nI (pe c + 80) - 100 = nI h' := by
              rw [eh, show (100 : Int32) = nI 100 from rfl, pk_sub (by omega), show 20 + h' + 80 - 100 = h' by omega]
            refine go sz (s ||| 2 ^ h') L σ e3 hk (q_host h hk ho eh (by omega)) (fun K2 => ?_)
            unfold fX5_reached_b44 fX5_reached_b137
            simp (disch := omega) only [e4m, ea4, ea1, eaa, leN, h44, ↓reduceIte, inb_nI, clN, e16, eqN, c1, M_con1 S', c2, Option.bind_some, e4, c3, M_lnk1 S', c4, S', enM_h c4 c2, ep, nx_1, nx_or]
            rw [if_neg n10]
      · refine go sz s L σ e3 hk (q_skip h (fun ho => c2 ho.2.2.2.1)) (fun K2 => ?_)
        unfold fX5_reached_b44 fX5_reached_b137
        simp (disch := omega) only [e4m, ea4, ea1, eaa, leN, h44, ↓reduceIte, inb_nI, clN, e16, eqN, c1, M_con1 S', c2, Option.bind_some]
theorem fuel4 (k : Nat) : fuel = 1995 + 1 + 4 := rfl
theorem rch_out (hPE : PE pe nb nh) (U : ∀ p q, p < 20 → q < 20 → pe p < 20 → pe q < 20 → p / 4 = q / 4 → pe p / 4 = pe q / 4 → p = q) (G : GR pe g) (S : ∀ p, p < 20 → m 1 p = enM (pe p)) {gr a0 : Nat} (hg : gr < 4) (ha0 : a0 < 20) (v1 : Int32) :
    ∀ (j k sz s : Nat) (L : Nat → Nat) (σ : St) (n : Nat), k + j = 5 → k ≤ sz → QV pe g gr a0 m k 0 sz s L σ → ∃ sz' s' L' σ', loop3s (fX5_reached_b20 v1 (nI gr)) (n + 1 + j) (nI s) (nI sz) (nI k) σ = some (nI s', σ') ∧ QV pe g gr a0 m sz' 0 sz' s' L' σ' := by
  intro j
  induction j with
  | zero =>
    intro k sz s L σ n e1 e2 h
    have hs5 := h.2.2.1
    obtain rfl : k = sz := by omega
    refine ⟨k, s, L, σ, ?_, h⟩
    rw [Nat.add_zero, loop3s_S]
    generalize loop3s (fX5_reached_b20 v1 (nI gr)) n = K2
    unfold fX5_reached_b20
    simp (disch := omega) only [leN, Nat.le_refl, ↓reduceIte]
  | succ j ih =>
    intro k sz s L σ n e1 e2 h
    have hs5 := h.2.2.1
    by_cases hk : k < sz
    · obtain ⟨k1, k2, k3, k4⟩ := h.2.2.2.2.2.1 k hk
      obtain ⟨sz1, s1, L1, σ1, a1, b1, c1⟩ := rch_in hPE U G S hg ha0 (loop3s (fX5_reached_b20 v1 (nI gr)) (n + 1 + j)) v1 k (L k) k2 4 (4 * (L k / 4)) sz s L σ 1995 (by omega) (Nat.le_refl _) rfl hk (q_begin h)
      obtain ⟨sz', s', L', σ', a2, b2⟩ := ih (k + 1) sz1 s1 L1 σ1 n (by omega) (by omega) b1
      refine ⟨sz', s', L', σ', ?_, b2⟩
      rw [show n + 1 + (j + 1) = (n + 1 + j) + 1 by omega, loop3s_S, ← a2, ← a1, ← fuel4 0]
      generalize loop3s (fX5_reached_b20 v1 (nI gr)) (n + 1 + j) = K2
      unfold fX5_reached_b20
      rw [if_neg (show ¬ nI sz ≤ nI k by rw [leN (by omega) (by omega)]; omega), clN (show k < 2147483648 by omega), if_pos (inb_nI (show k < 20 by omega) (by omega)), k1, ed4 (by omega), e4m]
    · obtain rfl : k = sz := by omega
      refine ⟨k, s, L, σ, ?_, h⟩
      rw [show n + 1 + (j + 1) = (n + 1 + j) + 1 by omega, loop3s_S]
      generalize loop3s (fX5_reached_b20 v1 (nI gr)) (n + 1 + j) = K2
      unfold fX5_reached_b20
      simp (disch := omega) only [leN, Nat.le_refl, ↓reduceIte]
theorem M_rch (hPE : PE pe nb nh) (U : ∀ p q, p < 20 → q < 20 → pe p < 20 → pe q < 20 → p / 4 = q / 4 → pe p / 4 = pe q / 4 → p = q) (G : GR pe g) (S : Str pe nb nh x m) {h gr : Nat} (hh : h < nh) (hg : gr < 4) : ∃ s m', fX5_reached (nI h) (nI gr) m = some (nI s, m') ∧ (∀ c j, c ≠ 16 → m' c j = m c j) ∧ s < 256 ∧ ∀ h', s.testBit h' = true ↔ ∃ k, 1 ≤ k ∧ k ≤ 5 ∧ arr pe (m 4) gr (pe (20 + h)) k (20 + h') := by
  have hb := hPE.2.1
  have l1 : pe (20 + h) < 20 := hPE.2.2.2.2 h (by omega) ((hPE.2.2.2.1 h (by omega)).mpr hh)
  have q0 : QV pe g gr (pe (20 + h)) m 0 0 1 0 (fun _ => pe (20 + h)) (up2 m 16 0 (nI (pe (20 + h)))) := by
    refine ⟨fun c j hc => up2_c hc, by omega, by omega, by omega, rfl, fun i hi => ?_, fun i j _ _ _ => by omega, fun i q1 q2 => by omega, fun b q => ?_, fun j p q1 q2 q3 => ?_⟩
    · obtain rfl : i = 0 := by omega
      have w1 := W_self G (show pe (20 + h) / 4 < 5 by omega)
      refine ⟨up2_hit _ _ _ _, l1, by rw [w1]; omega, ?_⟩
      rw [w1]
      rfl
    · rw [Nat.zero_testBit] at q; cases q
    · rcases q2 with q | q <;> omega
  obtain ⟨sz', s', L', σ', a, b⟩ := rch_out hPE U G S.2.2.2.2.2.2.1 hg l1 (nI h) 5 0 1 0 _ _ 1994 (by omega) (by omega) q0
  refine ⟨s', σ', ?_, b.1, b.2.2.2.1, q_end G l1 b⟩
  unfold fX5_reached
  rw [← fuel5, nI_0] at a
  rw [if_pos (inb_nI (show h < 8 by omega) (by omega)), if_pos (show inb (0 : Int32) 20 = true by decide), clN (show h < 2147483648 by omega), S.2.2.2.2.2.2.2 h hh]
  exact a
/-- the set of hosts that a frame gets to is one number in both -/
theorem rch_both (hPE : PE pe nb nh) (hF : Fo pe) (hs : SD pe nb nh x m) {h gr : Nat} (hh : h < nh) (hg : gr < 4) : ∃ s m', fX4_hostsReached (nI h) (nI gr) x = some (nI s) ∧ fX5_reached (nI h) (nI gr) m = some (nI s, m') ∧ s < 256 ∧ (∀ c j, c ≠ 16 → m' c j = m c j) := by
  obtain ⟨U, g, G⟩ := hF
  obtain ⟨s1, a1, a2, a3⟩ := X_rch hPE hs.1 hh hg
  obtain ⟨s2, m', b1, b2, b3, b4⟩ := M_rch hPE U G hs.1 hh hg
  have hreg : ∀ (k q : Nat), arr pe (x 6) gr (pe (20 + h)) k q ↔ arr pe (m 4) gr (pe (20 + h)) k q := by
    intro k
    induction k with
    | zero => intro q; exact Iff.rfl
    | succ k ih =>
      intro q
      constructor
      · rintro ⟨a, p, r1, r2, ⟨r3, r4, r5, r6, r7⟩, r8⟩
        exact ⟨a, p, (ih a).mp r1, r2, ⟨r3, r4, r5, r6, by rw [← hs.2.2.1 _ (by omega)]; exact r7⟩, r8⟩
      · rintro ⟨a, p, r1, r2, ⟨r3, r4, r5, r6, r7⟩, r8⟩
        exact ⟨a, p, (ih a).mpr r1, r2, ⟨r3, r4, r5, r6, by rw [hs.2.2.1 _ (by omega)]; exact r7⟩, r8⟩
  have e : s1 = s2 := by
    apply Nat.eq_of_testBit_eq
    intro i
    rw [Bool.eq_iff_iff, a3 i, b4 i]
    constructor
    · rintro ⟨k, q1, q2, q3⟩; exact ⟨k, q1, q2, (hreg k _).mp q3⟩
    · rintro ⟨k, q1, q2, q3⟩; exact ⟨k, q1, q2, (hreg k _).mpr q3⟩
  subst e
  exact ⟨s1, m', a1, b1, a2, b2⟩
end
