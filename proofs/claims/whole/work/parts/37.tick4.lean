/-! ===== part 4 of a tick, and the tick ===== -/
theorem n10 : ¬ (1 : Int32) = 0 := by decide
def hrS (a b l k : Nat) (v : Int32) (σ : St) : St := if v = 1 then up2 (up2 σ a k 1) b k 0 else if v = 2 then lvS a b l k σ else σ
theorem loop1s_4n {α : Type} (body : (Int32 → St → Option α) → Int32 → St → Option α) (I : St → Prop) (b n : Nat) (f : Nat → St → St)
    (σ : St) (h0 : I σ) (h : ∀ (K : Int32 → St → Option α) (i : Nat) (σ : St), i < 4 → I σ → body K (nI (b + i)) σ = K (nI (b + i + 1)) (f i σ)) (hI : ∀ (i : Nat) (σ : St), i < 4 → I σ → I (f i σ)) :
    loop1s body (n + 4) (nI b) σ = loop1s body n (nI (b + 4)) (do4 f σ) := by
  have i1 := hI 0 σ (by omega) h0
  have i2 := hI 1 _ (by omega) i1
  have i3 := hI 2 _ (by omega) i2
  show body (loop1s body (n + 3)) (nI (b + 0)) σ = _
  rw [h _ 0 σ (by omega) h0]
  show body (loop1s body (n + 2)) (nI (b + 1)) _ = _
  rw [h _ 1 _ (by omega) i1]
  show body (loop1s body (n + 1)) (nI (b + 2)) _ = _
  rw [h _ 2 _ (by omega) i2]
  show body (loop1s body n) (nI (b + 3)) _ = _
  rw [h _ 3 _ (by omega) i3]
  rfl
section
variable {pe : Nat → Nat} {nb nh : Nat} {x m : St}
theorem hrS_c {a b l k c j : Nat} {v : Int32} {σ : St} (h1 : c ≠ a) (h2 : c ≠ b) : hrS a b l k v σ c j = σ c j := by
  unfold hrS
  split
  · rw [up2_c h2, up2_c h1]
  · split
    · exact lvS_c h1 h2
    · rfl
theorem hr_rel {k : Nat} {v : Int32} (h : SD pe nb nh x m) (hk : k < 80) (hc : pe (k / 4) < 28) : SD pe nb nh (hrS 6 7 8 k v x) (hrS 4 5 6 k v m) := by
  unfold hrS
  split
  · exact D_tim (D_reg h hk hc _) hk hc _
  · split
    · exact lv_rel h hk hc
    · exact h
theorem X_hear {k : Nat} (h : k < 80) (v : Int32) (σ : St) : fX3_hear (nI k) v (σ 0 8) σ = some (hrS 6 7 8 k v σ) := by
  unfold fX3_hear hrS
  simp (disch := omega) only [X_lv, Option.bind_some]
  unfold fX3_change
  simp (disch := omega) only [inb_nI, clN, ↓reduceIte, Option.bind_some]
  split
  · rfl
  · split <;> rfl
theorem M_gets {k : Nat} (h : k < 80) (v : Int32) (σ : St) : fX5_gets (nI k) v σ = some (hrS 4 5 6 k v σ) := by
  unfold fX5_gets hrS lvS
  simp (disch := omega) only [inb_nI, clN, ↓reduceIte]
  rw [up2_c (by omega)]
  grind
def heX (q r i : Nat) (σ : St) : St := hrS 6 7 8 (4 * r + i) (σ 11 (4 * q + i)) σ
def heM (s q r i : Nat) (σ : St) : St := hrS 4 5 6 (4 * r + i) (σ s (4 * q + i)) σ
theorem X_rf {q r : Nat} (hq : q < 28) (hr : r < 20) (σ : St) : fX4_receiveFrom_b17 (nI q) (nI r) σ = some (do4 (heX q r) σ) := by
  unfold fX4_receiveFrom_b17
  simp (disch := omega) only [X_prtN, hr, ↓reduceIte, Option.bind_some]
  rw [if_neg n10]
  refine loop1s_4 (fX4_receiveFrom_b26 (nI q) (nI r)) 0 (heX q r) _ σ ?_ ?_
  · intro K i σ hi
    unfold fX4_receiveFrom_b26 fX4_cellOf heX
    simp (disch := omega) only [Nat.zero_add, n4le, em4, eaa, ea1, inb_nI, clN, ↓reduceIte, Option.bind_some, X_hear]
    rw [if_neg (by omega)]
  · intro K
    unfold fX4_receiveFrom_b26
    simp (disch := omega) only [Nat.zero_add, n4le, Nat.le_refl, ↓reduceIte, do4]
theorem X_rfh {q r : Nat} (hq : q < 28) (hr : r < 28) (hr2 : ¬ r < 20) (σ : St) : fX4_receiveFrom_b17 (nI q) (nI r) σ = some σ := by
  unfold fX4_receiveFrom_b17
  simp (disch := omega) only [X_prtN, hr2, ↓reduceIte, Option.bind_some]
theorem M_rf {p r : Nat} (hp : p < 20) (hr : r < 20) (v : Int32) (σ : St) (h1 : σ 1 p = nI r) : fX5_delivers_b69 (nI p) v σ = some (do4 (heM 14 p r) σ) := by
  unfold fX5_delivers_b69
  refine loop1s_4I (fX5_delivers_b71 (nI p) v) (fun σ => σ 1 p = nI r) 0 (heM 14 p r) _ σ h1 ?_ ?_ ?_
  · intro K i σ hi hI
    unfold fX5_delivers_b71 heM
    simp (disch := omega) only [Nat.zero_add, n4le, e4m, eaa, ea1, inb_nI, clN, ↓reduceIte, Option.bind_some, hI, M_gets]
    rw [if_neg (by omega)]
  · intro i σ hi hI
    unfold heM
    rw [hrS_c (by omega) (by omega)]
    exact hI
  · intro K
    unfold fX5_delivers_b71
    simp (disch := omega) only [Nat.zero_add, n4le, Nat.le_refl, ↓reduceIte, do4]
theorem heX_c {q r i c j : Nat} {σ : St} (h1 : c ≠ 6) (h2 : c ≠ 7) : heX q r i σ c j = σ c j := by unfold heX; exact hrS_c h1 h2
theorem heM_c {s q r i c j : Nat} {σ : St} (h1 : c ≠ 4) (h2 : c ≠ 5) : heM s q r i σ c j = σ c j := by unfold heM; exact hrS_c h1 h2
def T4 (pe : Nat → Nat) (nb nh : Nat) (x m : St) : Prop := SD pe nb nh x m ∧ OutR pe nh 28 x m
theorem OutR_c {x' m' : St} {k : Nat} (ex : ∀ c j, c = 10 ∨ c = 11 → x' c j = x c j) (em : ∀ c j, c = 13 ∨ c = 14 ∨ c = 15 → m' c j = m c j) (h : OutR pe nh k x m) : OutR pe nh k x' m' := by
  unfold OutR at *
  simp (disch := omega) only [ex, em]
  exact h
theorem he_rel {p r : Nat} (hp : p < 20) (hpc : pe p < 28) (hr : r < 20) (hrc : pe r < 28) (h : T4 pe nb nh x m) : T4 pe nb nh (do4 (heX p r) x) (do4 (heM 14 p r) m) := by
  refine do4_rel (R := T4 pe nb nh) ?_ h
  intro i x m hi h
  refine ⟨?_, OutR_c (fun c j hc => heX_c (by omega) (by omega)) (fun c j hc => heM_c (by omega) (by omega)) h.2⟩
  unfold heX heM
  rw [(h.2.1 p hp (by omega) hpc).2 i hi]
  exact hr_rel h.1 (by omega) (by rw [show (4 * r + i) / 4 = r by omega]; exact hrc)
theorem heh_rel {h r : Nat} (hh : h < nh) (h8 : h < 8) (hr : r < 20) (hrc : pe r < 28) (ht : T4 pe nb nh x m) : T4 pe nb nh (do4 (heX (20 + h) r) x) (do4 (heM 15 h r) m) := by
  refine do4_rel (R := T4 pe nb nh) ?_ ht
  intro i x m hi ht
  refine ⟨?_, OutR_c (fun c j hc => heX_c (by omega) (by omega)) (fun c j hc => heM_c (by omega) (by omega)) ht.2⟩
  unfold heX heM
  rw [show 4 * (20 + h) + i = 80 + (4 * h + i) by omega, ht.2.2.1 h hh (by omega) i hi]
  exact hr_rel ht.1 (by omega) (by rw [show (4 * r + i) / 4 = r by omega]; exact hrc)
/-- what port p sent is received, in both -/
theorem r_port {p : Nat} (hPE : PE pe nb nh) (hp : p < 20) (hc : pe p < 28) (h : T4 pe nb nh x m) : ∃ x' m', (if x 14 p = 0 then fX4_receiveFrom (nI p) (enX (pe p)) x else some x) = some x' ∧ fX5_delivers (nI p) m = some m' ∧ T4 pe nb nh (up2 x' 14 p 0) m' := by
  have S := h.1.1
  have e1 := S.2.2.2.2.2.2.1 p hp
  have ek : x 14 p = m 9 p := h.1.2.2.2.2.2.2.2.2.2.1 p hp
  have hinv := hPE.2.2.1 p (by omega) hc
  obtain ⟨hla, hms⟩ := h.2.1 p hp (by omega) hc
  by_cases hl : pe p < 20
  · -- a link
    have hrc : pe (pe p) < 28 := by rw [hinv]; omega
    by_cases hm : m 9 p = 0
    · have em9 : up2 m 9 p 0 = m := up2_self hm
      have fin : ∀ x1 m1, T4 pe nb nh x1 m1 → x1 14 p = 0 → T4 pe nb nh (up2 x1 14 p 0) m1 := fun x1 m1 ht q => by rw [up2_self q]; exact ht
      rw [ek, if_pos hm]
      unfold fX5_delivers fX4_receiveFrom
      rw [enX_lt hc]
      simp (disch := omega) only [M_lnk S, hl, ↓reduceIte, Option.bind_some, inb_nI, clN, zb0, em9, hm]
      rw [if_neg n10]
      by_cases hz : m 13 p = 0
      · rw [if_pos (hla.mpr hz), if_pos hz, X_rf (by omega) hl, M_rf hp hl _ _ (by rw [e1, enM_p hl])]
        refine ⟨_, _, rfl, rfl, fin _ _ (he_rel hp hc hl hrc h) ?_⟩
        rw [do4_at (fun i σ hi => heX_c (by omega) (by omega)), ek, hm]
      · rw [if_neg (fun q => hz (hla.mp q)), if_neg hz, X_ob hl, e1, enM_p hl, M_lva hl]
        simp only [Option.bind_some]
        rw [X_rf (by omega) hl, M_rf hp hl _ _ (by rw [do4_at (fun i σ hi => obM_c (by omega)), e1, enM_p hl])]
        have h2 : T4 pe nb nh (do4 (obX (pe p)) x) (do4 (obM (pe p)) m) := ⟨do4_rel (R := SD pe nb nh) (fun i x m hi h => ob_rel hl hi hrc h) h.1, OutR_c (fun c j hc => do4_at (fun i σ hi => obX_c (by omega)) _) (fun c j hc => do4_at (fun i σ hi => obM_c (by omega)) _) h.2⟩
        refine ⟨_, _, rfl, rfl, fin _ _ (he_rel hp hc hl hrc h2) ?_⟩
        rw [do4_at (fun i σ hi => heX_c (by omega) (by omega)), do4_at (fun i σ hi => obX_c (by omega)), ek, hm]
    · rw [ek, if_neg hm]
      unfold fX5_delivers
      simp (disch := omega) only [M_lnk S, hl, ↓reduceIte, Option.bind_some, inb_nI, clN, zb0, hm]
      rw [if_neg n10]
      exact ⟨_, _, rfl, rfl, D_mk0 h.1 hp, OutR_c (fun c j hc => up2_c (by omega)) (fun c j hc => up2_c (by omega)) h.2⟩
  · -- a host
    obtain ⟨h', eh⟩ : ∃ h', pe p = 20 + h' := ⟨pe p - 20, by omega⟩
    have h8 : h' < 8 := by omega
    have hh : h' < nh := (hPE.2.2.2.1 h' h8).mp (by rw [← eh, hinv]; omega)
    have hk0 : x 14 p = 0 := h.1.2.2.2.2.2.2.2.2.2.2.2.2.1 p (by omega) (fun q => hl q.2)
    have fin : ∀ x1 m1, T4 pe nb nh x1 m1 → x1 14 p = 0 → T4 pe nb nh (up2 x1 14 p 0) m1 := fun x1 m1 ht q => by rw [up2_self q]; exact ht
    have ep : (m 1 p) - 100 = nI h' := by
      rw [e1, enM_h hl hc, eh, show (100 : Int32) = nI 100 from rfl, pk_sub (by omega), show 20 + h' + 80 - 100 = h' by omega]
    rw [if_pos hk0]
    unfold fX5_delivers fX4_receiveFrom
    rw [enX_lt hc]
    simp (disch := omega) only [M_lnk S, hl, ↓reduceIte, Option.bind_some, inb_nI, clN, ep, M_hla]
    by_cases hz : m 13 p = 0
    · rw [if_pos (hla.mpr hz), if_pos hz, X_rfh (by omega) hc hl]
      exact ⟨_, _, rfl, rfl, fin _ _ h hk0⟩
    · rw [if_neg (fun q => hz (hla.mp q)), if_neg hz, eh, X_obh h8]
      simp only [Option.bind_some]
      rw [X_rfh (by omega) (by omega) (by omega)]
      refine ⟨_, _, rfl, rfl, fin _ _ ⟨?_, ?_⟩ ?_⟩
      · exact do4_rel (R := SD pe nb nh) (fun i x m hi h => agh_rel h (by omega) (by omega)) h.1
      · exact OutR_c (fun c j hc => do4_at (fun i σ hi => agS_c (by omega) (by omega)) _) (fun c j hc => do4_at (fun i σ hi => agS_c (by omega) (by omega)) _) h.2
      · rw [do4_at (fun i σ hi => agS_c (by omega) (by omega))]
        exact hk0
theorem xr_step {q : Nat} {x' : St} (S5 : ∀ q, q < 28 → x 5 q = enX (pe q)) (hq : q < 28) (hc : pe q < 28) (e : (if x 14 q = 0 then fX4_receiveFrom (nI q) (enX (pe q)) x else some x) = some x') (K : Int32 → St → Option St) : fX4_receiveAll_b2 K (nI q) x = K (nI (q + 1)) (up2 x' 14 q 0) := by
  unfold fX4_receiveAll_b2 fX4_receiveAll_b40
  simp (disch := omega) only [n28le, inb_nI, clN, ↓reduceIte, S5 q hq, X_sta, hc, Option.bind_some, zb0, ea1]
  rw [if_neg (by omega), if_neg n10]
  by_cases c : x 14 q = 0
  · rw [if_pos c] at e ⊢
    rw [e]
    rfl
  · rw [if_neg c] at e ⊢
    cases e
    rfl
theorem xr_skip {q : Nat} (S5 : ∀ q, q < 28 → x 5 q = enX (pe q)) (hq : q < 28) (hc : ¬ pe q < 28) (hm : x 14 q = 0) (K : Int32 → St → Option St) : fX4_receiveAll_b2 K (nI q) x = K (nI (q + 1)) x := by
  unfold fX4_receiveAll_b2 fX4_receiveAll_b40
  simp (disch := omega) only [n28le, inb_nI, clN, ↓reduceIte, S5 q hq, X_sta, hc, Option.bind_some, zb0, ea1, up2_self hm]
  rw [if_neg (by omega)]
theorem p4 (hPE : PE pe nb nh) (v : Int32) : ∀ (j p : Nat) (x m : St) (n n' : Nat), p + j = 20 → T4 pe nb nh x m → ∃ x' m', loop1s fX4_receiveAll_b2 (n + j) (nI p) x = loop1s fX4_receiveAll_b2 n (nI 20) x' ∧ loop1s (fX5_passes_b116 v) (n' + 1 + j) (nI p) m = fX5_passes_b141 v (nI 20) m' ∧ T4 pe nb nh x' m' := by
  intro j
  induction j with
  | zero =>
    intro p x m n n' e h
    obtain rfl : p = 20 := by omega
    exact ⟨x, m, rfl, rfl, h⟩
  | succ j ih =>
    intro p x m n n' e h
    have hp : p < 20 := by omega
    have S := h.1.1
    have S5 := S.2.2.2.2.2.1
    by_cases hc : pe p < 28
    · obtain ⟨x1, m1, e1, e2, h2⟩ := r_port hPE hp hc h
      obtain ⟨x', m', a, b, c⟩ := ih (p + 1) _ _ n n' (by omega) h2
      refine ⟨x', m', ?_, ?_, c⟩
      · show fX4_receiveAll_b2 (loop1s fX4_receiveAll_b2 (n + j)) (nI p) x = _
        rw [xr_step S5 (by omega) hc e1]
        exact a
      · show fX5_passes_b116 v (loop1s (fX5_passes_b116 v) (n' + 1 + j)) (nI p) m = _
        generalize loop1s (fX5_passes_b116 v) (n' + 1 + j) = K at b ⊢
        unfold fX5_passes_b116 fX5_passes_b135
        simp (disch := omega) only [n20le, M_con S, hc, ↓reduceIte, Option.bind_some, e2, ea1]
        rw [if_neg (by omega), if_neg n10]
        exact b
    · obtain ⟨x', m', a, b, c⟩ := ih (p + 1) _ _ n n' (by omega) h
      refine ⟨x', m', ?_, ?_, c⟩
      · show fX4_receiveAll_b2 (loop1s fX4_receiveAll_b2 (n + j)) (nI p) x = _
        rw [xr_skip S5 (by omega) hc (h.1.2.2.2.2.2.2.2.2.2.2.2.2.1 p (by omega) (fun q => by omega))]
        exact a
      · show fX5_passes_b116 v (loop1s (fX5_passes_b116 v) (n' + 1 + j)) (nI p) m = _
        generalize loop1s (fX5_passes_b116 v) (n' + 1 + j) = K at b ⊢
        unfold fX5_passes_b116 fX5_passes_b135
        simp (disch := omega) only [n20le, M_con S, hc, ↓reduceIte, Option.bind_some, ea1]
        rw [if_neg (by omega)]
        exact b
theorem p4h (hPE : PE pe nb nh) (v : Int32) : ∀ (j h : Nat) (x m : St) (n n' : Nat), h + j = nh → T4 pe nb nh x m → ∃ x' m', loop1s fX4_receiveAll_b2 (n + j) (nI (20 + h)) x = loop1s fX4_receiveAll_b2 n (nI (20 + nh)) x' ∧ loop1s (fX5_passes_b143 v) (n' + 1 + 4 * j) (nI (4 * h)) m = fX5_passes_b183 v (nI (4 * nh)) m' ∧ T4 pe nb nh x' m' := by
  intro j
  induction j with
  | zero =>
    intro h x m n n' e ht
    obtain rfl : h = nh := by omega
    refine ⟨x, m, rfl, ?_, ht⟩
    have hb := hPE.2.1
    show fX5_passes_b143 v _ (nI (4 * h)) m = _
    unfold fX5_passes_b143
    rw [ht.1.1.2.2.2.1, e4m]
    simp (disch := omega) only [leN, Nat.le_refl, ↓reduceIte]
  | succ j ih =>
    intro h x m n n' e ht
    have hb := hPE.2.1
    have hh : h < nh := by omega
    have h8 : h < 8 := by omega
    have S := ht.1.1
    have S5 := S.2.2.2.2.2.1
    have hc : pe (20 + h) < 28 := (hPE.2.2.2.1 h h8).mpr hh
    have hl : pe (20 + h) < 20 := hPE.2.2.2.2 h h8 hc
    have hrc : pe (pe (20 + h)) < 28 := by rw [hPE.2.2.1 _ (by omega) hc]; omega
    have hk0 : x 14 (20 + h) = 0 := ht.1.2.2.2.2.2.2.2.2.2.2.2.2.1 (20 + h) (by omega) (fun q => by omega)
    have h2 := heh_rel hh h8 hl hrc ht
    have e1 : (if x 14 (20 + h) = 0 then fX4_receiveFrom (nI (20 + h)) (enX (pe (20 + h))) x else some x) = some (do4 (heX (20 + h) (pe (20 + h))) x) := by
      rw [if_pos hk0, enX_lt hc]
      unfold fX4_receiveFrom
      simp (disch := omega) only [inb_nI, clN, ↓reduceIte, ht.2.2.2.1 h h8]
      exact X_rf (by omega) hl x
    have e14 : do4 (heX (20 + h) (pe (20 + h))) x 14 (20 + h) = 0 := by rw [do4_at (fun i σ hi => heX_c (by omega) (by omega))]; exact hk0
    obtain ⟨x', m', a, b, c⟩ := ih (h + 1) _ _ n n' (by omega) h2
    refine ⟨x', m', ?_, ?_, c⟩
    · show fX4_receiveAll_b2 (loop1s fX4_receiveAll_b2 (n + j)) (nI (20 + h)) x = _
      rw [xr_step S5 (by omega) hc e1, up2_self e14]
      exact a
    · rw [show n' + 1 + 4 * (j + 1) = n' + 1 + 4 * j + 4 by omega]
      refine Eq.trans (loop1s_4n (fX5_passes_b143 v) (fun σ => σ 0 1 = nI nh ∧ σ 2 h = nI (pe (20 + h))) (4 * h) (n' + 1 + 4 * j) (heM 15 h (pe (20 + h))) m ⟨S.2.2.2.1, S.2.2.2.2.2.2.2 h hh⟩ ?_ ?_) b
      · intro K i σ hi hI
        unfold fX5_passes_b143 heM
        simp (disch := omega) only [hI.1, e4m, leN, ed4, show (4 * h + i) / 4 = h by omega, em4, pk_sub, show 4 * h + i - 4 * h = i by omega, inb_nI, clN, ↓reduceIte, hI.2, eaa, M_gets, Option.bind_some, ea1]
        rw [if_neg (by omega)]
      · intro i σ hi hI
        refine ⟨?_, ?_⟩
        · rw [heM_c (by omega) (by omega)]; exact hI.1
        · rw [heM_c (by omega) (by omega)]; exact hI.2
theorem p4r (hPE : PE pe nb nh) : ∀ (j h n : Nat), h + j = 8 → nh ≤ h → SD pe nb nh x m → loop1s fX4_receiveAll_b2 (n + 1 + j) (nI (20 + h)) x = some x := by
  intro j
  induction j with
  | zero =>
    intro h n e hn ht
    obtain rfl : h = 8 := by omega
    rfl
  | succ j ih =>
    intro h n e hn ht
    have hc : ¬ pe (20 + h) < 28 := fun q => by have := (hPE.2.2.2.1 h (by omega)).mp q; omega
    have a := ih (h + 1) n (by omega) (by omega) ht
    show fX4_receiveAll_b2 (loop1s fX4_receiveAll_b2 (n + 1 + j)) (nI (20 + h)) x = _
    rw [xr_skip ht.1.2.2.2.2.2.1 (by omega) hc (ht.2.2.2.2.2.2.2.2.2.2.2.2.1 (20 + h) (by omega) (fun q => by omega))]
    exact a
theorem D_now (h : SD pe nb nh x m) (v : Int32) : SD pe nb nh (up2 x 0 10 v) (up2 m 0 8 v) := by
  unfold SD Str Dat at *
  simp only [up2_ap]
  grind
/-- PART 4 and 5, whole -/
theorem P4 (hPE : PE pe nb nh) (v w : Int32) (h : T3 pe nb nh 28 x m) : ∃ x' m', fX4_receiveAll x = some x' ∧ fX5_passes_b114 v w m = some (v, up2 m' 0 8 (m' 0 8 + 1)) ∧ SD pe nb nh x' m' := by
  have hb := hPE.2.1
  obtain ⟨x1, m1, a1, b1, t1⟩ := p4 hPE v 20 0 x m 1980 1979 rfl ⟨h.1.1, h.2⟩
  obtain ⟨x2, m2, a2, b2, t2⟩ := p4h hPE v nh 0 x1 m1 (1980 - nh) (1999 - 4 * nh) (by omega) t1
  have a3 := p4r hPE (8 - nh) nh (1980 - nh - 1 - (8 - nh)) (by omega) (Nat.le_refl _) t2.1
  refine ⟨x2, m2, ?_, ?_, t2.1⟩
  · unfold fX4_receiveAll
    refine Eq.trans a1 ?_
    rw [show (1980 : Nat) - nh + nh = 1980 by omega] at a2
    refine Eq.trans a2 ?_
    rw [show 1980 - nh - 1 - (8 - nh) + 1 + (8 - nh) = 1980 - nh by omega] at a3
    exact a3
  · unfold fX5_passes_b114
    refine Eq.trans b1 ?_
    unfold fX5_passes_b141
    rw [show 1999 - 4 * nh + 1 + 4 * nh = 2000 by omega] at b2
    exact b2
/-- one tick in both -/
theorem one (hPE : PE pe nb nh) (h : SD pe nb nh x m) : ∃ r x1 x2 x3 x4 m', fX4_runTimers x = some x1 ∧ fX4_propagate x1 = some x2 ∧ fX4_sendAll x2 = some (r, x3) ∧ fX4_receiveAll x3 = some x4 ∧ fX5_passes m = some (r, m') ∧ SD pe nb nh (up2 x4 0 10 (x4 0 10 + 1)) m' := by
  obtain ⟨x1, m1, a1, b1, t1⟩ := P1 0 h
  obtain ⟨x2, m2, a2, b2, t2⟩ := P2 0 (nI 20) t1
  obtain ⟨r, x3, m3, a3, b3, t3⟩ := P3 hPE (nI 20) t2
  obtain ⟨x4, m4, a4, b4, t4⟩ := P4 hPE r (nI nh) t3
  refine ⟨r, x1, x2, x3, x4, up2 m4 0 8 (m4 0 8 + 1), a1, a2, a3, a4, ?_, ?_⟩
  · unfold fX5_passes
    rw [b1, b2, b3, b4]
  · rw [t4.2.1.2.2]
    exact D_now t4 _
theorem ticks (hPE : PE pe nb nh) (t : Nat) (ht : t < 2147483648) : ∀ (j k : Nat) (v : Int32) (x m : St) (n n' : Nat), k + j = t → SD pe nb nh x m → ∃ r x' m', loop2s (fX4_tick_b18 (nI t)) (n + 1 + j) v (nI k) x = some (r, x') ∧ loop2s (fX5_tick_b17 (nI t)) (n' + 1 + j) v (nI k) m = some (r, m') ∧ SD pe nb nh x' m' := by
  intro j
  induction j with
  | zero =>
    intro k v x m n n' e h
    obtain rfl : k = t := by omega
    refine ⟨v, x, m, ?_, ?_, h⟩
    · show fX4_tick_b18 (nI k) _ v (nI k) x = _
      unfold fX4_tick_b18
      rw [if_pos (by rw [leN ht ht]; omega)]
    · show fX5_tick_b17 (nI k) _ v (nI k) m = _
      unfold fX5_tick_b17
      rw [if_pos (by rw [leN ht ht]; omega)]
  | succ j ih =>
    intro k v x m n n' e h
    obtain ⟨r, x1, x2, x3, x4, m', a1, a2, a3, a4, b, s⟩ := one hPE h
    obtain ⟨r', x', m'', c1, c2, c3⟩ := ih (k + 1) (v + r) _ _ n n' (by omega) s
    refine ⟨r', x', m'', ?_, ?_, c3⟩
    · show fX4_tick_b18 (nI t) (loop2s (fX4_tick_b18 (nI t)) (n + 1 + j)) v (nI k) x = _
      generalize loop2s (fX4_tick_b18 (nI t)) (n + 1 + j) = K at c1 ⊢
      unfold fX4_tick_b18
      rw [if_neg (by rw [leN ht (by omega)]; omega), a1]
      simp only [Option.bind_some, a2, a3, a4, bind2, ea1]
      exact c1
    · show fX5_tick_b17 (nI t) (loop2s (fX5_tick_b17 (nI t)) (n' + 1 + j)) v (nI k) m = _
      generalize loop2s (fX5_tick_b17 (nI t)) (n' + 1 + j) = K at c2 ⊢
      unfold fX5_tick_b17
      rw [if_neg (by rw [leN ht (by omega)]; omega), b]
      simp only [bind2, Option.bind_some, ea1]
      exact c2
theorem sim_tick (hPE : PE pe nb nh) (h : SD pe nb nh x m) (v : Int32) : ∃ r x' m', fX4_tick v x = some (r, x') ∧ fX5_tick v m = some (r, m') ∧ SD pe nb nh x' m' := by
  unfold fX4_tick fX5_tick fX5_within
  by_cases h1 : v < 1
  · rw [if_pos h1, if_pos h1]
    exact ⟨_, _, _, rfl, rfl, h⟩
  · rw [if_neg h1, if_neg h1]
    by_cases h2 : v ≤ 100
    · rw [if_pos h2, if_neg (Int32.not_lt.mpr h2)]
      simp only [Option.bind_some]
      rw [if_neg n10]
      rcases i_cases v with hv | ⟨t, ht, rfl⟩
      · exact absurd (Int32.lt_of_lt_of_le hv (by decide)) h1
      · rw [show (100 : Int32) = nI 100 from rfl, leN ht (by omega)] at h2
        obtain ⟨r, x', m', a, b, c⟩ := ticks hPE t ht t 0 0 x m (1999 - t) (1999 - t) (by omega) h
        rw [show 1999 - t + 1 + t = 2000 by omega] at a b
        exact ⟨r, x', m', a, b, c⟩
    · rw [if_neg h2, if_pos (Int32.not_le.mp h2)]
      exact ⟨_, _, _, rfl, rfl, h⟩
end
