/-! ===== the way of a frame in the reference ===== -/
section
variable {pe : Nat → Nat} {nb nh g : Nat} {x m : St}
/-- the pairs that have been looked at: arrivals below k, and of arrival k the ports below c -/
def dn (k c j p : Nat) : Prop := j < k ∨ (j = k ∧ p < c)
/-- the queue -/
def QV (pe : Nat → Nat) (g gr a0 : Nat) (m : St) (k c sz s : Nat) (L : Nat → Nat) (σ : St) : Prop :=
  (∀ c j, c ≠ 16 → σ c j = m c j) ∧ 1 ≤ sz ∧ sz ≤ 5 ∧ s < 256 ∧ L 0 = a0 ∧ (∀ i, i < sz → σ 16 i = nI (L i) ∧ L i < 20 ∧ way g (a0 / 4) (L i / 4) ≠ 0 ∧ arr pe (m 4) gr a0 (way g (a0 / 4) (L i / 4) - 1) (L i)) ∧
  (∀ i j, i < sz → j < sz → L i / 4 = L j / 4 → i = j) ∧
  (∀ i, 1 ≤ i → i < sz → ∃ j p, j < sz ∧ dn k c j p ∧ out pe (m 4) gr (L j) p ∧ pe p = L i ∧ way g (a0 / 4) (L i / 4) = way g (a0 / 4) (L j / 4) + 1) ∧
  (∀ h, s.testBit h = true → ∃ j p, j < sz ∧ dn k c j p ∧ out pe (m 4) gr (L j) p ∧ pe p = 20 + h) ∧
  (∀ j p, j < sz → dn k c j p → out pe (m 4) gr (L j) p → (pe p < 20 → ∃ i, i < sz ∧ L i = pe p) ∧ (¬ pe p < 20 → s.testBit (pe p - 20) = true))
theorem pig {n : Nat} {f : Nat → Nat} (hf : ∀ i, i < n → f i < 5) (hi : ∀ i j, i < n → j < n → f i = f j → i = j) : n ≤ 5 := by
  apply Classical.byContradiction
  intro hn
  have b : ∀ i, i < 6 → f i < 5 := fun i h => hf i (by omega)
  have d : ∀ i j, i < 6 → j < 6 → f i = f j → i = j := fun i j h1 h2 => hi i j (by omega) (by omega)
  have b0 := b 0 (by omega)
  have b1 := b 1 (by omega)
  have b2 := b 2 (by omega)
  have b3 := b 3 (by omega)
  have b4 := b 4 (by omega)
  have b5 := b 5 (by omega)
  have d01 : f 0 ≠ f 1 := fun e => by have := d 0 1 (by omega) (by omega) e; omega
  have d02 : f 0 ≠ f 2 := fun e => by have := d 0 2 (by omega) (by omega) e; omega
  have d03 : f 0 ≠ f 3 := fun e => by have := d 0 3 (by omega) (by omega) e; omega
  have d04 : f 0 ≠ f 4 := fun e => by have := d 0 4 (by omega) (by omega) e; omega
  have d05 : f 0 ≠ f 5 := fun e => by have := d 0 5 (by omega) (by omega) e; omega
  have d12 : f 1 ≠ f 2 := fun e => by have := d 1 2 (by omega) (by omega) e; omega
  have d13 : f 1 ≠ f 3 := fun e => by have := d 1 3 (by omega) (by omega) e; omega
  have d14 : f 1 ≠ f 4 := fun e => by have := d 1 4 (by omega) (by omega) e; omega
  have d15 : f 1 ≠ f 5 := fun e => by have := d 1 5 (by omega) (by omega) e; omega
  have d23 : f 2 ≠ f 3 := fun e => by have := d 2 3 (by omega) (by omega) e; omega
  have d24 : f 2 ≠ f 4 := fun e => by have := d 2 4 (by omega) (by omega) e; omega
  have d25 : f 2 ≠ f 5 := fun e => by have := d 2 5 (by omega) (by omega) e; omega
  have d34 : f 3 ≠ f 4 := fun e => by have := d 3 4 (by omega) (by omega) e; omega
  have d35 : f 3 ≠ f 5 := fun e => by have := d 3 5 (by omega) (by omega) e; omega
  have d45 : f 4 ≠ f 5 := fun e => by have := d 4 5 (by omega) (by omega) e; omega
  omega
theorem dn_s {k c j p : Nat} (h : dn k c j p) : dn k (c + 1) j p := by
  rcases h with h | h
  · exact Or.inl h
  · exact Or.inr ⟨h.1, by omega⟩
/-- a port out of which the frame does not go -/
theorem q_skip {gr a0 k c sz s : Nat} {L : Nat → Nat} {σ : St} (h : QV pe g gr a0 m k c sz s L σ) (hn : ¬ out pe (m 4) gr (L k) c) : QV pe g gr a0 m k (c + 1) sz s L σ := by
  obtain ⟨h1, h2, h3, h4, h5, h6, h7, h8, h9, h10⟩ := h
  refine ⟨h1, h2, h3, h4, h5, h6, h7, fun i q1 q2 => ?_, fun b q => ?_, fun j p q1 q2 q3 => ?_⟩
  · obtain ⟨j, p, r1, r2, r3⟩ := h8 i q1 q2
    exact ⟨j, p, r1, dn_s r2, r3⟩
  · obtain ⟨j, p, r1, r2, r3⟩ := h9 b q
    exact ⟨j, p, r1, dn_s r2, r3⟩
  · by_cases e : j = k ∧ p = c
    · obtain ⟨rfl, rfl⟩ := e
      exact absurd q3 hn
    · refine h10 j p q1 ?_ q3
      rcases q2 with q | q
      · exact Or.inl q
      · exact Or.inr ⟨q.1, by omega⟩
/-- a port with a host -/
theorem q_host {gr a0 k c sz s h' : Nat} {L : Nat → Nat} {σ : St} (h : QV pe g gr a0 m k c sz s L σ) (hk : k < sz) (ho : out pe (m 4) gr (L k) c) (he : pe c = 20 + h') (h8' : h' < 8) : QV pe g gr a0 m k (c + 1) sz (s ||| 2 ^ h') L σ := by
  obtain ⟨h1, h2, h3, h4, h5, h6, h7, h8, h9, h10⟩ := h
  refine ⟨h1, h2, h3, Nat.or_lt_two_pow (n := 8) h4 (Nat.pow_lt_pow_right (by omega) h8'), h5, h6, h7, fun i q1 q2 => ?_, fun b q => ?_, fun j p q1 q2 q3 => ⟨fun q => ?_, fun q => ?_⟩⟩
  · obtain ⟨j, p, r1, r2, r3⟩ := h8 i q1 q2
    exact ⟨j, p, r1, dn_s r2, r3⟩
  · rcases or2_bit.mp q with q | q
    · obtain ⟨j, p, r1, r2, r3⟩ := h9 b q
      exact ⟨j, p, r1, dn_s r2, r3⟩
    · exact ⟨k, c, hk, Or.inr ⟨rfl, by omega⟩, ho, by rw [he, q]⟩
  · by_cases e : j = k ∧ p = c
    · obtain ⟨rfl, rfl⟩ := e
      omega
    · exact (h10 j p q1 (by rcases q2 with q | q; exact Or.inl q; exact Or.inr ⟨q.1, by omega⟩) q3).1 q
  · by_cases e : j = k ∧ p = c
    · obtain ⟨rfl, rfl⟩ := e
      exact or2_bit.mpr (Or.inr (by omega))
    · exact or2_bit.mpr (Or.inl ((h10 j p q1 (by rcases q2 with q | q; exact Or.inl q; exact Or.inr ⟨q.1, by omega⟩) q3).2 q))
/-- a port with a link: the tree has no bridge twice -/
theorem q_push (hPE : PE pe nb nh) (U : ∀ p q, p < 20 → q < 20 → pe p < 20 → pe q < 20 → p / 4 = q / 4 → pe p / 4 = pe q / 4 → p = q) (G : GR pe g) {gr a0 k c sz s : Nat} {L : Nat → Nat} {σ : St} (ha0 : a0 < 20) (h : QV pe g gr a0 m k c sz s L σ) (hk : k < sz) (ho : out pe (m 4) gr (L k) c) (hl : pe c < 20) : sz < 5 ∧ QV pe g gr a0 m k (c + 1) (sz + 1) s (fun i => if i = sz then pe c else L i) (up2 σ 16 sz (nI (pe c))) := by
  obtain ⟨h1, h2, h3, h4, h5, h6, h7, h8, h9, h10⟩ := h
  have hc : c < 20 := ho.1
  have hck : c / 4 = L k / 4 := ho.2.1
  have hinv : pe (pe c) = c := hPE.2.2.1 c (by omega) (by omega)
  obtain ⟨k1, k2, k3, k4⟩ := h6 k hk
  have hb0 : a0 / 4 < 5 := by omega
  have ad : adjm g (L k / 4) (pe c / 4) = true := (G.2.2 _ _ (by omega) (by omega)).mpr ⟨c, hc, hck, hl, rfl⟩
  have wa := W_adj G hb0 (show L k / 4 < 5 by omega) (show pe c / 4 < 5 by omega) ad
  have wy : way g (a0 / 4) (pe c / 4) = way g (a0 / 4) (L k / 4) + 1 := by
    rcases wa.2 k3 with q | q
    · exact q
    · exfalso
      have hy0 : way g (a0 / 4) (pe c / 4) ≠ 0 := fun q0 => k3 (wa.1.mpr q0)
      by_cases e0 : k = 0
      · have : way g (a0 / 4) (L k / 4) = 1 := by rw [e0, h5]; exact W_self G hb0
        omega
      · obtain ⟨j, p, r1, r2, r3, r4, r5⟩ := h8 k (by omega) hk
        obtain ⟨j1, j2, j3, j4⟩ := h6 j r1
        have hp4 : p / 4 = L j / 4 := r3.2.1
        have ad2 : adjm g (L j / 4) (L k / 4) = true := (G.2.2 _ _ (by omega) (by omega)).mpr ⟨p, r3.1, hp4, by omega, by rw [r4]⟩
        have ez : pe c / 4 = L j / 4 := W_uni G hb0 (show pe c / 4 < 5 by omega) (show L j / 4 < 5 by omega) (show L k / 4 < 5 by omega) (by rw [A_sym G (by omega) (by omega)]; exact ad) ad2 hy0 j3 q.symm r5
        have ep : pe c = p := U (pe c) p hl r3.1 (by rw [hinv]; exact hc) (by omega) (by omega) (by rw [hinv, r4]; exact hck)
        exact ho.2.2.1 (by rw [← hinv, ep, r4])
  have fresh : ∀ i, i < sz → L i / 4 ≠ pe c / 4 := by
    intro i hi e
    have wi : way g (a0 / 4) (L i / 4) = way g (a0 / 4) (L k / 4) + 1 := by rw [e]; exact wy
    have hi1 : 1 ≤ i := by
      apply Classical.byContradiction
      intro q
      have : i = 0 := by omega
      rw [this, h5, W_self G hb0] at wi
      omega
    obtain ⟨j, p, r1, r2, r3, r4, r5⟩ := h8 i hi1 hi
    obtain ⟨j1, j2, j3, j4⟩ := h6 j r1
    have hp4 : p / 4 = L j / 4 := r3.2.1
    have ad2 : adjm g (L j / 4) (pe c / 4) = true := (G.2.2 _ _ (by omega) (by omega)).mpr ⟨p, r3.1, hp4, by rw [r4]; exact (h6 i hi).2.1, by rw [r4, e]⟩
    have ez : L k / 4 = L j / 4 := W_uni G hb0 (show L k / 4 < 5 by omega) (show L j / 4 < 5 by omega) (show pe c / 4 < 5 by omega) ad ad2 k3 j3 wy (by rw [← e]; exact r5)
    have ej : k = j := h7 k j hk r1 ez
    have ep : p = c := U p c r3.1 hc (by rw [r4]; exact (h6 i hi).2.1) hl (by omega) (by rw [r4, e])
    rcases r2 with q | q
    · omega
    · omega
  have inj : ∀ i j, i < sz + 1 → j < sz + 1 → (if i = sz then pe c else L i) / 4 = (if j = sz then pe c else L j) / 4 → i = j := by
    intro i j hi hj e
    by_cases ei : i = sz
    · by_cases ej : j = sz
      · omega
      · rw [if_pos ei, if_neg ej] at e
        exact absurd e.symm (fresh j (by omega))
    · by_cases ej : j = sz
      · rw [if_neg ei, if_pos ej] at e
        exact absurd e (fresh i (by omega))
      · rw [if_neg ei, if_neg ej] at e
        exact h7 i j (by omega) (by omega) e
  have s5 : sz + 1 ≤ 5 := pig (f := fun i => (if i = sz then pe c else L i) / 4) (fun i hi => by
    by_cases ei : i = sz
    · show (if i = sz then pe c else L i) / 4 < 5
      rw [if_pos ei]; omega
    · show (if i = sz then pe c else L i) / 4 < 5
      rw [if_neg ei]
      have := (h6 i (by omega)).2.1
      omega) inj
  have old : ∀ i, i < sz → (if i = sz then pe c else L i) = L i := fun i hi => if_neg (by omega)
  refine ⟨by omega, fun c' j hc' => by rw [up2_c hc']; exact h1 c' j hc', by omega, s5, h4, ?_, ?_, inj, ?_, ?_, ?_⟩
  · show (if 0 = sz then pe c else L 0) = a0
    rw [if_neg (by omega)]; exact h5
  · intro i hi
    show up2 σ 16 sz (nI (pe c)) 16 i = nI (if i = sz then pe c else L i) ∧ (if i = sz then pe c else L i) < 20 ∧ way g (a0 / 4) ((if i = sz then pe c else L i) / 4) ≠ 0 ∧ arr pe (m 4) gr a0 (way g (a0 / 4) ((if i = sz then pe c else L i) / 4) - 1) (if i = sz then pe c else L i)
    by_cases ei : i = sz
    · rw [if_pos ei, ei, up2_hit]
      refine ⟨rfl, hl, by omega, ?_⟩
      rw [wy, show way g (a0 / 4) (L k / 4) + 1 - 1 = (way g (a0 / 4) (L k / 4) - 1) + 1 by omega]
      exact ⟨L k, c, k4, k2, ho, rfl⟩
    · rw [if_neg ei, up2_j ei]
      exact h6 i (by omega)
  · intro i q1 q2
    by_cases ei : i = sz
    · refine ⟨k, c, by omega, Or.inr ⟨rfl, by omega⟩, ?_, ?_, ?_⟩
      · show out pe (m 4) gr (if k = sz then pe c else L k) c
        rw [old k hk]; exact ho
      · show pe c = if i = sz then pe c else L i
        rw [if_pos ei]
      · show way g (a0 / 4) ((if i = sz then pe c else L i) / 4) = way g (a0 / 4) ((if k = sz then pe c else L k) / 4) + 1
        rw [if_pos ei, old k hk]; exact wy
    · obtain ⟨j, p, r1, r2, r3, r4, r5⟩ := h8 i q1 (by omega)
      refine ⟨j, p, by omega, dn_s r2, ?_, ?_, ?_⟩
      · show out pe (m 4) gr (if j = sz then pe c else L j) p
        rw [old j r1]; exact r3
      · show pe p = if i = sz then pe c else L i
        rw [if_neg ei]; exact r4
      · show way g (a0 / 4) ((if i = sz then pe c else L i) / 4) = way g (a0 / 4) ((if j = sz then pe c else L j) / 4) + 1
        rw [if_neg ei, old j r1]; exact r5
  · intro b q
    obtain ⟨j, p, r1, r2, r3, r4⟩ := h9 b q
    refine ⟨j, p, by omega, dn_s r2, ?_, r4⟩
    show out pe (m 4) gr (if j = sz then pe c else L j) p
    rw [old j r1]; exact r3
  · intro j p q1 q2 q3
    have hj : j ≠ sz := by
      rcases q2 with q | q <;> omega
    have q3' : out pe (m 4) gr (L j) p := by
      have : (if j = sz then pe c else L j) = L j := if_neg hj
      rw [← this]; exact q3
    by_cases e : j = k ∧ p = c
    · obtain ⟨rfl, rfl⟩ := e
      exact ⟨fun _ => ⟨sz, by omega, if_pos rfl⟩, fun q => absurd hl q⟩
    · obtain ⟨r1, r2⟩ := h10 j p (by omega) (by rcases q2 with q | q; exact Or.inl q; exact Or.inr ⟨q.1, by omega⟩) q3'
      refine ⟨fun q => ?_, r2⟩
      obtain ⟨i, t1, t2⟩ := r1 q
      exact ⟨i, by omega, by rw [← t2]; exact old i t1⟩
/-- from one arrival to the next -/
theorem q_next {gr a0 k sz s : Nat} {L : Nat → Nat} {σ : St} (h : QV pe g gr a0 m k (4 * (L k / 4) + 4) sz s L σ) : QV pe g gr a0 m (k + 1) 0 sz s L σ := by
  obtain ⟨h1, h2, h3, h4, h5, h6, h7, h8, h9, h10⟩ := h
  have up : ∀ j p, dn k (4 * (L k / 4) + 4) j p → dn (k + 1) 0 j p := by
    intro j p q
    rcases q with q | q
    · exact Or.inl (by omega)
    · exact Or.inl (by omega)
  refine ⟨h1, h2, h3, h4, h5, h6, h7, fun i q1 q2 => ?_, fun b q => ?_, fun j p q1 q2 q3 => h10 j p q1 ?_ q3⟩
  · obtain ⟨j, p, r1, r2, r3⟩ := h8 i q1 q2
    exact ⟨j, p, r1, up j p r2, r3⟩
  · obtain ⟨j, p, r1, r2, r3⟩ := h9 b q
    exact ⟨j, p, r1, up j p r2, r3⟩
  · rcases q2 with q | q
    · by_cases e : j = k
      · subst e
        have := q3.2.1
        exact Or.inr ⟨rfl, by omega⟩
      · exact Or.inl (by omega)
    · omega
theorem q_begin {gr a0 k sz s : Nat} {L : Nat → Nat} {σ : St} (h : QV pe g gr a0 m k 0 sz s L σ) : QV pe g gr a0 m k (4 * (L k / 4)) sz s L σ := by
  obtain ⟨h1, h2, h3, h4, h5, h6, h7, h8, h9, h10⟩ := h
  have up : ∀ j p, dn k 0 j p → dn k (4 * (L k / 4)) j p := by
    intro j p q
    rcases q with q | q
    · exact Or.inl q
    · omega
  refine ⟨h1, h2, h3, h4, h5, h6, h7, fun i q1 q2 => ?_, fun b q => ?_, fun j p q1 q2 q3 => h10 j p q1 ?_ q3⟩
  · obtain ⟨j, p, r1, r2, r3⟩ := h8 i q1 q2
    exact ⟨j, p, r1, up j p r2, r3⟩
  · obtain ⟨j, p, r1, r2, r3⟩ := h9 b q
    exact ⟨j, p, r1, up j p r2, r3⟩
  · rcases q2 with q | q
    · exact Or.inl q
    · obtain ⟨rfl, q⟩ := q
      have := q3.2.1
      omega
theorem q_end (G : GR pe g) {gr a0 sz s : Nat} {L : Nat → Nat} {σ : St} (ha0 : a0 < 20) (h : QV pe g gr a0 m sz 0 sz s L σ) : ∀ h', s.testBit h' = true ↔ ∃ k, 1 ≤ k ∧ k ≤ 5 ∧ arr pe (m 4) gr a0 k (20 + h') := by
  obtain ⟨h1, h2, h3, h4, h5, h6, h7, h8, h9, h10⟩ := h
  intro h'
  constructor
  · intro q
    obtain ⟨j, p, r1, r2, r3, r4⟩ := h9 h' q
    obtain ⟨j1, j2, j3, j4⟩ := h6 j r1
    have := W_le G (show a0 / 4 < 5 by omega) (show L j / 4 < 5 by omega)
    refine ⟨(way g (a0 / 4) (L j / 4) - 1) + 1, by omega, by omega, L j, p, j4, j2, r3, r4⟩
  · have all : ∀ k q, arr pe (m 4) gr a0 k q → (q < 20 → ∃ j, j < sz ∧ L j = q) ∧ (1 ≤ k → ¬ q < 20 → s.testBit (q - 20) = true) := by
      intro k
      induction k with
      | zero =>
        intro q e
        exact ⟨fun _ => ⟨0, by omega, by rw [h5]; exact e.symm⟩, fun q => absurd q (by omega)⟩
      | succ k ih =>
        rintro q ⟨a, p, r1, r2, r3, r4⟩
        obtain ⟨j, t1, t2⟩ := (ih a r1).1 r2
        have c := h10 j p t1 (Or.inl t1) (by rw [t2]; exact r3)
        rw [r4] at c
        exact ⟨c.1, fun _ => c.2⟩
    rintro ⟨k, q1, q2, q3⟩
    have := (all k (20 + h') q3).2 q1 (by omega)
    rw [show 20 + h' - 20 = h' by omega] at this
    exact this
end
