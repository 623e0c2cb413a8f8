/-! ===== connect, cut, addHost ===== -/
section
variable {pe : Nat → Nat} {nb nh g : Nat} {x m : St}
def zzS (p i : Nat) (σ : St) : St := up2 (up2 (up2 (up2 σ 4 (4 * p + i) 0) 5 (4 * p + i) 0) 6 (4 * p + i) 0) 7 (4 * p + i) 0
theorem M_rst {p : Nat} (hp : p < 20) (v : Int32) (σ : St) : fX5_resets (nI p) v σ = some (do4 (zzS p) (up2 (up2 (up2 σ 1 p v) 9 p 0) 8 p (if v = -1 then 0 else σ 0 7))) := by
  have hl : ∀ (w : Int32) (σ : St), fX5_resets_b32 (nI p) v w (nI p) σ = some (do4 (zzS p) (up2 σ 8 p w)) := by
    intro w σ
    unfold fX5_resets_b32
    rw [if_pos (inb_nI hp (by omega)), clN (show p < 2147483648 by omega), e4m]
    refine loop1s_4 (fX5_resets_b37 (nI p) v) (4 * p) (zzS p) _ _ ?_ ?_
    · intro K i σ hi
      unfold fX5_resets_b37 zzS
      simp (disch := omega) only [e4m, ea4, ea1, leN, inb_nI, clN, ↓reduceIte]
      rw [if_neg (by omega)]
    · intro K
      unfold fX5_resets_b37
      simp (disch := omega) only [e4m, ea4, leN, Nat.le_refl, ↓reduceIte, do4]
  unfold fX5_resets
  rw [if_pos (inb_nI hp (by omega)), if_pos (inb_nI hp (by omega)), clN (show p < 2147483648 by omega), hl, hl, zb0]
  by_cases c : v = -1
  · rw [if_pos c, if_pos c]
  · rw [if_neg c, if_neg c, up2_c (c := 9) (by omega), up2_c (c := 1) (by omega)]
/-- what resets leaves, place by place -/
theorem rst_ap {p : Nat} (v w : Int32) (σ : St) (c j : Nat) : do4 (zzS p) (up2 (up2 (up2 σ 1 p v) 9 p 0) 8 p w) c j = if c = 1 ∧ j = p then v else if c = 9 ∧ j = p then 0 else if c = 8 ∧ j = p then w else if (4 ≤ c ∧ c ≤ 7) ∧ j / 4 = p then 0 else σ c j := by
  unfold do4 zzS
  simp only [up2_ap]
  by_cases h4 : 4 ≤ c ∧ c ≤ 7
  · have h1 : ¬ c = 1 := by omega
    have h9 : ¬ c = 9 := by omega
    have h8 : ¬ c = 8 := by omega
    by_cases hj : j / 4 = p
    · have hj2 : j = 4 * p + 0 ∨ j = 4 * p + 1 ∨ j = 4 * p + 2 ∨ j = 4 * p + 3 := by omega
      rcases (show c = 4 ∨ c = 5 ∨ c = 6 ∨ c = 7 by omega) with rfl | rfl | rfl | rfl <;> rcases hj2 with rfl | rfl | rfl | rfl <;> simp [hj]
    · have n0 : ¬ j = 4 * p + 0 := by omega
      have n1 : ¬ j = 4 * p + 1 := by omega
      have n2 : ¬ j = 4 * p + 2 := by omega
      have n3 : ¬ j = 4 * p + 3 := by omega
      have n4 : ¬ j = 4 * p := by omega
      simp [h1, h9, h8, hj, n4, n1, n2, n3]
  · have a4 : ¬ c = 4 := by omega
    have a5 : ¬ c = 5 := by omega
    have a6 : ¬ c = 6 := by omega
    have a7 : ¬ c = 7 := by omega
    simp [a4, a5, a6, a7]
    by_cases c1 : c = 1
    · subst c1; simp
    · by_cases c8 : c = 8
      · subst c8; simp
      · by_cases c9 : c = 9
        · subst c9; simp
        · simp [c1, c8, c9]
          intro q1 q2
          exact absurd ⟨q1, q2⟩ h4
def clX (p i : Nat) (σ : St) : St := up2 (up2 (up2 (up2 σ 6 (4 * p + i) 0) 7 (4 * p + i) 0) 8 (4 * p + i) 0) 9 (4 * p + i) 0
theorem X_clp {p : Nat} (hp : p < 20) (σ : St) : fX4_clearPort (nI p) σ = some (up2 (up2 (do4 (clX p) σ) 12 p 0) 14 p 0) := by
  unfold fX4_clearPort
  refine loop1s_4 (fX4_clearPort_b2 (nI p)) 0 (clX p) _ σ ?_ ?_
  · intro K i σ hi
    unfold fX4_clearPort_b2 fX4_cellOf fX3_change fX0_change clX
    simp (disch := omega) only [Nat.zero_add, n4le, em4, eaa, ea1, Option.bind_some, inb_nI, clN, ↓reduceIte]
    rw [if_neg (by omega)]
  · intro K
    unfold fX4_clearPort_b2 fX4_clearPort_b41
    simp (disch := omega) only [Nat.zero_add, n4le, Nat.le_refl, ↓reduceIte, inb_nI, clN, zb0, do4]
theorem clp_ap {p : Nat} (σ : St) (c j : Nat) : up2 (up2 (do4 (clX p) σ) 12 p 0) 14 p 0 c j = if c = 12 ∧ j = p then 0 else if c = 14 ∧ j = p then 0 else if (6 ≤ c ∧ c ≤ 9) ∧ j / 4 = p then 0 else σ c j := by
  unfold do4 clX
  simp only [up2_ap]
  by_cases h4 : 6 ≤ c ∧ c ≤ 9
  · have h1 : ¬ c = 12 := by omega
    have h9 : ¬ c = 14 := by omega
    by_cases hj : j / 4 = p
    · have hj2 : j = 4 * p + 0 ∨ j = 4 * p + 1 ∨ j = 4 * p + 2 ∨ j = 4 * p + 3 := by omega
      rcases (show c = 6 ∨ c = 7 ∨ c = 8 ∨ c = 9 by omega) with rfl | rfl | rfl | rfl <;> rcases hj2 with rfl | rfl | rfl | rfl <;> simp [hj]
    · have n0 : ¬ j = 4 * p + 0 := by omega
      have n1 : ¬ j = 4 * p + 1 := by omega
      have n2 : ¬ j = 4 * p + 2 := by omega
      have n3 : ¬ j = 4 * p + 3 := by omega
      have n4 : ¬ j = 4 * p := by omega
      simp [h1, h9, hj, n4, n1, n2, n3]
  · have a4 : ¬ c = 6 := by omega
    have a5 : ¬ c = 7 := by omega
    have a6 : ¬ c = 8 := by omega
    have a7 : ¬ c = 9 := by omega
    simp [a4, a5, a6, a7]
    by_cases c8 : c = 12
    · subst c8; simp
    · by_cases c9 : c = 14
      · subst c9; simp
      · simp [c8, c9]
        intro q1 q2
        exact absurd ⟨q1, q2⟩ h4
/-! the graph changes -/
theorem same2_sym (c d a b : Nat) : same2 c d a b = same2 c d b a := by
  unfold same2
  exact Bool.or_comm _ _
theorem same2_iff {c d a b : Nat} : same2 c d a b = true ↔ (c = a ∧ d = b) ∨ (c = b ∧ d = a) := by
  unfold same2
  rw [Bool.or_eq_true, Bool.and_eq_true, Bool.and_eq_true]
  constructor
  · rintro (h | h)
    · exact Or.inl ⟨bz h.1, bz h.2⟩
    · exact Or.inr ⟨bz h.1, bz h.2⟩
  · rintro (h | h)
    · exact Or.inl ⟨bnz h.1, bnz h.2⟩
    · exact Or.inr ⟨bnz h.1, bnz h.2⟩
theorem G_add (G : GR pe g) {a b : Nat} (ha : a < 5) (hb : b < 5) (hw : way g a b = 0) : ∃ g', g' < 1024 ∧ acyc g' = true ∧ ∀ c d, c < 5 → d < 5 → adjm g' c d = (adjm g c d || same2 c d a b) := by
  have core : ∀ a b, a < 5 → b < 5 → a < b → way g a b = 0 → ∃ g', g' < 1024 ∧ acyc g' = true ∧ ∀ c d, c < 5 → d < 5 → adjm g' c d = (adjm g c d || same2 c d a b) := by
    intro a b ha hb hab hw
    have h1 := all5_at (all5_at (f_use fA G.1 G.2.1) a ha) b hb
    have h2 : Nat.ble b a = false := by
      rw [← Bool.not_eq_true]
      intro q
      have := Nat.le_of_ble_eq_true q
      omega
    rw [h2, bnz hw] at h1
    simp only [Bool.not_true, Bool.false_or, Bool.and_eq_true] at h1
    refine ⟨addE g a b, ?_, h1.2.1, fun c d hc hd => beqB_eq (all5_at (all5_at h1.2.2 c hc) d hd)⟩
    have := h1.1
    exact Nat.le_of_ble_eq_true this
  rcases Nat.lt_trichotomy a b with h | h | h
  · exact core a b ha hb h hw
  · subst h
    rw [W_self G ha] at hw
    cases hw
  · obtain ⟨g', q1, q2, q3⟩ := core b a hb ha h ((W_sym G ha hb).mp hw)
    exact ⟨g', q1, q2, fun c d hc hd => by rw [q3 c d hc hd, same2_sym]⟩
theorem G_del (G : GR pe g) {a b : Nat} (ha : a < 5) (hb : b < 5) (hw : adjm g a b = true) : ∃ g', g' < 1024 ∧ acyc g' = true ∧ ∀ c d, c < 5 → d < 5 → adjm g' c d = (adjm g c d && !(same2 c d a b)) := by
  have core : ∀ a b, a < 5 → b < 5 → a < b → adjm g a b = true → ∃ g', g' < 1024 ∧ acyc g' = true ∧ ∀ c d, c < 5 → d < 5 → adjm g' c d = (adjm g c d && !(same2 c d a b)) := by
    intro a b ha hb hab hw
    have h1 := all5_at (all5_at (f_use fD G.1 G.2.1) a ha) b hb
    have h2 : Nat.ble b a = false := by
      rw [← Bool.not_eq_true]
      intro q
      have := Nat.le_of_ble_eq_true q
      omega
    rw [h2, hw] at h1
    simp only [Bool.not_true, Bool.false_or, Bool.and_eq_true] at h1
    refine ⟨delE g a b, ?_, h1.2.1, fun c d hc hd => beqB_eq (all5_at (all5_at h1.2.2 c hc) d hd)⟩
    have := h1.1
    exact Nat.le_of_ble_eq_true this
  rcases Nat.lt_trichotomy a b with h | h | h
  · exact core a b ha hb h hw
  · subst h
    rw [A_irr G ha] at hw
    cases hw
  · obtain ⟨g', q1, q2, q3⟩ := core b a hb ha h (by rw [A_sym G hb ha]; exact hw)
    exact ⟨g', q1, q2, fun c d hc hd => by rw [q3 c d hc hd, same2_sym]⟩
def lk (pe : Nat → Nat) (p q : Nat) : Nat → Nat := fun r => if r = p then q else if r = q then p else pe r
theorem lk_p (pe : Nat → Nat) (p q : Nat) : lk pe p q p = q := if_pos rfl
theorem lk_q {pe : Nat → Nat} {p q : Nat} (h : p ≠ q) : lk pe p q q = p := by unfold lk; rw [if_neg (Ne.symm h), if_pos rfl]
theorem lk_o {pe : Nat → Nat} {p q r : Nat} (h1 : r ≠ p) (h2 : r ≠ q) : lk pe p q r = pe r := by unfold lk; rw [if_neg h1, if_neg h2]
theorem Fo_link (hF : Fo pe) (G : GR pe g) {p q : Nat} (hp : p < 20) (hq : q < 20) (fp : ¬ pe p < 28) (fq : ¬ pe q < 28) (hw : way g (p / 4) (q / 4) = 0) : Fo (lk pe p q) := by
  have hab : p / 4 ≠ q / 4 := fun e => by rw [← e, W_self G (by omega)] at hw; cases hw
  have hpq : p ≠ q := fun e => hab (by rw [e])
  have nadj : ∀ r, r < 20 → pe r < 20 → r / 4 = p / 4 → pe r / 4 = q / 4 → False := by
    intro r h1 h2 h3 h4
    have ad := (G.2.2 (p / 4) (q / 4) (by omega) (by omega)).mpr ⟨r, h1, h3, h2, h4⟩
    have wa := W_adj G (show p / 4 < 5 by omega) (show p / 4 < 5 by omega) (show q / 4 < 5 by omega) ad
    have := wa.1.mpr hw
    rw [W_self G (by omega)] at this
    cases this
  have nadj2 : ∀ r, r < 20 → pe r < 20 → r / 4 = q / 4 → pe r / 4 = p / 4 → False := by
    intro r h1 h2 h3 h4
    have ad := (G.2.2 (q / 4) (p / 4) (by omega) (by omega)).mpr ⟨r, h1, h3, h2, h4⟩
    rw [A_sym G (by omega) (by omega)] at ad
    have wa := W_adj G (show p / 4 < 5 by omega) (show p / 4 < 5 by omega) (show q / 4 < 5 by omega) ad
    have := wa.1.mpr hw
    rw [W_self G (by omega)] at this
    cases this
  refine ⟨?_, ?_⟩
  · intro r s h1 h2 h3 h4 h5 h6
    by_cases rp : r = p
    · by_cases sp : s = p
      · omega
      · by_cases sq : s = q
        · rw [rp, sq] at h5; exact absurd h5 hab
        · rw [lk_o sp sq] at h4 h6
          rw [rp, lk_p] at h6
          exact (nadj s h2 h4 (by rw [← h5, rp]) h6.symm).elim
    · by_cases rq : r = q
      · by_cases sp : s = p
        · rw [rq, sp] at h5; exact absurd h5.symm hab
        · by_cases sq : s = q
          · omega
          · rw [lk_o sp sq] at h4 h6
            rw [rq, lk_q hpq] at h6
            exact (nadj2 s h2 h4 (by rw [← h5, rq]) h6.symm).elim
      · rw [lk_o rp rq] at h3 h6
        by_cases sp : s = p
        · rw [sp, lk_p] at h6
          exact (nadj r h1 h3 (by rw [h5, sp]) h6).elim
        · by_cases sq : s = q
          · rw [sq, lk_q hpq] at h6
            exact (nadj2 r h1 h3 (by rw [h5, sq]) h6).elim
          · rw [lk_o sp sq] at h4 h6
            exact hF.1 r s h1 h2 h3 h4 h5 h6
  · obtain ⟨g', q1, q2, q3⟩ := G_add G (show p / 4 < 5 by omega) (show q / 4 < 5 by omega) hw
    refine ⟨g', q1, q2, fun c d hc hd => ?_⟩
    rw [q3 c d hc hd, Bool.or_eq_true, same2_iff, G.2.2 c d hc hd]
    constructor
    · rintro (⟨r, r1, r2, r3, r4⟩ | ⟨e1, e2⟩ | ⟨e1, e2⟩)
      · have n1 : r ≠ p := fun e => fp (by rw [← e]; omega)
        have n2 : r ≠ q := fun e => fq (by rw [← e]; omega)
        exact ⟨r, r1, r2, by rw [lk_o n1 n2]; exact r3, by rw [lk_o n1 n2]; exact r4⟩
      · exact ⟨p, hp, e1.symm, by rw [lk_p]; exact hq, by rw [lk_p]; exact e2.symm⟩
      · exact ⟨q, hq, e1.symm, by rw [lk_q hpq]; exact hp, by rw [lk_q hpq]; exact e2.symm⟩
    · rintro ⟨r, r1, r2, r3, r4⟩
      by_cases rp : r = p
      · rw [rp, lk_p] at r4
        exact Or.inr (Or.inl ⟨by rw [← r2, rp], r4.symm⟩)
      · by_cases rq : r = q
        · rw [rq, lk_q hpq] at r4
          exact Or.inr (Or.inr ⟨by rw [← r2, rq], r4.symm⟩)
        · rw [lk_o rp rq] at r3 r4
          exact Or.inl ⟨r, r1, r2, r3, r4⟩
def un (pe : Nat → Nat) (p q : Nat) : Nat → Nat := fun r => if r = p ∨ r = q then 99 else pe r
theorem un_h {pe : Nat → Nat} {p q r : Nat} (h : r = p ∨ r = q) : un pe p q r = 99 := if_pos h
theorem un_o {pe : Nat → Nat} {p q r : Nat} (h : ¬ (r = p ∨ r = q)) : un pe p q r = pe r := if_neg h
theorem Fo_cut (hPE : PE pe nb nh) (hF : Fo pe) {p : Nat} (hp : p < 20) (hl : pe p < 20) : Fo (un pe p (pe p)) := by
  obtain ⟨U, g, G⟩ := hF
  have hinv : pe (pe p) = p := hPE.2.2.1 p (by omega) (by omega)
  have lin : ∀ r, un pe p (pe p) r < 20 → ¬ (r = p ∨ r = pe p) ∧ pe r < 20 := by
    intro r h
    by_cases c : r = p ∨ r = pe p
    · rw [un_h c] at h; omega
    · rw [un_o c] at h; exact ⟨c, h⟩
  refine ⟨?_, ?_⟩
  · intro r s h1 h2 h3 h4 h5 h6
    obtain ⟨r1, r2⟩ := lin r h3
    obtain ⟨s1, s2⟩ := lin s h4
    rw [un_o r1, un_o s1] at h6
    exact U r s h1 h2 r2 s2 h5 h6
  · have ad : adjm g (p / 4) (pe p / 4) = true := (G.2.2 _ _ (by omega) (by omega)).mpr ⟨p, hp, rfl, hl, rfl⟩
    obtain ⟨g', q1, q2, q3⟩ := G_del G (show p / 4 < 5 by omega) (show pe p / 4 < 5 by omega) ad
    refine ⟨g', q1, q2, fun c d hc hd => ?_⟩
    have sn : ∀ {b : Bool}, ((!b) = true ↔ ¬ b = true) := by intro b; cases b <;> simp
    rw [q3 c d hc hd, Bool.and_eq_true, sn, same2_iff, G.2.2 c d hc hd]
    constructor
    · rintro ⟨⟨r, r1, r2, r3, r4⟩, hn⟩
      have c1 : ¬ (r = p ∨ r = pe p) := by
        rintro (e | e)
        · exact hn (Or.inl ⟨by rw [← r2, e], by rw [← r4, e]⟩)
        · exact hn (Or.inr ⟨by rw [← r2, e], by rw [← r4, e, hinv]⟩)
      exact ⟨r, r1, r2, by rw [un_o c1]; exact r3, by rw [un_o c1]; exact r4⟩
    · rintro ⟨r, r1, r2, r3, r4⟩
      obtain ⟨c1, c2⟩ := lin r r3
      rw [un_o c1] at r4
      refine ⟨⟨r, r1, r2, c2, r4⟩, ?_⟩
      rintro (⟨e1, e2⟩ | ⟨e1, e2⟩)
      · exact c1 (Or.inl (U r p r1 hp c2 hl (by rw [r2, e1]) (by rw [r4, e2])))
      · exact c1 (Or.inr (U r (pe p) r1 hl c2 (by rw [hinv]; exact hp) (by rw [r2, e1]) (by rw [r4, e2, hinv])))
theorem Fo_host (hF : Fo pe) {p h : Nat} (hp : p < 20) (fp : ¬ pe p < 28) : Fo (lk pe p (20 + h)) := by
  have lin : ∀ r, r < 20 → (lk pe p (20 + h) r < 20 ↔ r ≠ p ∧ pe r < 20) ∧ (r ≠ p → lk pe p (20 + h) r = pe r) := by
    intro r hr
    refine ⟨?_, fun n => lk_o n (by omega)⟩
    by_cases e : r = p
    · subst e
      rw [lk_p]
      exact ⟨fun q => by omega, fun q => absurd rfl q.1⟩
    · rw [lk_o e (by omega)]
      exact ⟨fun q => ⟨e, q⟩, fun q => q.2⟩
  obtain ⟨U, g, G⟩ := hF
  refine ⟨?_, g, G.1, G.2.1, fun c d hc hd => ?_⟩
  · intro r s h1 h2 h3 h4 h5 h6
    have a1 := (lin r h1).1.mp h3
    have a2 := (lin s h2).1.mp h4
    rw [(lin r h1).2 a1.1, (lin s h2).2 a2.1] at h6
    exact U r s h1 h2 a1.2 a2.2 h5 h6
  · rw [G.2.2 c d hc hd]
    constructor
    · rintro ⟨r, r1, r2, r3, r4⟩
      have n : r ≠ p := fun e => fp (by rw [← e]; omega)
      exact ⟨r, r1, r2, (lin r r1).1.mpr ⟨n, r3⟩, by rw [(lin r r1).2 n]; exact r4⟩
    · rintro ⟨r, r1, r2, r3, r4⟩
      have a1 := (lin r r1).1.mp r3
      rw [(lin r r1).2 a1.1] at r4
      exact ⟨r, r1, r2, a1.2, r4⟩
end
