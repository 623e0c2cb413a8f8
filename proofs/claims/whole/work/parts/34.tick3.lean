/-! ===== part 3 of a tick ===== -/
def lvS (a b l k : Nat) (σ : St) : St := if σ a k = 1 then up2 (up2 σ a k 2) b k (σ 0 l) else σ
def agS (a b k : Nat) (σ : St) : St := if σ a k = 2 then up2 (up2 σ a k 1) b k 1 else σ
def msg (a k : Nat) (σ : St) : Int32 := if σ a k = 1 then 1 else if σ a k = 3 then 2 else 0
def nxS (a b k : Nat) (σ : St) : St := if σ a k = 1 then (if σ b k - 1 = 0 then up2 (up2 σ b k (σ b k - 1)) a k 2 else up2 σ b k (σ b k - 1)) else if σ a k = 3 then up2 σ a k 0 else σ
def cnt (a k : Nat) (σ : St) : Int32 := if msg a k σ = 0 then 0 else 1
def acc4 (c : Nat → St → Int32) (f : Nat → St → St) (v : Int32) (σ : St) : Int32 := v + c 0 σ + c 1 (f 0 σ) + c 2 (f 1 (f 0 σ)) + c 3 (f 2 (f 1 (f 0 σ)))
theorem do4_relI {R : Nat → St → St → Prop} {f g : Nat → St → St} {x m : St} (hf : ∀ (i : Nat) (x m : St), i < 4 → R i x m → R (i + 1) (f i x) (g i m)) (h : R 0 x m) : R 4 (do4 f x) (do4 g m) :=
  hf 3 _ _ (by omega) (hf 2 _ _ (by omega) (hf 1 _ _ (by omega) (hf 0 _ _ (by omega) h)))
theorem acc4_eq {R : Nat → St → St → Prop} {f g : Nat → St → St} {cx cm : Nat → St → Int32} {x m : St} (v : Int32) (hf : ∀ (i : Nat) (x m : St), i < 4 → R i x m → R (i + 1) (f i x) (g i m)) (hc : ∀ (i : Nat) (x m : St), i < 4 → R i x m → cx i x = cm i m) (h : R 0 x m) : acc4 cx f v x = acc4 cm g v m := by
  have h1 := hf 0 _ _ (by omega) h
  have h2 := hf 1 _ _ (by omega) h1
  have h3 := hf 2 _ _ (by omega) h2
  unfold acc4
  rw [hc 0 _ _ (by omega) h, hc 1 _ _ (by omega) h1, hc 2 _ _ (by omega) h2, hc 3 _ _ (by omega) h3]
section
variable {pe : Nat → Nat} {nb nh : Nat} {x m : St}
theorem lvS_c {a b l k c j : Nat} {σ : St} (h1 : c ≠ a) (h2 : c ≠ b) : lvS a b l k σ c j = σ c j := by
  unfold lvS
  split
  · rw [up2_c h2, up2_c h1]
  · rfl
theorem agS_c {a b k c j : Nat} {σ : St} (h1 : c ≠ a) (h2 : c ≠ b) : agS a b k σ c j = σ c j := by
  unfold agS
  split
  · rw [up2_c h2, up2_c h1]
  · rfl
theorem nxS_c {a b k c j : Nat} {σ : St} (h1 : c ≠ a) (h2 : c ≠ b) : nxS a b k σ c j = σ c j := by
  unfold nxS
  split
  · split
    · rw [up2_c h1, up2_c h2]
    · rw [up2_c h2]
  · split
    · rw [up2_c h1]
    · rfl
theorem lv_rel {k : Nat} (h : SD pe nb nh x m) (hk : k < 80) (hc : pe (k / 4) < 28) : SD pe nb nh (lvS 6 7 8 k x) (lvS 4 5 6 k m) := by
  unfold lvS
  rw [← h.2.2.1 k hk, ← h.2.1.1]
  split
  · exact D_tim (D_reg h hk hc _) hk hc _
  · exact h
theorem ag_rel {k : Nat} (h : SD pe nb nh x m) (hk : k < 80) (hc : pe (k / 4) < 28) : SD pe nb nh (agS 8 9 k x) (agS 6 7 k m) := by
  unfold agS
  rw [← h.2.2.2.2.1 k hk]
  split
  · exact D_app1 h hk hc _
  · exact h
theorem agh_rel {k : Nat} (h : SD pe nb nh x m) (hk : k < 32) (hc : k / 4 < nh) : SD pe nb nh (agS 8 9 (80 + k) x) (agS 10 11 k m) := by
  unfold agS
  rw [← h.2.2.2.2.2.2.1 k hk]
  split
  · exact H_app1 h hk hc _
  · exact h
theorem nx_rel {k : Nat} (h : SD pe nb nh x m) (hk : k < 80) (hc : pe (k / 4) < 28) : SD pe nb nh (nxS 8 9 k x) (nxS 6 7 k m) := by
  unfold nxS
  rw [← h.2.2.2.2.1 k hk]
  by_cases c1 : x 8 k = 1
  · simp only [c1, ↓reduceIte]
    rw [← h.2.2.2.2.2.1 k hk (by rw [← h.2.2.2.2.1 k hk]; exact c1)]
    split
    · exact D_app (D_j h hk _) hk hc 2 (by decide)
    · exact D_j h hk _
  · simp only [c1, ↓reduceIte]
    split
    · exact D_app h hk hc 0 (by decide)
    · exact h
theorem nxh_rel {k : Nat} (h : SD pe nb nh x m) (hk : k < 32) (hc : k / 4 < nh) : SD pe nb nh (nxS 8 9 (80 + k) x) (nxS 10 11 k m) := by
  unfold nxS
  rw [← h.2.2.2.2.2.2.1 k hk]
  by_cases c1 : x 8 (80 + k) = 1
  · simp only [c1, ↓reduceIte]
    rw [← h.2.2.2.2.2.2.2.1 k hk (by rw [← h.2.2.2.2.2.2.1 k hk]; exact c1)]
    split
    · exact H_app (H_j h hk _) hk hc 2 (by decide)
    · exact H_j h hk _
  · simp only [c1, ↓reduceIte]
    split
    · exact H_app h hk hc 0 (by decide)
    · exact h
theorem X_lv {k : Nat} (h : k < 80) (σ : St) : fX3_startLeaving (nI k) (σ 0 8) σ = some (lvS 6 7 8 k σ) := by
  unfold fX3_startLeaving fX3_change lvS
  simp (disch := omega) only [inb_nI, clN, ↓reduceIte, Option.bind_some]
  split <;> rfl
theorem X_ag {k : Nat} (h : k < 112) (σ : St) : fX0_declareAgain (nI k) σ = some (agS 8 9 k σ) := by
  unfold fX0_declareAgain fX0_change agS
  simp (disch := omega) only [inb_nI, clN, ↓reduceIte, Option.bind_some]
  split <;> rfl
theorem X_nx {k : Nat} (h : k < 112) (σ : St) : fX0_nextMessage (nI k) σ = some (msg 8 k σ, nxS 8 9 k σ) := by
  unfold fX0_nextMessage msg nxS
  simp (disch := omega) only [inb_nI, clN, ↓reduceIte, up2_hit]
  by_cases c1 : σ 8 k = 1
  · simp only [c1, ↓reduceIte]
    split <;> rfl
  · simp only [c1, ↓reduceIte]
    split <;> rfl
def obX (p i : Nat) (σ : St) : St := agS 8 9 (4 * p + i) (lvS 6 7 8 (4 * p + i) σ)
def obM (p i : Nat) (σ : St) : St := agS 6 7 (4 * p + i) (lvS 4 5 6 (4 * p + i) σ)
theorem X_ob {p : Nat} (h : p < 20) (σ : St) : fX4_obeyLeaveAll (nI p) σ = some (do4 (obX p) σ) := by
  unfold fX4_obeyLeaveAll
  refine loop1s_4 (fX4_obeyLeaveAll_b2 (nI p)) 0 (obX p) _ σ ?_ ?_
  · intro K i σ hi
    unfold fX4_obeyLeaveAll_b2 fX4_obeyLeaveAll_b32 fX4_cellOf obX
    simp (disch := omega) only [Nat.zero_add, n4le, em4, eaa, ea1, X_prtN, Option.bind_some, X_lv, X_ag, h, ↓reduceIte]
    rw [if_neg (by omega), if_neg (by decide)]
  · intro K
    unfold fX4_obeyLeaveAll_b2
    simp (disch := omega) only [Nat.zero_add, n4le, Nat.le_refl, ↓reduceIte, do4]
theorem X_obh {h : Nat} (hh : h < 8) (σ : St) : fX4_obeyLeaveAll (nI (20 + h)) σ = some (do4 (fun i => agS 8 9 (80 + (4 * h + i))) σ) := by
  unfold fX4_obeyLeaveAll
  refine loop1s_4 (fX4_obeyLeaveAll_b2 (nI (20 + h))) 0 (fun i => agS 8 9 (80 + (4 * h + i))) _ σ ?_ ?_
  · intro K i σ hi
    unfold fX4_obeyLeaveAll_b2 fX4_obeyLeaveAll_b32 fX4_cellOf
    simp (disch := omega) only [Nat.zero_add, n4le, em4, eaa, ea1, X_prtN, Option.bind_some, X_ag, show ¬ 20 + h < 20 by omega, ↓reduceIte]
    rw [if_neg (by omega), show 4 * (20 + h) + i = 80 + (4 * h + i) by omega]
  · intro K
    unfold fX4_obeyLeaveAll_b2
    simp (disch := omega) only [Nat.zero_add, n4le, Nat.le_refl, ↓reduceIte, do4]
theorem M_lva {p : Nat} (h : p < 20) (σ : St) : fX5_leavesAll (nI p) σ = some (do4 (obM p) σ) := by
  unfold fX5_leavesAll
  rw [e4m]
  refine loop1s_4 (fX5_leavesAll_b4 (nI p)) (4 * p) (obM p) _ σ ?_ ?_
  · intro K i σ hi
    unfold fX5_leavesAll_b4 fX5_leavesAll_b40 fX5_leavesAll_b64 obM lvS agS
    simp (disch := omega) only [e4m, ea4, ea1, leN, inb_nI, clN, ↓reduceIte]
    rw [if_neg (by omega)]
    by_cases c1 : σ 4 (4 * p + i) = 1
    · simp only [c1, ↓reduceIte]
      rw [up2_c (σ := σ) (c := 4) (c' := 0) (by omega)]
      by_cases c2 : up2 (up2 σ 4 (4 * p + i) 2) 5 (4 * p + i) (σ 0 6) 6 (4 * p + i) = 2
      · rw [if_pos c2, if_pos c2]
      · rw [if_neg c2, if_neg c2]
    · simp only [c1, ↓reduceIte]
      by_cases c2 : σ 6 (4 * p + i) = 2
      · rw [if_pos c2, if_pos c2]
      · rw [if_neg c2, if_neg c2]
  · intro K
    unfold fX5_leavesAll_b4
    simp (disch := omega) only [e4m, ea4, leN, Nat.le_refl, ↓reduceIte, do4, acc4]
theorem M_hla {h : Nat} (hh : h < 8) (σ : St) : fX5_hostLeavesAll (nI h) σ = some (do4 (fun i => agS 10 11 (4 * h + i)) σ) := by
  unfold fX5_hostLeavesAll
  rw [e4m]
  refine loop1s_4 (fX5_hostLeavesAll_b4 (nI h)) (4 * h) (fun i => agS 10 11 (4 * h + i)) _ σ ?_ ?_
  · intro K i σ hi
    unfold fX5_hostLeavesAll_b4 fX5_hostLeavesAll_b37 agS
    simp (disch := omega) only [e4m, ea4, ea1, leN, inb_nI, clN, ↓reduceIte]
    rw [if_neg (by omega)]
    by_cases c2 : σ 10 (4 * h + i) = 2
    · rw [if_pos c2, if_pos c2]
    · rw [if_neg c2, if_neg c2]
  · intro K
    unfold fX5_hostLeavesAll_b4
    simp (disch := omega) only [e4m, ea4, leN, Nat.le_refl, ↓reduceIte, do4, acc4]
theorem ob_rel {p i : Nat} (hp : p < 20) (hi : i < 4) (hc : pe p < 28) (h : SD pe nb nh x m) : SD pe nb nh (obX p i x) (obM p i m) := by
  have hq : pe ((4 * p + i) / 4) < 28 := by rw [show (4 * p + i) / 4 = p by omega]; exact hc
  exact ag_rel (lv_rel h (by omega) hq) (by omega) hq
theorem obX_c {p i c j : Nat} {σ : St} (h : c ≠ 6 ∧ c ≠ 7 ∧ c ≠ 8 ∧ c ≠ 9) : obX p i σ c j = σ c j := by
  unfold obX
  rw [agS_c h.2.2.1 h.2.2.2, lvS_c h.1 h.2.1]
theorem obM_c {p i c j : Nat} {σ : St} (h : c ≠ 4 ∧ c ≠ 5 ∧ c ≠ 6 ∧ c ≠ 7) : obM p i σ c j = σ c j := by
  unfold obM
  rw [agS_c h.2.2.1 h.2.2.2, lvS_c h.1 h.2.1]
/-- a station's messages -/
def snX (k : Nat) (σ : St) : St := up2 (nxS 8 9 k σ) 11 k (msg 8 k σ)
def snM (a b s k : Nat) (σ : St) : St := nxS a b k (up2 σ s k (msg a k σ))
theorem X_snd {q : Nat} (h : q < 28) (v : Int32) (σ : St) : fX4_sendFrom_b36 (nI q) v σ = some (acc4 (fun i => cnt 8 (4 * q + i)) (fun i => snX (4 * q + i)) v σ, do4 (fun i => snX (4 * q + i)) σ) := by
  unfold fX4_sendFrom_b36
  refine loop2s_4I (fX4_sendFrom_b38 (nI q)) (fun _ => True) 0 (fun i => snX (4 * q + i)) (fun i => cnt 8 (4 * q + i)) _ v σ trivial ?_ (fun _ _ _ _ => trivial) ?_
  · intro K i v σ hi _
    unfold fX4_sendFrom_b38 fX4_sendFrom_b85 fX4_cellOf snX cnt
    simp (disch := omega) only [Nat.zero_add, n4le, em4, eaa, ea1, X_nx, bind2, Option.bind_some, inb_nI, clN, ↓reduceIte, up2_hit]
    rw [if_neg (by omega)]
    by_cases c : msg 8 (4 * q + i) σ = 0
    · simp [c]
    · simp [c]
  · intro K
    unfold fX4_sendFrom_b38
    simp (disch := omega) only [Nat.zero_add, n4le, Nat.le_refl, ↓reduceIte, do4, acc4]
theorem M_snd {p : Nat} (h : p < 20) (v : Int32) (σ : St) : fX5_sendsOf_b31 (nI p) v σ = some (acc4 (fun i => cnt 6 (4 * p + i)) (fun i => snM 6 7 14 (4 * p + i)) v σ, do4 (fun i => snM 6 7 14 (4 * p + i)) σ) := by
  unfold fX5_sendsOf_b31
  rw [e4m]
  refine loop2s_4I (fX5_sendsOf_b35 (nI p)) (fun _ => True) (4 * p) (fun i => snM 6 7 14 (4 * p + i)) (fun i => cnt 6 (4 * p + i)) _ v σ trivial ?_ (fun _ _ _ _ => trivial) ?_
  · intro K i v σ hi _
    unfold fX5_sendsOf_b35 fX5_sendsOf_b78 fX5_sendsOf_b94 fX5_sendsOf_b135 fX5_sendsOf_b156 snM cnt msg nxS
    simp (disch := omega) only [e4m, ea4, ea1, leN, inb_nI, clN, ↓reduceIte, up2_hit]
    rw [if_neg (by omega)]
    by_cases c1 : σ 6 (4 * p + i) = 1
    · simp only [c1, ↓reduceIte, up2_ap]
      by_cases c2 : σ 7 (4 * p + i) - 1 = 0
      · simp [c1, c2]
      · simp [c1, c2]
        rw [up2_self (c := 6)]
        simp [up2_ap, c1]
    · by_cases c3 : σ 6 (4 * p + i) = 3
      · simp [c1, c3, up2_ap]
      · simp [c1, c3, up2_ap]
  · intro K
    unfold fX5_sendsOf_b35
    simp (disch := omega) only [e4m, ea4, leN, Nat.le_refl, ↓reduceIte, do4, acc4]
theorem M_sndh {h : Nat} (hh : h < 8) (σ : St) (hs : σ 3 h = 0) : fX5_sendsOfHost (nI h) σ = some (acc4 (fun i => cnt 10 (4 * h + i)) (fun i => snM 10 11 15 (4 * h + i)) 0 σ, do4 (fun i => snM 10 11 15 (4 * h + i)) σ) := by
  unfold fX5_sendsOfHost
  rw [e4m]
  refine loop2s_4I (fX5_sendsOfHost_b6 (nI h)) (fun σ => σ 3 h = 0) (4 * h) (fun i => snM 10 11 15 (4 * h + i)) (fun i => cnt 10 (4 * h + i)) _ 0 σ hs ?_ ?_ ?_
  · intro K i v σ hi hs
    unfold fX5_sendsOfHost_b6 fX5_sendsOfHost_b62 fX5_sendsOfHost_b78 fX5_sendsOfHost_b119 fX5_sendsOfHost_b140 snM cnt msg nxS
    simp (disch := omega) only [e4m, ea4, ea1, leN, inb_nI, clN, ↓reduceIte, up2_hit, hs]
    rw [if_neg (by omega)]
    by_cases c1 : σ 10 (4 * h + i) = 1
    · simp only [c1, ↓reduceIte, up2_ap]
      by_cases c2 : σ 11 (4 * h + i) - 1 = 0
      · simp [c1, c2]
      · simp [c1, c2]
        rw [up2_self (c := 10)]
        simp [up2_ap, c1]
    · by_cases c3 : σ 10 (4 * h + i) = 3
      · simp [c1, c3, up2_ap]
      · simp [c1, c3, up2_ap]
  · intro i σ hi hs
    unfold snM
    rw [nxS_c (by omega) (by omega), up2_c (by omega)]
    exact hs
  · intro K
    unfold fX5_sendsOfHost_b6
    simp (disch := omega) only [e4m, ea4, leN, Nat.le_refl, ↓reduceIte, do4, acc4]
theorem M_sndz {h : Nat} (hh : h < 8) (σ : St) (hs : ¬ σ 3 h = 0) : fX5_sendsOfHost (nI h) σ = some (acc4 (fun _ _ => 0) (fun i σ => up2 σ 15 (4 * h + i) 0) 0 σ, do4 (fun i σ => up2 σ 15 (4 * h + i) 0) σ) := by
  unfold fX5_sendsOfHost
  rw [e4m]
  refine loop2s_4I (fX5_sendsOfHost_b6 (nI h)) (fun σ => ¬ σ 3 h = 0) (4 * h) (fun i σ => up2 σ 15 (4 * h + i) 0) (fun _ _ => 0) _ 0 σ hs ?_ ?_ ?_
  · intro K i v σ hi hs
    unfold fX5_sendsOfHost_b6 fX5_sendsOfHost_b62 fX5_sendsOfHost_b78 fX5_sendsOfHost_b119 fX5_sendsOfHost_b140
    simp (disch := omega) only [e4m, ea4, ea1, leN, inb_nI, clN, ↓reduceIte, up2_hit, hs]
    rw [if_neg (by omega)]
    simp
  · intro i σ hi hs
    show ¬ up2 σ 15 (4 * h + i) 0 3 h = 0
    rw [up2_c (by omega)]
    exact hs
  · intro K
    unfold fX5_sendsOfHost_b6
    simp (disch := omega) only [e4m, ea4, leN, Nat.le_refl, ↓reduceIte, do4, acc4]
end
