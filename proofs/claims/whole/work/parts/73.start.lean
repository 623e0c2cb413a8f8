/-! ===== the law's loop, and its start ===== -/
section
variable {p : Program} {l : Launch} {e : Env} {s : State} {m : MethodId} {below : List Frame} {meth : Method} {c : Code} {D : va_G} {cyI cyZ : ClassId} {aX aM : Nat → Nat} {b L : Nat} {xs : Nat → Int32}
set_option maxHeartbeats 4000000 in
set_option maxRecDepth 100000 in
theorem law_sw (C : CL p s m c D cyI cyZ b L xs) {v3 : Int32} {x y : St} (hi1 : vp_in (v3 + 1) L) (hi2 : vp_in (v3 + 2) L) (hi3 : vp_in (v3 + 3) L) (hi4 : vp_in (v3 + 4) L) (hSim : Sim x y) (hk : ∀ x1 y1, Sim x1 y1 → JL p l e s m below meth c D cyI cyZ aX aM b x1 y1 821 [(0, .ref b), (1, .ref (aX 0)), (2, .ref (aM 0)), (3, .int v3)] []) (j : Nat) (hj : j < 32) : JL p l e s m below meth c D cyI cyZ aX aM b x y 32 [(0, .ref b), (1, .ref (aX 0)), (2, .ref (aM 0)), (3, .int v3)] [.int (nI j)] := by
  intro H locs ls hP hD hS hl
  have cs : j = 0 ∨ j = 1 ∨ j = 2 ∨ j = 3 ∨ j = 4 ∨ j = 5 ∨ j = 6 ∨ j = 7 ∨ j = 8 ∨ j = 9 ∨ j = 10 ∨ j = 11 ∨ j = 12 ∨ j = 13 ∨ j = 14 ∨ j = 15 ∨ j = 16 ∨ j = 17 ∨ j = 18 ∨ j = 19 ∨ j = 20 ∨ 21 ≤ j := by omega
  rcases cs with rfl | rfl | rfl | rfl | rfl | rfl | rfl | rfl | rfl | rfl | rfl | rfl | rfl | rfl | rfl | rfl | rfl | rfl | rfl | rfl | rfl | hj2
  · refine lv_tableIn (off := 100) (tgt := 132) C.1.1 C.1.2.1 dL_law_32 (by decide) (by decide) rfl (by decide) ?_
    exact case_0 C hSim hk H locs ls hP hD hS hl
  · refine lv_tableIn (off := 113) (tgt := 145) C.1.1 C.1.2.1 dL_law_32 (by decide) (by decide) rfl (by decide) ?_
    exact case_1 C hi1 hi2 hi3 hi4 hSim hk H locs ls hP hD hS hl
  · refine lv_tableIn (off := 166) (tgt := 198) C.1.1 C.1.2.1 dL_law_32 (by decide) (by decide) rfl (by decide) ?_
    exact case_2 C hi1 hi2 hSim hk H locs ls hP hD hS hl
  · refine lv_tableIn (off := 199) (tgt := 231) C.1.1 C.1.2.1 dL_law_32 (by decide) (by decide) rfl (by decide) ?_
    exact case_3 C hi1 hi2 hSim hk H locs ls hP hD hS hl
  · refine lv_tableIn (off := 232) (tgt := 264) C.1.1 C.1.2.1 dL_law_32 (by decide) (by decide) rfl (by decide) ?_
    exact case_4 C hi1 hi2 hSim hk H locs ls hP hD hS hl
  · refine lv_tableIn (off := 265) (tgt := 297) C.1.1 C.1.2.1 dL_law_32 (by decide) (by decide) rfl (by decide) ?_
    exact case_5 C hi1 hi2 hSim hk H locs ls hP hD hS hl
  · refine lv_tableIn (off := 298) (tgt := 330) C.1.1 C.1.2.1 dL_law_32 (by decide) (by decide) rfl (by decide) ?_
    exact case_6 C hi1 hi2 hSim hk H locs ls hP hD hS hl
  · refine lv_tableIn (off := 331) (tgt := 363) C.1.1 C.1.2.1 dL_law_32 (by decide) (by decide) rfl (by decide) ?_
    exact case_7 C hi1 hi2 hSim hk H locs ls hP hD hS hl
  · refine lv_tableIn (off := 380) (tgt := 412) C.1.1 C.1.2.1 dL_law_32 (by decide) (by decide) rfl (by decide) ?_
    exact case_8 C hi1 hi2 hSim hk H locs ls hP hD hS hl
  · refine lv_tableIn (off := 413) (tgt := 445) C.1.1 C.1.2.1 dL_law_32 (by decide) (by decide) rfl (by decide) ?_
    exact case_9 C hi1 hSim hk H locs ls hP hD hS hl
  · refine lv_tableIn (off := 436) (tgt := 468) C.1.1 C.1.2.1 dL_law_32 (by decide) (by decide) rfl (by decide) ?_
    exact case_10 C hSim hk H locs ls hP hD hS hl
  · refine lv_tableIn (off := 449) (tgt := 481) C.1.1 C.1.2.1 dL_law_32 (by decide) (by decide) rfl (by decide) ?_
    exact case_11 C hi1 hi2 hi3 hSim hk H locs ls hP hD hS hl
  · refine lv_tableIn (off := 492) (tgt := 524) C.1.1 C.1.2.1 dL_law_32 (by decide) (by decide) rfl (by decide) ?_
    exact case_12 C hi1 hi2 hi3 hSim hk H locs ls hP hD hS hl
  · refine lv_tableIn (off := 535) (tgt := 567) C.1.1 C.1.2.1 dL_law_32 (by decide) (by decide) rfl (by decide) ?_
    exact case_13 C hi1 hi2 hi3 hSim hk H locs ls hP hD hS hl
  · refine lv_tableIn (off := 578) (tgt := 610) C.1.1 C.1.2.1 dL_law_32 (by decide) (by decide) rfl (by decide) ?_
    exact case_14 C hi1 hi2 hSim hk H locs ls hP hD hS hl
  · refine lv_tableIn (off := 611) (tgt := 643) C.1.1 C.1.2.1 dL_law_32 (by decide) (by decide) rfl (by decide) ?_
    exact case_15 C hi1 hi2 hSim hk H locs ls hP hD hS hl
  · refine lv_tableIn (off := 644) (tgt := 676) C.1.1 C.1.2.1 dL_law_32 (by decide) (by decide) rfl (by decide) ?_
    exact case_16 C hSim hk H locs ls hP hD hS hl
  · refine lv_tableIn (off := 657) (tgt := 689) C.1.1 C.1.2.1 dL_law_32 (by decide) (by decide) rfl (by decide) ?_
    exact case_17 C hi1 hi2 hSim hk H locs ls hP hD hS hl
  · refine lv_tableIn (off := 690) (tgt := 722) C.1.1 C.1.2.1 dL_law_32 (by decide) (by decide) rfl (by decide) ?_
    exact case_18 C hi1 hi2 hSim hk H locs ls hP hD hS hl
  · refine lv_tableIn (off := 723) (tgt := 755) C.1.1 C.1.2.1 dL_law_32 (by decide) (by decide) rfl (by decide) ?_
    exact case_19 C hi1 hi2 hSim hk H locs ls hP hD hS hl
  · refine lv_tableIn (off := 756) (tgt := 788) C.1.1 C.1.2.1 dL_law_32 (by decide) (by decide) rfl (by decide) ?_
    exact case_20 C hi1 hi2 hSim hk H locs ls hP hD hS hl
  · refine lv_tableOut (tgt := 821) C.1.1 C.1.2.1 dL_law_32 (Or.inr (by rw [nI_toInt (by omega)]; omega)) (by decide) ?_
    exact hk x y hSim H locs ls hP hD hS hl
set_option maxHeartbeats 4000000 in
set_option maxRecDepth 100000 in
theorem law_loop (C : CL p s m c D cyI cyZ b L xs) (hL : L ≤ 2560) (hr : meth.sig.returnType = ret) (hlocks : meth.locks = false) : ∀ (n k : Nat) (x y : St), L + 5 ≤ 5 * k + n → 5 * k ≤ L → Sim x y → JL p l e s m below meth c D cyI cyZ aX aM b x y 18 [(0, .ref b), (1, .ref (aX 0)), (2, .ref (aM 0)), (3, .int (nI (5 * k)))] [] := by
  intro n
  induction n with
  | zero => intro k x y h1 h2; omega
  | succ n ih =>
    intro k x y h1 h2 hSim H locs ls hP hD hS hl
    have hx := C.1.1
    have hb := C.1.2.1
    refine lv_iload_n hx hb dL_law_18 rfl (lv_at hl 3 rfl) ?_
    refine lv_aload_n hx hb dL_law_19 rfl (lv_at hl 0 rfl) ?_
    refine va_slen hx hb C.2.2.2.1 C.2.2.2.2 (Nat.not_le.mpr C.2.2.2.2) hS dL_law_20 ?_
    refine lv_iconst (v := (5 : Int32)) hx hb dL_law_21 (by decide) ?_
    refine lv_isub hx hb dL_law_22 ?_
    have hend : W p l e room_1 s m #[Value.ref b] below meth c H locs 34 1329 (lw_Z below #[Value.ref b] s) (F0 m 827 ls []) := by
      refine lv_iconst (v := 1) hx hb dL_law_827 (by decide) ?_
      refine va_forget hS.2.2 ?_
      exact lw_ret hx hb hr hlocks dL_law_828
    refine lv_icmp_gt (tgt := 827) hx hb dL_law_23 (by decide) (fun _ => hend) (fun hc => ?_)
    have hle : 5 * k + 5 ≤ L := by
      apply Classical.byContradiction
      intro hn
      apply hc
      by_cases h5 : 5 ≤ L
      · rw [show Int32.ofNat L - 5 = nI (L - 5) from by rw [show Int32.ofNat L = nI L from rfl, show (5 : Int32) = nI 5 from rfl, pk_sub h5], ltN (by omega) (by omega)]
        omega
      · have hneg : nI L - nI 5 < 0 := pk_sneg (by omega) (by omega)
        exact Int32.lt_of_lt_of_le hneg (nI_pos' (by omega))
    have vin : ∀ t, t < 5 → vp_in (nI (5 * k + t)) L := fun t ht => vp_in_nI (by omega) (by omega)
    refine lv_aload_n hx hb dL_law_26 rfl (lv_at hl 0 rfl) ?_
    refine lv_iload_n hx hb dL_law_27 rfl (lv_at hl 3 rfl) ?_
    refine va_sld hx hb C.2.2.2.1 C.2.2.2.2 (Nat.not_le.mpr C.2.2.2.2) hS (vin 0 (by omega)) dL_law_28 ?_
    refine lv_bipush (v := (31 : Int32)) hx hb dL_law_29 (by decide) ?_
    refine lv_iand hx hb dL_law_31 ?_
    obtain ⟨j, hj, ej⟩ := pk_andE (xs (nI (5 * k)).toNatClampNeg) (m := 31) 5 (by decide)
    rw [ej]
    have i1 : vp_in (nI (5 * k) + 1) L := by rw [show (1 : Int32) = nI 1 from rfl, eaa]; exact vin 1 (by omega)
    have i2 : vp_in (nI (5 * k) + 2) L := by rw [show (2 : Int32) = nI 2 from rfl, eaa]; exact vin 2 (by omega)
    have i3 : vp_in (nI (5 * k) + 3) L := by rw [show (3 : Int32) = nI 3 from rfl, eaa]; exact vin 3 (by omega)
    have i4 : vp_in (nI (5 * k) + 4) L := by rw [show (4 : Int32) = nI 4 from rfl, eaa]; exact vin 4 (by omega)
    refine law_sw C i1 i2 i3 i4 hSim (fun x1 y1 hS1 => ?_) j hj H locs ls hP hD hS hl
    intro H locs ls hP hD hS hl
    refine lv_iinc (v := nI (5 * (k + 1))) (lv' := [(3, .int (nI (5 * (k + 1)))), (0, .ref b), (1, .ref (aX 0)), (2, .ref (aM 0))]) hx hb dL_law_821 hl (k := 3) rfl (by rw [show Int32.ofInt 5 = nI 5 from rfl, eaa, show 5 * k + 5 = 5 * (k + 1) by omega]) (by decide) rfl (fun ls hl => ?_)
    refine lv_goto (tgt := 18) hx hb dL_law_824 (by decide) ?_
    exact ih (k + 1) x1 y1 (by omega) (by omega) hS1 H locs ls hP hD hS (lv_sub hl [1, 2, 3, 0] rfl)
end
set_option maxHeartbeats 4000000 in
set_option maxRecDepth 100000 in
/-- THE LAW, from its entry -/
theorem whole_start {p : Program} {e : Env} {s : State} {m : MethodId} {below : List Frame} {meth : Method} {c : Code} (l : Launch) (hflags : l.flags = flags0) {b L : Nat} {xs : Nat → Int32} (hL : L ≤ 2560) (C0 : lw_At p s m meth c b L xs) : W p l e room_1 s m #[Value.ref b] below meth c s.heap [] 0 0 (lw_Z below #[Value.ref b] s) (entryFrame m ([Value.ref b] : List Value).toArray 4) := by
  obtain ⟨hx, hb, hr, hml, hown0, hts0, hX, hbl, hlocks, hgv⟩ := id C0
  have hts : ∀ w ∈ wsL_law, w.before #[Value.ref b] s = true := fun w h => hts0 w (wsL_law_in w h)
  have hown : s.vm.findClass RL = some m.cls := hown0
  have hN : NW s := fun w hw => va_Nw.of (nest_tab w hw) (hts0 w (nest_in w hw))
  have hA : ∀ q : Nat, s.heap.size ≤ q → (fun q : Nat => s.heap.size ≤ q) q := fun _ h => h

  obtain ⟨c0, iS0, hKn0⟩ := u_known (C := RX0) (T := TX0) (N := 2) (n := 2) hts0 inX0 (hts0 (.instantiable RX0 2) (lw_mem 119 rfl))
  obtain ⟨c1, iS1, hKn1⟩ := u_known (C := RX1) (T := TX1) (N := 4) (n := 4) hts0 inX1 (hts0 (.instantiable RX1 4) (lw_mem 76 rfl))
  obtain ⟨c2, iS2, hKn2⟩ := u_known (C := RX2) (T := TX2) (N := 2) (n := 2) hts0 inX2 (hts0 (.instantiable RX2 2) (lw_mem 134 rfl))
  obtain ⟨c3, iS3, hKn3⟩ := u_known (C := RX3) (T := TX3) (N := 2) (n := 2) hts0 inX3 (hts0 (.instantiable RX3 2) (lw_mem 103 rfl))
  obtain ⟨c4, iS4, hKn4⟩ := u_known (C := RX4) (T := TX4) (N := 11) (n := 11) hts0 inX4 (hts0 (.instantiable RX4 11) (lw_mem 68 rfl))
  obtain ⟨c5, iS5, hKn5⟩ := u_known (C := RX5) (T := TX5) (N := 23) (n := 23) hts0 inX5 (hts0 (.instantiable RX5 23) (lw_mem 454 rfl))
  obtain ⟨cyI, kI, compI, fI, gI, kindI⟩ := Cond.arrayClass_spec (hts0 (.arrayClass .int) (lw_mem 101 rfl))
  obtain ⟨cyZ, kZ, compZ, fZ, gZ, kindZ⟩ := Cond.arrayClass_spec (hts0 (.arrayClass .boolean) (lw_mem 148 rfl))
  obtain ⟨dC, dI, hKc⟩ : ∃ (dC : Nat → ClassId) (dI : Nat → Nat → Nat), ∀ (k : Nat) (q : vw_C), vwCl[k]? = some q → u_Kn s q.1 q.2.1 q.2.2 (dC k) (dI k) := by
    refine ⟨fun k => if k = 0 then c0 else if k = 1 then c1 else if k = 2 then c2 else if k = 3 then c3 else if k = 4 then c4 else c5, fun k => if k = 0 then iS0 else if k = 1 then iS1 else if k = 2 then iS2 else if k = 3 then iS3 else if k = 4 then iS4 else iS5, ?_⟩
    intro k q hq
    match k, hq with
    | 0, hq => cases hq; exact hKn0
    | 1, hq => cases hq; exact hKn1
    | 2, hq => cases hq; exact hKn2
    | 3, hq => cases hq; exact hKn3
    | 4, hq => cases hq; exact hKn4
    | 5, hq => cases hq; exact hKn5
    | k + 6, hq => simp [vwCl] at hq
  have hS : va_S (fun q : Nat => s.heap.size ≤ q) s.heap s.heap [] := va_S.rf
  have hK : va_K (dC, dI) vwCl (tysU cyI cyZ) s := by
    refine ⟨hKc, fun k q h => ?_⟩
    match k, h with
    | 0, h => cases h; exact ⟨fun n z => ⟨fun k h => (by cases h), kI, gI, compI, kindI⟩, fI⟩
    | 1, h => cases h; exact ⟨fun n z => ⟨fun k h => (by cases h), kZ, gZ, compZ, kindZ⟩, fZ⟩
    | k + 2, h => simp [tysU] at h
  have hP : va_P (dC, dI) vwCl [] s.heap := fun k q h => by simp at h
  have hD : va_D (fun q : Nat => s.heap.size ≤ q) [] := ⟨fun i j p q h => by simp at h, fun k q h => by simp at h⟩
  have hl := lv_entry ([.ref b]) (n := 4) (Nat.le_of_ble_eq_true rfl)
  rw [lg_entry_eq]
  generalize (lg_sl ([.ref b]) ++ List.replicate (4 - (lg_sl ([.ref b])).length) Slot.unset).toArray = ls at hl ⊢
  have hl : lv_has ls 4 [(0, .ref b)] := hl

  refine va_new (ci := 4) (fs := [.null, .null, .null, .null, .null, .null, .null, .null, .int 0, .int 0, .int 0]) (C := RX4) (T := TX4) (N := 11) hx hb hts0 inX4 tyX4 tyX4_ok hown (hts0 (.classLink RL 7 RX4) (lw_mem 67 rfl)) (hts0 (.instantiable RX4 11) (lw_mem 68 rfl)) (hts0 (.initialized RX4) (lw_mem 60 rfl)) hK hP hD hS hA rfl (fun j hj => by rcases (show j = 0 ∨ j = 1 ∨ j = 2 ∨ j = 3 ∨ j = 4 ∨ j = 5 ∨ j = 6 ∨ j = 7 ∨ j = 8 ∨ j = 9 ∨ j = 10 by omega) with rfl | rfl | rfl | rfl | rfl | rfl | rfl | rfl | rfl | rfl | rfl <;> rfl) (Nat.le_of_ble_eq_true rfl) (Nat.le_of_ble_eq_true rfl) dL_law_0 (fun qx H hP hD hS => ?_)
  have hP : va_P (dC, dI) vwCl [(qx, .inr (4, [.null, .null, .null, .null, .null, .null, .null, .null, .int 0, .int 0, .int 0]))] H := hP
  have hD : va_D (fun q : Nat => s.heap.size ≤ q) [(qx, .inr (4, [.null, .null, .null, .null, .null, .null, .null, .null, .int 0, .int 0, .int 0]))] := hD
  refine lv_dup hx hb dL_law_3 rfl ?_
  have hFc := va_free (wc := [(qx, .inr (4, [.null, .null, .null, .null, .null, .null, .null, .null, .int 0, .int 0, .int 0]))]) hD hS hA [0] rfl
  refine va_callv (va_runI (As := []) (rest := [.ref qx]) ⟨hx, hb, hml, hown, hts⟩ (kX4_init l (dC, dI) cyI cyZ qx H.size) (cwI 0 hts gL_law_X4_init rfl rfl rfl (hts0 (.initialized RX4) (lw_mem 60 rfl)) (hts0 (.methodLink RL 9 yX4_init) (lw_mem 69 rfl)) (hts0 (.instanceMethod yX4_init) (lw_mem 70 rfl)) rfl (by decide +kernel) ⟨Nat.le_of_ble_eq_true rfl, Nat.le_of_ble_eq_true rfl⟩) ⟨PreK.blind, fun U hU hW => ⟨rfl, by rw [hU], by rw [hU]; exact hP, va_K.moved hW.alike hK, hD.weaken (fun _ _ _ _ => trivial), NW.warm hW hN⟩⟩ rfl rfl hl.1 rfl (lv_room (Nat.le_of_ble_eq_true rfl)) dL_law_4 ⟨Nat.le_of_ble_eq_true rfl, Nat.le_of_ble_eq_true rfl⟩) hS (fun q _ h => hFc q h) hFc (fun ux t H1 locs1 ht hvm hwx hB hz1 hk1 hS => ?_)
  obtain ⟨hP1, hK1, hD1⟩ := hB
  rw [ht] at hP1
  have hDn := hD1.weaken (B := fun q : Nat => s.heap.size ≤ q) (fun _ _ _ h => hFc _ h)
  clear hP hD
  obtain ⟨aX, x0⟩ := ux
  have hP : va_P (dC, dI) vwCl (wX aX cyI cyZ x0) H1 := hP1
  have hD : va_D (fun q : Nat => s.heap.size ≤ q) (wX aX cyI cyZ x0) := hDn
  clear hP1 hk1 hz1 ht
  generalize H1 = H at hP hS ⊢
  obtain ⟨ha0, hx0⟩ := hwx
  have ha0 : aX 0 = qx := ha0
  rw [← ha0]
  refine lv_astore_n (lv' := [(1, .ref (aX 0)), (0, .ref b)]) hx hb dL_law_7 rfl hl (by decide) rfl (fun ls hl => ?_)
  refine va_new (ci := 5) (fs := [.int 0, .int 0, .int 0, .null, .null, .null, .int 0, .int 0, .int 0, .null, .null, .null, .null, .null, .null, .null, .null, .null, .null, .null, .null, .null, .null]) (C := RX5) (T := TX5) (N := 23) hx hb hts0 inX5 tyX5 tyX5_ok hown (hts0 (.classLink RL 10 RX5) (lw_mem 453 rfl)) (hts0 (.instantiable RX5 23) (lw_mem 454 rfl)) (hts0 (.initialized RX5) (lw_mem 66 rfl)) hK hP hD hS hA rfl (fun j hj => by rcases (show j = 0 ∨ j = 1 ∨ j = 2 ∨ j = 3 ∨ j = 4 ∨ j = 5 ∨ j = 6 ∨ j = 7 ∨ j = 8 ∨ j = 9 ∨ j = 10 ∨ j = 11 ∨ j = 12 ∨ j = 13 ∨ j = 14 ∨ j = 15 ∨ j = 16 ∨ j = 17 ∨ j = 18 ∨ j = 19 ∨ j = 20 ∨ j = 21 ∨ j = 22 by omega) with rfl | rfl | rfl | rfl | rfl | rfl | rfl | rfl | rfl | rfl | rfl | rfl | rfl | rfl | rfl | rfl | rfl | rfl | rfl | rfl | rfl | rfl | rfl <;> rfl) (Nat.le_of_ble_eq_true rfl) (Nat.le_of_ble_eq_true rfl) dL_law_8 (fun qm H hP hD hS => ?_)
  have hP : va_P (dC, dI) vwCl (wX aX cyI cyZ x0 ++ [(qm, .inr (5, [.int 0, .int 0, .int 0, .null, .null, .null, .int 0, .int 0, .int 0, .null, .null, .null, .null, .null, .null, .null, .null, .null, .null, .null, .null, .null, .null]))]) H := hP
  have hD : va_D (fun q : Nat => s.heap.size ≤ q) (wX aX cyI cyZ x0 ++ [(qm, .inr (5, [.int 0, .int 0, .int 0, .null, .null, .null, .int 0, .int 0, .int 0, .null, .null, .null, .null, .null, .null, .null, .null, .null, .null, .null, .null, .null, .null]))]) := hD
  refine lv_dup hx hb dL_law_11 rfl ?_
  have hPc := hP.sub (ws' := [(qm, .inr (5, [.int 0, .int 0, .int 0, .null, .null, .null, .int 0, .int 0, .int 0, .null, .null, .null, .null, .null, .null, .null, .null, .null, .null, .null, .null, .null, .null]))]) [16] rfl
  have hDc := hD.sub (ws' := [(qm, .inr (5, [.int 0, .int 0, .int 0, .null, .null, .null, .int 0, .int 0, .int 0, .null, .null, .null, .null, .null, .null, .null, .null, .null, .null, .null, .null, .null, .null]))]) [16] (by decide) rfl
  have hFc := va_free (wc := [(qm, .inr (5, [.int 0, .int 0, .int 0, .null, .null, .null, .int 0, .int 0, .int 0, .null, .null, .null, .null, .null, .null, .null, .null, .null, .null, .null, .null, .null, .null]))]) hD hS hA [16] rfl
  refine va_callv (va_runI (As := []) (rest := [.ref qm]) ⟨hx, hb, hml, hown, hts⟩ (kX5_init l (dC, dI) cyI cyZ qm H.size) (cwI 0 hts gL_law_X5_init rfl rfl rfl (hts0 (.initialized RX5) (lw_mem 66 rfl)) (hts0 (.methodLink RL 12 yX5_init) (lw_mem 455 rfl)) (hts0 (.instanceMethod yX5_init) (lw_mem 456 rfl)) rfl (by decide +kernel) ⟨Nat.le_of_ble_eq_true rfl, Nat.le_of_ble_eq_true rfl⟩) ⟨PreK.blind, fun U hU hW => ⟨rfl, by rw [hU], by rw [hU]; exact hPc, va_K.moved hW.alike hK, hDc.weaken (fun _ _ _ _ => trivial), NW.warm hW hN⟩⟩ rfl rfl hl.1 rfl (lv_room (Nat.le_of_ble_eq_true rfl)) dL_law_12 ⟨Nat.le_of_ble_eq_true rfl, Nat.le_of_ble_eq_true rfl⟩) hS (fun q _ h => hFc q h) hFc (fun um t H1 locs2 ht hvm hwm hB hz1 hk1 hS => ?_)
  obtain ⟨hP1, hK1, hD1⟩ := hB
  rw [ht] at hP1
  obtain ⟨hP, hD⟩ := va_join (wr := wX aX cyI cyZ x0) (w1 := wM um.1 cyI cyZ um.2) hP hD [16] [0, 1, 2, 3, 4, 5, 6, 7, 8, 9, 10, 11, 12, 13, 14, 15] rfl rfl (by decide) (by decide) hk1 hFc hP1 hD1
  generalize H1 = H at hP hS ⊢
  obtain ⟨aM, y0⟩ := um
  obtain ⟨hm0, hy0⟩ := hwm
  have hm0 : aM 0 = qm := hm0
  rw [← hm0]
  refine lv_astore_n (lv' := [(2, .ref (aM 0)), (1, .ref (aX 0)), (0, .ref b)]) hx hb dL_law_15 rfl hl (by decide) rfl (fun ls hl => ?_)
  refine lv_iconst (v := 0) hx hb dL_law_16 (by decide) ?_
  refine lv_istore_n (lv' := [(3, .int 0), (2, .ref (aM 0)), (1, .ref (aX 0)), (0, .ref b)]) hx hb dL_law_17 rfl hl (by decide) rfl (fun ls hl => ?_)
  have C : CL p s m c (dC, dI) cyI cyZ b L xs := ⟨⟨hx, hb, hml, hown, hts⟩, hK, hN, hX, hbl⟩
  exact law_loop C hL hr hlocks (L + 5) 0 x0 y0 (by omega) (Nat.zero_le _) (Sim0 hx0 hy0) H _ ls hP hD hS (lv_sub hl [3, 2, 1, 0] rfl)
