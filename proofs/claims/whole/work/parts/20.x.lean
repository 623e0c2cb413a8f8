-- printed by wip/whole/walk.py
section
variable {p : Program} {l : Launch} {e : Env} {s : State} {m : MethodId} {args : Array Value} {below : List Frame} {meth : Method} {c : Code} {D : va_G} {A : Nat → Prop} {Q : State → Prop} {ad : Nat → Nat} {cyI cyZ : ClassId}
-- J7_fill_53178
set_option maxHeartbeats 4000000 in
set_option maxRecDepth 100000 in
theorem jJ7_fill_53178_L5  {o0 : St} (C : Cxt p s m args c cJ7_fill_53178 4 wsJ7_fill_53178 RJ7 D [(cyI, .int), (cyZ, .boolean)] A) (hRet : ∀ (σ2 : St) (pc : Nat) (lv : List (Nat × Value)), decode cJ7_fill_53178 pc = .ok (.return_, 1) → J p l e ({ frames := 0, cells := 0, slots := 0, locals := 0 } : Room) s m args below meth c 4 D A (wX ad cyI cyZ) Q o0 (some σ2) σ2 pc lv []) (v1 v3 : Int32) (n : Nat) (v2 : Int32) (σ : St) : J p l e ({ frames := 0, cells := 0, slots := 0, locals := 0 } : Room) s m args below meth c 4 D A (wX ad cyI cyZ) Q o0 (loop1s (fJ7_fill_53178_b5 v1 v3) n v2 σ) σ 5 [(0, .ref (ad 11)), (1, .int v1), (2, .int v2), (3, .int v3)] [] := by
  refine J_loop1s (pc := 5) (fun v2 => [(0, .ref (ad 11)), (1, .int v1), (2, .int v2), (3, .int v3)]) (fJ7_fill_53178_b5 v1 v3) ?_ n v2 σ
  intro K5 hK5 v2 σ
  unfold fJ7_fill_53178_b5
  refine J_iload_n C 2 rfl rfl dJ7_fill_53178_5 ?_
  refine J_iload_n C 3 rfl rfl dJ7_fill_53178_6 ?_
  refine J_icmp_ge (tgt := 20) C dJ7_fill_53178_7 (by decide) ?_ ?_
  · exact hRet σ _ _ dJ7_fill_53178_20
  · refine J_aload_n C 0 rfl rfl dJ7_fill_53178_10 ?_
    refine J_iload_n C 2 rfl rfl dJ7_fill_53178_11 ?_
    refine J_iload_n C 1 rfl rfl dJ7_fill_53178_12 ?_
    refine J_iast (σ' := up2 σ 11 v2.toNatClampNeg v1) C 11 0 rfl rfl (wX_s11 _ _ _ _ _ _) dJ7_fill_53178_13 ?_
    refine J_iinc (d := (1 : Int32)) C 2 rfl dJ7_fill_53178_14 (by decide) (by decide) rfl ?_
    refine J_goto (tgt := 5) C dJ7_fill_53178_17 (by decide) ?_
    refine J_lv [1, 2, 0, 3] rfl ?_
    exact hK5 (v2 + (1 : Int32)) (up2 σ 11 v2.toNatClampNeg v1)
set_option maxHeartbeats 4000000 in
set_option maxRecDepth 100000 in
theorem tJ7_fill_53178 {l : Launch} {D : va_G} {ad : Nat → Nat} {cyI cyZ : ClassId} (v1 : Int32) (σ : St) (σ1 : St) (h : fJ7_fill_53178 v1 σ = some σ1) : MV l D [(cyI, .int), (cyZ, .boolean)] (wX ad cyI cyZ) yJ7_fill_53178 wsJ7_fill_53178 ({ frames := 0, cells := 0, slots := 0, locals := 0 } : Room) [.ref (ad 11), .int v1] σ σ1 := by
  refine entryV (own := RJ7) σ1 (by decide +kernel) rfl rfl (Nat.le_of_ble_eq_true rfl) (fJ7_fill_53178 v1 σ) h ?_
  intro p e s m below meth c Q A C hRet
  generalize ([.ref (ad 11), .int v1] : List Value).toArray = args at *
  show J p l e ({ frames := 0, cells := 0, slots := 0, locals := 0 } : Room) s m args below meth c 4 D A (wX ad cyI cyZ) Q σ1 (fJ7_fill_53178 v1 σ) σ 0 [(0, .ref (ad 11)), (1, .int v1)] []
  unfold fJ7_fill_53178
  refine J_iconst (v := (0 : Int32)) C dJ7_fill_53178_0 (by decide) ?_
  refine J_istore_n C rfl dJ7_fill_53178_1 (by decide) rfl ?_
  refine J_aload_n C 1 rfl rfl dJ7_fill_53178_2 ?_
  refine J_alen (v := (112 : Int32)) C 11 0 rfl rfl (by decide) dJ7_fill_53178_3 ?_
  refine J_istore_n C rfl dJ7_fill_53178_4 (by decide) rfl ?_
  refine J_lv [2, 3, 1, 0] rfl ?_
  exact jJ7_fill_53178_L5 C hRet v1 (112 : Int32) fuel (0 : Int32) σ
-- X0_change
set_option maxHeartbeats 4000000 in
set_option maxRecDepth 100000 in
theorem tX0_change {l : Launch} {D : va_G} {ad : Nat → Nat} {cyI cyZ : ClassId} (v1 v2 v3 : Int32) (σ : St) (σ1 : St) (h : fX0_change v1 v2 v3 σ = some σ1) : MV l D [(cyI, .int), (cyZ, .boolean)] (wX ad cyI cyZ) yX0_change wsX0_change ({ frames := 0, cells := 0, slots := 0, locals := 0 } : Room) [.ref (ad 3), .int v1, .int v2, .int v3] σ σ1 := by
  refine entryV (own := RX0) σ1 (by decide +kernel) rfl rfl (Nat.le_of_ble_eq_true rfl) (fX0_change v1 v2 v3 σ) h ?_
  intro p e s m below meth c Q A C hRet
  generalize ([.ref (ad 3), .int v1, .int v2, .int v3] : List Value).toArray = args at *
  show J p l e ({ frames := 0, cells := 0, slots := 0, locals := 0 } : Room) s m args below meth c 4 D A (wX ad cyI cyZ) Q σ1 (fX0_change v1 v2 v3 σ) σ 0 [(0, .ref (ad 3)), (1, .int v1), (2, .int v2), (3, .int v3)] []
  unfold fX0_change
  refine J_aload_n C 0 rfl rfl dX0_change_0 ?_
  refine J_get C 3 0 0 (C0 := RX0) (T := TX0) (N := 2) (by decide +kernel) rfl rfl (by decide) (by decide +kernel) rfl dX0_change_1 ?_
  refine J_iload_n C 1 rfl rfl dX0_change_4 ?_
  refine J_iload_n C 2 rfl rfl dX0_change_5 ?_
  refine J_iast (σ' := up2 σ 8 v1.toNatClampNeg v2) C 8 0 rfl rfl (wX_s8 _ _ _ _ _ _) dX0_change_6 ?_
  refine J_aload_n C 0 rfl rfl dX0_change_7 ?_
  refine J_get C 3 1 0 (C0 := RX0) (T := TX0) (N := 2) (by decide +kernel) rfl rfl (by decide) (by decide +kernel) rfl dX0_change_8 ?_
  refine J_iload_n C 1 rfl rfl dX0_change_11 ?_
  refine J_iload_n C 3 rfl rfl dX0_change_12 ?_
  refine J_iast (σ' := up2 (up2 σ 8 v1.toNatClampNeg v2) 9 v1.toNatClampNeg v3) C 9 0 rfl rfl (wX_s9 _ _ _ _ _ _) dX0_change_13 ?_
  exact hRet (up2 (up2 σ 8 v1.toNatClampNeg v2) 9 v1.toNatClampNeg v3) _ _ dX0_change_14
-- X0_isDeclaring
set_option maxHeartbeats 4000000 in
set_option maxRecDepth 100000 in
theorem jX0_isDeclaring_b20  {o0 : Int32} {σ : St} (C : Cxt p s m args c cX0_isDeclaring 2 wsX0_isDeclaring RX0 D [(cyI, .int), (cyZ, .boolean)] A) (hRet : ∀ (v : Int32) (pc : Nat) (lv : List (Nat × Value)), narrow .boolean (.int v) = .int v → decode cX0_isDeclaring pc = .ok (.ireturn, 1) → J p l e ({ frames := 0, cells := 0, slots := 0, locals := 0 } : Room) s m args below meth c 2 D A (wX ad cyI cyZ) Q o0 (some v) σ pc lv [.int v]) (v1 : Int32) : J p l e ({ frames := 0, cells := 0, slots := 0, locals := 0 } : Room) s m args below meth c 2 D A (wX ad cyI cyZ) Q o0 (fX0_isDeclaring_b20 v1 σ) σ 20 [(0, .ref (ad 3)), (1, .int v1)] [] := by
  unfold fX0_isDeclaring_b20
  refine J_iconst (v := (1 : Int32)) C dX0_isDeclaring_20 (by decide) ?_
  refine J_goto (tgt := 25) C dX0_isDeclaring_21 (by decide) ?_
  exact hRet (1 : Int32) _ _ (by decide) dX0_isDeclaring_25
set_option maxHeartbeats 4000000 in
set_option maxRecDepth 100000 in
theorem tX0_isDeclaring {l : Launch} {D : va_G} {ad : Nat → Nat} {cyI cyZ : ClassId} (v1 : Int32) (σ : St) (r : Int32) (h : fX0_isDeclaring v1 σ = some r) : MI l D [(cyI, .int), (cyZ, .boolean)] (wX ad cyI cyZ) yX0_isDeclaring wsX0_isDeclaring ({ frames := 0, cells := 0, slots := 0, locals := 0 } : Room) [.ref (ad 3), .int v1] σ r σ := by
  refine entryPZ (own := RX0) r (by decide +kernel) rfl rfl (Nat.le_of_ble_eq_true rfl) (fX0_isDeclaring v1 σ) h ?_
  intro p e s m below meth c Q A C hRet
  generalize ([.ref (ad 3), .int v1] : List Value).toArray = args at *
  show J p l e ({ frames := 0, cells := 0, slots := 0, locals := 0 } : Room) s m args below meth c 2 D A (wX ad cyI cyZ) Q r (fX0_isDeclaring v1 σ) σ 0 [(0, .ref (ad 3)), (1, .int v1)] []
  unfold fX0_isDeclaring
  refine J_aload_n C 0 rfl rfl dX0_isDeclaring_0 ?_
  refine J_get C 3 0 0 (C0 := RX0) (T := TX0) (N := 2) (by decide +kernel) rfl rfl (by decide) (by decide +kernel) rfl dX0_isDeclaring_1 ?_
  refine J_iload_n C 1 rfl rfl dX0_isDeclaring_4 ?_
  refine J_iald C 8 0 rfl rfl dX0_isDeclaring_5 ?_
  refine J_iconst (v := (1 : Int32)) C dX0_isDeclaring_6 (by decide) ?_
  refine J_icmp_eq (tgt := 20) C dX0_isDeclaring_7 (by decide) ?_ ?_
  · exact jX0_isDeclaring_b20 C hRet v1
  · refine J_aload_n C 0 rfl rfl dX0_isDeclaring_10 ?_
    refine J_get C 3 0 0 (C0 := RX0) (T := TX0) (N := 2) (by decide +kernel) rfl rfl (by decide) (by decide +kernel) rfl dX0_isDeclaring_11 ?_
    refine J_iload_n C 1 rfl rfl dX0_isDeclaring_14 ?_
    refine J_iald C 8 0 rfl rfl dX0_isDeclaring_15 ?_
    refine J_iconst (v := (2 : Int32)) C dX0_isDeclaring_16 (by decide) ?_
    refine J_icmp_ne (tgt := 24) C dX0_isDeclaring_17 (by decide) ?_ ?_
    · refine J_iconst (v := (0 : Int32)) C dX0_isDeclaring_24 (by decide) ?_
      exact hRet (0 : Int32) _ _ (by decide) dX0_isDeclaring_25
    · exact jX0_isDeclaring_b20 C hRet v1
-- X0_startDeclaring
set_option maxHeartbeats 4000000 in
set_option maxRecDepth 100000 in
theorem tX0_startDeclaring {l : Launch} {D : va_G} {ad : Nat → Nat} {cyI cyZ : ClassId} (v1 : Int32) (σ : St) (r : Int32) (σ1 : St) (h : fX0_startDeclaring v1 σ = some (r, σ1)) : MI l D [(cyI, .int), (cyZ, .boolean)] (wX ad cyI cyZ) yX0_startDeclaring wsX0_startDeclaring ({ frames := 1, cells := 0, slots := 0, locals := 23 } : Room) [.ref (ad 3), .int v1] σ r σ1 := by
  refine entryZ (own := RX0) r σ1 (by decide +kernel) rfl rfl (Nat.le_of_ble_eq_true rfl) (fX0_startDeclaring v1 σ) h ?_
  intro p e s m below meth c Q A C hRet
  generalize ([.ref (ad 3), .int v1] : List Value).toArray = args at *
  show J p l e ({ frames := 1, cells := 0, slots := 0, locals := 23 } : Room) s m args below meth c 2 D A (wX ad cyI cyZ) Q (r, σ1) (fX0_startDeclaring v1 σ) σ 0 [(0, .ref (ad 3)), (1, .int v1)] []
  unfold fX0_startDeclaring
  refine J_aload_n C 0 rfl rfl dX0_startDeclaring_0 ?_
  refine J_iload_n C 1 rfl rfl dX0_startDeclaring_1 ?_
  refine J_callP_V C [.int v1] 3 0 rfl rfl (fun zr zh => tX0_isDeclaring v1 σ zr zh) (cwV 1 C.1.2.2.2.2 gX0_startDeclaring_X0_isDeclaring rfl rfl rfl (by decide +kernel) ⟨Nat.le_of_ble_eq_true rfl, Nat.le_of_ble_eq_true rfl⟩) rfl rfl (Nat.le_of_ble_eq_true rfl) dX0_startDeclaring_2 (fun r1 => ?_)
  refine J_if_eq (tgt := 10) C dX0_startDeclaring_5 (by decide) ?_ ?_
  · refine J_aload_n C 0 rfl rfl dX0_startDeclaring_10 ?_
    refine J_iload_n C 1 rfl rfl dX0_startDeclaring_11 ?_
    refine J_iconst (v := (1 : Int32)) C dX0_startDeclaring_12 (by decide) ?_
    refine J_iconst (v := (2 : Int32)) C dX0_startDeclaring_13 (by decide) ?_
    refine J_callV_V C [.int v1, .int (1 : Int32), .int (2 : Int32)] 3 0 rfl rfl (fun zs zh => tX0_change v1 (1 : Int32) (2 : Int32) σ zs zh) (cwV 3 C.1.2.2.2.2 gX0_startDeclaring_X0_change rfl rfl rfl (by decide +kernel) ⟨Nat.le_of_ble_eq_true rfl, Nat.le_of_ble_eq_true rfl⟩) rfl rfl (Nat.le_of_ble_eq_true rfl) dX0_startDeclaring_14 (fun σ2 => ?_)
    refine J_iconst (v := (1 : Int32)) C dX0_startDeclaring_17 (by decide) ?_
    exact hRet (1 : Int32) σ2 _ _ (by decide) dX0_startDeclaring_18
  · refine J_iconst (v := (0 : Int32)) C dX0_startDeclaring_8 (by decide) ?_
    exact hRet (0 : Int32) σ _ _ (by decide) dX0_startDeclaring_9
-- X0_stopDeclaring
set_option maxHeartbeats 4000000 in
set_option maxRecDepth 100000 in
theorem tX0_stopDeclaring {l : Launch} {D : va_G} {ad : Nat → Nat} {cyI cyZ : ClassId} (v1 : Int32) (σ : St) (r : Int32) (σ1 : St) (h : fX0_stopDeclaring v1 σ = some (r, σ1)) : MI l D [(cyI, .int), (cyZ, .boolean)] (wX ad cyI cyZ) yX0_stopDeclaring wsX0_stopDeclaring ({ frames := 1, cells := 0, slots := 0, locals := 23 } : Room) [.ref (ad 3), .int v1] σ r σ1 := by
  refine entryZ (own := RX0) r σ1 (by decide +kernel) rfl rfl (Nat.le_of_ble_eq_true rfl) (fX0_stopDeclaring v1 σ) h ?_
  intro p e s m below meth c Q A C hRet
  generalize ([.ref (ad 3), .int v1] : List Value).toArray = args at *
  show J p l e ({ frames := 1, cells := 0, slots := 0, locals := 23 } : Room) s m args below meth c 2 D A (wX ad cyI cyZ) Q (r, σ1) (fX0_stopDeclaring v1 σ) σ 0 [(0, .ref (ad 3)), (1, .int v1)] []
  unfold fX0_stopDeclaring
  refine J_aload_n C 0 rfl rfl dX0_stopDeclaring_0 ?_
  refine J_iload_n C 1 rfl rfl dX0_stopDeclaring_1 ?_
  refine J_callP_V C [.int v1] 3 0 rfl rfl (fun zr zh => tX0_isDeclaring v1 σ zr zh) (cwV 1 C.1.2.2.2.2 gX0_stopDeclaring_X0_isDeclaring rfl rfl rfl (by decide +kernel) ⟨Nat.le_of_ble_eq_true rfl, Nat.le_of_ble_eq_true rfl⟩) rfl rfl (Nat.le_of_ble_eq_true rfl) dX0_stopDeclaring_2 (fun r1 => ?_)
  refine J_if_ne (tgt := 10) C dX0_stopDeclaring_5 (by decide) ?_ ?_
  · refine J_aload_n C 0 rfl rfl dX0_stopDeclaring_10 ?_
    refine J_iload_n C 1 rfl rfl dX0_stopDeclaring_11 ?_
    refine J_iconst (v := (3 : Int32)) C dX0_stopDeclaring_12 (by decide) ?_
    refine J_iconst (v := (0 : Int32)) C dX0_stopDeclaring_13 (by decide) ?_
    refine J_callV_V C [.int v1, .int (3 : Int32), .int (0 : Int32)] 3 0 rfl rfl (fun zs zh => tX0_change v1 (3 : Int32) (0 : Int32) σ zs zh) (cwV 3 C.1.2.2.2.2 gX0_stopDeclaring_X0_change rfl rfl rfl (by decide +kernel) ⟨Nat.le_of_ble_eq_true rfl, Nat.le_of_ble_eq_true rfl⟩) rfl rfl (Nat.le_of_ble_eq_true rfl) dX0_stopDeclaring_14 (fun σ2 => ?_)
    refine J_iconst (v := (1 : Int32)) C dX0_stopDeclaring_17 (by decide) ?_
    exact hRet (1 : Int32) σ2 _ _ (by decide) dX0_stopDeclaring_18
  · refine J_iconst (v := (0 : Int32)) C dX0_stopDeclaring_8 (by decide) ?_
    exact hRet (0 : Int32) σ _ _ (by decide) dX0_stopDeclaring_9
-- X0_declareAgain
set_option maxHeartbeats 4000000 in
set_option maxRecDepth 100000 in
theorem tX0_declareAgain {l : Launch} {D : va_G} {ad : Nat → Nat} {cyI cyZ : ClassId} (v1 : Int32) (σ : St) (σ1 : St) (h : fX0_declareAgain v1 σ = some σ1) : MV l D [(cyI, .int), (cyZ, .boolean)] (wX ad cyI cyZ) yX0_declareAgain wsX0_declareAgain ({ frames := 1, cells := 0, slots := 0, locals := 23 } : Room) [.ref (ad 3), .int v1] σ σ1 := by
  refine entryV (own := RX0) σ1 (by decide +kernel) rfl rfl (Nat.le_of_ble_eq_true rfl) (fX0_declareAgain v1 σ) h ?_
  intro p e s m below meth c Q A C hRet
  generalize ([.ref (ad 3), .int v1] : List Value).toArray = args at *
  show J p l e ({ frames := 1, cells := 0, slots := 0, locals := 23 } : Room) s m args below meth c 2 D A (wX ad cyI cyZ) Q σ1 (fX0_declareAgain v1 σ) σ 0 [(0, .ref (ad 3)), (1, .int v1)] []
  unfold fX0_declareAgain
  refine J_aload_n C 0 rfl rfl dX0_declareAgain_0 ?_
  refine J_get C 3 0 0 (C0 := RX0) (T := TX0) (N := 2) (by decide +kernel) rfl rfl (by decide) (by decide +kernel) rfl dX0_declareAgain_1 ?_
  refine J_iload_n C 1 rfl rfl dX0_declareAgain_4 ?_
  refine J_iald C 8 0 rfl rfl dX0_declareAgain_5 ?_
  refine J_iconst (v := (2 : Int32)) C dX0_declareAgain_6 (by decide) ?_
  refine J_icmp_ne (tgt := 17) C dX0_declareAgain_7 (by decide) ?_ ?_
  · exact hRet σ _ _ dX0_declareAgain_17
  · refine J_aload_n C 0 rfl rfl dX0_declareAgain_10 ?_
    refine J_iload_n C 1 rfl rfl dX0_declareAgain_11 ?_
    refine J_iconst (v := (1 : Int32)) C dX0_declareAgain_12 (by decide) ?_
    refine J_iconst (v := (1 : Int32)) C dX0_declareAgain_13 (by decide) ?_
    refine J_callV_V C [.int v1, .int (1 : Int32), .int (1 : Int32)] 3 0 rfl rfl (fun zs zh => tX0_change v1 (1 : Int32) (1 : Int32) σ zs zh) (cwV 3 C.1.2.2.2.2 gX0_declareAgain_X0_change rfl rfl rfl (by decide +kernel) ⟨Nat.le_of_ble_eq_true rfl, Nat.le_of_ble_eq_true rfl⟩) rfl rfl (Nat.le_of_ble_eq_true rfl) dX0_declareAgain_14 (fun σ1 => ?_)
    exact hRet σ1 _ _ dX0_declareAgain_17
-- X0_nextMessage
set_option maxHeartbeats 4000000 in
set_option maxRecDepth 100000 in
theorem tX0_nextMessage {l : Launch} {D : va_G} {ad : Nat → Nat} {cyI cyZ : ClassId} (v1 : Int32) (σ : St) (r : Int32) (σ1 : St) (h : fX0_nextMessage v1 σ = some (r, σ1)) : MI l D [(cyI, .int), (cyZ, .boolean)] (wX ad cyI cyZ) yX0_nextMessage wsX0_nextMessage ({ frames := 0, cells := 0, slots := 0, locals := 0 } : Room) [.ref (ad 3), .int v1] σ r σ1 := by
  refine entryI (own := RX0) r σ1 (by decide +kernel) rfl rfl (Nat.le_of_ble_eq_true rfl) (fX0_nextMessage v1 σ) h ?_
  intro p e s m below meth c Q A C hRet
  generalize ([.ref (ad 3), .int v1] : List Value).toArray = args at *
  show J p l e ({ frames := 0, cells := 0, slots := 0, locals := 0 } : Room) s m args below meth c 2 D A (wX ad cyI cyZ) Q (r, σ1) (fX0_nextMessage v1 σ) σ 0 [(0, .ref (ad 3)), (1, .int v1)] []
  unfold fX0_nextMessage
  refine J_aload_n C 0 rfl rfl dX0_nextMessage_0 ?_
  refine J_get C 3 0 0 (C0 := RX0) (T := TX0) (N := 2) (by decide +kernel) rfl rfl (by decide) (by decide +kernel) rfl dX0_nextMessage_1 ?_
  refine J_iload_n C 1 rfl rfl dX0_nextMessage_4 ?_
  refine J_iald C 8 0 rfl rfl dX0_nextMessage_5 ?_
  refine J_iconst (v := (1 : Int32)) C dX0_nextMessage_6 (by decide) ?_
  refine J_icmp_ne (tgt := 38) C dX0_nextMessage_7 (by decide) ?_ ?_
  · refine J_aload_n C 0 rfl rfl dX0_nextMessage_38 ?_
    refine J_get C 3 0 0 (C0 := RX0) (T := TX0) (N := 2) (by decide +kernel) rfl rfl (by decide) (by decide +kernel) rfl dX0_nextMessage_39 ?_
    refine J_iload_n C 1 rfl rfl dX0_nextMessage_42 ?_
    refine J_iald C 8 0 rfl rfl dX0_nextMessage_43 ?_
    refine J_iconst (v := (3 : Int32)) C dX0_nextMessage_44 (by decide) ?_
    refine J_icmp_ne (tgt := 57) C dX0_nextMessage_45 (by decide) ?_ ?_
    · refine J_iconst (v := (0 : Int32)) C dX0_nextMessage_57 (by decide) ?_
      exact hRet (0 : Int32) σ _ _ dX0_nextMessage_58
    · refine J_aload_n C 0 rfl rfl dX0_nextMessage_48 ?_
      refine J_get C 3 0 0 (C0 := RX0) (T := TX0) (N := 2) (by decide +kernel) rfl rfl (by decide) (by decide +kernel) rfl dX0_nextMessage_49 ?_
      refine J_iload_n C 1 rfl rfl dX0_nextMessage_52 ?_
      refine J_iconst (v := (0 : Int32)) C dX0_nextMessage_53 (by decide) ?_
      refine J_iast (σ' := up2 σ 8 v1.toNatClampNeg (0 : Int32)) C 8 0 rfl rfl (wX_s8 _ _ _ _ _ _) dX0_nextMessage_54 ?_
      refine J_iconst (v := (2 : Int32)) C dX0_nextMessage_55 (by decide) ?_
      exact hRet (2 : Int32) (up2 σ 8 v1.toNatClampNeg (0 : Int32)) _ _ dX0_nextMessage_56
  · refine J_aload_n C 0 rfl rfl dX0_nextMessage_10 ?_
    refine J_get C 3 1 0 (C0 := RX0) (T := TX0) (N := 2) (by decide +kernel) rfl rfl (by decide) (by decide +kernel) rfl dX0_nextMessage_11 ?_
    refine J_iload_n C 1 rfl rfl dX0_nextMessage_14 ?_
    refine J_dup2 C rfl rfl dX0_nextMessage_15 ?_
    refine J_iald C 9 0 rfl rfl dX0_nextMessage_16 ?_
    refine J_iconst (v := (1 : Int32)) C dX0_nextMessage_17 (by decide) ?_
    refine J_isub C dX0_nextMessage_18 ?_
    refine J_iast (σ' := up2 σ 9 v1.toNatClampNeg ((σ 9 v1.toNatClampNeg) - (1 : Int32))) C 9 0 rfl rfl (wX_s9 _ _ _ _ _ _) dX0_nextMessage_19 ?_
    refine J_aload_n C 0 rfl rfl dX0_nextMessage_20 ?_
    refine J_get C 3 1 0 (C0 := RX0) (T := TX0) (N := 2) (by decide +kernel) rfl rfl (by decide) (by decide +kernel) rfl dX0_nextMessage_21 ?_
    refine J_iload_n C 1 rfl rfl dX0_nextMessage_24 ?_
    refine J_iald C 9 0 rfl rfl dX0_nextMessage_25 ?_
    refine J_if_ne (tgt := 36) C dX0_nextMessage_26 (by decide) ?_ ?_
    · refine J_iconst (v := (1 : Int32)) C dX0_nextMessage_36 (by decide) ?_
      exact hRet (1 : Int32) (up2 σ 9 v1.toNatClampNeg ((σ 9 v1.toNatClampNeg) - (1 : Int32))) _ _ dX0_nextMessage_37
    · refine J_aload_n C 0 rfl rfl dX0_nextMessage_29 ?_
      refine J_get C 3 0 0 (C0 := RX0) (T := TX0) (N := 2) (by decide +kernel) rfl rfl (by decide) (by decide +kernel) rfl dX0_nextMessage_30 ?_
      refine J_iload_n C 1 rfl rfl dX0_nextMessage_33 ?_
      refine J_iconst (v := (2 : Int32)) C dX0_nextMessage_34 (by decide) ?_
      refine J_iast (σ' := up2 (up2 σ 9 v1.toNatClampNeg ((σ 9 v1.toNatClampNeg) - (1 : Int32))) 8 v1.toNatClampNeg (2 : Int32)) C 8 0 rfl rfl (wX_s8 _ _ _ _ _ _) dX0_nextMessage_35 ?_
      refine J_iconst (v := (1 : Int32)) C dX0_nextMessage_36 (by decide) ?_
      exact hRet (1 : Int32) (up2 (up2 σ 9 v1.toNatClampNeg ((σ 9 v1.toNatClampNeg) - (1 : Int32))) 8 v1.toNatClampNeg (2 : Int32)) _ _ dX0_nextMessage_37
-- X1_stationOfPort
set_option maxHeartbeats 4000000 in
set_option maxRecDepth 100000 in
theorem tX1_stationOfPort {l : Launch} {D : va_G} {ad : Nat → Nat} {cyI cyZ : ClassId} (v1 v2 : Int32) (σ : St) (r : Int32) (h : fX1_stationOfPort v1 v2 σ = some r) : MI l D [(cyI, .int), (cyZ, .boolean)] (wX ad cyI cyZ) yX1_stationOfPort wsX1_stationOfPort ({ frames := 0, cells := 0, slots := 0, locals := 0 } : Room) [.ref (ad 1), .int v1, .int v2] σ r σ := by
  refine entryPI (own := RX1) r (by decide +kernel) rfl rfl (Nat.le_of_ble_eq_true rfl) (fX1_stationOfPort v1 v2 σ) h ?_
  intro p e s m below meth c Q A C hRet
  generalize ([.ref (ad 1), .int v1, .int v2] : List Value).toArray = args at *
  show J p l e ({ frames := 0, cells := 0, slots := 0, locals := 0 } : Room) s m args below meth c 3 D A (wX ad cyI cyZ) Q r (fX1_stationOfPort v1 v2 σ) σ 0 [(0, .ref (ad 1)), (1, .int v1), (2, .int v2)] []
  unfold fX1_stationOfPort
  refine J_iload_n C 1 rfl rfl dX1_stationOfPort_0 ?_
  refine J_if_lt (tgt := 21) C dX1_stationOfPort_1 (by decide) ?_ ?_
  · refine J_iconst (v := (-1 : Int32)) C dX1_stationOfPort_21 (by decide) ?_
    exact hRet (-1 : Int32) _ _ dX1_stationOfPort_22
  · refine J_iload_n C 1 rfl rfl dX1_stationOfPort_4 ?_
    refine J_aload_n C 0 rfl rfl dX1_stationOfPort_5 ?_
    refine J_get C 1 1 1 (C0 := RX1) (T := TX1) (N := 4) (by decide +kernel) rfl rfl (by decide) (by decide +kernel) rfl dX1_stationOfPort_6 ?_
    refine J_icmp_ge (tgt := 21) C dX1_stationOfPort_9 (by decide) ?_ ?_
    · refine J_iconst (v := (-1 : Int32)) C dX1_stationOfPort_21 (by decide) ?_
      exact hRet (-1 : Int32) _ _ dX1_stationOfPort_22
    · refine J_iload_n C 2 rfl rfl dX1_stationOfPort_12 ?_
      refine J_if_lt (tgt := 21) C dX1_stationOfPort_13 (by decide) ?_ ?_
      · refine J_iconst (v := (-1 : Int32)) C dX1_stationOfPort_21 (by decide) ?_
        exact hRet (-1 : Int32) _ _ dX1_stationOfPort_22
      · refine J_iload_n C 2 rfl rfl dX1_stationOfPort_16 ?_
        refine J_iconst (v := (4 : Int32)) C dX1_stationOfPort_17 (by decide) ?_
        refine J_icmp_lt (tgt := 23) C dX1_stationOfPort_18 (by decide) ?_ ?_
        · refine J_iload_n C 1 rfl rfl dX1_stationOfPort_23 ?_
          refine J_iconst (v := (4 : Int32)) C dX1_stationOfPort_24 (by decide) ?_
          refine J_imul C dX1_stationOfPort_25 ?_
          refine J_iload_n C 2 rfl rfl dX1_stationOfPort_26 ?_
          refine J_iadd C dX1_stationOfPort_27 ?_
          exact hRet ((v1 * (4 : Int32)) + v2) _ _ dX1_stationOfPort_28
        · refine J_iconst (v := (-1 : Int32)) C dX1_stationOfPort_21 (by decide) ?_
          exact hRet (-1 : Int32) _ _ dX1_stationOfPort_22
-- X1_stationOfHost
set_option maxHeartbeats 4000000 in
set_option maxRecDepth 100000 in
theorem tX1_stationOfHost {l : Launch} {D : va_G} {ad : Nat → Nat} {cyI cyZ : ClassId} (v1 : Int32) (σ : St) (r : Int32) (h : fX1_stationOfHost v1 σ = some r) : MI l D [(cyI, .int), (cyZ, .boolean)] (wX ad cyI cyZ) yX1_stationOfHost wsX1_stationOfHost ({ frames := 0, cells := 0, slots := 0, locals := 0 } : Room) [.ref (ad 1), .int v1] σ r σ := by
  refine entryPI (own := RX1) r (by decide +kernel) rfl rfl (Nat.le_of_ble_eq_true rfl) (fX1_stationOfHost v1 σ) h ?_
  intro p e s m below meth c Q A C hRet
  generalize ([.ref (ad 1), .int v1] : List Value).toArray = args at *
  show J p l e ({ frames := 0, cells := 0, slots := 0, locals := 0 } : Room) s m args below meth c 2 D A (wX ad cyI cyZ) Q r (fX1_stationOfHost v1 σ) σ 0 [(0, .ref (ad 1)), (1, .int v1)] []
  unfold fX1_stationOfHost
  refine J_iload_n C 1 rfl rfl dX1_stationOfHost_0 ?_
  refine J_if_lt (tgt := 12) C dX1_stationOfHost_1 (by decide) ?_ ?_
  · refine J_bipush (v := (-2 : Int32)) C dX1_stationOfHost_12 (by decide) ?_
    exact hRet (-2 : Int32) _ _ dX1_stationOfHost_14
  · refine J_iload_n C 1 rfl rfl dX1_stationOfHost_4 ?_
    refine J_aload_n C 0 rfl rfl dX1_stationOfHost_5 ?_
    refine J_get C 1 2 1 (C0 := RX1) (T := TX1) (N := 4) (by decide +kernel) rfl rfl (by decide) (by decide +kernel) rfl dX1_stationOfHost_6 ?_
    refine J_icmp_lt (tgt := 15) C dX1_stationOfHost_9 (by decide) ?_ ?_
    · refine J_bipush (v := (20 : Int32)) C dX1_stationOfHost_15 (by decide) ?_
      refine J_iload_n C 1 rfl rfl dX1_stationOfHost_17 ?_
      refine J_iadd C dX1_stationOfHost_18 ?_
      exact hRet ((20 : Int32) + v1) _ _ dX1_stationOfHost_19
    · refine J_bipush (v := (-2 : Int32)) C dX1_stationOfHost_12 (by decide) ?_
      exact hRet (-2 : Int32) _ _ dX1_stationOfHost_14
-- X4_isStation
set_option maxHeartbeats 4000000 in
set_option maxRecDepth 100000 in
theorem tX4_isStation {l : Launch} {D : va_G} {ad : Nat → Nat} {cyI cyZ : ClassId} (v0 : Int32) (σ : St) (r : Int32) (h : fX4_isStation v0 σ = some r) : MI l D [(cyI, .int), (cyZ, .boolean)] (wX ad cyI cyZ) yX4_isStation wsX4_isStation ({ frames := 0, cells := 0, slots := 0, locals := 0 } : Room) [.int v0] σ r σ := by
  refine entryPZ (own := RX4) r (by decide +kernel) rfl rfl (Nat.le_of_ble_eq_true rfl) (fX4_isStation v0 σ) h ?_
  intro p e s m below meth c Q A C hRet
  generalize ([.int v0] : List Value).toArray = args at *
  show J p l e ({ frames := 0, cells := 0, slots := 0, locals := 0 } : Room) s m args below meth c 1 D A (wX ad cyI cyZ) Q r (fX4_isStation v0 σ) σ 0 [(0, .int v0)] []
  unfold fX4_isStation
  refine J_iload_n C 0 rfl rfl dX4_isStation_0 ?_
  refine J_if_lt (tgt := 14) C dX4_isStation_1 (by decide) ?_ ?_
  · refine J_iconst (v := (0 : Int32)) C dX4_isStation_14 (by decide) ?_
    exact hRet (0 : Int32) _ _ (by decide) dX4_isStation_15
  · refine J_iload_n C 0 rfl rfl dX4_isStation_4 ?_
    refine J_bipush (v := (28 : Int32)) C dX4_isStation_5 (by decide) ?_
    refine J_icmp_ge (tgt := 14) C dX4_isStation_7 (by decide) ?_ ?_
    · refine J_iconst (v := (0 : Int32)) C dX4_isStation_14 (by decide) ?_
      exact hRet (0 : Int32) _ _ (by decide) dX4_isStation_15
    · refine J_iconst (v := (1 : Int32)) C dX4_isStation_10 (by decide) ?_
      refine J_goto (tgt := 15) C dX4_isStation_11 (by decide) ?_
      exact hRet (1 : Int32) _ _ (by decide) dX4_isStation_15
-- X1_isConnected
set_option maxHeartbeats 4000000 in
set_option maxRecDepth 100000 in
theorem tX1_isConnected {l : Launch} {D : va_G} {ad : Nat → Nat} {cyI cyZ : ClassId} (v1 : Int32) (σ : St) (r : Int32) (h : fX1_isConnected v1 σ = some r) : MI l D [(cyI, .int), (cyZ, .boolean)] (wX ad cyI cyZ) yX1_isConnected wsX1_isConnected ({ frames := 1, cells := 0, slots := 0, locals := 20 } : Room) [.ref (ad 1), .int v1] σ r σ := by
  refine entryPZ (own := RX1) r (by decide +kernel) rfl rfl (Nat.le_of_ble_eq_true rfl) (fX1_isConnected v1 σ) h ?_
  intro p e s m below meth c Q A C hRet
  generalize ([.ref (ad 1), .int v1] : List Value).toArray = args at *
  show J p l e ({ frames := 1, cells := 0, slots := 0, locals := 20 } : Room) s m args below meth c 2 D A (wX ad cyI cyZ) Q r (fX1_isConnected v1 σ) σ 0 [(0, .ref (ad 1)), (1, .int v1)] []
  unfold fX1_isConnected
  refine J_aload_n C 0 rfl rfl dX1_isConnected_0 ?_
  refine J_get C 1 0 1 (C0 := RX1) (T := TX1) (N := 4) (by decide +kernel) rfl rfl (by decide) (by decide +kernel) rfl dX1_isConnected_1 ?_
  refine J_iload_n C 1 rfl rfl dX1_isConnected_4 ?_
  refine J_iald C 5 0 rfl rfl dX1_isConnected_5 ?_
  refine J_callP_SN C [.int (σ 5 v1.toNatClampNeg)] (fun zr zh => tX4_isStation (σ 5 v1.toNatClampNeg) σ zr zh) (⟨va_cnB (host := RX4) 1 C.1.2.2.2.2 gX1_isConnected_X4_isStation_n31 rfl rfl rfl (C.2.2.2 _ (by decide +kernel)) (C.1.2.2.2.2 (.initialized RX4) (by decide +kernel)) (by decide +kernel) ⟨Nat.le_of_ble_eq_true rfl, Nat.le_of_ble_eq_true rfl⟩, C.1.2.2.2.2 (.static yX4_isStation) (by decide +kernel), trivial⟩) rfl rfl (Nat.le_of_ble_eq_true rfl) dX1_isConnected_6 (fun r1 => ?_)
  exact J_retZ (hRet 0 _ _ (by decide) dX1_isConnected_9) (hRet 1 _ _ (by decide) dX1_isConnected_9)
-- X1_tie
set_option maxHeartbeats 4000000 in
set_option maxRecDepth 100000 in
theorem tX1_tie {l : Launch} {D : va_G} {ad : Nat → Nat} {cyI cyZ : ClassId} (v1 v2 : Int32) (σ : St) (σ1 : St) (h : fX1_tie v1 v2 σ = some σ1) : MV l D [(cyI, .int), (cyZ, .boolean)] (wX ad cyI cyZ) yX1_tie wsX1_tie ({ frames := 0, cells := 0, slots := 0, locals := 0 } : Room) [.ref (ad 1), .int v1, .int v2] σ σ1 := by
  refine entryV (own := RX1) σ1 (by decide +kernel) rfl rfl (Nat.le_of_ble_eq_true rfl) (fX1_tie v1 v2 σ) h ?_
  intro p e s m below meth c Q A C hRet
  generalize ([.ref (ad 1), .int v1, .int v2] : List Value).toArray = args at *
  show J p l e ({ frames := 0, cells := 0, slots := 0, locals := 0 } : Room) s m args below meth c 3 D A (wX ad cyI cyZ) Q σ1 (fX1_tie v1 v2 σ) σ 0 [(0, .ref (ad 1)), (1, .int v1), (2, .int v2)] []
  unfold fX1_tie
  refine J_aload_n C 0 rfl rfl dX1_tie_0 ?_
  refine J_get C 1 0 1 (C0 := RX1) (T := TX1) (N := 4) (by decide +kernel) rfl rfl (by decide) (by decide +kernel) rfl dX1_tie_1 ?_
  refine J_iload_n C 1 rfl rfl dX1_tie_4 ?_
  refine J_iload_n C 2 rfl rfl dX1_tie_5 ?_
  refine J_iast (σ' := up2 σ 5 v1.toNatClampNeg v2) C 5 0 rfl rfl (wX_s5 _ _ _ _ _ _) dX1_tie_6 ?_
  refine J_aload_n C 0 rfl rfl dX1_tie_7 ?_
  refine J_get C 1 0 1 (C0 := RX1) (T := TX1) (N := 4) (by decide +kernel) rfl rfl (by decide) (by decide +kernel) rfl dX1_tie_8 ?_
  refine J_iload_n C 2 rfl rfl dX1_tie_11 ?_
  refine J_iload_n C 1 rfl rfl dX1_tie_12 ?_
  refine J_iast (σ' := up2 (up2 σ 5 v1.toNatClampNeg v2) 5 v2.toNatClampNeg v1) C 5 0 rfl rfl (wX_s5 _ _ _ _ _ _) dX1_tie_13 ?_
  exact hRet (up2 (up2 σ 5 v1.toNatClampNeg v2) 5 v2.toNatClampNeg v1) _ _ dX1_tie_14
-- X1_untie
set_option maxHeartbeats 4000000 in
set_option maxRecDepth 100000 in
theorem tX1_untie {l : Launch} {D : va_G} {ad : Nat → Nat} {cyI cyZ : ClassId} (v1 v2 : Int32) (σ : St) (σ1 : St) (h : fX1_untie v1 v2 σ = some σ1) : MV l D [(cyI, .int), (cyZ, .boolean)] (wX ad cyI cyZ) yX1_untie wsX1_untie ({ frames := 0, cells := 0, slots := 0, locals := 0 } : Room) [.ref (ad 1), .int v1, .int v2] σ σ1 := by
  refine entryV (own := RX1) σ1 (by decide +kernel) rfl rfl (Nat.le_of_ble_eq_true rfl) (fX1_untie v1 v2 σ) h ?_
  intro p e s m below meth c Q A C hRet
  generalize ([.ref (ad 1), .int v1, .int v2] : List Value).toArray = args at *
  show J p l e ({ frames := 0, cells := 0, slots := 0, locals := 0 } : Room) s m args below meth c 3 D A (wX ad cyI cyZ) Q σ1 (fX1_untie v1 v2 σ) σ 0 [(0, .ref (ad 1)), (1, .int v1), (2, .int v2)] []
  unfold fX1_untie
  refine J_aload_n C 0 rfl rfl dX1_untie_0 ?_
  refine J_get C 1 0 1 (C0 := RX1) (T := TX1) (N := 4) (by decide +kernel) rfl rfl (by decide) (by decide +kernel) rfl dX1_untie_1 ?_
  refine J_iload_n C 1 rfl rfl dX1_untie_4 ?_
  refine J_iconst (v := (-1 : Int32)) C dX1_untie_5 (by decide) ?_
  refine J_iast (σ' := up2 σ 5 v1.toNatClampNeg (-1 : Int32)) C 5 0 rfl rfl (wX_s5 _ _ _ _ _ _) dX1_untie_6 ?_
  refine J_aload_n C 0 rfl rfl dX1_untie_7 ?_
  refine J_get C 1 0 1 (C0 := RX1) (T := TX1) (N := 4) (by decide +kernel) rfl rfl (by decide) (by decide +kernel) rfl dX1_untie_8 ?_
  refine J_iload_n C 2 rfl rfl dX1_untie_11 ?_
  refine J_iconst (v := (-1 : Int32)) C dX1_untie_12 (by decide) ?_
  refine J_iast (σ' := up2 (up2 σ 5 v1.toNatClampNeg (-1 : Int32)) 5 v2.toNatClampNeg (-1 : Int32)) C 5 0 rfl rfl (wX_s5 _ _ _ _ _ _) dX1_untie_13 ?_
  exact hRet (up2 (up2 σ 5 v1.toNatClampNeg (-1 : Int32)) 5 v2.toNatClampNeg (-1 : Int32)) _ _ dX1_untie_14
-- X4_contains
set_option maxHeartbeats 4000000 in
set_option maxRecDepth 100000 in
theorem tX4_contains {l : Launch} {D : va_G} {ad : Nat → Nat} {cyI cyZ : ClassId} (v0 v1 : Int32) (σ : St) (r : Int32) (h : fX4_contains v0 v1 σ = some r) : MI l D [(cyI, .int), (cyZ, .boolean)] (wX ad cyI cyZ) yX4_contains wsX4_contains ({ frames := 0, cells := 0, slots := 0, locals := 0 } : Room) [.int v0, .int v1] σ r σ := by
  refine entryPZ (own := RX4) r (by decide +kernel) rfl rfl (Nat.le_of_ble_eq_true rfl) (fX4_contains v0 v1 σ) h ?_
  intro p e s m below meth c Q A C hRet
  generalize ([.int v0, .int v1] : List Value).toArray = args at *
  show J p l e ({ frames := 0, cells := 0, slots := 0, locals := 0 } : Room) s m args below meth c 2 D A (wX ad cyI cyZ) Q r (fX4_contains v0 v1 σ) σ 0 [(0, .int v0), (1, .int v1)] []
  unfold fX4_contains
  refine J_iload_n C 0 rfl rfl dX4_contains_0 ?_
  refine J_iconst (v := (1 : Int32)) C dX4_contains_1 (by decide) ?_
  refine J_iload_n C 1 rfl rfl dX4_contains_2 ?_
  refine J_ishl C dX4_contains_3 ?_
  refine J_iand C dX4_contains_4 ?_
  refine J_if_eq (tgt := 12) C dX4_contains_5 (by decide) ?_ ?_
  · refine J_iconst (v := (0 : Int32)) C dX4_contains_12 (by decide) ?_
    exact hRet (0 : Int32) _ _ (by decide) dX4_contains_13
  · refine J_iconst (v := (1 : Int32)) C dX4_contains_8 (by decide) ?_
    refine J_goto (tgt := 13) C dX4_contains_9 (by decide) ?_
    exact hRet (1 : Int32) _ _ (by decide) dX4_contains_13
-- X4_bridgeOf
set_option maxHeartbeats 4000000 in
set_option maxRecDepth 100000 in
theorem tX4_bridgeOf {l : Launch} {D : va_G} {ad : Nat → Nat} {cyI cyZ : ClassId} (v0 : Int32) (σ : St) (r : Int32) (h : fX4_bridgeOf v0 σ = some r) : MI l D [(cyI, .int), (cyZ, .boolean)] (wX ad cyI cyZ) yX4_bridgeOf wsX4_bridgeOf ({ frames := 0, cells := 0, slots := 0, locals := 0 } : Room) [.int v0] σ r σ := by
  refine entryPI (own := RX4) r (by decide +kernel) rfl rfl (Nat.le_of_ble_eq_true rfl) (fX4_bridgeOf v0 σ) h ?_
  intro p e s m below meth c Q A C hRet
  generalize ([.int v0] : List Value).toArray = args at *
  show J p l e ({ frames := 0, cells := 0, slots := 0, locals := 0 } : Room) s m args below meth c 1 D A (wX ad cyI cyZ) Q r (fX4_bridgeOf v0 σ) σ 0 [(0, .int v0)] []
  unfold fX4_bridgeOf
  refine J_iload_n C 0 rfl rfl dX4_bridgeOf_0 ?_
  refine J_iconst (v := (4 : Int32)) C dX4_bridgeOf_1 (by decide) ?_
  refine J_idiv C (by decide) dX4_bridgeOf_2 ?_
  exact hRet (v0 / (4 : Int32)) _ _ dX4_bridgeOf_3
-- X4_isPort
set_option maxHeartbeats 4000000 in
set_option maxRecDepth 100000 in
theorem tX4_isPort {l : Launch} {D : va_G} {ad : Nat → Nat} {cyI cyZ : ClassId} (v0 : Int32) (σ : St) (r : Int32) (h : fX4_isPort v0 σ = some r) : MI l D [(cyI, .int), (cyZ, .boolean)] (wX ad cyI cyZ) yX4_isPort wsX4_isPort ({ frames := 0, cells := 0, slots := 0, locals := 0 } : Room) [.int v0] σ r σ := by
  refine entryPZ (own := RX4) r (by decide +kernel) rfl rfl (Nat.le_of_ble_eq_true rfl) (fX4_isPort v0 σ) h ?_
  intro p e s m below meth c Q A C hRet
  generalize ([.int v0] : List Value).toArray = args at *
  show J p l e ({ frames := 0, cells := 0, slots := 0, locals := 0 } : Room) s m args below meth c 1 D A (wX ad cyI cyZ) Q r (fX4_isPort v0 σ) σ 0 [(0, .int v0)] []
  unfold fX4_isPort
  refine J_iload_n C 0 rfl rfl dX4_isPort_0 ?_
  refine J_if_lt (tgt := 14) C dX4_isPort_1 (by decide) ?_ ?_
  · refine J_iconst (v := (0 : Int32)) C dX4_isPort_14 (by decide) ?_
    exact hRet (0 : Int32) _ _ (by decide) dX4_isPort_15
  · refine J_iload_n C 0 rfl rfl dX4_isPort_4 ?_
    refine J_bipush (v := (20 : Int32)) C dX4_isPort_5 (by decide) ?_
    refine J_icmp_ge (tgt := 14) C dX4_isPort_7 (by decide) ?_ ?_
    · refine J_iconst (v := (0 : Int32)) C dX4_isPort_14 (by decide) ?_
      exact hRet (0 : Int32) _ _ (by decide) dX4_isPort_15
    · refine J_iconst (v := (1 : Int32)) C dX4_isPort_10 (by decide) ?_
      refine J_goto (tgt := 15) C dX4_isPort_11 (by decide) ?_
      exact hRet (1 : Int32) _ _ (by decide) dX4_isPort_15
-- X1_neighboursOf
set_option maxHeartbeats 4000000 in
set_option maxRecDepth 100000 in
theorem jX1_neighboursOf_b47 {K4 : Int32 → Int32 → Option (Int32)} {o0 : Int32} {σ : St} (C : Cxt p s m args c cX1_neighboursOf 5 wsX1_neighboursOf RX1 D [(cyI, .int), (cyZ, .boolean)] A) (hRet : ∀ (v : Int32) (pc : Nat) (lv : List (Nat × Value)), decode cX1_neighboursOf pc = .ok (.ireturn, 1) → J p l e ({ frames := 1, cells := 0, slots := 0, locals := 21 } : Room) s m args below meth c 5 D A (wX ad cyI cyZ) Q o0 (some v) σ pc lv [.int v]) (v1 v2 v3 v4 : Int32) (hK4 : ∀ (v2 v3 : Int32), J p l e ({ frames := 1, cells := 0, slots := 0, locals := 21 } : Room) s m args below meth c 5 D A (wX ad cyI cyZ) Q o0 (K4 v2 v3) σ 4 [(0, .ref (ad 1)), (1, .int v1), (2, .int v2), (3, .int v3)] []) : J p l e ({ frames := 1, cells := 0, slots := 0, locals := 21 } : Room) s m args below meth c 5 D A (wX ad cyI cyZ) Q o0 (fX1_neighboursOf_b47 K4 v1 v2 v3 v4 σ) σ 47 [(0, .ref (ad 1)), (1, .int v1), (2, .int v2), (3, .int v3), (4, .int v4)] [] := by
  unfold fX1_neighboursOf_b47
  refine J_iinc (d := (1 : Int32)) C 3 rfl dX1_neighboursOf_47 (by decide) (by decide) rfl ?_
  refine J_goto (tgt := 4) C dX1_neighboursOf_50 (by decide) ?_
  refine J_lv [1, 2, 3, 0] rfl ?_
  exact hK4 v2 (v3 + (1 : Int32))
set_option maxHeartbeats 4000000 in
set_option maxRecDepth 100000 in
theorem jX1_neighboursOf_L4  {o0 : Int32} {σ : St} (C : Cxt p s m args c cX1_neighboursOf 5 wsX1_neighboursOf RX1 D [(cyI, .int), (cyZ, .boolean)] A) (hRet : ∀ (v : Int32) (pc : Nat) (lv : List (Nat × Value)), decode cX1_neighboursOf pc = .ok (.ireturn, 1) → J p l e ({ frames := 1, cells := 0, slots := 0, locals := 21 } : Room) s m args below meth c 5 D A (wX ad cyI cyZ) Q o0 (some v) σ pc lv [.int v]) (v1 : Int32) (n : Nat) (v2 v3 : Int32) : J p l e ({ frames := 1, cells := 0, slots := 0, locals := 21 } : Room) s m args below meth c 5 D A (wX ad cyI cyZ) Q o0 (loop2 (fX1_neighboursOf_b4 v1 σ) n v2 v3) σ 4 [(0, .ref (ad 1)), (1, .int v1), (2, .int v2), (3, .int v3)] [] := by
  refine J_loop2 (pc := 4) (fun v2 v3 => [(0, .ref (ad 1)), (1, .int v1), (2, .int v2), (3, .int v3)]) (fX1_neighboursOf_b4 v1 σ) ?_ n v2 v3
  intro K4 hK4 v2 v3
  unfold fX1_neighboursOf_b4
  refine J_iload_n C 3 rfl rfl dX1_neighboursOf_4 ?_
  refine J_bipush (v := (20 : Int32)) C dX1_neighboursOf_5 (by decide) ?_
  refine J_icmp_ge (tgt := 53) C dX1_neighboursOf_7 (by decide) ?_ ?_
  · refine J_iload_n C 2 rfl rfl dX1_neighboursOf_53 ?_
    exact hRet v2 _ _ dX1_neighboursOf_54
  · refine J_aload_n C 0 rfl rfl dX1_neighboursOf_10 ?_
    refine J_get C 1 0 1 (C0 := RX1) (T := TX1) (N := 4) (by decide +kernel) rfl rfl (by decide) (by decide +kernel) rfl dX1_neighboursOf_11 ?_
    refine J_iload_n C 3 rfl rfl dX1_neighboursOf_14 ?_
    refine J_iald C 5 0 rfl rfl dX1_neighboursOf_15 ?_
    refine J_istore C dX1_neighboursOf_16 (by decide) rfl ?_
    refine J_iload_n C 2 rfl rfl dX1_neighboursOf_18 ?_
    refine J_iload_n C 4 rfl rfl dX1_neighboursOf_19 ?_
    refine J_callP_SN C [.int v3] (fun zr zh => tX4_bridgeOf v3 σ zr zh) (⟨va_cnB (host := RX4) 1 C.1.2.2.2.2 gX1_neighboursOf_X4_bridgeOf_n43 rfl rfl rfl (C.2.2.2 _ (by decide +kernel)) (C.1.2.2.2.2 (.initialized RX4) (by decide +kernel)) (by decide +kernel) ⟨Nat.le_of_ble_eq_true rfl, Nat.le_of_ble_eq_true rfl⟩, C.1.2.2.2.2 (.static yX4_bridgeOf) (by decide +kernel), trivial⟩) rfl rfl (Nat.le_of_ble_eq_true rfl) dX1_neighboursOf_20 (fun r1 => ?_)
    refine J_callP_SN C [.int v1, .int r1] (fun zr zh => tX4_contains v1 r1 σ zr zh) (⟨va_cnB (host := RX4) 2 C.1.2.2.2.2 gX1_neighboursOf_X4_contains_n35 rfl rfl rfl (C.2.2.2 _ (by decide +kernel)) (C.1.2.2.2.2 (.initialized RX4) (by decide +kernel)) (by decide +kernel) ⟨Nat.le_of_ble_eq_true rfl, Nat.le_of_ble_eq_true rfl⟩, C.1.2.2.2.2 (.static yX4_contains) (by decide +kernel), trivial⟩) rfl rfl (Nat.le_of_ble_eq_true rfl) dX1_neighboursOf_23 (fun r2 => ?_)
    refine J_if_eq (tgt := 47) C dX1_neighboursOf_26 (by decide) ?_ ?_
    · refine J_lv [1, 2, 3, 4, 0] rfl ?_
      exact jX1_neighboursOf_b47 C hRet v1 v2 v3 (σ 5 v3.toNatClampNeg) hK4
    · refine J_iload C 0 rfl dX1_neighboursOf_29 ?_
      refine J_callP_SN C [.int (σ 5 v3.toNatClampNeg)] (fun zr zh => tX4_isPort (σ 5 v3.toNatClampNeg) σ zr zh) (⟨va_cnB (host := RX4) 1 C.1.2.2.2.2 gX1_neighboursOf_X4_isPort_n46 rfl rfl rfl (C.2.2.2 _ (by decide +kernel)) (C.1.2.2.2.2 (.initialized RX4) (by decide +kernel)) (by decide +kernel) ⟨Nat.le_of_ble_eq_true rfl, Nat.le_of_ble_eq_true rfl⟩, C.1.2.2.2.2 (.static yX4_isPort) (by decide +kernel), trivial⟩) rfl rfl (Nat.le_of_ble_eq_true rfl) dX1_neighboursOf_31 (fun r3 => ?_)
      refine J_if_eq (tgt := 47) C dX1_neighboursOf_34 (by decide) ?_ ?_
      · refine J_lv [1, 2, 3, 4, 0] rfl ?_
        exact jX1_neighboursOf_b47 C hRet v1 v2 v3 (σ 5 v3.toNatClampNeg) hK4
      · refine J_iload_n C 3 rfl rfl dX1_neighboursOf_37 ?_
        refine J_iconst (v := (1 : Int32)) C dX1_neighboursOf_38 (by decide) ?_
        refine J_iload C 0 rfl dX1_neighboursOf_39 ?_
        refine J_callP_SN C [.int (σ 5 v3.toNatClampNeg)] (fun zr zh => tX4_bridgeOf (σ 5 v3.toNatClampNeg) σ zr zh) (⟨va_cnB (host := RX4) 1 C.1.2.2.2.2 gX1_neighboursOf_X4_bridgeOf_n43 rfl rfl rfl (C.2.2.2 _ (by decide +kernel)) (C.1.2.2.2.2 (.initialized RX4) (by decide +kernel)) (by decide +kernel) ⟨Nat.le_of_ble_eq_true rfl, Nat.le_of_ble_eq_true rfl⟩, C.1.2.2.2.2 (.static yX4_bridgeOf) (by decide +kernel), trivial⟩) rfl rfl (Nat.le_of_ble_eq_true rfl) dX1_neighboursOf_41 (fun r4 => ?_)
        refine J_ishl C dX1_neighboursOf_44 ?_
        refine J_ior C dX1_neighboursOf_45 ?_
        refine J_istore_n C rfl dX1_neighboursOf_46 (by decide) rfl ?_
        refine J_lv [2, 3, 0, 4, 1] rfl ?_
        exact jX1_neighboursOf_b47 C hRet v1 (v2 ||| ((1 : Int32) <<< (r4 &&& 31))) v3 (σ 5 v3.toNatClampNeg) hK4
set_option maxHeartbeats 4000000 in
set_option maxRecDepth 100000 in
theorem tX1_neighboursOf {l : Launch} {D : va_G} {ad : Nat → Nat} {cyI cyZ : ClassId} (v1 : Int32) (σ : St) (r : Int32) (h : fX1_neighboursOf v1 σ = some r) : MI l D [(cyI, .int), (cyZ, .boolean)] (wX ad cyI cyZ) yX1_neighboursOf wsX1_neighboursOf ({ frames := 1, cells := 0, slots := 0, locals := 21 } : Room) [.ref (ad 1), .int v1] σ r σ := by
  refine entryPI (own := RX1) r (by decide +kernel) rfl rfl (Nat.le_of_ble_eq_true rfl) (fX1_neighboursOf v1 σ) h ?_
  intro p e s m below meth c Q A C hRet
  generalize ([.ref (ad 1), .int v1] : List Value).toArray = args at *
  show J p l e ({ frames := 1, cells := 0, slots := 0, locals := 21 } : Room) s m args below meth c 5 D A (wX ad cyI cyZ) Q r (fX1_neighboursOf v1 σ) σ 0 [(0, .ref (ad 1)), (1, .int v1)] []
  unfold fX1_neighboursOf
  refine J_iconst (v := (0 : Int32)) C dX1_neighboursOf_0 (by decide) ?_
  refine J_istore_n C rfl dX1_neighboursOf_1 (by decide) rfl ?_
  refine J_iconst (v := (0 : Int32)) C dX1_neighboursOf_2 (by decide) ?_
  refine J_istore_n C rfl dX1_neighboursOf_3 (by decide) rfl ?_
  refine J_lv [2, 3, 1, 0] rfl ?_
  exact jX1_neighboursOf_L4 C hRet v1 fuel (0 : Int32) (0 : Int32)
-- X1_bridgesOnWay
set_option maxHeartbeats 4000000 in
set_option maxRecDepth 100000 in
theorem jX1_bridgesOnWay_L7  {o0 : Int32} {σ : St} (C : Cxt p s m args c cX1_bridgesOnWay 5 wsX1_bridgesOnWay RX1 D [(cyI, .int), (cyZ, .boolean)] A) (hRet : ∀ (v : Int32) (pc : Nat) (lv : List (Nat × Value)), decode cX1_bridgesOnWay pc = .ok (.ireturn, 1) → J p l e ({ frames := 2, cells := 0, slots := 0, locals := 45 } : Room) s m args below meth c 5 D A (wX ad cyI cyZ) Q o0 (some v) σ pc lv [.int v]) (v1 v2 : Int32) (n : Nat) (v3 v4 : Int32) : J p l e ({ frames := 2, cells := 0, slots := 0, locals := 45 } : Room) s m args below meth c 5 D A (wX ad cyI cyZ) Q o0 (loop2 (fX1_bridgesOnWay_b7 v1 v2 σ) n v3 v4) σ 7 [(0, .ref (ad 1)), (1, .int v1), (2, .int v2), (3, .int v3), (4, .int v4)] [] := by
  refine J_loop2 (pc := 7) (fun v3 v4 => [(0, .ref (ad 1)), (1, .int v1), (2, .int v2), (3, .int v3), (4, .int v4)]) (fX1_bridgesOnWay_b7 v1 v2 σ) ?_ n v3 v4
  intro K7 hK7 v3 v4
  unfold fX1_bridgesOnWay_b7
  refine J_iload C 4 rfl dX1_bridgesOnWay_7 ?_
  refine J_iconst (v := (5 : Int32)) C dX1_bridgesOnWay_9 (by decide) ?_
  refine J_icmp_gt (tgt := 38) C dX1_bridgesOnWay_10 (by decide) ?_ ?_
  · refine J_iconst (v := (0 : Int32)) C dX1_bridgesOnWay_38 (by decide) ?_
    exact hRet (0 : Int32) _ _ dX1_bridgesOnWay_39
  · refine J_iload_n C 3 rfl rfl dX1_bridgesOnWay_13 ?_
    refine J_iload_n C 2 rfl rfl dX1_bridgesOnWay_14 ?_
    refine J_callP_SN C [.int v3, .int v2] (fun zr zh => tX4_contains v3 v2 σ zr zh) (⟨va_cnB (host := RX4) 2 C.1.2.2.2.2 gX1_bridgesOnWay_X4_contains_n35 rfl rfl rfl (C.2.2.2 _ (by decide +kernel)) (C.1.2.2.2.2 (.initialized RX4) (by decide +kernel)) (by decide +kernel) ⟨Nat.le_of_ble_eq_true rfl, Nat.le_of_ble_eq_true rfl⟩, C.1.2.2.2.2 (.static yX4_contains) (by decide +kernel), trivial⟩) rfl rfl (Nat.le_of_ble_eq_true rfl) dX1_bridgesOnWay_15 (fun r1 => ?_)
    refine J_if_eq (tgt := 24) C dX1_bridgesOnWay_18 (by decide) ?_ ?_
    · refine J_iload_n C 3 rfl rfl dX1_bridgesOnWay_24 ?_
      refine J_aload_n C 0 rfl rfl dX1_bridgesOnWay_25 ?_
      refine J_iload_n C 3 rfl rfl dX1_bridgesOnWay_26 ?_
      refine J_callP_V C [.int v3] 1 1 rfl rfl (fun zr zh => tX1_neighboursOf v3 σ zr zh) (cwV 1 C.1.2.2.2.2 gX1_bridgesOnWay_X1_neighboursOf rfl rfl rfl (by decide +kernel) ⟨Nat.le_of_ble_eq_true rfl, Nat.le_of_ble_eq_true rfl⟩) rfl rfl (Nat.le_of_ble_eq_true rfl) dX1_bridgesOnWay_27 (fun r2 => ?_)
      refine J_ior C dX1_bridgesOnWay_30 ?_
      refine J_istore_n C rfl dX1_bridgesOnWay_31 (by decide) rfl ?_
      refine J_iinc (d := (1 : Int32)) C 4 rfl dX1_bridgesOnWay_32 (by decide) (by decide) rfl ?_
      refine J_goto (tgt := 7) C dX1_bridgesOnWay_35 (by decide) ?_
      refine J_lv [2, 3, 4, 1, 0] rfl ?_
      exact hK7 (v3 ||| r2) (v4 + (1 : Int32))
    · refine J_iload C 4 rfl dX1_bridgesOnWay_21 ?_
      exact hRet v4 _ _ dX1_bridgesOnWay_23
set_option maxHeartbeats 4000000 in
set_option maxRecDepth 100000 in
theorem tX1_bridgesOnWay {l : Launch} {D : va_G} {ad : Nat → Nat} {cyI cyZ : ClassId} (v1 v2 : Int32) (σ : St) (r : Int32) (h : fX1_bridgesOnWay v1 v2 σ = some r) : MI l D [(cyI, .int), (cyZ, .boolean)] (wX ad cyI cyZ) yX1_bridgesOnWay wsX1_bridgesOnWay ({ frames := 2, cells := 0, slots := 0, locals := 45 } : Room) [.ref (ad 1), .int v1, .int v2] σ r σ := by
  refine entryPI (own := RX1) r (by decide +kernel) rfl rfl (Nat.le_of_ble_eq_true rfl) (fX1_bridgesOnWay v1 v2 σ) h ?_
  intro p e s m below meth c Q A C hRet
  generalize ([.ref (ad 1), .int v1, .int v2] : List Value).toArray = args at *
  show J p l e ({ frames := 2, cells := 0, slots := 0, locals := 45 } : Room) s m args below meth c 5 D A (wX ad cyI cyZ) Q r (fX1_bridgesOnWay v1 v2 σ) σ 0 [(0, .ref (ad 1)), (1, .int v1), (2, .int v2)] []
  unfold fX1_bridgesOnWay
  refine J_iconst (v := (1 : Int32)) C dX1_bridgesOnWay_0 (by decide) ?_
  refine J_iload_n C 1 rfl rfl dX1_bridgesOnWay_1 ?_
  refine J_ishl C dX1_bridgesOnWay_2 ?_
  refine J_istore_n C rfl dX1_bridgesOnWay_3 (by decide) rfl ?_
  refine J_iconst (v := (1 : Int32)) C dX1_bridgesOnWay_4 (by decide) ?_
  refine J_istore C dX1_bridgesOnWay_5 (by decide) rfl ?_
  refine J_lv [2, 3, 4, 1, 0] rfl ?_
  exact jX1_bridgesOnWay_L7 C hRet v1 v2 fuel ((1 : Int32) <<< (v1 &&& 31)) (1 : Int32)
-- X2_clear
set_option maxHeartbeats 4000000 in
set_option maxRecDepth 100000 in
theorem jX2_clear_b21  {o0 : St} (C : Cxt p s m args c cX2_clear 2 wsX2_clear RX2 D [(cyI, .int), (cyZ, .boolean)] A) (hRet : ∀ (σ2 : St) (pc : Nat) (lv : List (Nat × Value)), decode cX2_clear pc = .ok (.return_, 1) → J p l e ({ frames := 1, cells := 0, slots := 0, locals := 23 } : Room) s m args below meth c 2 D A (wX ad cyI cyZ) Q o0 (some σ2) σ2 pc lv []) (σ : St) (v1 : Int32) : J p l e ({ frames := 1, cells := 0, slots := 0, locals := 23 } : Room) s m args below meth c 2 D A (wX ad cyI cyZ) Q o0 (fX2_clear_b21 v1 σ) σ 21 [(0, .ref (ad 4)), (1, .int v1)] [] := by
  unfold fX2_clear_b21
  refine J_aload_n C 0 rfl rfl dX2_clear_21 ?_
  refine J_get C 4 1 2 (C0 := RX2) (T := TX2) (N := 2) (by decide +kernel) rfl rfl (by decide) (by decide +kernel) rfl dX2_clear_22 ?_
  refine J_iconst (v := (0 : Int32)) C dX2_clear_25 (by decide) ?_
  refine J_callV_S C [.ref (ad 11), .int (0 : Int32)] (fun zs zh => tJ7_fill_53178 (0 : Int32) σ zs zh) (va_cwS 2 C.1.2.2.2.2 gX2_clear_J7_fill_53178 rfl rfl rfl (by decide +kernel) ⟨Nat.le_of_ble_eq_true rfl, Nat.le_of_ble_eq_true rfl⟩) rfl rfl (Nat.le_of_ble_eq_true rfl) dX2_clear_26 (fun σ1 => ?_)
  exact hRet σ1 _ _ dX2_clear_29
set_option maxHeartbeats 4000000 in
set_option maxRecDepth 100000 in
theorem jX2_clear_L2  {o0 : St} (C : Cxt p s m args c cX2_clear 2 wsX2_clear RX2 D [(cyI, .int), (cyZ, .boolean)] A) (hRet : ∀ (σ2 : St) (pc : Nat) (lv : List (Nat × Value)), decode cX2_clear pc = .ok (.return_, 1) → J p l e ({ frames := 1, cells := 0, slots := 0, locals := 23 } : Room) s m args below meth c 2 D A (wX ad cyI cyZ) Q o0 (some σ2) σ2 pc lv []) (n : Nat) (v1 : Int32) (σ : St) : J p l e ({ frames := 1, cells := 0, slots := 0, locals := 23 } : Room) s m args below meth c 2 D A (wX ad cyI cyZ) Q o0 (loop1s (fX2_clear_b2) n v1 σ) σ 2 [(0, .ref (ad 4)), (1, .int v1)] [] := by
  refine J_loop1s (pc := 2) (fun v1 => [(0, .ref (ad 4)), (1, .int v1)]) (fX2_clear_b2) ?_ n v1 σ
  intro K2 hK2 v1 σ
  unfold fX2_clear_b2
  refine J_iload_n C 1 rfl rfl dX2_clear_2 ?_
  refine J_bipush (v := (28 : Int32)) C dX2_clear_3 (by decide) ?_
  refine J_icmp_ge (tgt := 21) C dX2_clear_5 (by decide) ?_ ?_
  · exact jX2_clear_b21 C hRet σ v1
  · refine J_aload_n C 0 rfl rfl dX2_clear_8 ?_
    refine J_get C 4 0 2 (C0 := RX2) (T := TX2) (N := 2) (by decide +kernel) rfl rfl (by decide) (by decide +kernel) rfl dX2_clear_9 ?_
    refine J_iload_n C 1 rfl rfl dX2_clear_12 ?_
    refine J_iconst (v := (0 : Int32)) C dX2_clear_13 (by decide) ?_
    refine J_zast (σ' := up2 σ 10 v1.toNatClampNeg (vp_nar .boolean (0 : Int32))) C 10 1 rfl rfl (wX_s10 _ _ _ _ _ _) dX2_clear_14 ?_
    refine J_iinc (d := (1 : Int32)) C 1 rfl dX2_clear_15 (by decide) (by decide) rfl ?_
    refine J_goto (tgt := 2) C dX2_clear_18 (by decide) ?_
    refine J_lv [1, 0] rfl ?_
    exact hK2 (v1 + (1 : Int32)) (up2 σ 10 v1.toNatClampNeg (vp_nar .boolean (0 : Int32)))
set_option maxHeartbeats 4000000 in
set_option maxRecDepth 100000 in
theorem tX2_clear {l : Launch} {D : va_G} {ad : Nat → Nat} {cyI cyZ : ClassId} (σ : St) (σ1 : St) (h : fX2_clear σ = some σ1) : MV l D [(cyI, .int), (cyZ, .boolean)] (wX ad cyI cyZ) yX2_clear wsX2_clear ({ frames := 1, cells := 0, slots := 0, locals := 23 } : Room) [.ref (ad 4)] σ σ1 := by
  refine entryV (own := RX2) σ1 (by decide +kernel) rfl rfl (Nat.le_of_ble_eq_true rfl) (fX2_clear σ) h ?_
  intro p e s m below meth c Q A C hRet
  generalize ([.ref (ad 4)] : List Value).toArray = args at *
  show J p l e ({ frames := 1, cells := 0, slots := 0, locals := 23 } : Room) s m args below meth c 2 D A (wX ad cyI cyZ) Q σ1 (fX2_clear σ) σ 0 [(0, .ref (ad 4))] []
  unfold fX2_clear
  refine J_iconst (v := (0 : Int32)) C dX2_clear_0 (by decide) ?_
  refine J_istore_n C rfl dX2_clear_1 (by decide) rfl ?_
  refine J_lv [1, 0] rfl ?_
  exact jX2_clear_L2 C hRet fuel (0 : Int32) σ
-- X3_change
set_option maxHeartbeats 4000000 in
set_option maxRecDepth 100000 in
theorem tX3_change {l : Launch} {D : va_G} {ad : Nat → Nat} {cyI cyZ : ClassId} (v1 v2 v3 : Int32) (σ : St) (σ1 : St) (h : fX3_change v1 v2 v3 σ = some σ1) : MV l D [(cyI, .int), (cyZ, .boolean)] (wX ad cyI cyZ) yX3_change wsX3_change ({ frames := 0, cells := 0, slots := 0, locals := 0 } : Room) [.ref (ad 2), .int v1, .int v2, .int v3] σ σ1 := by
  refine entryV (own := RX3) σ1 (by decide +kernel) rfl rfl (Nat.le_of_ble_eq_true rfl) (fX3_change v1 v2 v3 σ) h ?_
  intro p e s m below meth c Q A C hRet
  generalize ([.ref (ad 2), .int v1, .int v2, .int v3] : List Value).toArray = args at *
  show J p l e ({ frames := 0, cells := 0, slots := 0, locals := 0 } : Room) s m args below meth c 4 D A (wX ad cyI cyZ) Q σ1 (fX3_change v1 v2 v3 σ) σ 0 [(0, .ref (ad 2)), (1, .int v1), (2, .int v2), (3, .int v3)] []
  unfold fX3_change
  refine J_aload_n C 0 rfl rfl dX3_change_0 ?_
  refine J_get C 2 0 3 (C0 := RX3) (T := TX3) (N := 2) (by decide +kernel) rfl rfl (by decide) (by decide +kernel) rfl dX3_change_1 ?_
  refine J_iload_n C 1 rfl rfl dX3_change_4 ?_
  refine J_iload_n C 2 rfl rfl dX3_change_5 ?_
  refine J_iast (σ' := up2 σ 6 v1.toNatClampNeg v2) C 6 0 rfl rfl (wX_s6 _ _ _ _ _ _) dX3_change_6 ?_
  refine J_aload_n C 0 rfl rfl dX3_change_7 ?_
  refine J_get C 2 1 3 (C0 := RX3) (T := TX3) (N := 2) (by decide +kernel) rfl rfl (by decide) (by decide +kernel) rfl dX3_change_8 ?_
  refine J_iload_n C 1 rfl rfl dX3_change_11 ?_
  refine J_iload_n C 3 rfl rfl dX3_change_12 ?_
  refine J_iast (σ' := up2 (up2 σ 6 v1.toNatClampNeg v2) 7 v1.toNatClampNeg v3) C 7 0 rfl rfl (wX_s7 _ _ _ _ _ _) dX3_change_13 ?_
  exact hRet (up2 (up2 σ 6 v1.toNatClampNeg v2) 7 v1.toNatClampNeg v3) _ _ dX3_change_14
-- X3_startLeaving
set_option maxHeartbeats 4000000 in
set_option maxRecDepth 100000 in
theorem tX3_startLeaving {l : Launch} {D : va_G} {ad : Nat → Nat} {cyI cyZ : ClassId} (v1 v2 : Int32) (σ : St) (σ1 : St) (h : fX3_startLeaving v1 v2 σ = some σ1) : MV l D [(cyI, .int), (cyZ, .boolean)] (wX ad cyI cyZ) yX3_startLeaving wsX3_startLeaving ({ frames := 1, cells := 0, slots := 0, locals := 23 } : Room) [.ref (ad 2), .int v1, .int v2] σ σ1 := by
  refine entryV (own := RX3) σ1 (by decide +kernel) rfl rfl (Nat.le_of_ble_eq_true rfl) (fX3_startLeaving v1 v2 σ) h ?_
  intro p e s m below meth c Q A C hRet
  generalize ([.ref (ad 2), .int v1, .int v2] : List Value).toArray = args at *
  show J p l e ({ frames := 1, cells := 0, slots := 0, locals := 23 } : Room) s m args below meth c 3 D A (wX ad cyI cyZ) Q σ1 (fX3_startLeaving v1 v2 σ) σ 0 [(0, .ref (ad 2)), (1, .int v1), (2, .int v2)] []
  unfold fX3_startLeaving
  refine J_aload_n C 0 rfl rfl dX3_startLeaving_0 ?_
  refine J_get C 2 0 3 (C0 := RX3) (T := TX3) (N := 2) (by decide +kernel) rfl rfl (by decide) (by decide +kernel) rfl dX3_startLeaving_1 ?_
  refine J_iload_n C 1 rfl rfl dX3_startLeaving_4 ?_
  refine J_iald C 6 0 rfl rfl dX3_startLeaving_5 ?_
  refine J_iconst (v := (1 : Int32)) C dX3_startLeaving_6 (by decide) ?_
  refine J_icmp_ne (tgt := 17) C dX3_startLeaving_7 (by decide) ?_ ?_
  · exact hRet σ _ _ dX3_startLeaving_17
  · refine J_aload_n C 0 rfl rfl dX3_startLeaving_10 ?_
    refine J_iload_n C 1 rfl rfl dX3_startLeaving_11 ?_
    refine J_iconst (v := (2 : Int32)) C dX3_startLeaving_12 (by decide) ?_
    refine J_iload_n C 2 rfl rfl dX3_startLeaving_13 ?_
    refine J_callV_V C [.int v1, .int (2 : Int32), .int v2] 2 3 rfl rfl (fun zs zh => tX3_change v1 (2 : Int32) v2 σ zs zh) (cwV 3 C.1.2.2.2.2 gX3_startLeaving_X3_change rfl rfl rfl (by decide +kernel) ⟨Nat.le_of_ble_eq_true rfl, Nat.le_of_ble_eq_true rfl⟩) rfl rfl (Nat.le_of_ble_eq_true rfl) dX3_startLeaving_14 (fun σ1 => ?_)
    exact hRet σ1 _ _ dX3_startLeaving_17
-- X3_hear
set_option maxHeartbeats 4000000 in
set_option maxRecDepth 100000 in
theorem tX3_hear {l : Launch} {D : va_G} {ad : Nat → Nat} {cyI cyZ : ClassId} (v1 v2 v3 : Int32) (σ : St) (σ1 : St) (h : fX3_hear v1 v2 v3 σ = some σ1) : MV l D [(cyI, .int), (cyZ, .boolean)] (wX ad cyI cyZ) yX3_hear wsX3_hear ({ frames := 2, cells := 0, slots := 0, locals := 45 } : Room) [.ref (ad 2), .int v1, .int v2, .int v3] σ σ1 := by
  refine entryV (own := RX3) σ1 (by decide +kernel) rfl rfl (Nat.le_of_ble_eq_true rfl) (fX3_hear v1 v2 v3 σ) h ?_
  intro p e s m below meth c Q A C hRet
  generalize ([.ref (ad 2), .int v1, .int v2, .int v3] : List Value).toArray = args at *
  show J p l e ({ frames := 2, cells := 0, slots := 0, locals := 45 } : Room) s m args below meth c 4 D A (wX ad cyI cyZ) Q σ1 (fX3_hear v1 v2 v3 σ) σ 0 [(0, .ref (ad 2)), (1, .int v1), (2, .int v2), (3, .int v3)] []
  unfold fX3_hear
  refine J_iload_n C 2 rfl rfl dX3_hear_0 ?_
  refine J_iconst (v := (1 : Int32)) C dX3_hear_1 (by decide) ?_
  refine J_icmp_ne (tgt := 15) C dX3_hear_2 (by decide) ?_ ?_
  · refine J_iload_n C 2 rfl rfl dX3_hear_15 ?_
    refine J_iconst (v := (2 : Int32)) C dX3_hear_16 (by decide) ?_
    refine J_icmp_ne (tgt := 26) C dX3_hear_17 (by decide) ?_ ?_
    · exact hRet σ _ _ dX3_hear_26
    · refine J_aload_n C 0 rfl rfl dX3_hear_20 ?_
      refine J_iload_n C 1 rfl rfl dX3_hear_21 ?_
      refine J_iload_n C 3 rfl rfl dX3_hear_22 ?_
      refine J_callV_V C [.int v1, .int v3] 2 3 rfl rfl (fun zs zh => tX3_startLeaving v1 v3 σ zs zh) (cwV 2 C.1.2.2.2.2 gX3_hear_X3_startLeaving rfl rfl rfl (by decide +kernel) ⟨Nat.le_of_ble_eq_true rfl, Nat.le_of_ble_eq_true rfl⟩) rfl rfl (Nat.le_of_ble_eq_true rfl) dX3_hear_23 (fun σ1 => ?_)
      exact hRet σ1 _ _ dX3_hear_26
  · refine J_aload_n C 0 rfl rfl dX3_hear_5 ?_
    refine J_iload_n C 1 rfl rfl dX3_hear_6 ?_
    refine J_iconst (v := (1 : Int32)) C dX3_hear_7 (by decide) ?_
    refine J_iconst (v := (0 : Int32)) C dX3_hear_8 (by decide) ?_
    refine J_callV_V C [.int v1, .int (1 : Int32), .int (0 : Int32)] 2 3 rfl rfl (fun zs zh => tX3_change v1 (1 : Int32) (0 : Int32) σ zs zh) (cwV 3 C.1.2.2.2.2 gX3_hear_X3_change rfl rfl rfl (by decide +kernel) ⟨Nat.le_of_ble_eq_true rfl, Nat.le_of_ble_eq_true rfl⟩) rfl rfl (Nat.le_of_ble_eq_true rfl) dX3_hear_9 (fun σ2 => ?_)
    refine J_goto (tgt := 26) C dX3_hear_12 (by decide) ?_
    exact hRet σ2 _ _ dX3_hear_26
-- X3_countDown
set_option maxHeartbeats 4000000 in
set_option maxRecDepth 100000 in
theorem tX3_countDown {l : Launch} {D : va_G} {ad : Nat → Nat} {cyI cyZ : ClassId} (v1 : Int32) (σ : St) (σ1 : St) (h : fX3_countDown v1 σ = some σ1) : MV l D [(cyI, .int), (cyZ, .boolean)] (wX ad cyI cyZ) yX3_countDown wsX3_countDown ({ frames := 0, cells := 0, slots := 0, locals := 0 } : Room) [.ref (ad 2), .int v1] σ σ1 := by
  refine entryV (own := RX3) σ1 (by decide +kernel) rfl rfl (Nat.le_of_ble_eq_true rfl) (fX3_countDown v1 σ) h ?_
  intro p e s m below meth c Q A C hRet
  generalize ([.ref (ad 2), .int v1] : List Value).toArray = args at *
  show J p l e ({ frames := 0, cells := 0, slots := 0, locals := 0 } : Room) s m args below meth c 2 D A (wX ad cyI cyZ) Q σ1 (fX3_countDown v1 σ) σ 0 [(0, .ref (ad 2)), (1, .int v1)] []
  unfold fX3_countDown
  refine J_aload_n C 0 rfl rfl dX3_countDown_0 ?_
  refine J_get C 2 0 3 (C0 := RX3) (T := TX3) (N := 2) (by decide +kernel) rfl rfl (by decide) (by decide +kernel) rfl dX3_countDown_1 ?_
  refine J_iload_n C 1 rfl rfl dX3_countDown_4 ?_
  refine J_iald C 6 0 rfl rfl dX3_countDown_5 ?_
  refine J_iconst (v := (2 : Int32)) C dX3_countDown_6 (by decide) ?_
  refine J_icmp_ne (tgt := 36) C dX3_countDown_7 (by decide) ?_ ?_
  · exact hRet σ _ _ dX3_countDown_36
  · refine J_aload_n C 0 rfl rfl dX3_countDown_10 ?_
    refine J_get C 2 1 3 (C0 := RX3) (T := TX3) (N := 2) (by decide +kernel) rfl rfl (by decide) (by decide +kernel) rfl dX3_countDown_11 ?_
    refine J_iload_n C 1 rfl rfl dX3_countDown_14 ?_
    refine J_dup2 C rfl rfl dX3_countDown_15 ?_
    refine J_iald C 7 0 rfl rfl dX3_countDown_16 ?_
    refine J_iconst (v := (1 : Int32)) C dX3_countDown_17 (by decide) ?_
    refine J_isub C dX3_countDown_18 ?_
    refine J_iast (σ' := up2 σ 7 v1.toNatClampNeg ((σ 7 v1.toNatClampNeg) - (1 : Int32))) C 7 0 rfl rfl (wX_s7 _ _ _ _ _ _) dX3_countDown_19 ?_
    refine J_aload_n C 0 rfl rfl dX3_countDown_20 ?_
    refine J_get C 2 1 3 (C0 := RX3) (T := TX3) (N := 2) (by decide +kernel) rfl rfl (by decide) (by decide +kernel) rfl dX3_countDown_21 ?_
    refine J_iload_n C 1 rfl rfl dX3_countDown_24 ?_
    refine J_iald C 7 0 rfl rfl dX3_countDown_25 ?_
    refine J_if_ne (tgt := 36) C dX3_countDown_26 (by decide) ?_ ?_
    · exact hRet (up2 σ 7 v1.toNatClampNeg ((σ 7 v1.toNatClampNeg) - (1 : Int32))) _ _ dX3_countDown_36
    · refine J_aload_n C 0 rfl rfl dX3_countDown_29 ?_
      refine J_get C 2 0 3 (C0 := RX3) (T := TX3) (N := 2) (by decide +kernel) rfl rfl (by decide) (by decide +kernel) rfl dX3_countDown_30 ?_
      refine J_iload_n C 1 rfl rfl dX3_countDown_33 ?_
      refine J_iconst (v := (0 : Int32)) C dX3_countDown_34 (by decide) ?_
      refine J_iast (σ' := up2 (up2 σ 7 v1.toNatClampNeg ((σ 7 v1.toNatClampNeg) - (1 : Int32))) 6 v1.toNatClampNeg (0 : Int32)) C 6 0 rfl rfl (wX_s6 _ _ _ _ _ _) dX3_countDown_35 ?_
      exact hRet (up2 (up2 σ 7 v1.toNatClampNeg ((σ 7 v1.toNatClampNeg) - (1 : Int32))) 6 v1.toNatClampNeg (0 : Int32)) _ _ dX3_countDown_36
-- X4_addBridge
set_option maxHeartbeats 4000000 in
set_option maxRecDepth 100000 in
theorem tX4_addBridge {l : Launch} {D : va_G} {ad : Nat → Nat} {cyI cyZ : ClassId} (σ : St) (r : Int32) (σ1 : St) (h : fX4_addBridge σ = some (r, σ1)) : MI l D [(cyI, .int), (cyZ, .boolean)] (wX ad cyI cyZ) yX4_addBridge wsX4_addBridge ({ frames := 0, cells := 0, slots := 0, locals := 0 } : Room) [.ref (ad 0)] σ r σ1 := by
  refine entryI (own := RX4) r σ1 (by decide +kernel) rfl rfl (Nat.le_of_ble_eq_true rfl) (fX4_addBridge σ) h ?_
  intro p e s m below meth c Q A C hRet
  generalize ([.ref (ad 0)] : List Value).toArray = args at *
  show J p l e ({ frames := 0, cells := 0, slots := 0, locals := 0 } : Room) s m args below meth c 2 D A (wX ad cyI cyZ) Q (r, σ1) (fX4_addBridge σ) σ 0 [(0, .ref (ad 0))] []
  unfold fX4_addBridge
  refine J_aload_n C 0 rfl rfl dX4_addBridge_0 ?_
  refine J_get C 0 0 4 (C0 := RX4) (T := TX4) (N := 11) (by decide +kernel) rfl rfl (by decide) (by decide +kernel) rfl dX4_addBridge_1 ?_
  refine J_getN C 1 1 1 (C0 := RX1) (T := TX1) (N := 4) (host := RX4) (by decide +kernel) rfl rfl (by decide) (by decide +kernel) rfl dX4_addBridge_4 ?_
  refine J_iconst (v := (5 : Int32)) C dX4_addBridge_7 (by decide) ?_
  refine J_icmp_lt (tgt := 14) C dX4_addBridge_8 (by decide) ?_ ?_
  · refine J_aload_n C 0 rfl rfl dX4_addBridge_14 ?_
    refine J_get C 0 0 4 (C0 := RX4) (T := TX4) (N := 11) (by decide +kernel) rfl rfl (by decide) (by decide +kernel) rfl dX4_addBridge_15 ?_
    refine J_getN C 1 1 1 (C0 := RX1) (T := TX1) (N := 4) (host := RX4) (by decide +kernel) rfl rfl (by decide) (by decide +kernel) rfl dX4_addBridge_18 ?_
    refine J_istore_n C rfl dX4_addBridge_21 (by decide) rfl ?_
    refine J_aload_n C 1 rfl rfl dX4_addBridge_22 ?_
    refine J_get C 0 0 4 (C0 := RX4) (T := TX4) (N := 11) (by decide +kernel) rfl rfl (by decide) (by decide +kernel) rfl dX4_addBridge_23 ?_
    refine J_dup C rfl dX4_addBridge_26 ?_
    refine J_getN C 1 1 1 (C0 := RX1) (T := TX1) (N := 4) (host := RX4) (by decide +kernel) rfl rfl (by decide) (by decide +kernel) rfl dX4_addBridge_27 ?_
    refine J_iconst (v := (1 : Int32)) C dX4_addBridge_30 (by decide) ?_
    refine J_iadd C dX4_addBridge_31 ?_
    refine J_putN (σ' := up2 σ 1 1 ((σ 1 1) + (1 : Int32))) C 1 1 1 (C0 := RX1) (T := TX1) (N := 4) (host := RX4) tyX1 tyX1_ok nmX1 (by decide +kernel) rfl rfl (by decide) (by decide +kernel) rfl (by decide +kernel) (Nat.le_of_ble_eq_true rfl) (wX_p1_1 _ _ _ _ _) dX4_addBridge_32 ?_
    refine J_iload_n C 0 rfl rfl dX4_addBridge_35 ?_
    exact hRet (σ 1 1) (up2 σ 1 1 ((σ 1 1) + (1 : Int32))) _ _ dX4_addBridge_36
  · refine J_bipush (v := (-5 : Int32)) C dX4_addBridge_11 (by decide) ?_
    exact hRet (-5 : Int32) σ _ _ dX4_addBridge_13
-- X4_startPort
set_option maxHeartbeats 4000000 in
set_option maxRecDepth 100000 in
theorem tX4_startPort {l : Launch} {D : va_G} {ad : Nat → Nat} {cyI cyZ : ClassId} (v1 : Int32) (σ : St) (σ1 : St) (h : fX4_startPort v1 σ = some σ1) : MV l D [(cyI, .int), (cyZ, .boolean)] (wX ad cyI cyZ) yX4_startPort wsX4_startPort ({ frames := 0, cells := 0, slots := 0, locals := 0 } : Room) [.ref (ad 0), .int v1] σ σ1 := by
  refine entryV (own := RX4) σ1 (by decide +kernel) rfl rfl (Nat.le_of_ble_eq_true rfl) (fX4_startPort v1 σ) h ?_
  intro p e s m below meth c Q A C hRet
  generalize ([.ref (ad 0), .int v1] : List Value).toArray = args at *
  show J p l e ({ frames := 0, cells := 0, slots := 0, locals := 0 } : Room) s m args below meth c 2 D A (wX ad cyI cyZ) Q σ1 (fX4_startPort v1 σ) σ 0 [(0, .ref (ad 0)), (1, .int v1)] []
  unfold fX4_startPort
  refine J_aload_n C 0 rfl rfl dX4_startPort_0 ?_
  refine J_get C 0 4 4 (C0 := RX4) (T := TX4) (N := 11) (by decide +kernel) rfl rfl (by decide) (by decide +kernel) rfl dX4_startPort_1 ?_
  refine J_iload_n C 1 rfl rfl dX4_startPort_4 ?_
  refine J_aload_n C 0 rfl rfl dX4_startPort_5 ?_
  refine J_get C 0 9 4 (C0 := RX4) (T := TX4) (N := 11) (by decide +kernel) rfl rfl (by decide) (by decide +kernel) rfl dX4_startPort_6 ?_
  refine J_iast (σ' := up2 σ 12 v1.toNatClampNeg (σ 0 9)) C 12 0 rfl rfl (wX_s12 _ _ _ _ _ _) dX4_startPort_9 ?_
  exact hRet (up2 σ 12 v1.toNatClampNeg (σ 0 9)) _ _ dX4_startPort_10
-- X4_connect
set_option maxHeartbeats 4000000 in
set_option maxRecDepth 100000 in
theorem tX4_connect {l : Launch} {D : va_G} {ad : Nat → Nat} {cyI cyZ : ClassId} (v1 v2 v3 v4 : Int32) (σ : St) (r : Int32) (σ1 : St) (h : fX4_connect v1 v2 v3 v4 σ = some (r, σ1)) : MI l D [(cyI, .int), (cyZ, .boolean)] (wX ad cyI cyZ) yX4_connect wsX4_connect ({ frames := 3, cells := 0, slots := 0, locals := 69 } : Room) [.ref (ad 0), .int v1, .int v2, .int v3, .int v4] σ r σ1 := by
  refine entryI (own := RX4) r σ1 (by decide +kernel) rfl rfl (Nat.le_of_ble_eq_true rfl) (fX4_connect v1 v2 v3 v4 σ) h ?_
  intro p e s m below meth c Q A C hRet
  generalize ([.ref (ad 0), .int v1, .int v2, .int v3, .int v4] : List Value).toArray = args at *
  show J p l e ({ frames := 3, cells := 0, slots := 0, locals := 69 } : Room) s m args below meth c 7 D A (wX ad cyI cyZ) Q (r, σ1) (fX4_connect v1 v2 v3 v4 σ) σ 0 [(0, .ref (ad 0)), (1, .int v1), (2, .int v2), (3, .int v3), (4, .int v4)] []
  unfold fX4_connect
  refine J_aload_n C 0 rfl rfl dX4_connect_0 ?_
  refine J_get C 0 0 4 (C0 := RX4) (T := TX4) (N := 11) (by decide +kernel) rfl rfl (by decide) (by decide +kernel) rfl dX4_connect_1 ?_
  refine J_iload_n C 1 rfl rfl dX4_connect_4 ?_
  refine J_iload_n C 2 rfl rfl dX4_connect_5 ?_
  refine J_callP_VN C [.int v1, .int v2] 1 1 rfl rfl (fun zr zh => tX1_stationOfPort v1 v2 σ zr zh) (⟨va_cnB (host := RX4) 2 C.1.2.2.2.2 gX4_connect_X1_stationOfPort_n64 rfl rfl rfl (C.2.2.2 _ (by decide +kernel)) (C.1.2.2.2.2 (.initialized RX1) (by decide +kernel)) (by decide +kernel) ⟨Nat.le_of_ble_eq_true rfl, Nat.le_of_ble_eq_true rfl⟩, C.1.2.2.2.2 (.instanceMethod yX1_stationOfPort) (by decide +kernel), C.1.2.2.2.2 (.selects RX1 yX1_stationOfPort yX1_stationOfPort) (by decide +kernel)⟩) rfl rfl (Nat.le_of_ble_eq_true rfl) dX4_connect_6 (fun r1 => ?_)
  refine J_istore C dX4_connect_9 (by decide) rfl ?_
  refine J_aload_n C 1 rfl rfl dX4_connect_11 ?_
  refine J_get C 0 0 4 (C0 := RX4) (T := TX4) (N := 11) (by decide +kernel) rfl rfl (by decide) (by decide +kernel) rfl dX4_connect_12 ?_
  refine J_iload_n C 4 rfl rfl dX4_connect_15 ?_
  refine J_iload C 5 rfl dX4_connect_16 ?_
  refine J_callP_VN C [.int v3, .int v4] 1 1 rfl rfl (fun zr zh => tX1_stationOfPort v3 v4 σ zr zh) (⟨va_cnB (host := RX4) 2 C.1.2.2.2.2 gX4_connect_X1_stationOfPort_n64 rfl rfl rfl (C.2.2.2 _ (by decide +kernel)) (C.1.2.2.2.2 (.initialized RX1) (by decide +kernel)) (by decide +kernel) ⟨Nat.le_of_ble_eq_true rfl, Nat.le_of_ble_eq_true rfl⟩, C.1.2.2.2.2 (.instanceMethod yX1_stationOfPort) (by decide +kernel), C.1.2.2.2.2 (.selects RX1 yX1_stationOfPort yX1_stationOfPort) (by decide +kernel)⟩) rfl rfl (Nat.le_of_ble_eq_true rfl) dX4_connect_18 (fun r2 => ?_)
  refine J_istore C dX4_connect_21 (by decide) rfl ?_
  refine J_iload C 1 rfl dX4_connect_23 ?_
  refine J_if_lt (tgt := 33) C dX4_connect_25 (by decide) ?_ ?_
  · refine J_iconst (v := (-1 : Int32)) C dX4_connect_33 (by decide) ?_
    exact hRet (-1 : Int32) σ _ _ dX4_connect_34
  · refine J_iload C 0 rfl dX4_connect_28 ?_
    refine J_if_ge (tgt := 35) C dX4_connect_30 (by decide) ?_ ?_
    · refine J_aload_n C 2 rfl rfl dX4_connect_35 ?_
      refine J_get C 0 0 4 (C0 := RX4) (T := TX4) (N := 11) (by decide +kernel) rfl rfl (by decide) (by decide +kernel) rfl dX4_connect_36 ?_
      refine J_iload C 1 rfl dX4_connect_39 ?_
      refine J_callP_VN C [.int r1] 1 1 rfl rfl (fun zr zh => tX1_isConnected r1 σ zr zh) (⟨va_cnB (host := RX4) 1 C.1.2.2.2.2 gX4_connect_X1_isConnected_n68 rfl rfl rfl (C.2.2.2 _ (by decide +kernel)) (C.1.2.2.2.2 (.initialized RX1) (by decide +kernel)) (by decide +kernel) ⟨Nat.le_of_ble_eq_true rfl, Nat.le_of_ble_eq_true rfl⟩, C.1.2.2.2.2 (.instanceMethod yX1_isConnected) (by decide +kernel), C.1.2.2.2.2 (.selects RX1 yX1_isConnected yX1_isConnected) (by decide +kernel)⟩) rfl rfl (Nat.le_of_ble_eq_true rfl) dX4_connect_41 (fun r3 => ?_)
      refine J_if_ne (tgt := 59) C dX4_connect_44 (by decide) ?_ ?_
      · refine J_bipush (v := (-6 : Int32)) C dX4_connect_59 (by decide) ?_
        exact hRet (-6 : Int32) σ _ _ dX4_connect_61
      · refine J_aload_n C 2 rfl rfl dX4_connect_47 ?_
        refine J_get C 0 0 4 (C0 := RX4) (T := TX4) (N := 11) (by decide +kernel) rfl rfl (by decide) (by decide +kernel) rfl dX4_connect_48 ?_
        refine J_iload C 0 rfl dX4_connect_51 ?_
        refine J_callP_VN C [.int r2] 1 1 rfl rfl (fun zr zh => tX1_isConnected r2 σ zr zh) (⟨va_cnB (host := RX4) 1 C.1.2.2.2.2 gX4_connect_X1_isConnected_n68 rfl rfl rfl (C.2.2.2 _ (by decide +kernel)) (C.1.2.2.2.2 (.initialized RX1) (by decide +kernel)) (by decide +kernel) ⟨Nat.le_of_ble_eq_true rfl, Nat.le_of_ble_eq_true rfl⟩, C.1.2.2.2.2 (.instanceMethod yX1_isConnected) (by decide +kernel), C.1.2.2.2.2 (.selects RX1 yX1_isConnected yX1_isConnected) (by decide +kernel)⟩) rfl rfl (Nat.le_of_ble_eq_true rfl) dX4_connect_53 (fun r4 => ?_)
        refine J_if_eq (tgt := 62) C dX4_connect_56 (by decide) ?_ ?_
        · refine J_aload_n C 2 rfl rfl dX4_connect_62 ?_
          refine J_get C 0 0 4 (C0 := RX4) (T := TX4) (N := 11) (by decide +kernel) rfl rfl (by decide) (by decide +kernel) rfl dX4_connect_63 ?_
          refine J_iload_n C 3 rfl rfl dX4_connect_66 ?_
          refine J_iload_n C 5 rfl rfl dX4_connect_67 ?_
          refine J_callP_VN C [.int v1, .int v3] 1 1 rfl rfl (fun zr zh => tX1_bridgesOnWay v1 v3 σ zr zh) (⟨va_cnB (host := RX4) 2 C.1.2.2.2.2 gX4_connect_X1_bridgesOnWay_n72 rfl rfl rfl (C.2.2.2 _ (by decide +kernel)) (C.1.2.2.2.2 (.initialized RX1) (by decide +kernel)) (by decide +kernel) ⟨Nat.le_of_ble_eq_true rfl, Nat.le_of_ble_eq_true rfl⟩, C.1.2.2.2.2 (.instanceMethod yX1_bridgesOnWay) (by decide +kernel), C.1.2.2.2.2 (.selects RX1 yX1_bridgesOnWay yX1_bridgesOnWay) (by decide +kernel)⟩) rfl rfl (Nat.le_of_ble_eq_true rfl) dX4_connect_68 (fun r5 => ?_)
          refine J_if_le (tgt := 77) C dX4_connect_71 (by decide) ?_ ?_
          · refine J_aload_n C 2 rfl rfl dX4_connect_77 ?_
            refine J_get C 0 0 4 (C0 := RX4) (T := TX4) (N := 11) (by decide +kernel) rfl rfl (by decide) (by decide +kernel) rfl dX4_connect_78 ?_
            refine J_iload C 1 rfl dX4_connect_81 ?_
            refine J_iload C 0 rfl dX4_connect_83 ?_
            refine J_callV_VN C [.int r1, .int r2] 1 1 rfl rfl (fun zs zh => tX1_tie r1 r2 σ zs zh) (⟨va_cnB (host := RX4) 2 C.1.2.2.2.2 gX4_connect_X1_tie_n75 rfl rfl rfl (C.2.2.2 _ (by decide +kernel)) (C.1.2.2.2.2 (.initialized RX1) (by decide +kernel)) (by decide +kernel) ⟨Nat.le_of_ble_eq_true rfl, Nat.le_of_ble_eq_true rfl⟩, C.1.2.2.2.2 (.instanceMethod yX1_tie) (by decide +kernel), C.1.2.2.2.2 (.selects RX1 yX1_tie yX1_tie) (by decide +kernel)⟩) rfl rfl (Nat.le_of_ble_eq_true rfl) dX4_connect_85 (fun σ6 => ?_)
            refine J_aload_n C 2 rfl rfl dX4_connect_88 ?_
            refine J_get C 0 0 4 (C0 := RX4) (T := TX4) (N := 11) (by decide +kernel) rfl rfl (by decide) (by decide +kernel) rfl dX4_connect_89 ?_
            refine J_dup C rfl dX4_connect_92 ?_
            refine J_getN C 1 3 1 (C0 := RX1) (T := TX1) (N := 4) (host := RX4) (by decide +kernel) rfl rfl (by decide) (by decide +kernel) rfl dX4_connect_93 ?_
            refine J_iconst (v := (1 : Int32)) C dX4_connect_96 (by decide) ?_
            refine J_iadd C dX4_connect_97 ?_
            refine J_putN (σ' := up2 σ6 1 3 ((σ6 1 3) + (1 : Int32))) C 1 3 1 (C0 := RX1) (T := TX1) (N := 4) (host := RX4) tyX1 tyX1_ok nmX1 (by decide +kernel) rfl rfl (by decide) (by decide +kernel) rfl (by decide +kernel) (Nat.le_of_ble_eq_true rfl) (wX_p1_3 _ _ _ _ _) dX4_connect_98 ?_
            refine J_aload_n C 2 rfl rfl dX4_connect_101 ?_
            refine J_iload C 1 rfl dX4_connect_102 ?_
            refine J_callV_V C [.int r1] 0 4 rfl rfl (fun zs zh => tX4_startPort r1 (up2 σ6 1 3 ((σ6 1 3) + (1 : Int32))) zs zh) (cwV 1 C.1.2.2.2.2 gX4_connect_X4_startPort rfl rfl rfl (by decide +kernel) ⟨Nat.le_of_ble_eq_true rfl, Nat.le_of_ble_eq_true rfl⟩) rfl rfl (Nat.le_of_ble_eq_true rfl) dX4_connect_104 (fun σ7 => ?_)
            refine J_aload_n C 2 rfl rfl dX4_connect_107 ?_
            refine J_iload C 0 rfl dX4_connect_108 ?_
            refine J_callV_V C [.int r2] 0 4 rfl rfl (fun zs zh => tX4_startPort r2 σ7 zs zh) (cwV 1 C.1.2.2.2.2 gX4_connect_X4_startPort rfl rfl rfl (by decide +kernel) ⟨Nat.le_of_ble_eq_true rfl, Nat.le_of_ble_eq_true rfl⟩) rfl rfl (Nat.le_of_ble_eq_true rfl) dX4_connect_110 (fun σ8 => ?_)
            refine J_aload_n C 2 rfl rfl dX4_connect_113 ?_
            refine J_get C 0 0 4 (C0 := RX4) (T := TX4) (N := 11) (by decide +kernel) rfl rfl (by decide) (by decide +kernel) rfl dX4_connect_114 ?_
            refine J_getN C 1 3 1 (C0 := RX1) (T := TX1) (N := 4) (host := RX4) (by decide +kernel) rfl rfl (by decide) (by decide +kernel) rfl dX4_connect_117 ?_
            exact hRet (σ8 1 3) σ8 _ _ dX4_connect_120
          · refine J_bipush (v := (-8 : Int32)) C dX4_connect_74 (by decide) ?_
            exact hRet (-8 : Int32) σ _ _ dX4_connect_76
        · refine J_bipush (v := (-6 : Int32)) C dX4_connect_59 (by decide) ?_
          exact hRet (-6 : Int32) σ _ _ dX4_connect_61
    · refine J_iconst (v := (-1 : Int32)) C dX4_connect_33 (by decide) ?_
      exact hRet (-1 : Int32) σ _ _ dX4_connect_34
-- X4_cellOf
set_option maxHeartbeats 4000000 in
set_option maxRecDepth 100000 in
theorem tX4_cellOf {l : Launch} {D : va_G} {ad : Nat → Nat} {cyI cyZ : ClassId} (v0 v1 : Int32) (σ : St) (r : Int32) (h : fX4_cellOf v0 v1 σ = some r) : MI l D [(cyI, .int), (cyZ, .boolean)] (wX ad cyI cyZ) yX4_cellOf wsX4_cellOf ({ frames := 0, cells := 0, slots := 0, locals := 0 } : Room) [.int v0, .int v1] σ r σ := by
  refine entryPI (own := RX4) r (by decide +kernel) rfl rfl (Nat.le_of_ble_eq_true rfl) (fX4_cellOf v0 v1 σ) h ?_
  intro p e s m below meth c Q A C hRet
  generalize ([.int v0, .int v1] : List Value).toArray = args at *
  show J p l e ({ frames := 0, cells := 0, slots := 0, locals := 0 } : Room) s m args below meth c 2 D A (wX ad cyI cyZ) Q r (fX4_cellOf v0 v1 σ) σ 0 [(0, .int v0), (1, .int v1)] []
  unfold fX4_cellOf
  refine J_iload_n C 0 rfl rfl dX4_cellOf_0 ?_
  refine J_iconst (v := (4 : Int32)) C dX4_cellOf_1 (by decide) ?_
  refine J_imul C dX4_cellOf_2 ?_
  refine J_iload_n C 1 rfl rfl dX4_cellOf_3 ?_
  refine J_iadd C dX4_cellOf_4 ?_
  exact hRet ((v0 * (4 : Int32)) + v1) _ _ dX4_cellOf_5
-- X4_clearPort
set_option maxHeartbeats 4000000 in
set_option maxRecDepth 100000 in
theorem jX4_clearPort_b41  {o0 : St} (C : Cxt p s m args c cX4_clearPort 3 wsX4_clearPort RX4 D [(cyI, .int), (cyZ, .boolean)] A) (hRet : ∀ (σ2 : St) (pc : Nat) (lv : List (Nat × Value)), decode cX4_clearPort pc = .ok (.return_, 1) → J p l e ({ frames := 1, cells := 0, slots := 0, locals := 23 } : Room) s m args below meth c 3 D A (wX ad cyI cyZ) Q o0 (some σ2) σ2 pc lv []) (σ : St) (v1 v2 : Int32) : J p l e ({ frames := 1, cells := 0, slots := 0, locals := 23 } : Room) s m args below meth c 3 D A (wX ad cyI cyZ) Q o0 (fX4_clearPort_b41 v1 v2 σ) σ 41 [(0, .ref (ad 0)), (1, .int v1), (2, .int v2)] [] := by
  unfold fX4_clearPort_b41
  refine J_aload_n C 0 rfl rfl dX4_clearPort_41 ?_
  refine J_get C 0 4 4 (C0 := RX4) (T := TX4) (N := 11) (by decide +kernel) rfl rfl (by decide) (by decide +kernel) rfl dX4_clearPort_42 ?_
  refine J_iload_n C 1 rfl rfl dX4_clearPort_45 ?_
  refine J_iconst (v := (0 : Int32)) C dX4_clearPort_46 (by decide) ?_
  refine J_iast (σ' := up2 σ 12 v1.toNatClampNeg (0 : Int32)) C 12 0 rfl rfl (wX_s12 _ _ _ _ _ _) dX4_clearPort_47 ?_
  refine J_aload_n C 0 rfl rfl dX4_clearPort_48 ?_
  refine J_get C 0 6 4 (C0 := RX4) (T := TX4) (N := 11) (by decide +kernel) rfl rfl (by decide) (by decide +kernel) rfl dX4_clearPort_49 ?_
  refine J_iload_n C 1 rfl rfl dX4_clearPort_52 ?_
  refine J_iconst (v := (0 : Int32)) C dX4_clearPort_53 (by decide) ?_
  refine J_zast (σ' := up2 (up2 σ 12 v1.toNatClampNeg (0 : Int32)) 14 v1.toNatClampNeg (vp_nar .boolean (0 : Int32))) C 14 1 rfl rfl (wX_s14 _ _ _ _ _ _) dX4_clearPort_54 ?_
  exact hRet (up2 (up2 σ 12 v1.toNatClampNeg (0 : Int32)) 14 v1.toNatClampNeg (vp_nar .boolean (0 : Int32))) _ _ dX4_clearPort_55
set_option maxHeartbeats 4000000 in
set_option maxRecDepth 100000 in
theorem jX4_clearPort_L2  {o0 : St} (C : Cxt p s m args c cX4_clearPort 3 wsX4_clearPort RX4 D [(cyI, .int), (cyZ, .boolean)] A) (hRet : ∀ (σ2 : St) (pc : Nat) (lv : List (Nat × Value)), decode cX4_clearPort pc = .ok (.return_, 1) → J p l e ({ frames := 1, cells := 0, slots := 0, locals := 23 } : Room) s m args below meth c 3 D A (wX ad cyI cyZ) Q o0 (some σ2) σ2 pc lv []) (v1 : Int32) (n : Nat) (v2 : Int32) (σ : St) : J p l e ({ frames := 1, cells := 0, slots := 0, locals := 23 } : Room) s m args below meth c 3 D A (wX ad cyI cyZ) Q o0 (loop1s (fX4_clearPort_b2 v1) n v2 σ) σ 2 [(0, .ref (ad 0)), (1, .int v1), (2, .int v2)] [] := by
  refine J_loop1s (pc := 2) (fun v2 => [(0, .ref (ad 0)), (1, .int v1), (2, .int v2)]) (fX4_clearPort_b2 v1) ?_ n v2 σ
  intro K2 hK2 v2 σ
  unfold fX4_clearPort_b2
  refine J_iload_n C 2 rfl rfl dX4_clearPort_2 ?_
  refine J_iconst (v := (4 : Int32)) C dX4_clearPort_3 (by decide) ?_
  refine J_icmp_ge (tgt := 41) C dX4_clearPort_4 (by decide) ?_ ?_
  · exact jX4_clearPort_b41 C hRet σ v1 v2
  · refine J_aload_n C 0 rfl rfl dX4_clearPort_7 ?_
    refine J_get C 0 1 4 (C0 := RX4) (T := TX4) (N := 11) (by decide +kernel) rfl rfl (by decide) (by decide +kernel) rfl dX4_clearPort_8 ?_
    refine J_iload_n C 1 rfl rfl dX4_clearPort_11 ?_
    refine J_iload_n C 2 rfl rfl dX4_clearPort_12 ?_
    refine J_callP_S C [.int v1, .int v2] (fun zr zh => tX4_cellOf v1 v2 σ zr zh) (va_cwS 2 C.1.2.2.2.2 gX4_clearPort_X4_cellOf rfl rfl rfl (by decide +kernel) ⟨Nat.le_of_ble_eq_true rfl, Nat.le_of_ble_eq_true rfl⟩) rfl rfl (Nat.le_of_ble_eq_true rfl) dX4_clearPort_13 (fun r1 => ?_)
    refine J_iconst (v := (0 : Int32)) C dX4_clearPort_16 (by decide) ?_
    refine J_iconst (v := (0 : Int32)) C dX4_clearPort_17 (by decide) ?_
    refine J_callV_VN C [.int r1, .int (0 : Int32), .int (0 : Int32)] 2 3 rfl rfl (fun zs zh => tX3_change r1 (0 : Int32) (0 : Int32) σ zs zh) (⟨va_cnB (host := RX4) 3 C.1.2.2.2.2 gX4_clearPort_X3_change_n163 rfl rfl rfl (C.2.2.2 _ (by decide +kernel)) (C.1.2.2.2.2 (.initialized RX3) (by decide +kernel)) (by decide +kernel) ⟨Nat.le_of_ble_eq_true rfl, Nat.le_of_ble_eq_true rfl⟩, C.1.2.2.2.2 (.instanceMethod yX3_change) (by decide +kernel), C.1.2.2.2.2 (.selects RX3 yX3_change yX3_change) (by decide +kernel)⟩) rfl rfl (Nat.le_of_ble_eq_true rfl) dX4_clearPort_18 (fun σ2 => ?_)
    refine J_aload_n C 0 rfl rfl dX4_clearPort_21 ?_
    refine J_get C 0 2 4 (C0 := RX4) (T := TX4) (N := 11) (by decide +kernel) rfl rfl (by decide) (by decide +kernel) rfl dX4_clearPort_22 ?_
    refine J_iload_n C 1 rfl rfl dX4_clearPort_25 ?_
    refine J_iload_n C 2 rfl rfl dX4_clearPort_26 ?_
    refine J_callP_S C [.int v1, .int v2] (fun zr zh => tX4_cellOf v1 v2 σ2 zr zh) (va_cwS 2 C.1.2.2.2.2 gX4_clearPort_X4_cellOf rfl rfl rfl (by decide +kernel) ⟨Nat.le_of_ble_eq_true rfl, Nat.le_of_ble_eq_true rfl⟩) rfl rfl (Nat.le_of_ble_eq_true rfl) dX4_clearPort_27 (fun r3 => ?_)
    refine J_iconst (v := (0 : Int32)) C dX4_clearPort_30 (by decide) ?_
    refine J_iconst (v := (0 : Int32)) C dX4_clearPort_31 (by decide) ?_
    refine J_callV_VN C [.int r3, .int (0 : Int32), .int (0 : Int32)] 3 0 rfl rfl (fun zs zh => tX0_change r3 (0 : Int32) (0 : Int32) σ2 zs zh) (⟨va_cnB (host := RX4) 3 C.1.2.2.2.2 gX4_clearPort_X0_change_n167 rfl rfl rfl (C.2.2.2 _ (by decide +kernel)) (C.1.2.2.2.2 (.initialized RX0) (by decide +kernel)) (by decide +kernel) ⟨Nat.le_of_ble_eq_true rfl, Nat.le_of_ble_eq_true rfl⟩, C.1.2.2.2.2 (.instanceMethod yX0_change) (by decide +kernel), C.1.2.2.2.2 (.selects RX0 yX0_change yX0_change) (by decide +kernel)⟩) rfl rfl (Nat.le_of_ble_eq_true rfl) dX4_clearPort_32 (fun σ4 => ?_)
    refine J_iinc (d := (1 : Int32)) C 2 rfl dX4_clearPort_35 (by decide) (by decide) rfl ?_
    refine J_goto (tgt := 2) C dX4_clearPort_38 (by decide) ?_
    refine J_lv [1, 2, 0] rfl ?_
    exact hK2 (v2 + (1 : Int32)) σ4
set_option maxHeartbeats 4000000 in
set_option maxRecDepth 100000 in
theorem tX4_clearPort {l : Launch} {D : va_G} {ad : Nat → Nat} {cyI cyZ : ClassId} (v1 : Int32) (σ : St) (σ1 : St) (h : fX4_clearPort v1 σ = some σ1) : MV l D [(cyI, .int), (cyZ, .boolean)] (wX ad cyI cyZ) yX4_clearPort wsX4_clearPort ({ frames := 1, cells := 0, slots := 0, locals := 23 } : Room) [.ref (ad 0), .int v1] σ σ1 := by
  refine entryV (own := RX4) σ1 (by decide +kernel) rfl rfl (Nat.le_of_ble_eq_true rfl) (fX4_clearPort v1 σ) h ?_
  intro p e s m below meth c Q A C hRet
  generalize ([.ref (ad 0), .int v1] : List Value).toArray = args at *
  show J p l e ({ frames := 1, cells := 0, slots := 0, locals := 23 } : Room) s m args below meth c 3 D A (wX ad cyI cyZ) Q σ1 (fX4_clearPort v1 σ) σ 0 [(0, .ref (ad 0)), (1, .int v1)] []
  unfold fX4_clearPort
  refine J_iconst (v := (0 : Int32)) C dX4_clearPort_0 (by decide) ?_
  refine J_istore_n C rfl dX4_clearPort_1 (by decide) rfl ?_
  refine J_lv [1, 2, 0] rfl ?_
  exact jX4_clearPort_L2 C hRet v1 fuel (0 : Int32) σ
end
