-- printed by wip/whole/walk.py
section
variable {p : Program} {l : Launch} {e : Env} {s : State} {m : MethodId} {args : Array Value} {below : List Frame} {meth : Method} {c : Code} {D : va_G} {A : Nat → Prop} {Q : State → Prop} {ad : Nat → Nat} {cyI cyZ : ClassId}
-- X5_within
set_option maxHeartbeats 4000000 in
set_option maxRecDepth 100000 in
theorem tX5_within {l : Launch} {D : va_G} {ad : Nat → Nat} {cyI cyZ : ClassId} (v0 v1 v2 : Int32) (σ : St) (r : Int32) (h : fX5_within v0 v1 v2 σ = some r) : MI l D [(cyI, .int), (cyZ, .boolean)] (wM ad cyI cyZ) yX5_within wsX5_within ({ frames := 0, cells := 0, slots := 0, locals := 0 } : Room) [.int v0, .int v1, .int v2] σ r σ := by
  refine entryPZ (own := RX5) r (by decide +kernel) rfl rfl (Nat.le_of_ble_eq_true rfl) (fX5_within v0 v1 v2 σ) h ?_
  intro p e s m below meth c Q A C hRet
  generalize ([.int v0, .int v1, .int v2] : List Value).toArray = args at *
  show J p l e ({ frames := 0, cells := 0, slots := 0, locals := 0 } : Room) s m args below meth c 3 D A (wM ad cyI cyZ) Q r (fX5_within v0 v1 v2 σ) σ 0 [(0, .int v0), (1, .int v1), (2, .int v2)] []
  unfold fX5_within
  refine J_iload_n C 0 rfl rfl dX5_within_0 ?_
  refine J_iload_n C 1 rfl rfl dX5_within_1 ?_
  refine J_icmp_lt (tgt := 14) C dX5_within_2 (by decide) ?_ ?_
  · refine J_iconst (v := (0 : Int32)) C dX5_within_14 (by decide) ?_
    exact hRet (0 : Int32) _ _ (by decide) dX5_within_15
  · refine J_iload_n C 0 rfl rfl dX5_within_5 ?_
    refine J_iload_n C 2 rfl rfl dX5_within_6 ?_
    refine J_icmp_gt (tgt := 14) C dX5_within_7 (by decide) ?_ ?_
    · refine J_iconst (v := (0 : Int32)) C dX5_within_14 (by decide) ?_
      exact hRet (0 : Int32) _ _ (by decide) dX5_within_15
    · refine J_iconst (v := (1 : Int32)) C dX5_within_10 (by decide) ?_
      refine J_goto (tgt := 15) C dX5_within_11 (by decide) ?_
      exact hRet (1 : Int32) _ _ (by decide) dX5_within_15
-- X5_isPort
set_option maxHeartbeats 4000000 in
set_option maxRecDepth 100000 in
theorem tX5_isPort {l : Launch} {D : va_G} {ad : Nat → Nat} {cyI cyZ : ClassId} (v1 v2 : Int32) (σ : St) (r : Int32) (h : fX5_isPort v1 v2 σ = some r) : MI l D [(cyI, .int), (cyZ, .boolean)] (wM ad cyI cyZ) yX5_isPort wsX5_isPort ({ frames := 1, cells := 0, slots := 0, locals := 22 } : Room) [.ref (ad 0), .int v1, .int v2] σ r σ := by
  refine entryPZ (own := RX5) r (by decide +kernel) rfl rfl (Nat.le_of_ble_eq_true rfl) (fX5_isPort v1 v2 σ) h ?_
  intro p e s m below meth c Q A C hRet
  generalize ([.ref (ad 0), .int v1, .int v2] : List Value).toArray = args at *
  show J p l e ({ frames := 1, cells := 0, slots := 0, locals := 22 } : Room) s m args below meth c 3 D A (wM ad cyI cyZ) Q r (fX5_isPort v1 v2 σ) σ 0 [(0, .ref (ad 0)), (1, .int v1), (2, .int v2)] []
  unfold fX5_isPort
  refine J_iload_n C 1 rfl rfl dX5_isPort_0 ?_
  refine J_iconst (v := (0 : Int32)) C dX5_isPort_1 (by decide) ?_
  refine J_aload_n C 0 rfl rfl dX5_isPort_2 ?_
  refine J_get C 0 0 5 (C0 := RX5) (T := TX5) (N := 23) (by decide +kernel) rfl rfl (by decide) (by decide +kernel) rfl dX5_isPort_3 ?_
  refine J_iconst (v := (1 : Int32)) C dX5_isPort_6 (by decide) ?_
  refine J_isub C dX5_isPort_7 ?_
  refine J_callP_S C [.int v1, .int (0 : Int32), .int ((σ 0 0) - (1 : Int32))] (fun zr zh => tX5_within v1 (0 : Int32) ((σ 0 0) - (1 : Int32)) σ zr zh) (va_cwS 3 C.1.2.2.2.2 gX5_isPort_X5_within rfl rfl rfl (by decide +kernel) ⟨Nat.le_of_ble_eq_true rfl, Nat.le_of_ble_eq_true rfl⟩) rfl rfl (Nat.le_of_ble_eq_true rfl) dX5_isPort_8 (fun r1 => ?_)
  refine J_if_eq (tgt := 27) C dX5_isPort_11 (by decide) ?_ ?_
  · refine J_iconst (v := (0 : Int32)) C dX5_isPort_27 (by decide) ?_
    exact hRet (0 : Int32) _ _ (by decide) dX5_isPort_28
  · refine J_iload_n C 2 rfl rfl dX5_isPort_14 ?_
    refine J_iconst (v := (0 : Int32)) C dX5_isPort_15 (by decide) ?_
    refine J_iconst (v := (3 : Int32)) C dX5_isPort_16 (by decide) ?_
    refine J_callP_S C [.int v2, .int (0 : Int32), .int (3 : Int32)] (fun zr zh => tX5_within v2 (0 : Int32) (3 : Int32) σ zr zh) (va_cwS 3 C.1.2.2.2.2 gX5_isPort_X5_within rfl rfl rfl (by decide +kernel) ⟨Nat.le_of_ble_eq_true rfl, Nat.le_of_ble_eq_true rfl⟩) rfl rfl (Nat.le_of_ble_eq_true rfl) dX5_isPort_17 (fun r2 => ?_)
    refine J_if_eq (tgt := 27) C dX5_isPort_20 (by decide) ?_ ?_
    · refine J_iconst (v := (0 : Int32)) C dX5_isPort_27 (by decide) ?_
      exact hRet (0 : Int32) _ _ (by decide) dX5_isPort_28
    · refine J_iconst (v := (1 : Int32)) C dX5_isPort_23 (by decide) ?_
      refine J_goto (tgt := 28) C dX5_isPort_24 (by decide) ?_
      exact hRet (1 : Int32) _ _ (by decide) dX5_isPort_28
-- X5_isHost
set_option maxHeartbeats 4000000 in
set_option maxRecDepth 100000 in
theorem tX5_isHost {l : Launch} {D : va_G} {ad : Nat → Nat} {cyI cyZ : ClassId} (v1 : Int32) (σ : St) (r : Int32) (h : fX5_isHost v1 σ = some r) : MI l D [(cyI, .int), (cyZ, .boolean)] (wM ad cyI cyZ) yX5_isHost wsX5_isHost ({ frames := 1, cells := 0, slots := 0, locals := 22 } : Room) [.ref (ad 0), .int v1] σ r σ := by
  refine entryPZ (own := RX5) r (by decide +kernel) rfl rfl (Nat.le_of_ble_eq_true rfl) (fX5_isHost v1 σ) h ?_
  intro p e s m below meth c Q A C hRet
  generalize ([.ref (ad 0), .int v1] : List Value).toArray = args at *
  show J p l e ({ frames := 1, cells := 0, slots := 0, locals := 22 } : Room) s m args below meth c 2 D A (wM ad cyI cyZ) Q r (fX5_isHost v1 σ) σ 0 [(0, .ref (ad 0)), (1, .int v1)] []
  unfold fX5_isHost
  refine J_iload_n C 1 rfl rfl dX5_isHost_0 ?_
  refine J_iconst (v := (0 : Int32)) C dX5_isHost_1 (by decide) ?_
  refine J_aload_n C 0 rfl rfl dX5_isHost_2 ?_
  refine J_get C 0 1 5 (C0 := RX5) (T := TX5) (N := 23) (by decide +kernel) rfl rfl (by decide) (by decide +kernel) rfl dX5_isHost_3 ?_
  refine J_iconst (v := (1 : Int32)) C dX5_isHost_6 (by decide) ?_
  refine J_isub C dX5_isHost_7 ?_
  refine J_callP_S C [.int v1, .int (0 : Int32), .int ((σ 0 1) - (1 : Int32))] (fun zr zh => tX5_within v1 (0 : Int32) ((σ 0 1) - (1 : Int32)) σ zr zh) (va_cwS 3 C.1.2.2.2.2 gX5_isHost_X5_within rfl rfl rfl (by decide +kernel) ⟨Nat.le_of_ble_eq_true rfl, Nat.le_of_ble_eq_true rfl⟩) rfl rfl (Nat.le_of_ble_eq_true rfl) dX5_isHost_8 (fun r1 => ?_)
  exact J_retZ (hRet 0 _ _ (by decide) dX5_isHost_11) (hRet 1 _ _ (by decide) dX5_isHost_11)
-- X5_isGroup
set_option maxHeartbeats 4000000 in
set_option maxRecDepth 100000 in
theorem tX5_isGroup {l : Launch} {D : va_G} {ad : Nat → Nat} {cyI cyZ : ClassId} (v0 : Int32) (σ : St) (r : Int32) (h : fX5_isGroup v0 σ = some r) : MI l D [(cyI, .int), (cyZ, .boolean)] (wM ad cyI cyZ) yX5_isGroup wsX5_isGroup ({ frames := 1, cells := 0, slots := 0, locals := 22 } : Room) [.int v0] σ r σ := by
  refine entryPZ (own := RX5) r (by decide +kernel) rfl rfl (Nat.le_of_ble_eq_true rfl) (fX5_isGroup v0 σ) h ?_
  intro p e s m below meth c Q A C hRet
  generalize ([.int v0] : List Value).toArray = args at *
  show J p l e ({ frames := 1, cells := 0, slots := 0, locals := 22 } : Room) s m args below meth c 1 D A (wM ad cyI cyZ) Q r (fX5_isGroup v0 σ) σ 0 [(0, .int v0)] []
  unfold fX5_isGroup
  refine J_iload_n C 0 rfl rfl dX5_isGroup_0 ?_
  refine J_iconst (v := (0 : Int32)) C dX5_isGroup_1 (by decide) ?_
  refine J_iconst (v := (3 : Int32)) C dX5_isGroup_2 (by decide) ?_
  refine J_callP_S C [.int v0, .int (0 : Int32), .int (3 : Int32)] (fun zr zh => tX5_within v0 (0 : Int32) (3 : Int32) σ zr zh) (va_cwS 3 C.1.2.2.2.2 gX5_isGroup_X5_within rfl rfl rfl (by decide +kernel) ⟨Nat.le_of_ble_eq_true rfl, Nat.le_of_ble_eq_true rfl⟩) rfl rfl (Nat.le_of_ble_eq_true rfl) dX5_isGroup_3 (fun r1 => ?_)
  exact J_retZ (hRet 0 _ _ (by decide) dX5_isGroup_6) (hRet 1 _ _ (by decide) dX5_isGroup_6)
-- X5_isConnected
set_option maxHeartbeats 4000000 in
set_option maxRecDepth 100000 in
theorem tX5_isConnected {l : Launch} {D : va_G} {ad : Nat → Nat} {cyI cyZ : ClassId} (v1 : Int32) (σ : St) (r : Int32) (h : fX5_isConnected v1 σ = some r) : MI l D [(cyI, .int), (cyZ, .boolean)] (wM ad cyI cyZ) yX5_isConnected wsX5_isConnected ({ frames := 0, cells := 0, slots := 0, locals := 0 } : Room) [.ref (ad 0), .int v1] σ r σ := by
  refine entryPZ (own := RX5) r (by decide +kernel) rfl rfl (Nat.le_of_ble_eq_true rfl) (fX5_isConnected v1 σ) h ?_
  intro p e s m below meth c Q A C hRet
  generalize ([.ref (ad 0), .int v1] : List Value).toArray = args at *
  show J p l e ({ frames := 0, cells := 0, slots := 0, locals := 0 } : Room) s m args below meth c 2 D A (wM ad cyI cyZ) Q r (fX5_isConnected v1 σ) σ 0 [(0, .ref (ad 0)), (1, .int v1)] []
  unfold fX5_isConnected
  refine J_aload_n C 0 rfl rfl dX5_isConnected_0 ?_
  refine J_get C 0 3 5 (C0 := RX5) (T := TX5) (N := 23) (by decide +kernel) rfl rfl (by decide) (by decide +kernel) rfl dX5_isConnected_1 ?_
  refine J_iload_n C 1 rfl rfl dX5_isConnected_4 ?_
  refine J_iald C 1 0 rfl rfl dX5_isConnected_5 ?_
  refine J_iconst (v := (-1 : Int32)) C dX5_isConnected_6 (by decide) ?_
  refine J_icmp_eq (tgt := 14) C dX5_isConnected_7 (by decide) ?_ ?_
  · refine J_iconst (v := (0 : Int32)) C dX5_isConnected_14 (by decide) ?_
    exact hRet (0 : Int32) _ _ (by decide) dX5_isConnected_15
  · refine J_iconst (v := (1 : Int32)) C dX5_isConnected_10 (by decide) ?_
    refine J_goto (tgt := 15) C dX5_isConnected_11 (by decide) ?_
    exact hRet (1 : Int32) _ _ (by decide) dX5_isConnected_15
-- X5_isLinked
set_option maxHeartbeats 4000000 in
set_option maxRecDepth 100000 in
theorem tX5_isLinked {l : Launch} {D : va_G} {ad : Nat → Nat} {cyI cyZ : ClassId} (v1 : Int32) (σ : St) (r : Int32) (h : fX5_isLinked v1 σ = some r) : MI l D [(cyI, .int), (cyZ, .boolean)] (wM ad cyI cyZ) yX5_isLinked wsX5_isLinked ({ frames := 1, cells := 0, slots := 0, locals := 22 } : Room) [.ref (ad 0), .int v1] σ r σ := by
  refine entryPZ (own := RX5) r (by decide +kernel) rfl rfl (Nat.le_of_ble_eq_true rfl) (fX5_isLinked v1 σ) h ?_
  intro p e s m below meth c Q A C hRet
  generalize ([.ref (ad 0), .int v1] : List Value).toArray = args at *
  show J p l e ({ frames := 1, cells := 0, slots := 0, locals := 22 } : Room) s m args below meth c 2 D A (wM ad cyI cyZ) Q r (fX5_isLinked v1 σ) σ 0 [(0, .ref (ad 0)), (1, .int v1)] []
  unfold fX5_isLinked
  refine J_aload_n C 0 rfl rfl dX5_isLinked_0 ?_
  refine J_get C 0 3 5 (C0 := RX5) (T := TX5) (N := 23) (by decide +kernel) rfl rfl (by decide) (by decide +kernel) rfl dX5_isLinked_1 ?_
  refine J_iload_n C 1 rfl rfl dX5_isLinked_4 ?_
  refine J_iald C 1 0 rfl rfl dX5_isLinked_5 ?_
  refine J_iconst (v := (0 : Int32)) C dX5_isLinked_6 (by decide) ?_
  refine J_bipush (v := (19 : Int32)) C dX5_isLinked_7 (by decide) ?_
  refine J_callP_S C [.int (σ 1 v1.toNatClampNeg), .int (0 : Int32), .int (19 : Int32)] (fun zr zh => tX5_within (σ 1 v1.toNatClampNeg) (0 : Int32) (19 : Int32) σ zr zh) (va_cwS 3 C.1.2.2.2.2 gX5_isLinked_X5_within rfl rfl rfl (by decide +kernel) ⟨Nat.le_of_ble_eq_true rfl, Nat.le_of_ble_eq_true rfl⟩) rfl rfl (Nat.le_of_ble_eq_true rfl) dX5_isLinked_9 (fun r1 => ?_)
  exact J_retZ (hRet 0 _ _ (by decide) dX5_isLinked_12) (hRet 1 _ _ (by decide) dX5_isLinked_12)
-- X5_addBridge
set_option maxHeartbeats 4000000 in
set_option maxRecDepth 100000 in
theorem tX5_addBridge {l : Launch} {D : va_G} {ad : Nat → Nat} {cyI cyZ : ClassId} (σ : St) (r : Int32) (σ1 : St) (h : fX5_addBridge σ = some (r, σ1)) : MI l D [(cyI, .int), (cyZ, .boolean)] (wM ad cyI cyZ) yX5_addBridge wsX5_addBridge ({ frames := 0, cells := 0, slots := 0, locals := 0 } : Room) [.ref (ad 0)] σ r σ1 := by
  refine entryI (own := RX5) r σ1 (by decide +kernel) rfl rfl (Nat.le_of_ble_eq_true rfl) (fX5_addBridge σ) h ?_
  intro p e s m below meth c Q A C hRet
  generalize ([.ref (ad 0)] : List Value).toArray = args at *
  show J p l e ({ frames := 0, cells := 0, slots := 0, locals := 0 } : Room) s m args below meth c 1 D A (wM ad cyI cyZ) Q (r, σ1) (fX5_addBridge σ) σ 0 [(0, .ref (ad 0))] []
  unfold fX5_addBridge
  refine J_aload_n C 0 rfl rfl dX5_addBridge_0 ?_
  refine J_get C 0 0 5 (C0 := RX5) (T := TX5) (N := 23) (by decide +kernel) rfl rfl (by decide) (by decide +kernel) rfl dX5_addBridge_1 ?_
  refine J_iconst (v := (5 : Int32)) C dX5_addBridge_4 (by decide) ?_
  refine J_icmp_ne (tgt := 11) C dX5_addBridge_5 (by decide) ?_ ?_
  · refine J_aload_n C 0 rfl rfl dX5_addBridge_11 ?_
    refine J_dup C rfl dX5_addBridge_12 ?_
    refine J_get C 0 0 5 (C0 := RX5) (T := TX5) (N := 23) (by decide +kernel) rfl rfl (by decide) (by decide +kernel) rfl dX5_addBridge_13 ?_
    refine J_iconst (v := (1 : Int32)) C dX5_addBridge_16 (by decide) ?_
    refine J_iadd C dX5_addBridge_17 ?_
    refine J_put (σ' := up2 σ 0 0 ((σ 0 0) + (1 : Int32))) C 0 0 5 (C0 := RX5) (T := TX5) (N := 23) tyX5 tyX5_ok nmX5 (by decide +kernel) rfl rfl (by decide) (by decide +kernel) rfl (by decide +kernel) (Nat.le_of_ble_eq_true rfl) (wM_p0_0 _ _ _ _ _) dX5_addBridge_18 ?_
    refine J_aload_n C 0 rfl rfl dX5_addBridge_21 ?_
    refine J_get C 0 0 5 (C0 := RX5) (T := TX5) (N := 23) (by decide +kernel) rfl rfl (by decide) (by decide +kernel) rfl dX5_addBridge_22 ?_
    refine J_iconst (v := (1 : Int32)) C dX5_addBridge_25 (by decide) ?_
    refine J_isub C dX5_addBridge_26 ?_
    exact hRet (((up2 σ 0 0 ((σ 0 0) + (1 : Int32))) 0 0) - (1 : Int32)) (up2 σ 0 0 ((σ 0 0) + (1 : Int32))) _ _ dX5_addBridge_27
  · refine J_bipush (v := (-5 : Int32)) C dX5_addBridge_8 (by decide) ?_
    exact hRet (-5 : Int32) σ _ _ dX5_addBridge_10
-- X5_partOf
set_option maxHeartbeats 4000000 in
set_option maxRecDepth 100000 in
theorem jX5_partOf_b62 {K6 : Int32 → Int32 → Option (Int32)} {o0 : Int32} {σ : St} (C : Cxt p s m args c cX5_partOf 5 wsX5_partOf RX5 D [(cyI, .int), (cyZ, .boolean)] A) (hRet : ∀ (v : Int32) (pc : Nat) (lv : List (Nat × Value)), decode cX5_partOf pc = .ok (.ireturn, 1) → J p l e ({ frames := 2, cells := 0, slots := 0, locals := 43 } : Room) s m args below meth c 5 D A (wM ad cyI cyZ) Q o0 (some v) σ pc lv [.int v]) (v1 v2 v3 v4 : Int32) (hK6 : ∀ (v2 v3 : Int32), J p l e ({ frames := 2, cells := 0, slots := 0, locals := 43 } : Room) s m args below meth c 5 D A (wM ad cyI cyZ) Q o0 (K6 v2 v3) σ 6 [(0, .ref (ad 0)), (1, .int v1), (2, .int v2), (3, .int v3)] []) : J p l e ({ frames := 2, cells := 0, slots := 0, locals := 43 } : Room) s m args below meth c 5 D A (wM ad cyI cyZ) Q o0 (fX5_partOf_b62 K6 v1 v2 v3 v4 σ) σ 62 [(0, .ref (ad 0)), (1, .int v1), (2, .int v2), (3, .int v3), (4, .int v4)] [] := by
  unfold fX5_partOf_b62
  refine J_iinc (d := (1 : Int32)) C 3 rfl dX5_partOf_62 (by decide) (by decide) rfl ?_
  refine J_goto (tgt := 6) C dX5_partOf_65 (by decide) ?_
  refine J_lv [1, 2, 3, 0] rfl ?_
  exact hK6 v2 (v3 + (1 : Int32))
set_option maxHeartbeats 4000000 in
set_option maxRecDepth 100000 in
theorem jX5_partOf_b56 {K6 : Int32 → Int32 → Option (Int32)} {K14 : Int32 → Int32 → Option (Int32)} {o0 : Int32} {σ : St} (C : Cxt p s m args c cX5_partOf 5 wsX5_partOf RX5 D [(cyI, .int), (cyZ, .boolean)] A) (hRet : ∀ (v : Int32) (pc : Nat) (lv : List (Nat × Value)), decode cX5_partOf pc = .ok (.ireturn, 1) → J p l e ({ frames := 2, cells := 0, slots := 0, locals := 43 } : Room) s m args below meth c 5 D A (wM ad cyI cyZ) Q o0 (some v) σ pc lv [.int v]) (v1 v2 v3 v4 : Int32) (hK6 : ∀ (v2 v3 : Int32), J p l e ({ frames := 2, cells := 0, slots := 0, locals := 43 } : Room) s m args below meth c 5 D A (wM ad cyI cyZ) Q o0 (K6 v2 v3) σ 6 [(0, .ref (ad 0)), (1, .int v1), (2, .int v2), (3, .int v3)] []) (hK14 : ∀ (v2 v4 : Int32), J p l e ({ frames := 2, cells := 0, slots := 0, locals := 43 } : Room) s m args below meth c 5 D A (wM ad cyI cyZ) Q o0 (K14 v2 v4) σ 14 [(0, .ref (ad 0)), (1, .int v1), (2, .int v2), (3, .int v3), (4, .int v4)] []) : J p l e ({ frames := 2, cells := 0, slots := 0, locals := 43 } : Room) s m args below meth c 5 D A (wM ad cyI cyZ) Q o0 (fX5_partOf_b56 K6 K14 v1 v2 v3 v4 σ) σ 56 [(0, .ref (ad 0)), (1, .int v1), (2, .int v2), (3, .int v3), (4, .int v4)] [] := by
  unfold fX5_partOf_b56
  refine J_iinc (d := (1 : Int32)) C 4 rfl dX5_partOf_56 (by decide) (by decide) rfl ?_
  refine J_goto (tgt := 14) C dX5_partOf_59 (by decide) ?_
  refine J_lv [1, 2, 3, 4, 0] rfl ?_
  exact hK14 v2 (v4 + (1 : Int32))
set_option maxHeartbeats 4000000 in
set_option maxRecDepth 100000 in
theorem jX5_partOf_L14 {K6 : Int32 → Int32 → Option (Int32)} {o0 : Int32} {σ : St} (C : Cxt p s m args c cX5_partOf 5 wsX5_partOf RX5 D [(cyI, .int), (cyZ, .boolean)] A) (hRet : ∀ (v : Int32) (pc : Nat) (lv : List (Nat × Value)), decode cX5_partOf pc = .ok (.ireturn, 1) → J p l e ({ frames := 2, cells := 0, slots := 0, locals := 43 } : Room) s m args below meth c 5 D A (wM ad cyI cyZ) Q o0 (some v) σ pc lv [.int v]) (v1 v3 : Int32) (hK6 : ∀ (v2 v3 : Int32), J p l e ({ frames := 2, cells := 0, slots := 0, locals := 43 } : Room) s m args below meth c 5 D A (wM ad cyI cyZ) Q o0 (K6 v2 v3) σ 6 [(0, .ref (ad 0)), (1, .int v1), (2, .int v2), (3, .int v3)] []) (n : Nat) (v2 v4 : Int32) : J p l e ({ frames := 2, cells := 0, slots := 0, locals := 43 } : Room) s m args below meth c 5 D A (wM ad cyI cyZ) Q o0 (loop2 (fX5_partOf_b14 K6 v1 v3 σ) n v2 v4) σ 14 [(0, .ref (ad 0)), (1, .int v1), (2, .int v2), (3, .int v3), (4, .int v4)] [] := by
  refine J_loop2 (pc := 14) (fun v2 v4 => [(0, .ref (ad 0)), (1, .int v1), (2, .int v2), (3, .int v3), (4, .int v4)]) (fX5_partOf_b14 K6 v1 v3 σ) ?_ n v2 v4
  intro K14 hK14 v2 v4
  unfold fX5_partOf_b14
  refine J_iload C 4 rfl dX5_partOf_14 ?_
  refine J_bipush (v := (20 : Int32)) C dX5_partOf_16 (by decide) ?_
  refine J_icmp_ge (tgt := 62) C dX5_partOf_18 (by decide) ?_ ?_
  · exact jX5_partOf_b62 C hRet v1 v2 v3 v4 hK6
  · refine J_aload_n C 0 rfl rfl dX5_partOf_21 ?_
    refine J_iload C 4 rfl dX5_partOf_22 ?_
    refine J_callP_V C [.int v4] 0 5 rfl rfl (fun zr zh => tX5_isLinked v4 σ zr zh) (cwV 1 C.1.2.2.2.2 gX5_partOf_X5_isLinked rfl rfl rfl (by decide +kernel) ⟨Nat.le_of_ble_eq_true rfl, Nat.le_of_ble_eq_true rfl⟩) rfl rfl (Nat.le_of_ble_eq_true rfl) dX5_partOf_24 (fun r1 => ?_)
    refine J_if_eq (tgt := 56) C dX5_partOf_27 (by decide) ?_ ?_
    · exact jX5_partOf_b56 C hRet v1 v2 v3 v4 hK6 hK14
    · refine J_iload_n C 2 rfl rfl dX5_partOf_30 ?_
      refine J_iload C 4 rfl dX5_partOf_31 ?_
      refine J_iconst (v := (4 : Int32)) C dX5_partOf_33 (by decide) ?_
      refine J_idiv C (by decide) dX5_partOf_34 ?_
      refine J_ishr C dX5_partOf_35 ?_
      refine J_iconst (v := (1 : Int32)) C dX5_partOf_36 (by decide) ?_
      refine J_iand C dX5_partOf_37 ?_
      refine J_iconst (v := (1 : Int32)) C dX5_partOf_38 (by decide) ?_
      refine J_icmp_ne (tgt := 56) C dX5_partOf_39 (by decide) ?_ ?_
      · exact jX5_partOf_b56 C hRet v1 v2 v3 v4 hK6 hK14
      · refine J_iload_n C 2 rfl rfl dX5_partOf_42 ?_
        refine J_iconst (v := (1 : Int32)) C dX5_partOf_43 (by decide) ?_
        refine J_aload_n C 0 rfl rfl dX5_partOf_44 ?_
        refine J_get C 0 3 5 (C0 := RX5) (T := TX5) (N := 23) (by decide +kernel) rfl rfl (by decide) (by decide +kernel) rfl dX5_partOf_45 ?_
        refine J_iload C 4 rfl dX5_partOf_48 ?_
        refine J_iald C 1 0 rfl rfl dX5_partOf_50 ?_
        refine J_iconst (v := (4 : Int32)) C dX5_partOf_51 (by decide) ?_
        refine J_idiv C (by decide) dX5_partOf_52 ?_
        refine J_ishl C dX5_partOf_53 ?_
        refine J_ior C dX5_partOf_54 ?_
        refine J_istore_n C rfl dX5_partOf_55 (by decide) rfl ?_
        refine J_lv [1, 2, 0, 3, 4] rfl ?_
        exact jX5_partOf_b56 C hRet v1 (v2 ||| ((1 : Int32) <<< (((σ 1 v4.toNatClampNeg) / (4 : Int32)) &&& 31))) v3 v4 hK6 hK14
set_option maxHeartbeats 4000000 in
set_option maxRecDepth 100000 in
theorem jX5_partOf_L6  {o0 : Int32} {σ : St} (C : Cxt p s m args c cX5_partOf 5 wsX5_partOf RX5 D [(cyI, .int), (cyZ, .boolean)] A) (hRet : ∀ (v : Int32) (pc : Nat) (lv : List (Nat × Value)), decode cX5_partOf pc = .ok (.ireturn, 1) → J p l e ({ frames := 2, cells := 0, slots := 0, locals := 43 } : Room) s m args below meth c 5 D A (wM ad cyI cyZ) Q o0 (some v) σ pc lv [.int v]) (v1 : Int32) (n : Nat) (v2 v3 : Int32) : J p l e ({ frames := 2, cells := 0, slots := 0, locals := 43 } : Room) s m args below meth c 5 D A (wM ad cyI cyZ) Q o0 (loop2 (fX5_partOf_b6 v1 σ) n v2 v3) σ 6 [(0, .ref (ad 0)), (1, .int v1), (2, .int v2), (3, .int v3)] [] := by
  refine J_loop2 (pc := 6) (fun v2 v3 => [(0, .ref (ad 0)), (1, .int v1), (2, .int v2), (3, .int v3)]) (fX5_partOf_b6 v1 σ) ?_ n v2 v3
  intro K6 hK6 v2 v3
  unfold fX5_partOf_b6
  refine J_iload_n C 3 rfl rfl dX5_partOf_6 ?_
  refine J_iconst (v := (5 : Int32)) C dX5_partOf_7 (by decide) ?_
  refine J_icmp_ge (tgt := 68) C dX5_partOf_8 (by decide) ?_ ?_
  · refine J_iload_n C 2 rfl rfl dX5_partOf_68 ?_
    exact hRet v2 _ _ dX5_partOf_69
  · refine J_iconst (v := (0 : Int32)) C dX5_partOf_11 (by decide) ?_
    refine J_istore C dX5_partOf_12 (by decide) rfl ?_
    refine J_lv [1, 2, 3, 4, 0] rfl ?_
    exact jX5_partOf_L14 C hRet v1 v3 hK6 fuel v2 (0 : Int32)
set_option maxHeartbeats 4000000 in
set_option maxRecDepth 100000 in
theorem tX5_partOf {l : Launch} {D : va_G} {ad : Nat → Nat} {cyI cyZ : ClassId} (v1 : Int32) (σ : St) (r : Int32) (h : fX5_partOf v1 σ = some r) : MI l D [(cyI, .int), (cyZ, .boolean)] (wM ad cyI cyZ) yX5_partOf wsX5_partOf ({ frames := 2, cells := 0, slots := 0, locals := 43 } : Room) [.ref (ad 0), .int v1] σ r σ := by
  refine entryPI (own := RX5) r (by decide +kernel) rfl rfl (Nat.le_of_ble_eq_true rfl) (fX5_partOf v1 σ) h ?_
  intro p e s m below meth c Q A C hRet
  generalize ([.ref (ad 0), .int v1] : List Value).toArray = args at *
  show J p l e ({ frames := 2, cells := 0, slots := 0, locals := 43 } : Room) s m args below meth c 5 D A (wM ad cyI cyZ) Q r (fX5_partOf v1 σ) σ 0 [(0, .ref (ad 0)), (1, .int v1)] []
  unfold fX5_partOf
  refine J_iconst (v := (1 : Int32)) C dX5_partOf_0 (by decide) ?_
  refine J_iload_n C 1 rfl rfl dX5_partOf_1 ?_
  refine J_ishl C dX5_partOf_2 ?_
  refine J_istore_n C rfl dX5_partOf_3 (by decide) rfl ?_
  refine J_iconst (v := (0 : Int32)) C dX5_partOf_4 (by decide) ?_
  refine J_istore_n C rfl dX5_partOf_5 (by decide) rfl ?_
  refine J_lv [2, 3, 1, 0] rfl ?_
  exact jX5_partOf_L6 C hRet v1 fuel ((1 : Int32) <<< (v1 &&& 31)) (0 : Int32)
-- X5_resets
set_option maxHeartbeats 4000000 in
set_option maxRecDepth 100000 in
theorem jX5_resets_L37  {o0 : St} (C : Cxt p s m args c cX5_resets 4 wsX5_resets RX5 D [(cyI, .int), (cyZ, .boolean)] A) (hRet : ∀ (σ2 : St) (pc : Nat) (lv : List (Nat × Value)), decode cX5_resets pc = .ok (.return_, 1) → J p l e ({ frames := 0, cells := 0, slots := 0, locals := 0 } : Room) s m args below meth c 4 D A (wM ad cyI cyZ) Q o0 (some σ2) σ2 pc lv []) (v1 v2 : Int32) (n : Nat) (v3 : Int32) (σ : St) : J p l e ({ frames := 0, cells := 0, slots := 0, locals := 0 } : Room) s m args below meth c 4 D A (wM ad cyI cyZ) Q o0 (loop1s (fX5_resets_b37 v1 v2) n v3 σ) σ 37 [(0, .ref (ad 0)), (1, .int v1), (2, .int v2), (3, .int v3)] [] := by
  refine J_loop1s (pc := 37) (fun v3 => [(0, .ref (ad 0)), (1, .int v1), (2, .int v2), (3, .int v3)]) (fX5_resets_b37 v1 v2) ?_ n v3 σ
  intro K37 hK37 v3 σ
  unfold fX5_resets_b37
  refine J_iload_n C 3 rfl rfl dX5_resets_37 ?_
  refine J_iconst (v := (4 : Int32)) C dX5_resets_38 (by decide) ?_
  refine J_iload_n C 1 rfl rfl dX5_resets_39 ?_
  refine J_imul C dX5_resets_40 ?_
  refine J_iconst (v := (4 : Int32)) C dX5_resets_41 (by decide) ?_
  refine J_iadd C dX5_resets_42 ?_
  refine J_icmp_ge (tgt := 80) C dX5_resets_43 (by decide) ?_ ?_
  · exact hRet σ _ _ dX5_resets_80
  · refine J_aload_n C 0 rfl rfl dX5_resets_46 ?_
    refine J_get C 0 9 5 (C0 := RX5) (T := TX5) (N := 23) (by decide +kernel) rfl rfl (by decide) (by decide +kernel) rfl dX5_resets_47 ?_
    refine J_iload_n C 3 rfl rfl dX5_resets_50 ?_
    refine J_iconst (v := (0 : Int32)) C dX5_resets_51 (by decide) ?_
    refine J_iast (σ' := up2 σ 4 v3.toNatClampNeg (0 : Int32)) C 4 0 rfl rfl (wM_s4 _ _ _ _ _ _) dX5_resets_52 ?_
    refine J_aload_n C 0 rfl rfl dX5_resets_53 ?_
    refine J_get C 0 10 5 (C0 := RX5) (T := TX5) (N := 23) (by decide +kernel) rfl rfl (by decide) (by decide +kernel) rfl dX5_resets_54 ?_
    refine J_iload_n C 3 rfl rfl dX5_resets_57 ?_
    refine J_iconst (v := (0 : Int32)) C dX5_resets_58 (by decide) ?_
    refine J_iast (σ' := up2 (up2 σ 4 v3.toNatClampNeg (0 : Int32)) 5 v3.toNatClampNeg (0 : Int32)) C 5 0 rfl rfl (wM_s5 _ _ _ _ _ _) dX5_resets_59 ?_
    refine J_aload_n C 0 rfl rfl dX5_resets_60 ?_
    refine J_get C 0 11 5 (C0 := RX5) (T := TX5) (N := 23) (by decide +kernel) rfl rfl (by decide) (by decide +kernel) rfl dX5_resets_61 ?_
    refine J_iload_n C 3 rfl rfl dX5_resets_64 ?_
    refine J_iconst (v := (0 : Int32)) C dX5_resets_65 (by decide) ?_
    refine J_iast (σ' := up2 (up2 (up2 σ 4 v3.toNatClampNeg (0 : Int32)) 5 v3.toNatClampNeg (0 : Int32)) 6 v3.toNatClampNeg (0 : Int32)) C 6 0 rfl rfl (wM_s6 _ _ _ _ _ _) dX5_resets_66 ?_
    refine J_aload_n C 0 rfl rfl dX5_resets_67 ?_
    refine J_get C 0 12 5 (C0 := RX5) (T := TX5) (N := 23) (by decide +kernel) rfl rfl (by decide) (by decide +kernel) rfl dX5_resets_68 ?_
    refine J_iload_n C 3 rfl rfl dX5_resets_71 ?_
    refine J_iconst (v := (0 : Int32)) C dX5_resets_72 (by decide) ?_
    refine J_iast (σ' := up2 (up2 (up2 (up2 σ 4 v3.toNatClampNeg (0 : Int32)) 5 v3.toNatClampNeg (0 : Int32)) 6 v3.toNatClampNeg (0 : Int32)) 7 v3.toNatClampNeg (0 : Int32)) C 7 0 rfl rfl (wM_s7 _ _ _ _ _ _) dX5_resets_73 ?_
    refine J_iinc (d := (1 : Int32)) C 3 rfl dX5_resets_74 (by decide) (by decide) rfl ?_
    refine J_goto (tgt := 37) C dX5_resets_77 (by decide) ?_
    refine J_lv [1, 2, 3, 0] rfl ?_
    exact hK37 (v3 + (1 : Int32)) (up2 (up2 (up2 (up2 σ 4 v3.toNatClampNeg (0 : Int32)) 5 v3.toNatClampNeg (0 : Int32)) 6 v3.toNatClampNeg (0 : Int32)) 7 v3.toNatClampNeg (0 : Int32))
set_option maxHeartbeats 4000000 in
set_option maxRecDepth 100000 in
theorem jX5_resets_b32  {o0 : St} (C : Cxt p s m args c cX5_resets 4 wsX5_resets RX5 D [(cyI, .int), (cyZ, .boolean)] A) (hRet : ∀ (σ2 : St) (pc : Nat) (lv : List (Nat × Value)), decode cX5_resets pc = .ok (.return_, 1) → J p l e ({ frames := 0, cells := 0, slots := 0, locals := 0 } : Room) s m args below meth c 4 D A (wM ad cyI cyZ) Q o0 (some σ2) σ2 pc lv []) (σ : St) (v1 v2 t0 t1 : Int32) : J p l e ({ frames := 0, cells := 0, slots := 0, locals := 0 } : Room) s m args below meth c 4 D A (wM ad cyI cyZ) Q o0 (fX5_resets_b32 v1 v2 t0 t1 σ) σ 32 [(0, .ref (ad 0)), (1, .int v1), (2, .int v2)] [.int t0, .int t1, .ref (ad 8)] := by
  unfold fX5_resets_b32
  refine J_iast (σ' := up2 σ 8 t1.toNatClampNeg t0) C 8 0 rfl rfl (wM_s8 _ _ _ _ _ _) dX5_resets_32 ?_
  refine J_iconst (v := (4 : Int32)) C dX5_resets_33 (by decide) ?_
  refine J_iload_n C 1 rfl rfl dX5_resets_34 ?_
  refine J_imul C dX5_resets_35 ?_
  refine J_istore_n C rfl dX5_resets_36 (by decide) rfl ?_
  refine J_lv [1, 2, 3, 0] rfl ?_
  exact jX5_resets_L37 C hRet v1 v2 fuel ((4 : Int32) * v1) (up2 σ 8 t1.toNatClampNeg t0)
set_option maxHeartbeats 4000000 in
set_option maxRecDepth 100000 in
theorem tX5_resets {l : Launch} {D : va_G} {ad : Nat → Nat} {cyI cyZ : ClassId} (v1 v2 : Int32) (σ : St) (σ1 : St) (h : fX5_resets v1 v2 σ = some σ1) : MV l D [(cyI, .int), (cyZ, .boolean)] (wM ad cyI cyZ) yX5_resets wsX5_resets ({ frames := 0, cells := 0, slots := 0, locals := 0 } : Room) [.ref (ad 0), .int v1, .int v2] σ σ1 := by
  refine entryV (own := RX5) σ1 (by decide +kernel) rfl rfl (Nat.le_of_ble_eq_true rfl) (fX5_resets v1 v2 σ) h ?_
  intro p e s m below meth c Q A C hRet
  generalize ([.ref (ad 0), .int v1, .int v2] : List Value).toArray = args at *
  show J p l e ({ frames := 0, cells := 0, slots := 0, locals := 0 } : Room) s m args below meth c 4 D A (wM ad cyI cyZ) Q σ1 (fX5_resets v1 v2 σ) σ 0 [(0, .ref (ad 0)), (1, .int v1), (2, .int v2)] []
  unfold fX5_resets
  refine J_aload_n C 0 rfl rfl dX5_resets_0 ?_
  refine J_get C 0 3 5 (C0 := RX5) (T := TX5) (N := 23) (by decide +kernel) rfl rfl (by decide) (by decide +kernel) rfl dX5_resets_1 ?_
  refine J_iload_n C 1 rfl rfl dX5_resets_4 ?_
  refine J_iload_n C 2 rfl rfl dX5_resets_5 ?_
  refine J_iast (σ' := up2 σ 1 v1.toNatClampNeg v2) C 1 0 rfl rfl (wM_s1 _ _ _ _ _ _) dX5_resets_6 ?_
  refine J_aload_n C 0 rfl rfl dX5_resets_7 ?_
  refine J_get C 0 14 5 (C0 := RX5) (T := TX5) (N := 23) (by decide +kernel) rfl rfl (by decide) (by decide +kernel) rfl dX5_resets_8 ?_
  refine J_iload_n C 1 rfl rfl dX5_resets_11 ?_
  refine J_iconst (v := (0 : Int32)) C dX5_resets_12 (by decide) ?_
  refine J_zast (σ' := up2 (up2 σ 1 v1.toNatClampNeg v2) 9 v1.toNatClampNeg (vp_nar .boolean (0 : Int32))) C 9 1 rfl rfl (wM_s9 _ _ _ _ _ _) dX5_resets_13 ?_
  refine J_aload_n C 0 rfl rfl dX5_resets_14 ?_
  refine J_get C 0 13 5 (C0 := RX5) (T := TX5) (N := 23) (by decide +kernel) rfl rfl (by decide) (by decide +kernel) rfl dX5_resets_15 ?_
  refine J_iload_n C 1 rfl rfl dX5_resets_18 ?_
  refine J_iload_n C 2 rfl rfl dX5_resets_19 ?_
  refine J_iconst (v := (-1 : Int32)) C dX5_resets_20 (by decide) ?_
  refine J_icmp_ne (tgt := 28) C dX5_resets_21 (by decide) ?_ ?_
  · refine J_aload_n C 0 rfl rfl dX5_resets_28 ?_
    refine J_get C 0 7 5 (C0 := RX5) (T := TX5) (N := 23) (by decide +kernel) rfl rfl (by decide) (by decide +kernel) rfl dX5_resets_29 ?_
    exact jX5_resets_b32 C hRet (up2 (up2 σ 1 v1.toNatClampNeg v2) 9 v1.toNatClampNeg (vp_nar .boolean (0 : Int32))) v1 v2 ((up2 (up2 σ 1 v1.toNatClampNeg v2) 9 v1.toNatClampNeg (vp_nar .boolean (0 : Int32))) 0 7) v1
  · refine J_iconst (v := (0 : Int32)) C dX5_resets_24 (by decide) ?_
    refine J_goto (tgt := 32) C dX5_resets_25 (by decide) ?_
    exact jX5_resets_b32 C hRet (up2 (up2 σ 1 v1.toNatClampNeg v2) 9 v1.toNatClampNeg (vp_nar .boolean (0 : Int32))) v1 v2 (0 : Int32) v1
-- X5_connect
set_option maxHeartbeats 4000000 in
set_option maxRecDepth 100000 in
theorem tX5_connect {l : Launch} {D : va_G} {ad : Nat → Nat} {cyI cyZ : ClassId} (v1 v2 v3 v4 : Int32) (σ : St) (r : Int32) (σ1 : St) (h : fX5_connect v1 v2 v3 v4 σ = some (r, σ1)) : MI l D [(cyI, .int), (cyZ, .boolean)] (wM ad cyI cyZ) yX5_connect wsX5_connect ({ frames := 3, cells := 0, slots := 0, locals := 67 } : Room) [.ref (ad 0), .int v1, .int v2, .int v3, .int v4] σ r σ1 := by
  refine entryI (own := RX5) r σ1 (by decide +kernel) rfl rfl (Nat.le_of_ble_eq_true rfl) (fX5_connect v1 v2 v3 v4 σ) h ?_
  intro p e s m below meth c Q A C hRet
  generalize ([.ref (ad 0), .int v1, .int v2, .int v3, .int v4] : List Value).toArray = args at *
  show J p l e ({ frames := 3, cells := 0, slots := 0, locals := 67 } : Room) s m args below meth c 7 D A (wM ad cyI cyZ) Q (r, σ1) (fX5_connect v1 v2 v3 v4 σ) σ 0 [(0, .ref (ad 0)), (1, .int v1), (2, .int v2), (3, .int v3), (4, .int v4)] []
  unfold fX5_connect
  refine J_aload_n C 0 rfl rfl dX5_connect_0 ?_
  refine J_iload_n C 1 rfl rfl dX5_connect_1 ?_
  refine J_iload_n C 2 rfl rfl dX5_connect_2 ?_
  refine J_callP_V C [.int v1, .int v2] 0 5 rfl rfl (fun zr zh => tX5_isPort v1 v2 σ zr zh) (cwV 2 C.1.2.2.2.2 gX5_connect_X5_isPort rfl rfl rfl (by decide +kernel) ⟨Nat.le_of_ble_eq_true rfl, Nat.le_of_ble_eq_true rfl⟩) rfl rfl (Nat.le_of_ble_eq_true rfl) dX5_connect_3 (fun r1 => ?_)
  refine J_if_eq (tgt := 19) C dX5_connect_6 (by decide) ?_ ?_
  · refine J_iconst (v := (-1 : Int32)) C dX5_connect_19 (by decide) ?_
    exact hRet (-1 : Int32) σ _ _ dX5_connect_20
  · refine J_aload_n C 0 rfl rfl dX5_connect_9 ?_
    refine J_iload_n C 3 rfl rfl dX5_connect_10 ?_
    refine J_iload C 4 rfl dX5_connect_11 ?_
    refine J_callP_V C [.int v3, .int v4] 0 5 rfl rfl (fun zr zh => tX5_isPort v3 v4 σ zr zh) (cwV 2 C.1.2.2.2.2 gX5_connect_X5_isPort rfl rfl rfl (by decide +kernel) ⟨Nat.le_of_ble_eq_true rfl, Nat.le_of_ble_eq_true rfl⟩) rfl rfl (Nat.le_of_ble_eq_true rfl) dX5_connect_13 (fun r2 => ?_)
    refine J_if_ne (tgt := 21) C dX5_connect_16 (by decide) ?_ ?_
    · refine J_iconst (v := (4 : Int32)) C dX5_connect_21 (by decide) ?_
      refine J_iload_n C 1 rfl rfl dX5_connect_22 ?_
      refine J_imul C dX5_connect_23 ?_
      refine J_iload_n C 2 rfl rfl dX5_connect_24 ?_
      refine J_iadd C dX5_connect_25 ?_
      refine J_istore C dX5_connect_26 (by decide) rfl ?_
      refine J_iconst (v := (4 : Int32)) C dX5_connect_28 (by decide) ?_
      refine J_iload_n C 4 rfl rfl dX5_connect_29 ?_
      refine J_imul C dX5_connect_30 ?_
      refine J_iload C 5 rfl dX5_connect_31 ?_
      refine J_iadd C dX5_connect_33 ?_
      refine J_istore C dX5_connect_34 (by decide) rfl ?_
      refine J_aload_n C 2 rfl rfl dX5_connect_36 ?_
      refine J_iload C 1 rfl dX5_connect_37 ?_
      refine J_callP_V C [.int (((4 : Int32) * v1) + v2)] 0 5 rfl rfl (fun zr zh => tX5_isConnected (((4 : Int32) * v1) + v2) σ zr zh) (cwV 1 C.1.2.2.2.2 gX5_connect_X5_isConnected rfl rfl rfl (by decide +kernel) ⟨Nat.le_of_ble_eq_true rfl, Nat.le_of_ble_eq_true rfl⟩) rfl rfl (Nat.le_of_ble_eq_true rfl) dX5_connect_39 (fun r3 => ?_)
      refine J_if_ne (tgt := 54) C dX5_connect_42 (by decide) ?_ ?_
      · refine J_bipush (v := (-6 : Int32)) C dX5_connect_54 (by decide) ?_
        exact hRet (-6 : Int32) σ _ _ dX5_connect_56
      · refine J_aload_n C 2 rfl rfl dX5_connect_45 ?_
        refine J_iload C 0 rfl dX5_connect_46 ?_
        refine J_callP_V C [.int (((4 : Int32) * v3) + v4)] 0 5 rfl rfl (fun zr zh => tX5_isConnected (((4 : Int32) * v3) + v4) σ zr zh) (cwV 1 C.1.2.2.2.2 gX5_connect_X5_isConnected rfl rfl rfl (by decide +kernel) ⟨Nat.le_of_ble_eq_true rfl, Nat.le_of_ble_eq_true rfl⟩) rfl rfl (Nat.le_of_ble_eq_true rfl) dX5_connect_48 (fun r4 => ?_)
        refine J_if_eq (tgt := 57) C dX5_connect_51 (by decide) ?_ ?_
        · refine J_aload_n C 2 rfl rfl dX5_connect_57 ?_
          refine J_iload_n C 3 rfl rfl dX5_connect_58 ?_
          refine J_callP_V C [.int v1] 0 5 rfl rfl (fun zr zh => tX5_partOf v1 σ zr zh) (cwV 1 C.1.2.2.2.2 gX5_connect_X5_partOf rfl rfl rfl (by decide +kernel) ⟨Nat.le_of_ble_eq_true rfl, Nat.le_of_ble_eq_true rfl⟩) rfl rfl (Nat.le_of_ble_eq_true rfl) dX5_connect_59 (fun r5 => ?_)
          refine J_iload_n C 5 rfl rfl dX5_connect_62 ?_
          refine J_ishr C dX5_connect_63 ?_
          refine J_iconst (v := (1 : Int32)) C dX5_connect_64 (by decide) ?_
          refine J_iand C dX5_connect_65 ?_
          refine J_iconst (v := (1 : Int32)) C dX5_connect_66 (by decide) ?_
          refine J_icmp_ne (tgt := 73) C dX5_connect_67 (by decide) ?_ ?_
          · refine J_aload_n C 2 rfl rfl dX5_connect_73 ?_
            refine J_iload C 1 rfl dX5_connect_74 ?_
            refine J_iload C 0 rfl dX5_connect_76 ?_
            refine J_callV_V C [.int (((4 : Int32) * v1) + v2), .int (((4 : Int32) * v3) + v4)] 0 5 rfl rfl (fun zs zh => tX5_resets (((4 : Int32) * v1) + v2) (((4 : Int32) * v3) + v4) σ zs zh) (cwV 2 C.1.2.2.2.2 gX5_connect_X5_resets rfl rfl rfl (by decide +kernel) ⟨Nat.le_of_ble_eq_true rfl, Nat.le_of_ble_eq_true rfl⟩) rfl rfl (Nat.le_of_ble_eq_true rfl) dX5_connect_78 (fun σ6 => ?_)
            refine J_aload_n C 2 rfl rfl dX5_connect_81 ?_
            refine J_iload C 0 rfl dX5_connect_82 ?_
            refine J_iload C 1 rfl dX5_connect_84 ?_
            refine J_callV_V C [.int (((4 : Int32) * v3) + v4), .int (((4 : Int32) * v1) + v2)] 0 5 rfl rfl (fun zs zh => tX5_resets (((4 : Int32) * v3) + v4) (((4 : Int32) * v1) + v2) σ6 zs zh) (cwV 2 C.1.2.2.2.2 gX5_connect_X5_resets rfl rfl rfl (by decide +kernel) ⟨Nat.le_of_ble_eq_true rfl, Nat.le_of_ble_eq_true rfl⟩) rfl rfl (Nat.le_of_ble_eq_true rfl) dX5_connect_86 (fun σ7 => ?_)
            refine J_aload_n C 2 rfl rfl dX5_connect_89 ?_
            refine J_dup C rfl dX5_connect_90 ?_
            refine J_get C 0 2 5 (C0 := RX5) (T := TX5) (N := 23) (by decide +kernel) rfl rfl (by decide) (by decide +kernel) rfl dX5_connect_91 ?_
            refine J_iconst (v := (1 : Int32)) C dX5_connect_94 (by decide) ?_
            refine J_iadd C dX5_connect_95 ?_
            refine J_put (σ' := up2 σ7 0 2 ((σ7 0 2) + (1 : Int32))) C 0 2 5 (C0 := RX5) (T := TX5) (N := 23) tyX5 tyX5_ok nmX5 (by decide +kernel) rfl rfl (by decide) (by decide +kernel) rfl (by decide +kernel) (Nat.le_of_ble_eq_true rfl) (wM_p0_2 _ _ _ _ _) dX5_connect_96 ?_
            refine J_aload_n C 2 rfl rfl dX5_connect_99 ?_
            refine J_get C 0 2 5 (C0 := RX5) (T := TX5) (N := 23) (by decide +kernel) rfl rfl (by decide) (by decide +kernel) rfl dX5_connect_100 ?_
            exact hRet ((up2 σ7 0 2 ((σ7 0 2) + (1 : Int32))) 0 2) (up2 σ7 0 2 ((σ7 0 2) + (1 : Int32))) _ _ dX5_connect_103
          · refine J_bipush (v := (-8 : Int32)) C dX5_connect_70 (by decide) ?_
            exact hRet (-8 : Int32) σ _ _ dX5_connect_72
        · refine J_bipush (v := (-6 : Int32)) C dX5_connect_54 (by decide) ?_
          exact hRet (-6 : Int32) σ _ _ dX5_connect_56
    · refine J_iconst (v := (-1 : Int32)) C dX5_connect_19 (by decide) ?_
      exact hRet (-1 : Int32) σ _ _ dX5_connect_20
-- X5_cut
set_option maxHeartbeats 4000000 in
set_option maxRecDepth 100000 in
theorem tX5_cut {l : Launch} {D : va_G} {ad : Nat → Nat} {cyI cyZ : ClassId} (v1 v2 : Int32) (σ : St) (r : Int32) (σ1 : St) (h : fX5_cut v1 v2 σ = some (r, σ1)) : MI l D [(cyI, .int), (cyZ, .boolean)] (wM ad cyI cyZ) yX5_cut wsX5_cut ({ frames := 2, cells := 0, slots := 0, locals := 44 } : Room) [.ref (ad 0), .int v1, .int v2] σ r σ1 := by
  refine entryI (own := RX5) r σ1 (by decide +kernel) rfl rfl (Nat.le_of_ble_eq_true rfl) (fX5_cut v1 v2 σ) h ?_
  intro p e s m below meth c Q A C hRet
  generalize ([.ref (ad 0), .int v1, .int v2] : List Value).toArray = args at *
  show J p l e ({ frames := 2, cells := 0, slots := 0, locals := 44 } : Room) s m args below meth c 4 D A (wM ad cyI cyZ) Q (r, σ1) (fX5_cut v1 v2 σ) σ 0 [(0, .ref (ad 0)), (1, .int v1), (2, .int v2)] []
  unfold fX5_cut
  refine J_aload_n C 0 rfl rfl dX5_cut_0 ?_
  refine J_iload_n C 1 rfl rfl dX5_cut_1 ?_
  refine J_iload_n C 2 rfl rfl dX5_cut_2 ?_
  refine J_callP_V C [.int v1, .int v2] 0 5 rfl rfl (fun zr zh => tX5_isPort v1 v2 σ zr zh) (cwV 2 C.1.2.2.2.2 gX5_cut_X5_isPort rfl rfl rfl (by decide +kernel) ⟨Nat.le_of_ble_eq_true rfl, Nat.le_of_ble_eq_true rfl⟩) rfl rfl (Nat.le_of_ble_eq_true rfl) dX5_cut_3 (fun r1 => ?_)
  refine J_if_ne (tgt := 11) C dX5_cut_6 (by decide) ?_ ?_
  · refine J_iconst (v := (4 : Int32)) C dX5_cut_11 (by decide) ?_
    refine J_iload_n C 1 rfl rfl dX5_cut_12 ?_
    refine J_imul C dX5_cut_13 ?_
    refine J_iload_n C 2 rfl rfl dX5_cut_14 ?_
    refine J_iadd C dX5_cut_15 ?_
    refine J_istore_n C rfl dX5_cut_16 (by decide) rfl ?_
    refine J_aload_n C 1 rfl rfl dX5_cut_17 ?_
    refine J_iload_n C 0 rfl rfl dX5_cut_18 ?_
    refine J_callP_V C [.int (((4 : Int32) * v1) + v2)] 0 5 rfl rfl (fun zr zh => tX5_isLinked (((4 : Int32) * v1) + v2) σ zr zh) (cwV 1 C.1.2.2.2.2 gX5_cut_X5_isLinked rfl rfl rfl (by decide +kernel) ⟨Nat.le_of_ble_eq_true rfl, Nat.le_of_ble_eq_true rfl⟩) rfl rfl (Nat.le_of_ble_eq_true rfl) dX5_cut_19 (fun r2 => ?_)
    refine J_if_ne (tgt := 28) C dX5_cut_22 (by decide) ?_ ?_
    · refine J_aload_n C 1 rfl rfl dX5_cut_28 ?_
      refine J_aload_n C 1 rfl rfl dX5_cut_29 ?_
      refine J_get C 0 3 5 (C0 := RX5) (T := TX5) (N := 23) (by decide +kernel) rfl rfl (by decide) (by decide +kernel) rfl dX5_cut_30 ?_
      refine J_iload_n C 0 rfl rfl dX5_cut_33 ?_
      refine J_iald C 1 0 rfl rfl dX5_cut_34 ?_
      refine J_iconst (v := (-1 : Int32)) C dX5_cut_35 (by decide) ?_
      refine J_callV_V C [.int (σ 1 (((4 : Int32) * v1) + v2).toNatClampNeg), .int (-1 : Int32)] 0 5 rfl rfl (fun zs zh => tX5_resets (σ 1 (((4 : Int32) * v1) + v2).toNatClampNeg) (-1 : Int32) σ zs zh) (cwV 2 C.1.2.2.2.2 gX5_cut_X5_resets rfl rfl rfl (by decide +kernel) ⟨Nat.le_of_ble_eq_true rfl, Nat.le_of_ble_eq_true rfl⟩) rfl rfl (Nat.le_of_ble_eq_true rfl) dX5_cut_36 (fun σ3 => ?_)
      refine J_aload_n C 1 rfl rfl dX5_cut_39 ?_
      refine J_iload_n C 0 rfl rfl dX5_cut_40 ?_
      refine J_iconst (v := (-1 : Int32)) C dX5_cut_41 (by decide) ?_
      refine J_callV_V C [.int (((4 : Int32) * v1) + v2), .int (-1 : Int32)] 0 5 rfl rfl (fun zs zh => tX5_resets (((4 : Int32) * v1) + v2) (-1 : Int32) σ3 zs zh) (cwV 2 C.1.2.2.2.2 gX5_cut_X5_resets rfl rfl rfl (by decide +kernel) ⟨Nat.le_of_ble_eq_true rfl, Nat.le_of_ble_eq_true rfl⟩) rfl rfl (Nat.le_of_ble_eq_true rfl) dX5_cut_42 (fun σ4 => ?_)
      refine J_aload_n C 1 rfl rfl dX5_cut_45 ?_
      refine J_dup C rfl dX5_cut_46 ?_
      refine J_get C 0 2 5 (C0 := RX5) (T := TX5) (N := 23) (by decide +kernel) rfl rfl (by decide) (by decide +kernel) rfl dX5_cut_47 ?_
      refine J_iconst (v := (1 : Int32)) C dX5_cut_50 (by decide) ?_
      refine J_isub C dX5_cut_51 ?_
      refine J_put (σ' := up2 σ4 0 2 ((σ4 0 2) - (1 : Int32))) C 0 2 5 (C0 := RX5) (T := TX5) (N := 23) tyX5 tyX5_ok nmX5 (by decide +kernel) rfl rfl (by decide) (by decide +kernel) rfl (by decide +kernel) (Nat.le_of_ble_eq_true rfl) (wM_p0_2 _ _ _ _ _) dX5_cut_52 ?_
      refine J_aload_n C 1 rfl rfl dX5_cut_55 ?_
      refine J_get C 0 2 5 (C0 := RX5) (T := TX5) (N := 23) (by decide +kernel) rfl rfl (by decide) (by decide +kernel) rfl dX5_cut_56 ?_
      exact hRet ((up2 σ4 0 2 ((σ4 0 2) - (1 : Int32))) 0 2) (up2 σ4 0 2 ((σ4 0 2) - (1 : Int32))) _ _ dX5_cut_59
    · refine J_bipush (v := (-7 : Int32)) C dX5_cut_25 (by decide) ?_
      exact hRet (-7 : Int32) σ _ _ dX5_cut_27
  · refine J_iconst (v := (-1 : Int32)) C dX5_cut_9 (by decide) ?_
    exact hRet (-1 : Int32) σ _ _ dX5_cut_10
-- X5_addHost
set_option maxHeartbeats 4000000 in
set_option maxRecDepth 100000 in
theorem tX5_addHost {l : Launch} {D : va_G} {ad : Nat → Nat} {cyI cyZ : ClassId} (v1 v2 : Int32) (σ : St) (r : Int32) (σ1 : St) (h : fX5_addHost v1 v2 σ = some (r, σ1)) : MI l D [(cyI, .int), (cyZ, .boolean)] (wM ad cyI cyZ) yX5_addHost wsX5_addHost ({ frames := 2, cells := 0, slots := 0, locals := 44 } : Room) [.ref (ad 0), .int v1, .int v2] σ r σ1 := by
  refine entryI (own := RX5) r σ1 (by decide +kernel) rfl rfl (Nat.le_of_ble_eq_true rfl) (fX5_addHost v1 v2 σ) h ?_
  intro p e s m below meth c Q A C hRet
  generalize ([.ref (ad 0), .int v1, .int v2] : List Value).toArray = args at *
  show J p l e ({ frames := 2, cells := 0, slots := 0, locals := 44 } : Room) s m args below meth c 4 D A (wM ad cyI cyZ) Q (r, σ1) (fX5_addHost v1 v2 σ) σ 0 [(0, .ref (ad 0)), (1, .int v1), (2, .int v2)] []
  unfold fX5_addHost
  refine J_aload_n C 0 rfl rfl dX5_addHost_0 ?_
  refine J_iload_n C 1 rfl rfl dX5_addHost_1 ?_
  refine J_iload_n C 2 rfl rfl dX5_addHost_2 ?_
  refine J_callP_V C [.int v1, .int v2] 0 5 rfl rfl (fun zr zh => tX5_isPort v1 v2 σ zr zh) (cwV 2 C.1.2.2.2.2 gX5_addHost_X5_isPort rfl rfl rfl (by decide +kernel) ⟨Nat.le_of_ble_eq_true rfl, Nat.le_of_ble_eq_true rfl⟩) rfl rfl (Nat.le_of_ble_eq_true rfl) dX5_addHost_3 (fun r1 => ?_)
  refine J_if_ne (tgt := 11) C dX5_addHost_6 (by decide) ?_ ?_
  · refine J_iconst (v := (4 : Int32)) C dX5_addHost_11 (by decide) ?_
    refine J_iload_n C 1 rfl rfl dX5_addHost_12 ?_
    refine J_imul C dX5_addHost_13 ?_
    refine J_iload_n C 2 rfl rfl dX5_addHost_14 ?_
    refine J_iadd C dX5_addHost_15 ?_
    refine J_istore_n C rfl dX5_addHost_16 (by decide) rfl ?_
    refine J_aload_n C 1 rfl rfl dX5_addHost_17 ?_
    refine J_iload_n C 0 rfl rfl dX5_addHost_18 ?_
    refine J_callP_V C [.int (((4 : Int32) * v1) + v2)] 0 5 rfl rfl (fun zr zh => tX5_isConnected (((4 : Int32) * v1) + v2) σ zr zh) (cwV 1 C.1.2.2.2.2 gX5_addHost_X5_isConnected rfl rfl rfl (by decide +kernel) ⟨Nat.le_of_ble_eq_true rfl, Nat.le_of_ble_eq_true rfl⟩) rfl rfl (Nat.le_of_ble_eq_true rfl) dX5_addHost_19 (fun r2 => ?_)
    refine J_if_eq (tgt := 28) C dX5_addHost_22 (by decide) ?_ ?_
    · refine J_aload_n C 1 rfl rfl dX5_addHost_28 ?_
      refine J_get C 0 1 5 (C0 := RX5) (T := TX5) (N := 23) (by decide +kernel) rfl rfl (by decide) (by decide +kernel) rfl dX5_addHost_29 ?_
      refine J_bipush (v := (8 : Int32)) C dX5_addHost_32 (by decide) ?_
      refine J_icmp_ne (tgt := 40) C dX5_addHost_34 (by decide) ?_ ?_
      · refine J_aload_n C 1 rfl rfl dX5_addHost_40 ?_
        refine J_iload_n C 0 rfl rfl dX5_addHost_41 ?_
        refine J_bipush (v := (100 : Int32)) C dX5_addHost_42 (by decide) ?_
        refine J_aload_n C 1 rfl rfl dX5_addHost_44 ?_
        refine J_get C 0 1 5 (C0 := RX5) (T := TX5) (N := 23) (by decide +kernel) rfl rfl (by decide) (by decide +kernel) rfl dX5_addHost_45 ?_
        refine J_iadd C dX5_addHost_48 ?_
        refine J_callV_V C [.int (((4 : Int32) * v1) + v2), .int ((100 : Int32) + (σ 0 1))] 0 5 rfl rfl (fun zs zh => tX5_resets (((4 : Int32) * v1) + v2) ((100 : Int32) + (σ 0 1)) σ zs zh) (cwV 2 C.1.2.2.2.2 gX5_addHost_X5_resets rfl rfl rfl (by decide +kernel) ⟨Nat.le_of_ble_eq_true rfl, Nat.le_of_ble_eq_true rfl⟩) rfl rfl (Nat.le_of_ble_eq_true rfl) dX5_addHost_49 (fun σ3 => ?_)
        refine J_aload_n C 1 rfl rfl dX5_addHost_52 ?_
        refine J_get C 0 4 5 (C0 := RX5) (T := TX5) (N := 23) (by decide +kernel) rfl rfl (by decide) (by decide +kernel) rfl dX5_addHost_53 ?_
        refine J_aload_n C 1 rfl rfl dX5_addHost_56 ?_
        refine J_get C 0 1 5 (C0 := RX5) (T := TX5) (N := 23) (by decide +kernel) rfl rfl (by decide) (by decide +kernel) rfl dX5_addHost_57 ?_
        refine J_iload_n C 0 rfl rfl dX5_addHost_60 ?_
        refine J_iast (σ' := up2 σ3 2 (σ3 0 1).toNatClampNeg (((4 : Int32) * v1) + v2)) C 2 0 rfl rfl (wM_s2 _ _ _ _ _ _) dX5_addHost_61 ?_
        refine J_aload_n C 1 rfl rfl dX5_addHost_62 ?_
        refine J_dup C rfl dX5_addHost_63 ?_
        refine J_get C 0 1 5 (C0 := RX5) (T := TX5) (N := 23) (by decide +kernel) rfl rfl (by decide) (by decide +kernel) rfl dX5_addHost_64 ?_
        refine J_iconst (v := (1 : Int32)) C dX5_addHost_67 (by decide) ?_
        refine J_iadd C dX5_addHost_68 ?_
        refine J_put (σ' := up2 (up2 σ3 2 (σ3 0 1).toNatClampNeg (((4 : Int32) * v1) + v2)) 0 1 (((up2 σ3 2 (σ3 0 1).toNatClampNeg (((4 : Int32) * v1) + v2)) 0 1) + (1 : Int32))) C 0 1 5 (C0 := RX5) (T := TX5) (N := 23) tyX5 tyX5_ok nmX5 (by decide +kernel) rfl rfl (by decide) (by decide +kernel) rfl (by decide +kernel) (Nat.le_of_ble_eq_true rfl) (wM_p0_1 _ _ _ _ _) dX5_addHost_69 ?_
        refine J_aload_n C 1 rfl rfl dX5_addHost_72 ?_
        refine J_get C 0 1 5 (C0 := RX5) (T := TX5) (N := 23) (by decide +kernel) rfl rfl (by decide) (by decide +kernel) rfl dX5_addHost_73 ?_
        refine J_iconst (v := (1 : Int32)) C dX5_addHost_76 (by decide) ?_
        refine J_isub C dX5_addHost_77 ?_
        exact hRet (((up2 (up2 σ3 2 (σ3 0 1).toNatClampNeg (((4 : Int32) * v1) + v2)) 0 1 (((up2 σ3 2 (σ3 0 1).toNatClampNeg (((4 : Int32) * v1) + v2)) 0 1) + (1 : Int32))) 0 1) - (1 : Int32)) (up2 (up2 σ3 2 (σ3 0 1).toNatClampNeg (((4 : Int32) * v1) + v2)) 0 1 (((up2 σ3 2 (σ3 0 1).toNatClampNeg (((4 : Int32) * v1) + v2)) 0 1) + (1 : Int32))) _ _ dX5_addHost_78
      · refine J_bipush (v := (-5 : Int32)) C dX5_addHost_37 (by decide) ?_
        exact hRet (-5 : Int32) σ _ _ dX5_addHost_39
    · refine J_bipush (v := (-6 : Int32)) C dX5_addHost_25 (by decide) ?_
      exact hRet (-6 : Int32) σ _ _ dX5_addHost_27
  · refine J_iconst (v := (-1 : Int32)) C dX5_addHost_9 (by decide) ?_
    exact hRet (-1 : Int32) σ _ _ dX5_addHost_10
-- X5_setTimes
set_option maxHeartbeats 4000000 in
set_option maxRecDepth 100000 in
theorem jX5_setTimes_b66 {K39 : Int32 → Int32 → St → Option (Int32 × St)} {o0 : Int32 × St} (C : Cxt p s m args c cX5_setTimes 5 wsX5_setTimes RX5 D [(cyI, .int), (cyZ, .boolean)] A) (hRet : ∀ (v : Int32) (σ2 : St) (pc : Nat) (lv : List (Nat × Value)), decode cX5_setTimes pc = .ok (.ireturn, 1) → J p l e ({ frames := 1, cells := 0, slots := 0, locals := 22 } : Room) s m args below meth c 5 D A (wM ad cyI cyZ) Q o0 (some (v, σ2)) σ2 pc lv [.int v]) (σ : St) (v1 v2 v3 v4 : Int32) (hK39 : ∀ (v3 v4 : Int32) (σ : St), J p l e ({ frames := 1, cells := 0, slots := 0, locals := 22 } : Room) s m args below meth c 5 D A (wM ad cyI cyZ) Q o0 (K39 v3 v4 σ) σ 39 [(0, .ref (ad 0)), (1, .int v1), (2, .int v2), (3, .int v3), (4, .int v4)] []) : J p l e ({ frames := 1, cells := 0, slots := 0, locals := 22 } : Room) s m args below meth c 5 D A (wM ad cyI cyZ) Q o0 (fX5_setTimes_b66 K39 v1 v2 v3 v4 σ) σ 66 [(0, .ref (ad 0)), (1, .int v1), (2, .int v2), (3, .int v3), (4, .int v4)] [] := by
  unfold fX5_setTimes_b66
  refine J_iinc (d := (1 : Int32)) C 4 rfl dX5_setTimes_66 (by decide) (by decide) rfl ?_
  refine J_goto (tgt := 39) C dX5_setTimes_69 (by decide) ?_
  refine J_lv [1, 2, 3, 4, 0] rfl ?_
  exact hK39 v3 (v4 + (1 : Int32)) σ
set_option maxHeartbeats 4000000 in
set_option maxRecDepth 100000 in
theorem jX5_setTimes_L39  {o0 : Int32 × St} (C : Cxt p s m args c cX5_setTimes 5 wsX5_setTimes RX5 D [(cyI, .int), (cyZ, .boolean)] A) (hRet : ∀ (v : Int32) (σ2 : St) (pc : Nat) (lv : List (Nat × Value)), decode cX5_setTimes pc = .ok (.ireturn, 1) → J p l e ({ frames := 1, cells := 0, slots := 0, locals := 22 } : Room) s m args below meth c 5 D A (wM ad cyI cyZ) Q o0 (some (v, σ2)) σ2 pc lv [.int v]) (v1 v2 : Int32) (n : Nat) (v3 v4 : Int32) (σ : St) : J p l e ({ frames := 1, cells := 0, slots := 0, locals := 22 } : Room) s m args below meth c 5 D A (wM ad cyI cyZ) Q o0 (loop2s (fX5_setTimes_b39 v1 v2) n v3 v4 σ) σ 39 [(0, .ref (ad 0)), (1, .int v1), (2, .int v2), (3, .int v3), (4, .int v4)] [] := by
  refine J_loop2s (pc := 39) (fun v3 v4 => [(0, .ref (ad 0)), (1, .int v1), (2, .int v2), (3, .int v3), (4, .int v4)]) (fX5_setTimes_b39 v1 v2) ?_ n v3 v4 σ
  intro K39 hK39 v3 v4 σ
  unfold fX5_setTimes_b39
  refine J_iload C 4 rfl dX5_setTimes_39 ?_
  refine J_bipush (v := (20 : Int32)) C dX5_setTimes_41 (by decide) ?_
  refine J_icmp_ge (tgt := 72) C dX5_setTimes_43 (by decide) ?_ ?_
  · refine J_iload_n C 3 rfl rfl dX5_setTimes_72 ?_
    exact hRet v3 σ _ _ dX5_setTimes_73
  · refine J_aload_n C 0 rfl rfl dX5_setTimes_46 ?_
    refine J_iload C 4 rfl dX5_setTimes_47 ?_
    refine J_callP_V C [.int v4] 0 5 rfl rfl (fun zr zh => tX5_isConnected v4 σ zr zh) (cwV 1 C.1.2.2.2.2 gX5_setTimes_X5_isConnected rfl rfl rfl (by decide +kernel) ⟨Nat.le_of_ble_eq_true rfl, Nat.le_of_ble_eq_true rfl⟩) rfl rfl (Nat.le_of_ble_eq_true rfl) dX5_setTimes_49 (fun r1 => ?_)
    refine J_if_eq (tgt := 66) C dX5_setTimes_52 (by decide) ?_ ?_
    · exact jX5_setTimes_b66 C hRet σ v1 v2 v3 v4 hK39
    · refine J_aload_n C 0 rfl rfl dX5_setTimes_55 ?_
      refine J_get C 0 13 5 (C0 := RX5) (T := TX5) (N := 23) (by decide +kernel) rfl rfl (by decide) (by decide +kernel) rfl dX5_setTimes_56 ?_
      refine J_iload C 4 rfl dX5_setTimes_59 ?_
      refine J_iload_n C 2 rfl rfl dX5_setTimes_61 ?_
      refine J_iast (σ' := up2 σ 8 v4.toNatClampNeg v2) C 8 0 rfl rfl (wM_s8 _ _ _ _ _ _) dX5_setTimes_62 ?_
      refine J_iinc (d := (1 : Int32)) C 3 rfl dX5_setTimes_63 (by decide) (by decide) rfl ?_
      refine J_lv [1, 2, 3, 0, 4] rfl ?_
      exact jX5_setTimes_b66 C hRet (up2 σ 8 v4.toNatClampNeg v2) v1 v2 (v3 + (1 : Int32)) v4 hK39
set_option maxHeartbeats 4000000 in
set_option maxRecDepth 100000 in
theorem tX5_setTimes {l : Launch} {D : va_G} {ad : Nat → Nat} {cyI cyZ : ClassId} (v1 v2 : Int32) (σ : St) (r : Int32) (σ1 : St) (h : fX5_setTimes v1 v2 σ = some (r, σ1)) : MI l D [(cyI, .int), (cyZ, .boolean)] (wM ad cyI cyZ) yX5_setTimes wsX5_setTimes ({ frames := 1, cells := 0, slots := 0, locals := 22 } : Room) [.ref (ad 0), .int v1, .int v2] σ r σ1 := by
  refine entryI (own := RX5) r σ1 (by decide +kernel) rfl rfl (Nat.le_of_ble_eq_true rfl) (fX5_setTimes v1 v2 σ) h ?_
  intro p e s m below meth c Q A C hRet
  generalize ([.ref (ad 0), .int v1, .int v2] : List Value).toArray = args at *
  show J p l e ({ frames := 1, cells := 0, slots := 0, locals := 22 } : Room) s m args below meth c 5 D A (wM ad cyI cyZ) Q (r, σ1) (fX5_setTimes v1 v2 σ) σ 0 [(0, .ref (ad 0)), (1, .int v1), (2, .int v2)] []
  unfold fX5_setTimes
  refine J_iload_n C 1 rfl rfl dX5_setTimes_0 ?_
  refine J_iconst (v := (1 : Int32)) C dX5_setTimes_1 (by decide) ?_
  refine J_bipush (v := (50 : Int32)) C dX5_setTimes_2 (by decide) ?_
  refine J_callP_S C [.int v1, .int (1 : Int32), .int (50 : Int32)] (fun zr zh => tX5_within v1 (1 : Int32) (50 : Int32) σ zr zh) (va_cwS 3 C.1.2.2.2.2 gX5_setTimes_X5_within rfl rfl rfl (by decide +kernel) ⟨Nat.le_of_ble_eq_true rfl, Nat.le_of_ble_eq_true rfl⟩) rfl rfl (Nat.le_of_ble_eq_true rfl) dX5_setTimes_4 (fun r1 => ?_)
  refine J_if_eq (tgt := 21) C dX5_setTimes_7 (by decide) ?_ ?_
  · refine J_bipush (v := (-4 : Int32)) C dX5_setTimes_21 (by decide) ?_
    exact hRet (-4 : Int32) σ _ _ dX5_setTimes_23
  · refine J_iload_n C 2 rfl rfl dX5_setTimes_10 ?_
    refine J_iconst (v := (0 : Int32)) C dX5_setTimes_11 (by decide) ?_
    refine J_sipush (v := (200 : Int32)) C dX5_setTimes_12 (by decide) ?_
    refine J_callP_S C [.int v2, .int (0 : Int32), .int (200 : Int32)] (fun zr zh => tX5_within v2 (0 : Int32) (200 : Int32) σ zr zh) (va_cwS 3 C.1.2.2.2.2 gX5_setTimes_X5_within rfl rfl rfl (by decide +kernel) ⟨Nat.le_of_ble_eq_true rfl, Nat.le_of_ble_eq_true rfl⟩) rfl rfl (Nat.le_of_ble_eq_true rfl) dX5_setTimes_15 (fun r2 => ?_)
    refine J_if_ne (tgt := 24) C dX5_setTimes_18 (by decide) ?_ ?_
    · refine J_aload_n C 0 rfl rfl dX5_setTimes_24 ?_
      refine J_iload_n C 1 rfl rfl dX5_setTimes_25 ?_
      refine J_put (σ' := up2 σ 0 6 v1) C 0 6 5 (C0 := RX5) (T := TX5) (N := 23) tyX5 tyX5_ok nmX5 (by decide +kernel) rfl rfl (by decide) (by decide +kernel) rfl (by decide +kernel) (Nat.le_of_ble_eq_true rfl) (wM_p0_6 _ _ _ _ _) dX5_setTimes_26 ?_
      refine J_aload_n C 0 rfl rfl dX5_setTimes_29 ?_
      refine J_iload_n C 2 rfl rfl dX5_setTimes_30 ?_
      refine J_put (σ' := up2 (up2 σ 0 6 v1) 0 7 v2) C 0 7 5 (C0 := RX5) (T := TX5) (N := 23) tyX5 tyX5_ok nmX5 (by decide +kernel) rfl rfl (by decide) (by decide +kernel) rfl (by decide +kernel) (Nat.le_of_ble_eq_true rfl) (wM_p0_7 _ _ _ _ _) dX5_setTimes_31 ?_
      refine J_iconst (v := (0 : Int32)) C dX5_setTimes_34 (by decide) ?_
      refine J_istore_n C rfl dX5_setTimes_35 (by decide) rfl ?_
      refine J_iconst (v := (0 : Int32)) C dX5_setTimes_36 (by decide) ?_
      refine J_istore C dX5_setTimes_37 (by decide) rfl ?_
      refine J_lv [2, 3, 4, 1, 0] rfl ?_
      exact jX5_setTimes_L39 C hRet v1 v2 fuel (0 : Int32) (0 : Int32) (up2 (up2 σ 0 6 v1) 0 7 v2)
    · refine J_bipush (v := (-4 : Int32)) C dX5_setTimes_21 (by decide) ?_
      exact hRet (-4 : Int32) σ _ _ dX5_setTimes_23
-- X5_declares
set_option maxHeartbeats 4000000 in
set_option maxRecDepth 100000 in
theorem jX5_declares_b10  {o0 : Int32} {σ : St} (C : Cxt p s m args c cX5_declares 1 wsX5_declares RX5 D [(cyI, .int), (cyZ, .boolean)] A) (hRet : ∀ (v : Int32) (pc : Nat) (lv : List (Nat × Value)), narrow .boolean (.int v) = .int v → decode cX5_declares pc = .ok (.ireturn, 1) → J p l e ({ frames := 0, cells := 0, slots := 0, locals := 0 } : Room) s m args below meth c 1 D A (wM ad cyI cyZ) Q o0 (some v) σ pc lv [.int v]) (v0 : Int32) : J p l e ({ frames := 0, cells := 0, slots := 0, locals := 0 } : Room) s m args below meth c 1 D A (wM ad cyI cyZ) Q o0 (fX5_declares_b10 v0 σ) σ 10 [(0, .int v0)] [] := by
  unfold fX5_declares_b10
  refine J_iconst (v := (1 : Int32)) C dX5_declares_10 (by decide) ?_
  refine J_goto (tgt := 15) C dX5_declares_11 (by decide) ?_
  exact hRet (1 : Int32) _ _ (by decide) dX5_declares_15
set_option maxHeartbeats 4000000 in
set_option maxRecDepth 100000 in
theorem tX5_declares {l : Launch} {D : va_G} {ad : Nat → Nat} {cyI cyZ : ClassId} (v0 : Int32) (σ : St) (r : Int32) (h : fX5_declares v0 σ = some r) : MI l D [(cyI, .int), (cyZ, .boolean)] (wM ad cyI cyZ) yX5_declares wsX5_declares ({ frames := 0, cells := 0, slots := 0, locals := 0 } : Room) [.int v0] σ r σ := by
  refine entryPZ (own := RX5) r (by decide +kernel) rfl rfl (Nat.le_of_ble_eq_true rfl) (fX5_declares v0 σ) h ?_
  intro p e s m below meth c Q A C hRet
  generalize ([.int v0] : List Value).toArray = args at *
  show J p l e ({ frames := 0, cells := 0, slots := 0, locals := 0 } : Room) s m args below meth c 1 D A (wM ad cyI cyZ) Q r (fX5_declares v0 σ) σ 0 [(0, .int v0)] []
  unfold fX5_declares
  refine J_iload_n C 0 rfl rfl dX5_declares_0 ?_
  refine J_iconst (v := (1 : Int32)) C dX5_declares_1 (by decide) ?_
  refine J_icmp_eq (tgt := 10) C dX5_declares_2 (by decide) ?_ ?_
  · exact jX5_declares_b10 C hRet v0
  · refine J_iload_n C 0 rfl rfl dX5_declares_5 ?_
    refine J_iconst (v := (2 : Int32)) C dX5_declares_6 (by decide) ?_
    refine J_icmp_ne (tgt := 14) C dX5_declares_7 (by decide) ?_ ?_
    · refine J_iconst (v := (0 : Int32)) C dX5_declares_14 (by decide) ?_
      exact hRet (0 : Int32) _ _ (by decide) dX5_declares_15
    · exact jX5_declares_b10 C hRet v0
-- X5_refusedHost
set_option maxHeartbeats 4000000 in
set_option maxRecDepth 100000 in
theorem tX5_refusedHost {l : Launch} {D : va_G} {ad : Nat → Nat} {cyI cyZ : ClassId} (v1 v2 : Int32) (σ : St) (r : Int32) (h : fX5_refusedHost v1 v2 σ = some r) : MI l D [(cyI, .int), (cyZ, .boolean)] (wM ad cyI cyZ) yX5_refusedHost wsX5_refusedHost ({ frames := 2, cells := 0, slots := 0, locals := 43 } : Room) [.ref (ad 0), .int v1, .int v2] σ r σ := by
  refine entryPI (own := RX5) r (by decide +kernel) rfl rfl (Nat.le_of_ble_eq_true rfl) (fX5_refusedHost v1 v2 σ) h ?_
  intro p e s m below meth c Q A C hRet
  generalize ([.ref (ad 0), .int v1, .int v2] : List Value).toArray = args at *
  show J p l e ({ frames := 2, cells := 0, slots := 0, locals := 43 } : Room) s m args below meth c 3 D A (wM ad cyI cyZ) Q r (fX5_refusedHost v1 v2 σ) σ 0 [(0, .ref (ad 0)), (1, .int v1), (2, .int v2)] []
  unfold fX5_refusedHost
  refine J_aload_n C 0 rfl rfl dX5_refusedHost_0 ?_
  refine J_iload_n C 1 rfl rfl dX5_refusedHost_1 ?_
  refine J_callP_V C [.int v1] 0 5 rfl rfl (fun zr zh => tX5_isHost v1 σ zr zh) (cwV 1 C.1.2.2.2.2 gX5_refusedHost_X5_isHost rfl rfl rfl (by decide +kernel) ⟨Nat.le_of_ble_eq_true rfl, Nat.le_of_ble_eq_true rfl⟩) rfl rfl (Nat.le_of_ble_eq_true rfl) dX5_refusedHost_2 (fun r1 => ?_)
  refine J_if_ne (tgt := 13) C dX5_refusedHost_5 (by decide) ?_ ?_
  · refine J_iload_n C 2 rfl rfl dX5_refusedHost_13 ?_
    refine J_callP_S C [.int v2] (fun zr zh => tX5_isGroup v2 σ zr zh) (va_cwS 1 C.1.2.2.2.2 gX5_refusedHost_X5_isGroup rfl rfl rfl (by decide +kernel) ⟨Nat.le_of_ble_eq_true rfl, Nat.le_of_ble_eq_true rfl⟩) rfl rfl (Nat.le_of_ble_eq_true rfl) dX5_refusedHost_14 (fun r2 => ?_)
    refine J_if_ne (tgt := 25) C dX5_refusedHost_17 (by decide) ?_ ?_
    · refine J_iconst (v := (0 : Int32)) C dX5_refusedHost_25 (by decide) ?_
      exact hRet (0 : Int32) _ _ dX5_refusedHost_26
    · refine J_bipush (v := (-3 : Int32)) C dX5_refusedHost_20 (by decide) ?_
      refine J_goto (tgt := 26) C dX5_refusedHost_22 (by decide) ?_
      exact hRet (-3 : Int32) _ _ dX5_refusedHost_26
  · refine J_bipush (v := (-2 : Int32)) C dX5_refusedHost_8 (by decide) ?_
    refine J_goto (tgt := 26) C dX5_refusedHost_10 (by decide) ?_
    exact hRet (-2 : Int32) _ _ dX5_refusedHost_26
-- X5_join
set_option maxHeartbeats 4000000 in
set_option maxRecDepth 100000 in
theorem tX5_join {l : Launch} {D : va_G} {ad : Nat → Nat} {cyI cyZ : ClassId} (v1 v2 : Int32) (σ : St) (r : Int32) (σ1 : St) (h : fX5_join v1 v2 σ = some (r, σ1)) : MI l D [(cyI, .int), (cyZ, .boolean)] (wM ad cyI cyZ) yX5_join wsX5_join ({ frames := 3, cells := 0, slots := 0, locals := 65 } : Room) [.ref (ad 0), .int v1, .int v2] σ r σ1 := by
  refine entryI (own := RX5) r σ1 (by decide +kernel) rfl rfl (Nat.le_of_ble_eq_true rfl) (fX5_join v1 v2 σ) h ?_
  intro p e s m below meth c Q A C hRet
  generalize ([.ref (ad 0), .int v1, .int v2] : List Value).toArray = args at *
  show J p l e ({ frames := 3, cells := 0, slots := 0, locals := 65 } : Room) s m args below meth c 5 D A (wM ad cyI cyZ) Q (r, σ1) (fX5_join v1 v2 σ) σ 0 [(0, .ref (ad 0)), (1, .int v1), (2, .int v2)] []
  unfold fX5_join
  refine J_aload_n C 0 rfl rfl dX5_join_0 ?_
  refine J_iload_n C 1 rfl rfl dX5_join_1 ?_
  refine J_iload_n C 2 rfl rfl dX5_join_2 ?_
  refine J_callP_V C [.int v1, .int v2] 0 5 rfl rfl (fun zr zh => tX5_refusedHost v1 v2 σ zr zh) (cwV 2 C.1.2.2.2.2 gX5_join_X5_refusedHost rfl rfl rfl (by decide +kernel) ⟨Nat.le_of_ble_eq_true rfl, Nat.le_of_ble_eq_true rfl⟩) rfl rfl (Nat.le_of_ble_eq_true rfl) dX5_join_3 (fun r1 => ?_)
  refine J_istore_n C rfl dX5_join_6 (by decide) rfl ?_
  refine J_iload_n C 0 rfl rfl dX5_join_7 ?_
  refine J_if_eq (tgt := 13) C dX5_join_8 (by decide) ?_ ?_
  · refine J_iconst (v := (4 : Int32)) C dX5_join_13 (by decide) ?_
    refine J_iload_n C 2 rfl rfl dX5_join_14 ?_
    refine J_imul C dX5_join_15 ?_
    refine J_iload_n C 3 rfl rfl dX5_join_16 ?_
    refine J_iadd C dX5_join_17 ?_
    refine J_istore C dX5_join_18 (by decide) rfl ?_
    refine J_aload_n C 2 rfl rfl dX5_join_20 ?_
    refine J_get C 0 15 5 (C0 := RX5) (T := TX5) (N := 23) (by decide +kernel) rfl rfl (by decide) (by decide +kernel) rfl dX5_join_21 ?_
    refine J_iload C 0 rfl dX5_join_24 ?_
    refine J_iald C 10 0 rfl rfl dX5_join_26 ?_
    refine J_callP_S C [.int (σ 10 (((4 : Int32) * v1) + v2).toNatClampNeg)] (fun zr zh => tX5_declares (σ 10 (((4 : Int32) * v1) + v2).toNatClampNeg) σ zr zh) (va_cwS 1 C.1.2.2.2.2 gX5_join_X5_declares rfl rfl rfl (by decide +kernel) ⟨Nat.le_of_ble_eq_true rfl, Nat.le_of_ble_eq_true rfl⟩) rfl rfl (Nat.le_of_ble_eq_true rfl) dX5_join_27 (fun r2 => ?_)
    refine J_if_eq (tgt := 35) C dX5_join_30 (by decide) ?_ ?_
    · refine J_aload_n C 2 rfl rfl dX5_join_35 ?_
      refine J_get C 0 15 5 (C0 := RX5) (T := TX5) (N := 23) (by decide +kernel) rfl rfl (by decide) (by decide +kernel) rfl dX5_join_36 ?_
      refine J_iload C 0 rfl dX5_join_39 ?_
      refine J_iconst (v := (1 : Int32)) C dX5_join_41 (by decide) ?_
      refine J_iast (σ' := up2 σ 10 (((4 : Int32) * v1) + v2).toNatClampNeg (1 : Int32)) C 10 0 rfl rfl (wM_s10 _ _ _ _ _ _) dX5_join_42 ?_
      refine J_aload_n C 2 rfl rfl dX5_join_43 ?_
      refine J_get C 0 16 5 (C0 := RX5) (T := TX5) (N := 23) (by decide +kernel) rfl rfl (by decide) (by decide +kernel) rfl dX5_join_44 ?_
      refine J_iload C 0 rfl dX5_join_47 ?_
      refine J_iconst (v := (2 : Int32)) C dX5_join_49 (by decide) ?_
      refine J_iast (σ' := up2 (up2 σ 10 (((4 : Int32) * v1) + v2).toNatClampNeg (1 : Int32)) 11 (((4 : Int32) * v1) + v2).toNatClampNeg (2 : Int32)) C 11 0 rfl rfl (wM_s11 _ _ _ _ _ _) dX5_join_50 ?_
      refine J_iconst (v := (1 : Int32)) C dX5_join_51 (by decide) ?_
      exact hRet (1 : Int32) (up2 (up2 σ 10 (((4 : Int32) * v1) + v2).toNatClampNeg (1 : Int32)) 11 (((4 : Int32) * v1) + v2).toNatClampNeg (2 : Int32)) _ _ dX5_join_52
    · refine J_iconst (v := (0 : Int32)) C dX5_join_33 (by decide) ?_
      exact hRet (0 : Int32) σ _ _ dX5_join_34
  · refine J_iload_n C 0 rfl rfl dX5_join_11 ?_
    exact hRet r1 σ _ _ dX5_join_12
-- X5_leave
set_option maxHeartbeats 4000000 in
set_option maxRecDepth 100000 in
theorem tX5_leave {l : Launch} {D : va_G} {ad : Nat → Nat} {cyI cyZ : ClassId} (v1 v2 : Int32) (σ : St) (r : Int32) (σ1 : St) (h : fX5_leave v1 v2 σ = some (r, σ1)) : MI l D [(cyI, .int), (cyZ, .boolean)] (wM ad cyI cyZ) yX5_leave wsX5_leave ({ frames := 3, cells := 0, slots := 0, locals := 65 } : Room) [.ref (ad 0), .int v1, .int v2] σ r σ1 := by
  refine entryI (own := RX5) r σ1 (by decide +kernel) rfl rfl (Nat.le_of_ble_eq_true rfl) (fX5_leave v1 v2 σ) h ?_
  intro p e s m below meth c Q A C hRet
  generalize ([.ref (ad 0), .int v1, .int v2] : List Value).toArray = args at *
  show J p l e ({ frames := 3, cells := 0, slots := 0, locals := 65 } : Room) s m args below meth c 5 D A (wM ad cyI cyZ) Q (r, σ1) (fX5_leave v1 v2 σ) σ 0 [(0, .ref (ad 0)), (1, .int v1), (2, .int v2)] []
  unfold fX5_leave
  refine J_aload_n C 0 rfl rfl dX5_leave_0 ?_
  refine J_iload_n C 1 rfl rfl dX5_leave_1 ?_
  refine J_iload_n C 2 rfl rfl dX5_leave_2 ?_
  refine J_callP_V C [.int v1, .int v2] 0 5 rfl rfl (fun zr zh => tX5_refusedHost v1 v2 σ zr zh) (cwV 2 C.1.2.2.2.2 gX5_leave_X5_refusedHost rfl rfl rfl (by decide +kernel) ⟨Nat.le_of_ble_eq_true rfl, Nat.le_of_ble_eq_true rfl⟩) rfl rfl (Nat.le_of_ble_eq_true rfl) dX5_leave_3 (fun r1 => ?_)
  refine J_istore_n C rfl dX5_leave_6 (by decide) rfl ?_
  refine J_iload_n C 0 rfl rfl dX5_leave_7 ?_
  refine J_if_eq (tgt := 13) C dX5_leave_8 (by decide) ?_ ?_
  · refine J_iconst (v := (4 : Int32)) C dX5_leave_13 (by decide) ?_
    refine J_iload_n C 2 rfl rfl dX5_leave_14 ?_
    refine J_imul C dX5_leave_15 ?_
    refine J_iload_n C 3 rfl rfl dX5_leave_16 ?_
    refine J_iadd C dX5_leave_17 ?_
    refine J_istore C dX5_leave_18 (by decide) rfl ?_
    refine J_aload_n C 2 rfl rfl dX5_leave_20 ?_
    refine J_get C 0 15 5 (C0 := RX5) (T := TX5) (N := 23) (by decide +kernel) rfl rfl (by decide) (by decide +kernel) rfl dX5_leave_21 ?_
    refine J_iload C 0 rfl dX5_leave_24 ?_
    refine J_iald C 10 0 rfl rfl dX5_leave_26 ?_
    refine J_callP_S C [.int (σ 10 (((4 : Int32) * v1) + v2).toNatClampNeg)] (fun zr zh => tX5_declares (σ 10 (((4 : Int32) * v1) + v2).toNatClampNeg) σ zr zh) (va_cwS 1 C.1.2.2.2.2 gX5_leave_X5_declares rfl rfl rfl (by decide +kernel) ⟨Nat.le_of_ble_eq_true rfl, Nat.le_of_ble_eq_true rfl⟩) rfl rfl (Nat.le_of_ble_eq_true rfl) dX5_leave_27 (fun r2 => ?_)
    refine J_if_ne (tgt := 35) C dX5_leave_30 (by decide) ?_ ?_
    · refine J_aload_n C 2 rfl rfl dX5_leave_35 ?_
      refine J_get C 0 15 5 (C0 := RX5) (T := TX5) (N := 23) (by decide +kernel) rfl rfl (by decide) (by decide +kernel) rfl dX5_leave_36 ?_
      refine J_iload C 0 rfl dX5_leave_39 ?_
      refine J_iconst (v := (3 : Int32)) C dX5_leave_41 (by decide) ?_
      refine J_iast (σ' := up2 σ 10 (((4 : Int32) * v1) + v2).toNatClampNeg (3 : Int32)) C 10 0 rfl rfl (wM_s10 _ _ _ _ _ _) dX5_leave_42 ?_
      refine J_iconst (v := (1 : Int32)) C dX5_leave_43 (by decide) ?_
      exact hRet (1 : Int32) (up2 σ 10 (((4 : Int32) * v1) + v2).toNatClampNeg (3 : Int32)) _ _ dX5_leave_44
    · refine J_iconst (v := (0 : Int32)) C dX5_leave_33 (by decide) ?_
      exact hRet (0 : Int32) σ _ _ dX5_leave_34
  · refine J_iload_n C 0 rfl rfl dX5_leave_11 ?_
    exact hRet r1 σ _ _ dX5_leave_12
end
