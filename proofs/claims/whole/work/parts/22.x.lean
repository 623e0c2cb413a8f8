-- printed by wip/whole/walk.py
section
variable {p : Program} {l : Launch} {e : Env} {s : State} {m : MethodId} {args : Array Value} {below : List Frame} {meth : Method} {c : Code} {D : va_G} {A : Nat → Prop} {Q : State → Prop} {ad : Nat → Nat} {cyI cyZ : ClassId}
-- X4_sendAll
set_option maxHeartbeats 4000000 in
set_option maxRecDepth 100000 in
theorem jX4_sendAll_b45 {K11 : Int32 → Int32 → St → Option (Int32 × St)} {o0 : Int32 × St} (C : Cxt p s m args c cX4_sendAll 3 wsX4_sendAll RX4 D [(cyI, .int), (cyZ, .boolean)] A) (hRet : ∀ (v : Int32) (σ2 : St) (pc : Nat) (lv : List (Nat × Value)), decode cX4_sendAll pc = .ok (.ireturn, 1) → J p l e ({ frames := 4, cells := 0, slots := 0, locals := 92 } : Room) s m args below meth c 3 D A (wX ad cyI cyZ) Q o0 (some (v, σ2)) σ2 pc lv [.int v]) (σ : St) (v1 v2 : Int32) (hK11 : ∀ (v1 v2 : Int32) (σ : St), J p l e ({ frames := 4, cells := 0, slots := 0, locals := 92 } : Room) s m args below meth c 3 D A (wX ad cyI cyZ) Q o0 (K11 v1 v2 σ) σ 11 [(0, .ref (ad 0)), (1, .int v1), (2, .int v2)] []) : J p l e ({ frames := 4, cells := 0, slots := 0, locals := 92 } : Room) s m args below meth c 3 D A (wX ad cyI cyZ) Q o0 (fX4_sendAll_b45 K11 v1 v2 σ) σ 45 [(0, .ref (ad 0)), (1, .int v1), (2, .int v2)] [] := by
  unfold fX4_sendAll_b45
  refine J_iinc (d := (1 : Int32)) C 2 rfl dX4_sendAll_45 (by decide) (by decide) rfl ?_
  refine J_goto (tgt := 11) C dX4_sendAll_48 (by decide) ?_
  refine J_lv [1, 2, 0] rfl ?_
  exact hK11 v1 (v2 + (1 : Int32)) σ
set_option maxHeartbeats 4000000 in
set_option maxRecDepth 100000 in
theorem jX4_sendAll_L11  {o0 : Int32 × St} (C : Cxt p s m args c cX4_sendAll 3 wsX4_sendAll RX4 D [(cyI, .int), (cyZ, .boolean)] A) (hRet : ∀ (v : Int32) (σ2 : St) (pc : Nat) (lv : List (Nat × Value)), decode cX4_sendAll pc = .ok (.ireturn, 1) → J p l e ({ frames := 4, cells := 0, slots := 0, locals := 92 } : Room) s m args below meth c 3 D A (wX ad cyI cyZ) Q o0 (some (v, σ2)) σ2 pc lv [.int v]) (n : Nat) (v1 v2 : Int32) (σ : St) : J p l e ({ frames := 4, cells := 0, slots := 0, locals := 92 } : Room) s m args below meth c 3 D A (wX ad cyI cyZ) Q o0 (loop2s (fX4_sendAll_b11) n v1 v2 σ) σ 11 [(0, .ref (ad 0)), (1, .int v1), (2, .int v2)] [] := by
  refine J_loop2s (pc := 11) (fun v1 v2 => [(0, .ref (ad 0)), (1, .int v1), (2, .int v2)]) (fX4_sendAll_b11) ?_ n v1 v2 σ
  intro K11 hK11 v1 v2 σ
  unfold fX4_sendAll_b11
  refine J_iload_n C 2 rfl rfl dX4_sendAll_11 ?_
  refine J_bipush (v := (28 : Int32)) C dX4_sendAll_12 (by decide) ?_
  refine J_icmp_ge (tgt := 51) C dX4_sendAll_14 (by decide) ?_ ?_
  · refine J_iload_n C 1 rfl rfl dX4_sendAll_51 ?_
    exact hRet v1 σ _ _ dX4_sendAll_52
  · refine J_aload_n C 0 rfl rfl dX4_sendAll_17 ?_
    refine J_get C 0 0 4 (C0 := RX4) (T := TX4) (N := 11) (by decide +kernel) rfl rfl (by decide) (by decide +kernel) rfl dX4_sendAll_18 ?_
    refine J_iload_n C 2 rfl rfl dX4_sendAll_21 ?_
    refine J_callP_VN C [.int v2] 1 1 rfl rfl (fun zr zh => tX1_isConnected v2 σ zr zh) (⟨va_cnB (host := RX4) 1 C.1.2.2.2.2 gX4_sendAll_X1_isConnected_n68 rfl rfl rfl (C.2.2.2 _ (by decide +kernel)) (C.1.2.2.2.2 (.initialized RX1) (by decide +kernel)) (by decide +kernel) ⟨Nat.le_of_ble_eq_true rfl, Nat.le_of_ble_eq_true rfl⟩, C.1.2.2.2.2 (.instanceMethod yX1_isConnected) (by decide +kernel), C.1.2.2.2.2 (.selects RX1 yX1_isConnected yX1_isConnected) (by decide +kernel)⟩) rfl rfl (Nat.le_of_ble_eq_true rfl) dX4_sendAll_22 (fun r1 => ?_)
    refine J_if_eq (tgt := 45) C dX4_sendAll_25 (by decide) ?_ ?_
    · exact jX4_sendAll_b45 C hRet σ v1 v2 hK11
    · refine J_aload_n C 0 rfl rfl dX4_sendAll_28 ?_
      refine J_get C 0 7 4 (C0 := RX4) (T := TX4) (N := 11) (by decide +kernel) rfl rfl (by decide) (by decide +kernel) rfl dX4_sendAll_29 ?_
      refine J_iload_n C 2 rfl rfl dX4_sendAll_32 ?_
      refine J_zald C 15 1 rfl rfl dX4_sendAll_33 ?_
      refine J_if_ne (tgt := 45) C dX4_sendAll_34 (by decide) ?_ ?_
      · exact jX4_sendAll_b45 C hRet σ v1 v2 hK11
      · refine J_iload_n C 1 rfl rfl dX4_sendAll_37 ?_
        refine J_aload_n C 0 rfl rfl dX4_sendAll_38 ?_
        refine J_iload_n C 2 rfl rfl dX4_sendAll_39 ?_
        refine J_callI_V C [.int v2] 0 4 rfl rfl (fun zr zs zh => tX4_sendFrom v2 σ zr zs zh) (cwV 1 C.1.2.2.2.2 gX4_sendAll_X4_sendFrom rfl rfl rfl (by decide +kernel) ⟨Nat.le_of_ble_eq_true rfl, Nat.le_of_ble_eq_true rfl⟩) rfl rfl (Nat.le_of_ble_eq_true rfl) dX4_sendAll_40 (fun r2 σ2 => ?_)
        refine J_iadd C dX4_sendAll_43 ?_
        refine J_istore_n C rfl dX4_sendAll_44 (by decide) rfl ?_
        refine J_lv [1, 0, 2] rfl ?_
        exact jX4_sendAll_b45 C hRet σ2 (v1 + r2) v2 hK11
set_option maxHeartbeats 4000000 in
set_option maxRecDepth 100000 in
theorem tX4_sendAll {l : Launch} {D : va_G} {ad : Nat → Nat} {cyI cyZ : ClassId} (σ : St) (r : Int32) (σ1 : St) (h : fX4_sendAll σ = some (r, σ1)) : MI l D [(cyI, .int), (cyZ, .boolean)] (wX ad cyI cyZ) yX4_sendAll wsX4_sendAll ({ frames := 4, cells := 0, slots := 0, locals := 92 } : Room) [.ref (ad 0)] σ r σ1 := by
  refine entryI (own := RX4) r σ1 (by decide +kernel) rfl rfl (Nat.le_of_ble_eq_true rfl) (fX4_sendAll σ) h ?_
  intro p e s m below meth c Q A C hRet
  generalize ([.ref (ad 0)] : List Value).toArray = args at *
  show J p l e ({ frames := 4, cells := 0, slots := 0, locals := 92 } : Room) s m args below meth c 3 D A (wX ad cyI cyZ) Q (r, σ1) (fX4_sendAll σ) σ 0 [(0, .ref (ad 0))] []
  unfold fX4_sendAll
  refine J_aload_n C 0 rfl rfl dX4_sendAll_0 ?_
  refine J_get C 0 3 4 (C0 := RX4) (T := TX4) (N := 11) (by decide +kernel) rfl rfl (by decide) (by decide +kernel) rfl dX4_sendAll_1 ?_
  refine J_callV_VN C [] 4 2 rfl rfl (fun zs zh => tX2_clear σ zs zh) (⟨va_cnB (host := RX4) 0 C.1.2.2.2.2 gX4_sendAll_X2_clear_n189 rfl rfl rfl (C.2.2.2 _ (by decide +kernel)) (C.1.2.2.2.2 (.initialized RX2) (by decide +kernel)) (by decide +kernel) ⟨Nat.le_of_ble_eq_true rfl, Nat.le_of_ble_eq_true rfl⟩, C.1.2.2.2.2 (.instanceMethod yX2_clear) (by decide +kernel), C.1.2.2.2.2 (.selects RX2 yX2_clear yX2_clear) (by decide +kernel)⟩) rfl rfl (Nat.le_of_ble_eq_true rfl) dX4_sendAll_4 (fun σ1 => ?_)
  refine J_iconst (v := (0 : Int32)) C dX4_sendAll_7 (by decide) ?_
  refine J_istore_n C rfl dX4_sendAll_8 (by decide) rfl ?_
  refine J_iconst (v := (0 : Int32)) C dX4_sendAll_9 (by decide) ?_
  refine J_istore_n C rfl dX4_sendAll_10 (by decide) rfl ?_
  refine J_lv [2, 1, 0] rfl ?_
  exact jX4_sendAll_L11 C hRet fuel (0 : Int32) (0 : Int32) σ1
-- X4_receiveFrom
set_option maxHeartbeats 4000000 in
set_option maxRecDepth 100000 in
theorem jX4_receiveFrom_L26  {o0 : St} (C : Cxt p s m args c cX4_receiveFrom 5 wsX4_receiveFrom RX4 D [(cyI, .int), (cyZ, .boolean)] A) (hRet : ∀ (σ2 : St) (pc : Nat) (lv : List (Nat × Value)), decode cX4_receiveFrom pc = .ok (.return_, 1) → J p l e ({ frames := 3, cells := 0, slots := 0, locals := 68 } : Room) s m args below meth c 5 D A (wX ad cyI cyZ) Q o0 (some σ2) σ2 pc lv []) (v1 v2 : Int32) (n : Nat) (v3 : Int32) (σ : St) : J p l e ({ frames := 3, cells := 0, slots := 0, locals := 68 } : Room) s m args below meth c 5 D A (wX ad cyI cyZ) Q o0 (loop1s (fX4_receiveFrom_b26 v1 v2) n v3 σ) σ 26 [(0, .ref (ad 0)), (1, .int v1), (2, .int v2), (3, .int v3)] [] := by
  refine J_loop1s (pc := 26) (fun v3 => [(0, .ref (ad 0)), (1, .int v1), (2, .int v2), (3, .int v3)]) (fX4_receiveFrom_b26 v1 v2) ?_ n v3 σ
  intro K26 hK26 v3 σ
  unfold fX4_receiveFrom_b26
  refine J_iload_n C 3 rfl rfl dX4_receiveFrom_26 ?_
  refine J_iconst (v := (4 : Int32)) C dX4_receiveFrom_27 (by decide) ?_
  refine J_icmp_ge (tgt := 70) C dX4_receiveFrom_28 (by decide) ?_ ?_
  · exact hRet σ _ _ dX4_receiveFrom_70
  · refine J_aload_n C 0 rfl rfl dX4_receiveFrom_31 ?_
    refine J_get C 0 3 4 (C0 := RX4) (T := TX4) (N := 11) (by decide +kernel) rfl rfl (by decide) (by decide +kernel) rfl dX4_receiveFrom_32 ?_
    refine J_getN C 4 1 2 (C0 := RX2) (T := TX2) (N := 2) (host := RX4) (by decide +kernel) rfl rfl (by decide) (by decide +kernel) rfl dX4_receiveFrom_35 ?_
    refine J_iload_n C 1 rfl rfl dX4_receiveFrom_38 ?_
    refine J_iload_n C 3 rfl rfl dX4_receiveFrom_39 ?_
    refine J_callP_S C [.int v1, .int v3] (fun zr zh => tX4_cellOf v1 v3 σ zr zh) (va_cwS 2 C.1.2.2.2.2 gX4_receiveFrom_X4_cellOf rfl rfl rfl (by decide +kernel) ⟨Nat.le_of_ble_eq_true rfl, Nat.le_of_ble_eq_true rfl⟩) rfl rfl (Nat.le_of_ble_eq_true rfl) dX4_receiveFrom_40 (fun r1 => ?_)
    refine J_iald C 11 0 rfl rfl dX4_receiveFrom_43 ?_
    refine J_istore C dX4_receiveFrom_44 (by decide) rfl ?_
    refine J_aload_n C 1 rfl rfl dX4_receiveFrom_46 ?_
    refine J_get C 0 1 4 (C0 := RX4) (T := TX4) (N := 11) (by decide +kernel) rfl rfl (by decide) (by decide +kernel) rfl dX4_receiveFrom_47 ?_
    refine J_iload_n C 3 rfl rfl dX4_receiveFrom_50 ?_
    refine J_iload_n C 4 rfl rfl dX4_receiveFrom_51 ?_
    refine J_callP_S C [.int v2, .int v3] (fun zr zh => tX4_cellOf v2 v3 σ zr zh) (va_cwS 2 C.1.2.2.2.2 gX4_receiveFrom_X4_cellOf rfl rfl rfl (by decide +kernel) ⟨Nat.le_of_ble_eq_true rfl, Nat.le_of_ble_eq_true rfl⟩) rfl rfl (Nat.le_of_ble_eq_true rfl) dX4_receiveFrom_52 (fun r2 => ?_)
    refine J_iload C 0 rfl dX4_receiveFrom_55 ?_
    refine J_aload_n C 1 rfl rfl dX4_receiveFrom_57 ?_
    refine J_get C 0 8 4 (C0 := RX4) (T := TX4) (N := 11) (by decide +kernel) rfl rfl (by decide) (by decide +kernel) rfl dX4_receiveFrom_58 ?_
    refine J_callV_VN C [.int r2, .int (σ 11 r1.toNatClampNeg), .int (σ 0 8)] 2 3 rfl rfl (fun zs zh => tX3_hear r2 (σ 11 r1.toNatClampNeg) (σ 0 8) σ zs zh) (⟨va_cnB (host := RX4) 3 C.1.2.2.2.2 gX4_receiveFrom_X3_hear_n219 rfl rfl rfl (C.2.2.2 _ (by decide +kernel)) (C.1.2.2.2.2 (.initialized RX3) (by decide +kernel)) (by decide +kernel) ⟨Nat.le_of_ble_eq_true rfl, Nat.le_of_ble_eq_true rfl⟩, C.1.2.2.2.2 (.instanceMethod yX3_hear) (by decide +kernel), C.1.2.2.2.2 (.selects RX3 yX3_hear yX3_hear) (by decide +kernel)⟩) rfl rfl (Nat.le_of_ble_eq_true rfl) dX4_receiveFrom_61 (fun σ3 => ?_)
    refine J_iinc (d := (1 : Int32)) C 4 rfl dX4_receiveFrom_64 (by decide) (by decide) rfl ?_
    refine J_goto (tgt := 26) C dX4_receiveFrom_67 (by decide) ?_
    refine J_lv [2, 3, 4, 0] rfl ?_
    exact hK26 (v3 + (1 : Int32)) σ3
set_option maxHeartbeats 4000000 in
set_option maxRecDepth 100000 in
theorem jX4_receiveFrom_b17  {o0 : St} (C : Cxt p s m args c cX4_receiveFrom 5 wsX4_receiveFrom RX4 D [(cyI, .int), (cyZ, .boolean)] A) (hRet : ∀ (σ2 : St) (pc : Nat) (lv : List (Nat × Value)), decode cX4_receiveFrom pc = .ok (.return_, 1) → J p l e ({ frames := 3, cells := 0, slots := 0, locals := 68 } : Room) s m args below meth c 5 D A (wX ad cyI cyZ) Q o0 (some σ2) σ2 pc lv []) (σ : St) (v1 v2 : Int32) : J p l e ({ frames := 3, cells := 0, slots := 0, locals := 68 } : Room) s m args below meth c 5 D A (wX ad cyI cyZ) Q o0 (fX4_receiveFrom_b17 v1 v2 σ) σ 17 [(0, .ref (ad 0)), (1, .int v1), (2, .int v2)] [] := by
  unfold fX4_receiveFrom_b17
  refine J_iload_n C 2 rfl rfl dX4_receiveFrom_17 ?_
  refine J_callP_S C [.int v2] (fun zr zh => tX4_isPort v2 σ zr zh) (va_cwS 1 C.1.2.2.2.2 gX4_receiveFrom_X4_isPort rfl rfl rfl (by decide +kernel) ⟨Nat.le_of_ble_eq_true rfl, Nat.le_of_ble_eq_true rfl⟩) rfl rfl (Nat.le_of_ble_eq_true rfl) dX4_receiveFrom_18 (fun r1 => ?_)
  refine J_if_eq (tgt := 70) C dX4_receiveFrom_21 (by decide) ?_ ?_
  · exact hRet σ _ _ dX4_receiveFrom_70
  · refine J_iconst (v := (0 : Int32)) C dX4_receiveFrom_24 (by decide) ?_
    refine J_istore_n C rfl dX4_receiveFrom_25 (by decide) rfl ?_
    refine J_lv [1, 2, 3, 0] rfl ?_
    exact jX4_receiveFrom_L26 C hRet v1 v2 fuel (0 : Int32) σ
set_option maxHeartbeats 4000000 in
set_option maxRecDepth 100000 in
theorem tX4_receiveFrom {l : Launch} {D : va_G} {ad : Nat → Nat} {cyI cyZ : ClassId} (v1 v2 : Int32) (σ : St) (σ1 : St) (h : fX4_receiveFrom v1 v2 σ = some σ1) : MV l D [(cyI, .int), (cyZ, .boolean)] (wX ad cyI cyZ) yX4_receiveFrom wsX4_receiveFrom ({ frames := 3, cells := 0, slots := 0, locals := 68 } : Room) [.ref (ad 0), .int v1, .int v2] σ σ1 := by
  refine entryV (own := RX4) σ1 (by decide +kernel) rfl rfl (Nat.le_of_ble_eq_true rfl) (fX4_receiveFrom v1 v2 σ) h ?_
  intro p e s m below meth c Q A C hRet
  generalize ([.ref (ad 0), .int v1, .int v2] : List Value).toArray = args at *
  show J p l e ({ frames := 3, cells := 0, slots := 0, locals := 68 } : Room) s m args below meth c 5 D A (wX ad cyI cyZ) Q σ1 (fX4_receiveFrom v1 v2 σ) σ 0 [(0, .ref (ad 0)), (1, .int v1), (2, .int v2)] []
  unfold fX4_receiveFrom
  refine J_aload_n C 0 rfl rfl dX4_receiveFrom_0 ?_
  refine J_get C 0 3 4 (C0 := RX4) (T := TX4) (N := 11) (by decide +kernel) rfl rfl (by decide) (by decide +kernel) rfl dX4_receiveFrom_1 ?_
  refine J_getN C 4 0 2 (C0 := RX2) (T := TX2) (N := 2) (host := RX4) (by decide +kernel) rfl rfl (by decide) (by decide +kernel) rfl dX4_receiveFrom_4 ?_
  refine J_iload_n C 1 rfl rfl dX4_receiveFrom_7 ?_
  refine J_zald C 10 1 rfl rfl dX4_receiveFrom_8 ?_
  refine J_if_eq (tgt := 17) C dX4_receiveFrom_9 (by decide) ?_ ?_
  · exact jX4_receiveFrom_b17 C hRet σ v1 v2
  · refine J_aload_n C 0 rfl rfl dX4_receiveFrom_12 ?_
    refine J_iload_n C 2 rfl rfl dX4_receiveFrom_13 ?_
    refine J_callV_V C [.int v2] 0 4 rfl rfl (fun zs zh => tX4_obeyLeaveAll v2 σ zs zh) (cwV 1 C.1.2.2.2.2 gX4_receiveFrom_X4_obeyLeaveAll rfl rfl rfl (by decide +kernel) ⟨Nat.le_of_ble_eq_true rfl, Nat.le_of_ble_eq_true rfl⟩) rfl rfl (Nat.le_of_ble_eq_true rfl) dX4_receiveFrom_14 (fun σ1 => ?_)
    exact jX4_receiveFrom_b17 C hRet σ1 v1 v2
-- X4_receiveAll
set_option maxHeartbeats 4000000 in
set_option maxRecDepth 100000 in
theorem jX4_receiveAll_b40 {K2 : Int32 → St → Option (St)} {o0 : St} (C : Cxt p s m args c cX4_receiveAll 3 wsX4_receiveAll RX4 D [(cyI, .int), (cyZ, .boolean)] A) (hRet : ∀ (σ2 : St) (pc : Nat) (lv : List (Nat × Value)), decode cX4_receiveAll pc = .ok (.return_, 1) → J p l e ({ frames := 4, cells := 0, slots := 0, locals := 92 } : Room) s m args below meth c 3 D A (wX ad cyI cyZ) Q o0 (some σ2) σ2 pc lv []) (σ : St) (v1 v2 : Int32) (hK2 : ∀ (v1 : Int32) (σ : St), J p l e ({ frames := 4, cells := 0, slots := 0, locals := 92 } : Room) s m args below meth c 3 D A (wX ad cyI cyZ) Q o0 (K2 v1 σ) σ 2 [(0, .ref (ad 0)), (1, .int v1)] []) : J p l e ({ frames := 4, cells := 0, slots := 0, locals := 92 } : Room) s m args below meth c 3 D A (wX ad cyI cyZ) Q o0 (fX4_receiveAll_b40 K2 v1 v2 σ) σ 40 [(0, .ref (ad 0)), (1, .int v1), (2, .int v2)] [] := by
  unfold fX4_receiveAll_b40
  refine J_aload_n C 0 rfl rfl dX4_receiveAll_40 ?_
  refine J_get C 0 6 4 (C0 := RX4) (T := TX4) (N := 11) (by decide +kernel) rfl rfl (by decide) (by decide +kernel) rfl dX4_receiveAll_41 ?_
  refine J_iload_n C 1 rfl rfl dX4_receiveAll_44 ?_
  refine J_iconst (v := (0 : Int32)) C dX4_receiveAll_45 (by decide) ?_
  refine J_zast (σ' := up2 σ 14 v1.toNatClampNeg (vp_nar .boolean (0 : Int32))) C 14 1 rfl rfl (wX_s14 _ _ _ _ _ _) dX4_receiveAll_46 ?_
  refine J_iinc (d := (1 : Int32)) C 1 rfl dX4_receiveAll_47 (by decide) (by decide) rfl ?_
  refine J_goto (tgt := 2) C dX4_receiveAll_50 (by decide) ?_
  refine J_lv [1, 0] rfl ?_
  exact hK2 (v1 + (1 : Int32)) (up2 σ 14 v1.toNatClampNeg (vp_nar .boolean (0 : Int32)))
set_option maxHeartbeats 4000000 in
set_option maxRecDepth 100000 in
theorem jX4_receiveAll_L2  {o0 : St} (C : Cxt p s m args c cX4_receiveAll 3 wsX4_receiveAll RX4 D [(cyI, .int), (cyZ, .boolean)] A) (hRet : ∀ (σ2 : St) (pc : Nat) (lv : List (Nat × Value)), decode cX4_receiveAll pc = .ok (.return_, 1) → J p l e ({ frames := 4, cells := 0, slots := 0, locals := 92 } : Room) s m args below meth c 3 D A (wX ad cyI cyZ) Q o0 (some σ2) σ2 pc lv []) (n : Nat) (v1 : Int32) (σ : St) : J p l e ({ frames := 4, cells := 0, slots := 0, locals := 92 } : Room) s m args below meth c 3 D A (wX ad cyI cyZ) Q o0 (loop1s (fX4_receiveAll_b2) n v1 σ) σ 2 [(0, .ref (ad 0)), (1, .int v1)] [] := by
  refine J_loop1s (pc := 2) (fun v1 => [(0, .ref (ad 0)), (1, .int v1)]) (fX4_receiveAll_b2) ?_ n v1 σ
  intro K2 hK2 v1 σ
  unfold fX4_receiveAll_b2
  refine J_iload_n C 1 rfl rfl dX4_receiveAll_2 ?_
  refine J_bipush (v := (28 : Int32)) C dX4_receiveAll_3 (by decide) ?_
  refine J_icmp_ge (tgt := 53) C dX4_receiveAll_5 (by decide) ?_ ?_
  · exact hRet σ _ _ dX4_receiveAll_53
  · refine J_aload_n C 0 rfl rfl dX4_receiveAll_8 ?_
    refine J_get C 0 0 4 (C0 := RX4) (T := TX4) (N := 11) (by decide +kernel) rfl rfl (by decide) (by decide +kernel) rfl dX4_receiveAll_9 ?_
    refine J_getN C 1 0 1 (C0 := RX1) (T := TX1) (N := 4) (host := RX4) (by decide +kernel) rfl rfl (by decide) (by decide +kernel) rfl dX4_receiveAll_12 ?_
    refine J_iload_n C 1 rfl rfl dX4_receiveAll_15 ?_
    refine J_iald C 5 0 rfl rfl dX4_receiveAll_16 ?_
    refine J_istore_n C rfl dX4_receiveAll_17 (by decide) rfl ?_
    refine J_iload_n C 0 rfl rfl dX4_receiveAll_18 ?_
    refine J_callP_S C [.int (σ 5 v1.toNatClampNeg)] (fun zr zh => tX4_isStation (σ 5 v1.toNatClampNeg) σ zr zh) (va_cwS 1 C.1.2.2.2.2 gX4_receiveAll_X4_isStation rfl rfl rfl (by decide +kernel) ⟨Nat.le_of_ble_eq_true rfl, Nat.le_of_ble_eq_true rfl⟩) rfl rfl (Nat.le_of_ble_eq_true rfl) dX4_receiveAll_19 (fun r1 => ?_)
    refine J_if_eq (tgt := 40) C dX4_receiveAll_22 (by decide) ?_ ?_
    · refine J_lv [1, 2, 0] rfl ?_
      exact jX4_receiveAll_b40 C hRet σ v1 (σ 5 v1.toNatClampNeg) hK2
    · refine J_aload_n C 1 rfl rfl dX4_receiveAll_25 ?_
      refine J_get C 0 6 4 (C0 := RX4) (T := TX4) (N := 11) (by decide +kernel) rfl rfl (by decide) (by decide +kernel) rfl dX4_receiveAll_26 ?_
      refine J_iload_n C 2 rfl rfl dX4_receiveAll_29 ?_
      refine J_zald C 14 1 rfl rfl dX4_receiveAll_30 ?_
      refine J_if_ne (tgt := 40) C dX4_receiveAll_31 (by decide) ?_ ?_
      · refine J_lv [1, 2, 0] rfl ?_
        exact jX4_receiveAll_b40 C hRet σ v1 (σ 5 v1.toNatClampNeg) hK2
      · refine J_aload_n C 1 rfl rfl dX4_receiveAll_34 ?_
        refine J_iload_n C 2 rfl rfl dX4_receiveAll_35 ?_
        refine J_iload_n C 0 rfl rfl dX4_receiveAll_36 ?_
        refine J_callV_V C [.int v1, .int (σ 5 v1.toNatClampNeg)] 0 4 rfl rfl (fun zs zh => tX4_receiveFrom v1 (σ 5 v1.toNatClampNeg) σ zs zh) (cwV 2 C.1.2.2.2.2 gX4_receiveAll_X4_receiveFrom rfl rfl rfl (by decide +kernel) ⟨Nat.le_of_ble_eq_true rfl, Nat.le_of_ble_eq_true rfl⟩) rfl rfl (Nat.le_of_ble_eq_true rfl) dX4_receiveAll_37 (fun σ2 => ?_)
        refine J_lv [1, 2, 0] rfl ?_
        exact jX4_receiveAll_b40 C hRet σ2 v1 (σ 5 v1.toNatClampNeg) hK2
set_option maxHeartbeats 4000000 in
set_option maxRecDepth 100000 in
theorem tX4_receiveAll {l : Launch} {D : va_G} {ad : Nat → Nat} {cyI cyZ : ClassId} (σ : St) (σ1 : St) (h : fX4_receiveAll σ = some σ1) : MV l D [(cyI, .int), (cyZ, .boolean)] (wX ad cyI cyZ) yX4_receiveAll wsX4_receiveAll ({ frames := 4, cells := 0, slots := 0, locals := 92 } : Room) [.ref (ad 0)] σ σ1 := by
  refine entryV (own := RX4) σ1 (by decide +kernel) rfl rfl (Nat.le_of_ble_eq_true rfl) (fX4_receiveAll σ) h ?_
  intro p e s m below meth c Q A C hRet
  generalize ([.ref (ad 0)] : List Value).toArray = args at *
  show J p l e ({ frames := 4, cells := 0, slots := 0, locals := 92 } : Room) s m args below meth c 3 D A (wX ad cyI cyZ) Q σ1 (fX4_receiveAll σ) σ 0 [(0, .ref (ad 0))] []
  unfold fX4_receiveAll
  refine J_iconst (v := (0 : Int32)) C dX4_receiveAll_0 (by decide) ?_
  refine J_istore_n C rfl dX4_receiveAll_1 (by decide) rfl ?_
  refine J_lv [1, 0] rfl ?_
  exact jX4_receiveAll_L2 C hRet fuel (0 : Int32) σ
-- X4_tick
set_option maxHeartbeats 4000000 in
set_option maxRecDepth 100000 in
theorem jX4_tick_L18  {o0 : Int32 × St} (C : Cxt p s m args c cX4_tick 4 wsX4_tick RX4 D [(cyI, .int), (cyZ, .boolean)] A) (hRet : ∀ (v : Int32) (σ2 : St) (pc : Nat) (lv : List (Nat × Value)), decode cX4_tick pc = .ok (.ireturn, 1) → J p l e ({ frames := 6, cells := 0, slots := 0, locals := 130 } : Room) s m args below meth c 4 D A (wX ad cyI cyZ) Q o0 (some (v, σ2)) σ2 pc lv [.int v]) (v1 : Int32) (n : Nat) (v2 v3 : Int32) (σ : St) : J p l e ({ frames := 6, cells := 0, slots := 0, locals := 130 } : Room) s m args below meth c 4 D A (wX ad cyI cyZ) Q o0 (loop2s (fX4_tick_b18 v1) n v2 v3 σ) σ 18 [(0, .ref (ad 0)), (1, .int v1), (2, .int v2), (3, .int v3)] [] := by
  refine J_loop2s (pc := 18) (fun v2 v3 => [(0, .ref (ad 0)), (1, .int v1), (2, .int v2), (3, .int v3)]) (fX4_tick_b18 v1) ?_ n v2 v3 σ
  intro K18 hK18 v2 v3 σ
  unfold fX4_tick_b18
  refine J_iload_n C 3 rfl rfl dX4_tick_18 ?_
  refine J_iload_n C 1 rfl rfl dX4_tick_19 ?_
  refine J_icmp_ge (tgt := 58) C dX4_tick_20 (by decide) ?_ ?_
  · refine J_iload_n C 2 rfl rfl dX4_tick_58 ?_
    exact hRet v2 σ _ _ dX4_tick_59
  · refine J_aload_n C 0 rfl rfl dX4_tick_23 ?_
    refine J_callV_V C [] 0 4 rfl rfl (fun zs zh => tX4_runTimers σ zs zh) (cwV 0 C.1.2.2.2.2 gX4_tick_X4_runTimers rfl rfl rfl (by decide +kernel) ⟨Nat.le_of_ble_eq_true rfl, Nat.le_of_ble_eq_true rfl⟩) rfl rfl (Nat.le_of_ble_eq_true rfl) dX4_tick_24 (fun σ1 => ?_)
    refine J_aload_n C 0 rfl rfl dX4_tick_27 ?_
    refine J_callV_V C [] 0 4 rfl rfl (fun zs zh => tX4_propagate σ1 zs zh) (cwV 0 C.1.2.2.2.2 gX4_tick_X4_propagate rfl rfl rfl (by decide +kernel) ⟨Nat.le_of_ble_eq_true rfl, Nat.le_of_ble_eq_true rfl⟩) rfl rfl (Nat.le_of_ble_eq_true rfl) dX4_tick_28 (fun σ2 => ?_)
    refine J_iload_n C 2 rfl rfl dX4_tick_31 ?_
    refine J_aload_n C 0 rfl rfl dX4_tick_32 ?_
    refine J_callI_V C [] 0 4 rfl rfl (fun zr zs zh => tX4_sendAll σ2 zr zs zh) (cwV 0 C.1.2.2.2.2 gX4_tick_X4_sendAll rfl rfl rfl (by decide +kernel) ⟨Nat.le_of_ble_eq_true rfl, Nat.le_of_ble_eq_true rfl⟩) rfl rfl (Nat.le_of_ble_eq_true rfl) dX4_tick_33 (fun r3 σ3 => ?_)
    refine J_iadd C dX4_tick_36 ?_
    refine J_istore_n C rfl dX4_tick_37 (by decide) rfl ?_
    refine J_aload_n C 1 rfl rfl dX4_tick_38 ?_
    refine J_callV_V C [] 0 4 rfl rfl (fun zs zh => tX4_receiveAll σ3 zs zh) (cwV 0 C.1.2.2.2.2 gX4_tick_X4_receiveAll rfl rfl rfl (by decide +kernel) ⟨Nat.le_of_ble_eq_true rfl, Nat.le_of_ble_eq_true rfl⟩) rfl rfl (Nat.le_of_ble_eq_true rfl) dX4_tick_39 (fun σ4 => ?_)
    refine J_aload_n C 1 rfl rfl dX4_tick_42 ?_
    refine J_dup C rfl dX4_tick_43 ?_
    refine J_get C 0 10 4 (C0 := RX4) (T := TX4) (N := 11) (by decide +kernel) rfl rfl (by decide) (by decide +kernel) rfl dX4_tick_44 ?_
    refine J_iconst (v := (1 : Int32)) C dX4_tick_47 (by decide) ?_
    refine J_iadd C dX4_tick_48 ?_
    refine J_put (σ' := up2 σ4 0 10 ((σ4 0 10) + (1 : Int32))) C 0 10 4 (C0 := RX4) (T := TX4) (N := 11) tyX4 tyX4_ok nmX4 (by decide +kernel) rfl rfl (by decide) (by decide +kernel) rfl (by decide +kernel) (Nat.le_of_ble_eq_true rfl) (wX_p0_10 _ _ _ _ _) dX4_tick_49 ?_
    refine J_iinc (d := (1 : Int32)) C 3 rfl dX4_tick_52 (by decide) (by decide) rfl ?_
    refine J_goto (tgt := 18) C dX4_tick_55 (by decide) ?_
    refine J_lv [2, 3, 1, 0] rfl ?_
    exact hK18 (v2 + r3) (v3 + (1 : Int32)) (up2 σ4 0 10 ((σ4 0 10) + (1 : Int32)))
set_option maxHeartbeats 4000000 in
set_option maxRecDepth 100000 in
theorem tX4_tick {l : Launch} {D : va_G} {ad : Nat → Nat} {cyI cyZ : ClassId} (v1 : Int32) (σ : St) (r : Int32) (σ1 : St) (h : fX4_tick v1 σ = some (r, σ1)) : MI l D [(cyI, .int), (cyZ, .boolean)] (wX ad cyI cyZ) yX4_tick wsX4_tick ({ frames := 6, cells := 0, slots := 0, locals := 130 } : Room) [.ref (ad 0), .int v1] σ r σ1 := by
  refine entryI (own := RX4) r σ1 (by decide +kernel) rfl rfl (Nat.le_of_ble_eq_true rfl) (fX4_tick v1 σ) h ?_
  intro p e s m below meth c Q A C hRet
  generalize ([.ref (ad 0), .int v1] : List Value).toArray = args at *
  show J p l e ({ frames := 6, cells := 0, slots := 0, locals := 130 } : Room) s m args below meth c 4 D A (wX ad cyI cyZ) Q (r, σ1) (fX4_tick v1 σ) σ 0 [(0, .ref (ad 0)), (1, .int v1)] []
  unfold fX4_tick
  refine J_iload_n C 1 rfl rfl dX4_tick_0 ?_
  refine J_iconst (v := (1 : Int32)) C dX4_tick_1 (by decide) ?_
  refine J_icmp_lt (tgt := 11) C dX4_tick_2 (by decide) ?_ ?_
  · refine J_bipush (v := (-4 : Int32)) C dX4_tick_11 (by decide) ?_
    exact hRet (-4 : Int32) σ _ _ dX4_tick_13
  · refine J_iload_n C 1 rfl rfl dX4_tick_5 ?_
    refine J_bipush (v := (100 : Int32)) C dX4_tick_6 (by decide) ?_
    refine J_icmp_le (tgt := 14) C dX4_tick_8 (by decide) ?_ ?_
    · refine J_iconst (v := (0 : Int32)) C dX4_tick_14 (by decide) ?_
      refine J_istore_n C rfl dX4_tick_15 (by decide) rfl ?_
      refine J_iconst (v := (0 : Int32)) C dX4_tick_16 (by decide) ?_
      refine J_istore_n C rfl dX4_tick_17 (by decide) rfl ?_
      refine J_lv [2, 3, 1, 0] rfl ?_
      exact jX4_tick_L18 C hRet v1 fuel (0 : Int32) (0 : Int32) σ
    · refine J_bipush (v := (-4 : Int32)) C dX4_tick_11 (by decide) ?_
      exact hRet (-4 : Int32) σ _ _ dX4_tick_13
-- X4_time
set_option maxHeartbeats 4000000 in
set_option maxRecDepth 100000 in
theorem tX4_time {l : Launch} {D : va_G} {ad : Nat → Nat} {cyI cyZ : ClassId} (σ : St) (r : Int32) (h : fX4_time σ = some r) : MI l D [(cyI, .int), (cyZ, .boolean)] (wX ad cyI cyZ) yX4_time wsX4_time ({ frames := 0, cells := 0, slots := 0, locals := 0 } : Room) [.ref (ad 0)] σ r σ := by
  refine entryPI (own := RX4) r (by decide +kernel) rfl rfl (Nat.le_of_ble_eq_true rfl) (fX4_time σ) h ?_
  intro p e s m below meth c Q A C hRet
  generalize ([.ref (ad 0)] : List Value).toArray = args at *
  show J p l e ({ frames := 0, cells := 0, slots := 0, locals := 0 } : Room) s m args below meth c 1 D A (wX ad cyI cyZ) Q r (fX4_time σ) σ 0 [(0, .ref (ad 0))] []
  unfold fX4_time
  refine J_aload_n C 0 rfl rfl dX4_time_0 ?_
  refine J_get C 0 10 4 (C0 := RX4) (T := TX4) (N := 11) (by decide +kernel) rfl rfl (by decide) (by decide +kernel) rfl dX4_time_1 ?_
  exact hRet (σ 0 10) _ _ dX4_time_4
-- X4_cellOfPort
set_option maxHeartbeats 4000000 in
set_option maxRecDepth 100000 in
theorem tX4_cellOfPort {l : Launch} {D : va_G} {ad : Nat → Nat} {cyI cyZ : ClassId} (v1 v2 v3 : Int32) (σ : St) (r : Int32) (h : fX4_cellOfPort v1 v2 v3 σ = some r) : MI l D [(cyI, .int), (cyZ, .boolean)] (wX ad cyI cyZ) yX4_cellOfPort wsX4_cellOfPort ({ frames := 1, cells := 0, slots := 0, locals := 22 } : Room) [.ref (ad 0), .int v1, .int v2, .int v3] σ r σ := by
  refine entryPI (own := RX4) r (by decide +kernel) rfl rfl (Nat.le_of_ble_eq_true rfl) (fX4_cellOfPort v1 v2 v3 σ) h ?_
  intro p e s m below meth c Q A C hRet
  generalize ([.ref (ad 0), .int v1, .int v2, .int v3] : List Value).toArray = args at *
  show J p l e ({ frames := 1, cells := 0, slots := 0, locals := 22 } : Room) s m args below meth c 5 D A (wX ad cyI cyZ) Q r (fX4_cellOfPort v1 v2 v3 σ) σ 0 [(0, .ref (ad 0)), (1, .int v1), (2, .int v2), (3, .int v3)] []
  unfold fX4_cellOfPort
  refine J_aload_n C 0 rfl rfl dX4_cellOfPort_0 ?_
  refine J_get C 0 0 4 (C0 := RX4) (T := TX4) (N := 11) (by decide +kernel) rfl rfl (by decide) (by decide +kernel) rfl dX4_cellOfPort_1 ?_
  refine J_iload_n C 1 rfl rfl dX4_cellOfPort_4 ?_
  refine J_iload_n C 2 rfl rfl dX4_cellOfPort_5 ?_
  refine J_callP_VN C [.int v1, .int v2] 1 1 rfl rfl (fun zr zh => tX1_stationOfPort v1 v2 σ zr zh) (⟨va_cnB (host := RX4) 2 C.1.2.2.2.2 gX4_cellOfPort_X1_stationOfPort_n64 rfl rfl rfl (C.2.2.2 _ (by decide +kernel)) (C.1.2.2.2.2 (.initialized RX1) (by decide +kernel)) (by decide +kernel) ⟨Nat.le_of_ble_eq_true rfl, Nat.le_of_ble_eq_true rfl⟩, C.1.2.2.2.2 (.instanceMethod yX1_stationOfPort) (by decide +kernel), C.1.2.2.2.2 (.selects RX1 yX1_stationOfPort yX1_stationOfPort) (by decide +kernel)⟩) rfl rfl (Nat.le_of_ble_eq_true rfl) dX4_cellOfPort_6 (fun r1 => ?_)
  refine J_istore C dX4_cellOfPort_9 (by decide) rfl ?_
  refine J_iload C 0 rfl dX4_cellOfPort_11 ?_
  refine J_if_ge (tgt := 19) C dX4_cellOfPort_13 (by decide) ?_ ?_
  · refine J_iload_n C 4 rfl rfl dX4_cellOfPort_19 ?_
    refine J_callP_S C [.int v3] (fun zr zh => tX4_isGroup v3 σ zr zh) (va_cwS 1 C.1.2.2.2.2 gX4_cellOfPort_X4_isGroup rfl rfl rfl (by decide +kernel) ⟨Nat.le_of_ble_eq_true rfl, Nat.le_of_ble_eq_true rfl⟩) rfl rfl (Nat.le_of_ble_eq_true rfl) dX4_cellOfPort_20 (fun r2 => ?_)
    refine J_if_eq (tgt := 35) C dX4_cellOfPort_23 (by decide) ?_ ?_
    · refine J_bipush (v := (-3 : Int32)) C dX4_cellOfPort_35 (by decide) ?_
      exact hRet (-3 : Int32) _ _ dX4_cellOfPort_37
    · refine J_iload C 0 rfl dX4_cellOfPort_26 ?_
      refine J_iload_n C 4 rfl rfl dX4_cellOfPort_28 ?_
      refine J_callP_S C [.int r1, .int v3] (fun zr zh => tX4_cellOf r1 v3 σ zr zh) (va_cwS 2 C.1.2.2.2.2 gX4_cellOfPort_X4_cellOf rfl rfl rfl (by decide +kernel) ⟨Nat.le_of_ble_eq_true rfl, Nat.le_of_ble_eq_true rfl⟩) rfl rfl (Nat.le_of_ble_eq_true rfl) dX4_cellOfPort_29 (fun r3 => ?_)
      refine J_goto (tgt := 37) C dX4_cellOfPort_32 (by decide) ?_
      exact hRet r3 _ _ dX4_cellOfPort_37
  · refine J_iload C 0 rfl dX4_cellOfPort_16 ?_
    exact hRet r1 _ _ dX4_cellOfPort_18
-- X4_registrar
set_option maxHeartbeats 4000000 in
set_option maxRecDepth 100000 in
theorem tX4_registrar {l : Launch} {D : va_G} {ad : Nat → Nat} {cyI cyZ : ClassId} (v1 v2 v3 : Int32) (σ : St) (r : Int32) (h : fX4_registrar v1 v2 v3 σ = some r) : MI l D [(cyI, .int), (cyZ, .boolean)] (wX ad cyI cyZ) yX4_registrar wsX4_registrar ({ frames := 2, cells := 0, slots := 0, locals := 46 } : Room) [.ref (ad 0), .int v1, .int v2, .int v3] σ r σ := by
  refine entryPI (own := RX4) r (by decide +kernel) rfl rfl (Nat.le_of_ble_eq_true rfl) (fX4_registrar v1 v2 v3 σ) h ?_
  intro p e s m below meth c Q A C hRet
  generalize ([.ref (ad 0), .int v1, .int v2, .int v3] : List Value).toArray = args at *
  show J p l e ({ frames := 2, cells := 0, slots := 0, locals := 46 } : Room) s m args below meth c 5 D A (wX ad cyI cyZ) Q r (fX4_registrar v1 v2 v3 σ) σ 0 [(0, .ref (ad 0)), (1, .int v1), (2, .int v2), (3, .int v3)] []
  unfold fX4_registrar
  refine J_aload_n C 0 rfl rfl dX4_registrar_0 ?_
  refine J_iload_n C 1 rfl rfl dX4_registrar_1 ?_
  refine J_iload_n C 2 rfl rfl dX4_registrar_2 ?_
  refine J_iload_n C 3 rfl rfl dX4_registrar_3 ?_
  refine J_callP_V C [.int v1, .int v2, .int v3] 0 4 rfl rfl (fun zr zh => tX4_cellOfPort v1 v2 v3 σ zr zh) (cwV 3 C.1.2.2.2.2 gX4_registrar_X4_cellOfPort rfl rfl rfl (by decide +kernel) ⟨Nat.le_of_ble_eq_true rfl, Nat.le_of_ble_eq_true rfl⟩) rfl rfl (Nat.le_of_ble_eq_true rfl) dX4_registrar_4 (fun r1 => ?_)
  refine J_istore C dX4_registrar_7 (by decide) rfl ?_
  refine J_iload C 0 rfl dX4_registrar_9 ?_
  refine J_if_ge (tgt := 19) C dX4_registrar_11 (by decide) ?_ ?_
  · refine J_aload_n C 1 rfl rfl dX4_registrar_19 ?_
    refine J_get C 0 1 4 (C0 := RX4) (T := TX4) (N := 11) (by decide +kernel) rfl rfl (by decide) (by decide +kernel) rfl dX4_registrar_20 ?_
    refine J_getN C 2 0 3 (C0 := RX3) (T := TX3) (N := 2) (host := RX4) (by decide +kernel) rfl rfl (by decide) (by decide +kernel) rfl dX4_registrar_23 ?_
    refine J_iload C 0 rfl dX4_registrar_26 ?_
    refine J_iald C 6 0 rfl rfl dX4_registrar_28 ?_
    exact hRet (σ 6 r1.toNatClampNeg) _ _ dX4_registrar_29
  · refine J_iload C 0 rfl dX4_registrar_14 ?_
    refine J_goto (tgt := 29) C dX4_registrar_16 (by decide) ?_
    exact hRet r1 _ _ dX4_registrar_29
-- X4_registrarTimer
set_option maxHeartbeats 4000000 in
set_option maxRecDepth 100000 in
theorem tX4_registrarTimer {l : Launch} {D : va_G} {ad : Nat → Nat} {cyI cyZ : ClassId} (v1 v2 v3 : Int32) (σ : St) (r : Int32) (h : fX4_registrarTimer v1 v2 v3 σ = some r) : MI l D [(cyI, .int), (cyZ, .boolean)] (wX ad cyI cyZ) yX4_registrarTimer wsX4_registrarTimer ({ frames := 2, cells := 0, slots := 0, locals := 46 } : Room) [.ref (ad 0), .int v1, .int v2, .int v3] σ r σ := by
  refine entryPI (own := RX4) r (by decide +kernel) rfl rfl (Nat.le_of_ble_eq_true rfl) (fX4_registrarTimer v1 v2 v3 σ) h ?_
  intro p e s m below meth c Q A C hRet
  generalize ([.ref (ad 0), .int v1, .int v2, .int v3] : List Value).toArray = args at *
  show J p l e ({ frames := 2, cells := 0, slots := 0, locals := 46 } : Room) s m args below meth c 5 D A (wX ad cyI cyZ) Q r (fX4_registrarTimer v1 v2 v3 σ) σ 0 [(0, .ref (ad 0)), (1, .int v1), (2, .int v2), (3, .int v3)] []
  unfold fX4_registrarTimer
  refine J_aload_n C 0 rfl rfl dX4_registrarTimer_0 ?_
  refine J_iload_n C 1 rfl rfl dX4_registrarTimer_1 ?_
  refine J_iload_n C 2 rfl rfl dX4_registrarTimer_2 ?_
  refine J_iload_n C 3 rfl rfl dX4_registrarTimer_3 ?_
  refine J_callP_V C [.int v1, .int v2, .int v3] 0 4 rfl rfl (fun zr zh => tX4_cellOfPort v1 v2 v3 σ zr zh) (cwV 3 C.1.2.2.2.2 gX4_registrarTimer_X4_cellOfPort rfl rfl rfl (by decide +kernel) ⟨Nat.le_of_ble_eq_true rfl, Nat.le_of_ble_eq_true rfl⟩) rfl rfl (Nat.le_of_ble_eq_true rfl) dX4_registrarTimer_4 (fun r1 => ?_)
  refine J_istore C dX4_registrarTimer_7 (by decide) rfl ?_
  refine J_iload C 0 rfl dX4_registrarTimer_9 ?_
  refine J_if_ge (tgt := 19) C dX4_registrarTimer_11 (by decide) ?_ ?_
  · refine J_aload_n C 1 rfl rfl dX4_registrarTimer_19 ?_
    refine J_get C 0 1 4 (C0 := RX4) (T := TX4) (N := 11) (by decide +kernel) rfl rfl (by decide) (by decide +kernel) rfl dX4_registrarTimer_20 ?_
    refine J_getN C 2 1 3 (C0 := RX3) (T := TX3) (N := 2) (host := RX4) (by decide +kernel) rfl rfl (by decide) (by decide +kernel) rfl dX4_registrarTimer_23 ?_
    refine J_iload C 0 rfl dX4_registrarTimer_26 ?_
    refine J_iald C 7 0 rfl rfl dX4_registrarTimer_28 ?_
    exact hRet (σ 7 r1.toNatClampNeg) _ _ dX4_registrarTimer_29
  · refine J_iload C 0 rfl dX4_registrarTimer_14 ?_
    refine J_goto (tgt := 29) C dX4_registrarTimer_16 (by decide) ?_
    exact hRet r1 _ _ dX4_registrarTimer_29
-- X4_applicant
set_option maxHeartbeats 4000000 in
set_option maxRecDepth 100000 in
theorem tX4_applicant {l : Launch} {D : va_G} {ad : Nat → Nat} {cyI cyZ : ClassId} (v1 v2 v3 : Int32) (σ : St) (r : Int32) (h : fX4_applicant v1 v2 v3 σ = some r) : MI l D [(cyI, .int), (cyZ, .boolean)] (wX ad cyI cyZ) yX4_applicant wsX4_applicant ({ frames := 2, cells := 0, slots := 0, locals := 46 } : Room) [.ref (ad 0), .int v1, .int v2, .int v3] σ r σ := by
  refine entryPI (own := RX4) r (by decide +kernel) rfl rfl (Nat.le_of_ble_eq_true rfl) (fX4_applicant v1 v2 v3 σ) h ?_
  intro p e s m below meth c Q A C hRet
  generalize ([.ref (ad 0), .int v1, .int v2, .int v3] : List Value).toArray = args at *
  show J p l e ({ frames := 2, cells := 0, slots := 0, locals := 46 } : Room) s m args below meth c 5 D A (wX ad cyI cyZ) Q r (fX4_applicant v1 v2 v3 σ) σ 0 [(0, .ref (ad 0)), (1, .int v1), (2, .int v2), (3, .int v3)] []
  unfold fX4_applicant
  refine J_aload_n C 0 rfl rfl dX4_applicant_0 ?_
  refine J_iload_n C 1 rfl rfl dX4_applicant_1 ?_
  refine J_iload_n C 2 rfl rfl dX4_applicant_2 ?_
  refine J_iload_n C 3 rfl rfl dX4_applicant_3 ?_
  refine J_callP_V C [.int v1, .int v2, .int v3] 0 4 rfl rfl (fun zr zh => tX4_cellOfPort v1 v2 v3 σ zr zh) (cwV 3 C.1.2.2.2.2 gX4_applicant_X4_cellOfPort rfl rfl rfl (by decide +kernel) ⟨Nat.le_of_ble_eq_true rfl, Nat.le_of_ble_eq_true rfl⟩) rfl rfl (Nat.le_of_ble_eq_true rfl) dX4_applicant_4 (fun r1 => ?_)
  refine J_istore C dX4_applicant_7 (by decide) rfl ?_
  refine J_iload C 0 rfl dX4_applicant_9 ?_
  refine J_if_ge (tgt := 19) C dX4_applicant_11 (by decide) ?_ ?_
  · refine J_aload_n C 1 rfl rfl dX4_applicant_19 ?_
    refine J_get C 0 2 4 (C0 := RX4) (T := TX4) (N := 11) (by decide +kernel) rfl rfl (by decide) (by decide +kernel) rfl dX4_applicant_20 ?_
    refine J_getN C 3 0 0 (C0 := RX0) (T := TX0) (N := 2) (host := RX4) (by decide +kernel) rfl rfl (by decide) (by decide +kernel) rfl dX4_applicant_23 ?_
    refine J_iload C 0 rfl dX4_applicant_26 ?_
    refine J_iald C 8 0 rfl rfl dX4_applicant_28 ?_
    exact hRet (σ 8 r1.toNatClampNeg) _ _ dX4_applicant_29
  · refine J_iload C 0 rfl dX4_applicant_14 ?_
    refine J_goto (tgt := 29) C dX4_applicant_16 (by decide) ?_
    exact hRet r1 _ _ dX4_applicant_29
-- X4_hostApplicant
set_option maxHeartbeats 4000000 in
set_option maxRecDepth 100000 in
theorem tX4_hostApplicant {l : Launch} {D : va_G} {ad : Nat → Nat} {cyI cyZ : ClassId} (v1 v2 : Int32) (σ : St) (r : Int32) (h : fX4_hostApplicant v1 v2 σ = some r) : MI l D [(cyI, .int), (cyZ, .boolean)] (wX ad cyI cyZ) yX4_hostApplicant wsX4_hostApplicant ({ frames := 2, cells := 0, slots := 0, locals := 44 } : Room) [.ref (ad 0), .int v1, .int v2] σ r σ := by
  refine entryPI (own := RX4) r (by decide +kernel) rfl rfl (Nat.le_of_ble_eq_true rfl) (fX4_hostApplicant v1 v2 σ) h ?_
  intro p e s m below meth c Q A C hRet
  generalize ([.ref (ad 0), .int v1, .int v2] : List Value).toArray = args at *
  show J p l e ({ frames := 2, cells := 0, slots := 0, locals := 44 } : Room) s m args below meth c 4 D A (wX ad cyI cyZ) Q r (fX4_hostApplicant v1 v2 σ) σ 0 [(0, .ref (ad 0)), (1, .int v1), (2, .int v2)] []
  unfold fX4_hostApplicant
  refine J_aload_n C 0 rfl rfl dX4_hostApplicant_0 ?_
  refine J_iload_n C 1 rfl rfl dX4_hostApplicant_1 ?_
  refine J_iload_n C 2 rfl rfl dX4_hostApplicant_2 ?_
  refine J_callP_V C [.int v1, .int v2] 0 4 rfl rfl (fun zr zh => tX4_cellOfHost v1 v2 σ zr zh) (cwV 2 C.1.2.2.2.2 gX4_hostApplicant_X4_cellOfHost rfl rfl rfl (by decide +kernel) ⟨Nat.le_of_ble_eq_true rfl, Nat.le_of_ble_eq_true rfl⟩) rfl rfl (Nat.le_of_ble_eq_true rfl) dX4_hostApplicant_3 (fun r1 => ?_)
  refine J_istore_n C rfl dX4_hostApplicant_6 (by decide) rfl ?_
  refine J_iload_n C 0 rfl rfl dX4_hostApplicant_7 ?_
  refine J_if_ge (tgt := 15) C dX4_hostApplicant_8 (by decide) ?_ ?_
  · refine J_aload_n C 1 rfl rfl dX4_hostApplicant_15 ?_
    refine J_get C 0 2 4 (C0 := RX4) (T := TX4) (N := 11) (by decide +kernel) rfl rfl (by decide) (by decide +kernel) rfl dX4_hostApplicant_16 ?_
    refine J_getN C 3 0 0 (C0 := RX0) (T := TX0) (N := 2) (host := RX4) (by decide +kernel) rfl rfl (by decide) (by decide +kernel) rfl dX4_hostApplicant_19 ?_
    refine J_iload_n C 0 rfl rfl dX4_hostApplicant_22 ?_
    refine J_iald C 8 0 rfl rfl dX4_hostApplicant_23 ?_
    exact hRet (σ 8 r1.toNatClampNeg) _ _ dX4_hostApplicant_24
  · refine J_iload_n C 0 rfl rfl dX4_hostApplicant_11 ?_
    refine J_goto (tgt := 24) C dX4_hostApplicant_12 (by decide) ?_
    exact hRet r1 _ _ dX4_hostApplicant_24
-- X4_leaveAllTimer
set_option maxHeartbeats 4000000 in
set_option maxRecDepth 100000 in
theorem tX4_leaveAllTimer {l : Launch} {D : va_G} {ad : Nat → Nat} {cyI cyZ : ClassId} (v1 v2 : Int32) (σ : St) (r : Int32) (h : fX4_leaveAllTimer v1 v2 σ = some r) : MI l D [(cyI, .int), (cyZ, .boolean)] (wX ad cyI cyZ) yX4_leaveAllTimer wsX4_leaveAllTimer ({ frames := 1, cells := 0, slots := 0, locals := 22 } : Room) [.ref (ad 0), .int v1, .int v2] σ r σ := by
  refine entryPI (own := RX4) r (by decide +kernel) rfl rfl (Nat.le_of_ble_eq_true rfl) (fX4_leaveAllTimer v1 v2 σ) h ?_
  intro p e s m below meth c Q A C hRet
  generalize ([.ref (ad 0), .int v1, .int v2] : List Value).toArray = args at *
  show J p l e ({ frames := 1, cells := 0, slots := 0, locals := 22 } : Room) s m args below meth c 4 D A (wX ad cyI cyZ) Q r (fX4_leaveAllTimer v1 v2 σ) σ 0 [(0, .ref (ad 0)), (1, .int v1), (2, .int v2)] []
  unfold fX4_leaveAllTimer
  refine J_aload_n C 0 rfl rfl dX4_leaveAllTimer_0 ?_
  refine J_get C 0 0 4 (C0 := RX4) (T := TX4) (N := 11) (by decide +kernel) rfl rfl (by decide) (by decide +kernel) rfl dX4_leaveAllTimer_1 ?_
  refine J_iload_n C 1 rfl rfl dX4_leaveAllTimer_4 ?_
  refine J_iload_n C 2 rfl rfl dX4_leaveAllTimer_5 ?_
  refine J_callP_VN C [.int v1, .int v2] 1 1 rfl rfl (fun zr zh => tX1_stationOfPort v1 v2 σ zr zh) (⟨va_cnB (host := RX4) 2 C.1.2.2.2.2 gX4_leaveAllTimer_X1_stationOfPort_n64 rfl rfl rfl (C.2.2.2 _ (by decide +kernel)) (C.1.2.2.2.2 (.initialized RX1) (by decide +kernel)) (by decide +kernel) ⟨Nat.le_of_ble_eq_true rfl, Nat.le_of_ble_eq_true rfl⟩, C.1.2.2.2.2 (.instanceMethod yX1_stationOfPort) (by decide +kernel), C.1.2.2.2.2 (.selects RX1 yX1_stationOfPort yX1_stationOfPort) (by decide +kernel)⟩) rfl rfl (Nat.le_of_ble_eq_true rfl) dX4_leaveAllTimer_6 (fun r1 => ?_)
  refine J_istore_n C rfl dX4_leaveAllTimer_9 (by decide) rfl ?_
  refine J_iload_n C 0 rfl rfl dX4_leaveAllTimer_10 ?_
  refine J_if_ge (tgt := 18) C dX4_leaveAllTimer_11 (by decide) ?_ ?_
  · refine J_aload_n C 1 rfl rfl dX4_leaveAllTimer_18 ?_
    refine J_get C 0 4 4 (C0 := RX4) (T := TX4) (N := 11) (by decide +kernel) rfl rfl (by decide) (by decide +kernel) rfl dX4_leaveAllTimer_19 ?_
    refine J_iload_n C 0 rfl rfl dX4_leaveAllTimer_22 ?_
    refine J_iald C 12 0 rfl rfl dX4_leaveAllTimer_23 ?_
    exact hRet (σ 12 r1.toNatClampNeg) _ _ dX4_leaveAllTimer_24
  · refine J_iload_n C 0 rfl rfl dX4_leaveAllTimer_14 ?_
    refine J_goto (tgt := 24) C dX4_leaveAllTimer_15 (by decide) ?_
    exact hRet r1 _ _ dX4_leaveAllTimer_24
-- X4_hasToSend
set_option maxHeartbeats 4000000 in
set_option maxRecDepth 100000 in
theorem jX4_hasToSend_L2  {o0 : Int32} {σ : St} (C : Cxt p s m args c cX4_hasToSend 4 wsX4_hasToSend RX4 D [(cyI, .int), (cyZ, .boolean)] A) (hRet : ∀ (v : Int32) (pc : Nat) (lv : List (Nat × Value)), narrow .boolean (.int v) = .int v → decode cX4_hasToSend pc = .ok (.ireturn, 1) → J p l e ({ frames := 1, cells := 0, slots := 0, locals := 21 } : Room) s m args below meth c 4 D A (wX ad cyI cyZ) Q o0 (some v) σ pc lv [.int v]) (v1 : Int32) (n : Nat) (v2 : Int32) : J p l e ({ frames := 1, cells := 0, slots := 0, locals := 21 } : Room) s m args below meth c 4 D A (wX ad cyI cyZ) Q o0 (loop1 (fX4_hasToSend_b2 v1 σ) n v2) σ 2 [(0, .ref (ad 0)), (1, .int v1), (2, .int v2)] [] := by
  refine J_loop1 (pc := 2) (fun v2 => [(0, .ref (ad 0)), (1, .int v1), (2, .int v2)]) (fX4_hasToSend_b2 v1 σ) ?_ n v2
  intro K2 hK2 v2
  unfold fX4_hasToSend_b2
  refine J_iload_n C 2 rfl rfl dX4_hasToSend_2 ?_
  refine J_iconst (v := (4 : Int32)) C dX4_hasToSend_3 (by decide) ?_
  refine J_icmp_ge (tgt := 39) C dX4_hasToSend_4 (by decide) ?_ ?_
  · refine J_iconst (v := (0 : Int32)) C dX4_hasToSend_39 (by decide) ?_
    exact hRet (0 : Int32) _ _ (by decide) dX4_hasToSend_40
  · refine J_aload_n C 0 rfl rfl dX4_hasToSend_7 ?_
    refine J_get C 0 2 4 (C0 := RX4) (T := TX4) (N := 11) (by decide +kernel) rfl rfl (by decide) (by decide +kernel) rfl dX4_hasToSend_8 ?_
    refine J_getN C 3 0 0 (C0 := RX0) (T := TX0) (N := 2) (host := RX4) (by decide +kernel) rfl rfl (by decide) (by decide +kernel) rfl dX4_hasToSend_11 ?_
    refine J_iload_n C 1 rfl rfl dX4_hasToSend_14 ?_
    refine J_iload_n C 2 rfl rfl dX4_hasToSend_15 ?_
    refine J_callP_S C [.int v1, .int v2] (fun zr zh => tX4_cellOf v1 v2 σ zr zh) (va_cwS 2 C.1.2.2.2.2 gX4_hasToSend_X4_cellOf rfl rfl rfl (by decide +kernel) ⟨Nat.le_of_ble_eq_true rfl, Nat.le_of_ble_eq_true rfl⟩) rfl rfl (Nat.le_of_ble_eq_true rfl) dX4_hasToSend_16 (fun r1 => ?_)
    refine J_iald C 8 0 rfl rfl dX4_hasToSend_19 ?_
    refine J_istore_n C rfl dX4_hasToSend_20 (by decide) rfl ?_
    refine J_iload_n C 0 rfl rfl dX4_hasToSend_21 ?_
    refine J_iconst (v := (1 : Int32)) C dX4_hasToSend_22 (by decide) ?_
    refine J_icmp_eq (tgt := 31) C dX4_hasToSend_23 (by decide) ?_ ?_
    · refine J_iconst (v := (1 : Int32)) C dX4_hasToSend_31 (by decide) ?_
      exact hRet (1 : Int32) _ _ (by decide) dX4_hasToSend_32
    · refine J_iload_n C 0 rfl rfl dX4_hasToSend_26 ?_
      refine J_iconst (v := (3 : Int32)) C dX4_hasToSend_27 (by decide) ?_
      refine J_icmp_ne (tgt := 33) C dX4_hasToSend_28 (by decide) ?_ ?_
      · refine J_iinc (d := (1 : Int32)) C 3 rfl dX4_hasToSend_33 (by decide) (by decide) rfl ?_
        refine J_goto (tgt := 2) C dX4_hasToSend_36 (by decide) ?_
        refine J_lv [2, 3, 0] rfl ?_
        exact hK2 (v2 + (1 : Int32))
      · refine J_iconst (v := (1 : Int32)) C dX4_hasToSend_31 (by decide) ?_
        exact hRet (1 : Int32) _ _ (by decide) dX4_hasToSend_32
set_option maxHeartbeats 4000000 in
set_option maxRecDepth 100000 in
theorem tX4_hasToSend {l : Launch} {D : va_G} {ad : Nat → Nat} {cyI cyZ : ClassId} (v1 : Int32) (σ : St) (r : Int32) (h : fX4_hasToSend v1 σ = some r) : MI l D [(cyI, .int), (cyZ, .boolean)] (wX ad cyI cyZ) yX4_hasToSend wsX4_hasToSend ({ frames := 1, cells := 0, slots := 0, locals := 21 } : Room) [.ref (ad 0), .int v1] σ r σ := by
  refine entryPZ (own := RX4) r (by decide +kernel) rfl rfl (Nat.le_of_ble_eq_true rfl) (fX4_hasToSend v1 σ) h ?_
  intro p e s m below meth c Q A C hRet
  generalize ([.ref (ad 0), .int v1] : List Value).toArray = args at *
  show J p l e ({ frames := 1, cells := 0, slots := 0, locals := 21 } : Room) s m args below meth c 4 D A (wX ad cyI cyZ) Q r (fX4_hasToSend v1 σ) σ 0 [(0, .ref (ad 0)), (1, .int v1)] []
  unfold fX4_hasToSend
  refine J_iconst (v := (0 : Int32)) C dX4_hasToSend_0 (by decide) ?_
  refine J_istore_n C rfl dX4_hasToSend_1 (by decide) rfl ?_
  refine J_lv [1, 2, 0] rfl ?_
  exact jX4_hasToSend_L2 C hRet v1 fuel (0 : Int32)
-- X4_isPortSettled
set_option maxHeartbeats 4000000 in
set_option maxRecDepth 100000 in
theorem jX4_isPortSettled_b31 {K2 : Int32 → Option (Int32)} {o0 : Int32} {σ : St} (C : Cxt p s m args c cX4_isPortSettled 5 wsX4_isPortSettled RX4 D [(cyI, .int), (cyZ, .boolean)] A) (hRet : ∀ (v : Int32) (pc : Nat) (lv : List (Nat × Value)), narrow .boolean (.int v) = .int v → decode cX4_isPortSettled pc = .ok (.ireturn, 1) → J p l e ({ frames := 4, cells := 0, slots := 0, locals := 87 } : Room) s m args below meth c 5 D A (wX ad cyI cyZ) Q o0 (some v) σ pc lv [.int v]) (v1 v2 v3 t0 : Int32) (hK2 : ∀ (v2 : Int32), J p l e ({ frames := 4, cells := 0, slots := 0, locals := 87 } : Room) s m args below meth c 5 D A (wX ad cyI cyZ) Q o0 (K2 v2) σ 2 [(0, .ref (ad 0)), (1, .int v1), (2, .int v2)] []) : J p l e ({ frames := 4, cells := 0, slots := 0, locals := 87 } : Room) s m args below meth c 5 D A (wX ad cyI cyZ) Q o0 (fX4_isPortSettled_b31 K2 v1 v2 v3 t0 σ) σ 31 [(0, .ref (ad 0)), (1, .int v1), (2, .int v2), (3, .int v3)] [.int t0] := by
  unfold fX4_isPortSettled_b31
  refine J_istore C dX4_isPortSettled_31 (by decide) rfl ?_
  refine J_aload_n C 1 rfl rfl dX4_isPortSettled_33 ?_
  refine J_get C 0 1 4 (C0 := RX4) (T := TX4) (N := 11) (by decide +kernel) rfl rfl (by decide) (by decide +kernel) rfl dX4_isPortSettled_34 ?_
  refine J_getN C 2 0 3 (C0 := RX3) (T := TX3) (N := 2) (host := RX4) (by decide +kernel) rfl rfl (by decide) (by decide +kernel) rfl dX4_isPortSettled_37 ?_
  refine J_iload_n C 4 rfl rfl dX4_isPortSettled_40 ?_
  refine J_iald C 6 0 rfl rfl dX4_isPortSettled_41 ?_
  refine J_iconst (v := (2 : Int32)) C dX4_isPortSettled_42 (by decide) ?_
  refine J_icmp_eq (tgt := 57) C dX4_isPortSettled_43 (by decide) ?_ ?_
  · refine J_iconst (v := (0 : Int32)) C dX4_isPortSettled_57 (by decide) ?_
    exact hRet (0 : Int32) _ _ (by decide) dX4_isPortSettled_58
  · refine J_iload C 0 rfl dX4_isPortSettled_46 ?_
    refine J_aload_n C 1 rfl rfl dX4_isPortSettled_48 ?_
    refine J_iload_n C 2 rfl rfl dX4_isPortSettled_49 ?_
    refine J_iload_n C 3 rfl rfl dX4_isPortSettled_50 ?_
    refine J_callP_V C [.int v1, .int v2] 0 4 rfl rfl (fun zr zh => tX4_isWanted v1 v2 σ zr zh) (cwV 2 C.1.2.2.2.2 gX4_isPortSettled_X4_isWanted rfl rfl rfl (by decide +kernel) ⟨Nat.le_of_ble_eq_true rfl, Nat.le_of_ble_eq_true rfl⟩) rfl rfl (Nat.le_of_ble_eq_true rfl) dX4_isPortSettled_51 (fun r1 => ?_)
    refine J_icmp_eq (tgt := 59) C dX4_isPortSettled_54 (by decide) ?_ ?_
    · refine J_iinc (d := (1 : Int32)) C 3 rfl dX4_isPortSettled_59 (by decide) (by decide) rfl ?_
      refine J_goto (tgt := 2) C dX4_isPortSettled_62 (by decide) ?_
      refine J_lv [2, 3, 0] rfl ?_
      exact hK2 (v2 + (1 : Int32))
    · refine J_iconst (v := (0 : Int32)) C dX4_isPortSettled_57 (by decide) ?_
      exact hRet (0 : Int32) _ _ (by decide) dX4_isPortSettled_58
set_option maxHeartbeats 4000000 in
set_option maxRecDepth 100000 in
theorem jX4_isPortSettled_L2  {o0 : Int32} {σ : St} (C : Cxt p s m args c cX4_isPortSettled 5 wsX4_isPortSettled RX4 D [(cyI, .int), (cyZ, .boolean)] A) (hRet : ∀ (v : Int32) (pc : Nat) (lv : List (Nat × Value)), narrow .boolean (.int v) = .int v → decode cX4_isPortSettled pc = .ok (.ireturn, 1) → J p l e ({ frames := 4, cells := 0, slots := 0, locals := 87 } : Room) s m args below meth c 5 D A (wX ad cyI cyZ) Q o0 (some v) σ pc lv [.int v]) (v1 : Int32) (n : Nat) (v2 : Int32) : J p l e ({ frames := 4, cells := 0, slots := 0, locals := 87 } : Room) s m args below meth c 5 D A (wX ad cyI cyZ) Q o0 (loop1 (fX4_isPortSettled_b2 v1 σ) n v2) σ 2 [(0, .ref (ad 0)), (1, .int v1), (2, .int v2)] [] := by
  refine J_loop1 (pc := 2) (fun v2 => [(0, .ref (ad 0)), (1, .int v1), (2, .int v2)]) (fX4_isPortSettled_b2 v1 σ) ?_ n v2
  intro K2 hK2 v2
  unfold fX4_isPortSettled_b2
  refine J_iload_n C 2 rfl rfl dX4_isPortSettled_2 ?_
  refine J_iconst (v := (4 : Int32)) C dX4_isPortSettled_3 (by decide) ?_
  refine J_icmp_ge (tgt := 65) C dX4_isPortSettled_4 (by decide) ?_ ?_
  · refine J_iconst (v := (1 : Int32)) C dX4_isPortSettled_65 (by decide) ?_
    exact hRet (1 : Int32) _ _ (by decide) dX4_isPortSettled_66
  · refine J_iload_n C 1 rfl rfl dX4_isPortSettled_7 ?_
    refine J_iload_n C 2 rfl rfl dX4_isPortSettled_8 ?_
    refine J_callP_S C [.int v1, .int v2] (fun zr zh => tX4_cellOf v1 v2 σ zr zh) (va_cwS 2 C.1.2.2.2.2 gX4_isPortSettled_X4_cellOf rfl rfl rfl (by decide +kernel) ⟨Nat.le_of_ble_eq_true rfl, Nat.le_of_ble_eq_true rfl⟩) rfl rfl (Nat.le_of_ble_eq_true rfl) dX4_isPortSettled_9 (fun r1 => ?_)
    refine J_istore_n C rfl dX4_isPortSettled_12 (by decide) rfl ?_
    refine J_aload_n C 1 rfl rfl dX4_isPortSettled_13 ?_
    refine J_get C 0 2 4 (C0 := RX4) (T := TX4) (N := 11) (by decide +kernel) rfl rfl (by decide) (by decide +kernel) rfl dX4_isPortSettled_14 ?_
    refine J_getN C 3 0 0 (C0 := RX0) (T := TX0) (N := 2) (host := RX4) (by decide +kernel) rfl rfl (by decide) (by decide +kernel) rfl dX4_isPortSettled_17 ?_
    refine J_iload_n C 0 rfl rfl dX4_isPortSettled_20 ?_
    refine J_iald C 8 0 rfl rfl dX4_isPortSettled_21 ?_
    refine J_iconst (v := (2 : Int32)) C dX4_isPortSettled_22 (by decide) ?_
    refine J_icmp_ne (tgt := 30) C dX4_isPortSettled_23 (by decide) ?_ ?_
    · refine J_iconst (v := (0 : Int32)) C dX4_isPortSettled_30 (by decide) ?_
      refine J_lv [1, 2, 3, 0] rfl ?_
      exact jX4_isPortSettled_b31 C hRet v1 v2 r1 (0 : Int32) hK2
    · refine J_iconst (v := (1 : Int32)) C dX4_isPortSettled_26 (by decide) ?_
      refine J_goto (tgt := 31) C dX4_isPortSettled_27 (by decide) ?_
      refine J_lv [1, 2, 3, 0] rfl ?_
      exact jX4_isPortSettled_b31 C hRet v1 v2 r1 (1 : Int32) hK2
set_option maxHeartbeats 4000000 in
set_option maxRecDepth 100000 in
theorem tX4_isPortSettled {l : Launch} {D : va_G} {ad : Nat → Nat} {cyI cyZ : ClassId} (v1 : Int32) (σ : St) (r : Int32) (h : fX4_isPortSettled v1 σ = some r) : MI l D [(cyI, .int), (cyZ, .boolean)] (wX ad cyI cyZ) yX4_isPortSettled wsX4_isPortSettled ({ frames := 4, cells := 0, slots := 0, locals := 87 } : Room) [.ref (ad 0), .int v1] σ r σ := by
  refine entryPZ (own := RX4) r (by decide +kernel) rfl rfl (Nat.le_of_ble_eq_true rfl) (fX4_isPortSettled v1 σ) h ?_
  intro p e s m below meth c Q A C hRet
  generalize ([.ref (ad 0), .int v1] : List Value).toArray = args at *
  show J p l e ({ frames := 4, cells := 0, slots := 0, locals := 87 } : Room) s m args below meth c 5 D A (wX ad cyI cyZ) Q r (fX4_isPortSettled v1 σ) σ 0 [(0, .ref (ad 0)), (1, .int v1)] []
  unfold fX4_isPortSettled
  refine J_iconst (v := (0 : Int32)) C dX4_isPortSettled_0 (by decide) ?_
  refine J_istore_n C rfl dX4_isPortSettled_1 (by decide) rfl ?_
  refine J_lv [1, 2, 0] rfl ?_
  exact jX4_isPortSettled_L2 C hRet v1 fuel (0 : Int32)
-- X4_isSettled
set_option maxHeartbeats 4000000 in
set_option maxRecDepth 100000 in
theorem jX4_isSettled_b62 {K35 : Int32 → Option (Int32)} {o0 : Int32} {σ : St} (C : Cxt p s m args c cX4_isSettled 2 wsX4_isSettled RX4 D [(cyI, .int), (cyZ, .boolean)] A) (hRet : ∀ (v : Int32) (pc : Nat) (lv : List (Nat × Value)), decode cX4_isSettled pc = .ok (.ireturn, 1) → J p l e ({ frames := 5, cells := 0, slots := 0, locals := 111 } : Room) s m args below meth c 2 D A (wX ad cyI cyZ) Q o0 (some v) σ pc lv [.int v]) (v1 : Int32) (hK35 : ∀ (v1 : Int32), J p l e ({ frames := 5, cells := 0, slots := 0, locals := 111 } : Room) s m args below meth c 2 D A (wX ad cyI cyZ) Q o0 (K35 v1) σ 35 [(0, .ref (ad 0)), (1, .int v1)] []) : J p l e ({ frames := 5, cells := 0, slots := 0, locals := 111 } : Room) s m args below meth c 2 D A (wX ad cyI cyZ) Q o0 (fX4_isSettled_b62 K35 v1 σ) σ 62 [(0, .ref (ad 0)), (1, .int v1)] [] := by
  unfold fX4_isSettled_b62
  refine J_iinc (d := (1 : Int32)) C 1 rfl dX4_isSettled_62 (by decide) (by decide) rfl ?_
  refine J_goto (tgt := 35) C dX4_isSettled_65 (by decide) ?_
  refine J_lv [1, 0] rfl ?_
  exact hK35 (v1 + (1 : Int32))
set_option maxHeartbeats 4000000 in
set_option maxRecDepth 100000 in
theorem jX4_isSettled_L35  {o0 : Int32} {σ : St} (C : Cxt p s m args c cX4_isSettled 2 wsX4_isSettled RX4 D [(cyI, .int), (cyZ, .boolean)] A) (hRet : ∀ (v : Int32) (pc : Nat) (lv : List (Nat × Value)), decode cX4_isSettled pc = .ok (.ireturn, 1) → J p l e ({ frames := 5, cells := 0, slots := 0, locals := 111 } : Room) s m args below meth c 2 D A (wX ad cyI cyZ) Q o0 (some v) σ pc lv [.int v]) (n : Nat) (v1 : Int32) : J p l e ({ frames := 5, cells := 0, slots := 0, locals := 111 } : Room) s m args below meth c 2 D A (wX ad cyI cyZ) Q o0 (loop1 (fX4_isSettled_b35 σ) n v1) σ 35 [(0, .ref (ad 0)), (1, .int v1)] [] := by
  refine J_loop1 (pc := 35) (fun v1 => [(0, .ref (ad 0)), (1, .int v1)]) (fX4_isSettled_b35 σ) ?_ n v1
  intro K35 hK35 v1
  unfold fX4_isSettled_b35
  refine J_iload_n C 1 rfl rfl dX4_isSettled_35 ?_
  refine J_bipush (v := (20 : Int32)) C dX4_isSettled_36 (by decide) ?_
  refine J_icmp_ge (tgt := 68) C dX4_isSettled_38 (by decide) ?_ ?_
  · refine J_iconst (v := (1 : Int32)) C dX4_isSettled_68 (by decide) ?_
    exact hRet (1 : Int32) _ _ dX4_isSettled_69
  · refine J_aload_n C 0 rfl rfl dX4_isSettled_41 ?_
    refine J_get C 0 0 4 (C0 := RX4) (T := TX4) (N := 11) (by decide +kernel) rfl rfl (by decide) (by decide +kernel) rfl dX4_isSettled_42 ?_
    refine J_iload_n C 1 rfl rfl dX4_isSettled_45 ?_
    refine J_callP_VN C [.int v1] 1 1 rfl rfl (fun zr zh => tX1_isConnected v1 σ zr zh) (⟨va_cnB (host := RX4) 1 C.1.2.2.2.2 gX4_isSettled_X1_isConnected_n68 rfl rfl rfl (C.2.2.2 _ (by decide +kernel)) (C.1.2.2.2.2 (.initialized RX1) (by decide +kernel)) (by decide +kernel) ⟨Nat.le_of_ble_eq_true rfl, Nat.le_of_ble_eq_true rfl⟩, C.1.2.2.2.2 (.instanceMethod yX1_isConnected) (by decide +kernel), C.1.2.2.2.2 (.selects RX1 yX1_isConnected yX1_isConnected) (by decide +kernel)⟩) rfl rfl (Nat.le_of_ble_eq_true rfl) dX4_isSettled_46 (fun r1 => ?_)
    refine J_if_eq (tgt := 62) C dX4_isSettled_49 (by decide) ?_ ?_
    · exact jX4_isSettled_b62 C hRet v1 hK35
    · refine J_aload_n C 0 rfl rfl dX4_isSettled_52 ?_
      refine J_iload_n C 1 rfl rfl dX4_isSettled_53 ?_
      refine J_callP_V C [.int v1] 0 4 rfl rfl (fun zr zh => tX4_isPortSettled v1 σ zr zh) (cwV 1 C.1.2.2.2.2 gX4_isSettled_X4_isPortSettled rfl rfl rfl (by decide +kernel) ⟨Nat.le_of_ble_eq_true rfl, Nat.le_of_ble_eq_true rfl⟩) rfl rfl (Nat.le_of_ble_eq_true rfl) dX4_isSettled_54 (fun r2 => ?_)
      refine J_if_ne (tgt := 62) C dX4_isSettled_57 (by decide) ?_ ?_
      · exact jX4_isSettled_b62 C hRet v1 hK35
      · refine J_iconst (v := (0 : Int32)) C dX4_isSettled_60 (by decide) ?_
        exact hRet (0 : Int32) _ _ dX4_isSettled_61
set_option maxHeartbeats 4000000 in
set_option maxRecDepth 100000 in
theorem jX4_isSettled_b33  {o0 : Int32} {σ : St} (C : Cxt p s m args c cX4_isSettled 2 wsX4_isSettled RX4 D [(cyI, .int), (cyZ, .boolean)] A) (hRet : ∀ (v : Int32) (pc : Nat) (lv : List (Nat × Value)), decode cX4_isSettled pc = .ok (.ireturn, 1) → J p l e ({ frames := 5, cells := 0, slots := 0, locals := 111 } : Room) s m args below meth c 2 D A (wX ad cyI cyZ) Q o0 (some v) σ pc lv [.int v]) (v1 : Int32) : J p l e ({ frames := 5, cells := 0, slots := 0, locals := 111 } : Room) s m args below meth c 2 D A (wX ad cyI cyZ) Q o0 (fX4_isSettled_b33 v1 σ) σ 33 [(0, .ref (ad 0)), (1, .int v1)] [] := by
  unfold fX4_isSettled_b33
  refine J_iconst (v := (0 : Int32)) C dX4_isSettled_33 (by decide) ?_
  refine J_istore_n C rfl dX4_isSettled_34 (by decide) rfl ?_
  refine J_lv [1, 0] rfl ?_
  exact jX4_isSettled_L35 C hRet fuel (0 : Int32)
set_option maxHeartbeats 4000000 in
set_option maxRecDepth 100000 in
theorem jX4_isSettled_b27 {K2 : Int32 → Option (Int32)} {o0 : Int32} {σ : St} (C : Cxt p s m args c cX4_isSettled 2 wsX4_isSettled RX4 D [(cyI, .int), (cyZ, .boolean)] A) (hRet : ∀ (v : Int32) (pc : Nat) (lv : List (Nat × Value)), decode cX4_isSettled pc = .ok (.ireturn, 1) → J p l e ({ frames := 5, cells := 0, slots := 0, locals := 111 } : Room) s m args below meth c 2 D A (wX ad cyI cyZ) Q o0 (some v) σ pc lv [.int v]) (v1 : Int32) (hK2 : ∀ (v1 : Int32), J p l e ({ frames := 5, cells := 0, slots := 0, locals := 111 } : Room) s m args below meth c 2 D A (wX ad cyI cyZ) Q o0 (K2 v1) σ 2 [(0, .ref (ad 0)), (1, .int v1)] []) : J p l e ({ frames := 5, cells := 0, slots := 0, locals := 111 } : Room) s m args below meth c 2 D A (wX ad cyI cyZ) Q o0 (fX4_isSettled_b27 K2 v1 σ) σ 27 [(0, .ref (ad 0)), (1, .int v1)] [] := by
  unfold fX4_isSettled_b27
  refine J_iinc (d := (1 : Int32)) C 1 rfl dX4_isSettled_27 (by decide) (by decide) rfl ?_
  refine J_goto (tgt := 2) C dX4_isSettled_30 (by decide) ?_
  refine J_lv [1, 0] rfl ?_
  exact hK2 (v1 + (1 : Int32))
set_option maxHeartbeats 4000000 in
set_option maxRecDepth 100000 in
theorem jX4_isSettled_L2  {o0 : Int32} {σ : St} (C : Cxt p s m args c cX4_isSettled 2 wsX4_isSettled RX4 D [(cyI, .int), (cyZ, .boolean)] A) (hRet : ∀ (v : Int32) (pc : Nat) (lv : List (Nat × Value)), decode cX4_isSettled pc = .ok (.ireturn, 1) → J p l e ({ frames := 5, cells := 0, slots := 0, locals := 111 } : Room) s m args below meth c 2 D A (wX ad cyI cyZ) Q o0 (some v) σ pc lv [.int v]) (n : Nat) (v1 : Int32) : J p l e ({ frames := 5, cells := 0, slots := 0, locals := 111 } : Room) s m args below meth c 2 D A (wX ad cyI cyZ) Q o0 (loop1 (fX4_isSettled_b2 σ) n v1) σ 2 [(0, .ref (ad 0)), (1, .int v1)] [] := by
  refine J_loop1 (pc := 2) (fun v1 => [(0, .ref (ad 0)), (1, .int v1)]) (fX4_isSettled_b2 σ) ?_ n v1
  intro K2 hK2 v1
  unfold fX4_isSettled_b2
  refine J_iload_n C 1 rfl rfl dX4_isSettled_2 ?_
  refine J_bipush (v := (28 : Int32)) C dX4_isSettled_3 (by decide) ?_
  refine J_icmp_ge (tgt := 33) C dX4_isSettled_5 (by decide) ?_ ?_
  · exact jX4_isSettled_b33 C hRet v1
  · refine J_aload_n C 0 rfl rfl dX4_isSettled_8 ?_
    refine J_get C 0 7 4 (C0 := RX4) (T := TX4) (N := 11) (by decide +kernel) rfl rfl (by decide) (by decide +kernel) rfl dX4_isSettled_9 ?_
    refine J_iload_n C 1 rfl rfl dX4_isSettled_12 ?_
    refine J_zald C 15 1 rfl rfl dX4_isSettled_13 ?_
    refine J_if_ne (tgt := 27) C dX4_isSettled_14 (by decide) ?_ ?_
    · exact jX4_isSettled_b27 C hRet v1 hK2
    · refine J_aload_n C 0 rfl rfl dX4_isSettled_17 ?_
      refine J_iload_n C 1 rfl rfl dX4_isSettled_18 ?_
      refine J_callP_V C [.int v1] 0 4 rfl rfl (fun zr zh => tX4_hasToSend v1 σ zr zh) (cwV 1 C.1.2.2.2.2 gX4_isSettled_X4_hasToSend rfl rfl rfl (by decide +kernel) ⟨Nat.le_of_ble_eq_true rfl, Nat.le_of_ble_eq_true rfl⟩) rfl rfl (Nat.le_of_ble_eq_true rfl) dX4_isSettled_19 (fun r1 => ?_)
      refine J_if_eq (tgt := 27) C dX4_isSettled_22 (by decide) ?_ ?_
      · exact jX4_isSettled_b27 C hRet v1 hK2
      · refine J_iconst (v := (0 : Int32)) C dX4_isSettled_25 (by decide) ?_
        exact hRet (0 : Int32) _ _ dX4_isSettled_26
set_option maxHeartbeats 4000000 in
set_option maxRecDepth 100000 in
theorem tX4_isSettled {l : Launch} {D : va_G} {ad : Nat → Nat} {cyI cyZ : ClassId} (σ : St) (r : Int32) (h : fX4_isSettled σ = some r) : MI l D [(cyI, .int), (cyZ, .boolean)] (wX ad cyI cyZ) yX4_isSettled wsX4_isSettled ({ frames := 5, cells := 0, slots := 0, locals := 111 } : Room) [.ref (ad 0)] σ r σ := by
  refine entryPI (own := RX4) r (by decide +kernel) rfl rfl (Nat.le_of_ble_eq_true rfl) (fX4_isSettled σ) h ?_
  intro p e s m below meth c Q A C hRet
  generalize ([.ref (ad 0)] : List Value).toArray = args at *
  show J p l e ({ frames := 5, cells := 0, slots := 0, locals := 111 } : Room) s m args below meth c 2 D A (wX ad cyI cyZ) Q r (fX4_isSettled σ) σ 0 [(0, .ref (ad 0))] []
  unfold fX4_isSettled
  refine J_iconst (v := (0 : Int32)) C dX4_isSettled_0 (by decide) ?_
  refine J_istore_n C rfl dX4_isSettled_1 (by decide) rfl ?_
  refine J_lv [1, 0] rfl ?_
  exact jX4_isSettled_L2 C hRet fuel (0 : Int32)
-- X4_arrivesBeside
set_option maxHeartbeats 4000000 in
set_option maxRecDepth 100000 in
theorem jX4_arrivesBeside_b31 {K9 : Int32 → Option (Int32)} {o0 : Int32} {σ : St} (C : Cxt p s m args c cX4_arrivesBeside 4 wsX4_arrivesBeside RX4 D [(cyI, .int), (cyZ, .boolean)] A) (hRet : ∀ (v : Int32) (pc : Nat) (lv : List (Nat × Value)), narrow .boolean (.int v) = .int v → decode cX4_arrivesBeside pc = .ok (.ireturn, 1) → J p l e ({ frames := 1, cells := 0, slots := 0, locals := 21 } : Room) s m args below meth c 4 D A (wX ad cyI cyZ) Q o0 (some v) σ pc lv [.int v]) (v0 v1 v2 v3 : Int32) (hK9 : ∀ (v3 : Int32), J p l e ({ frames := 1, cells := 0, slots := 0, locals := 21 } : Room) s m args below meth c 4 D A (wX ad cyI cyZ) Q o0 (K9 v3) σ 9 [(0, .int v0), (1, .int v1), (2, .int v2), (3, .int v3)] []) : J p l e ({ frames := 1, cells := 0, slots := 0, locals := 21 } : Room) s m args below meth c 4 D A (wX ad cyI cyZ) Q o0 (fX4_arrivesBeside_b31 K9 v0 v1 v2 v3 σ) σ 31 [(0, .int v0), (1, .int v1), (2, .int v2), (3, .int v3)] [] := by
  unfold fX4_arrivesBeside_b31
  refine J_iinc (d := (1 : Int32)) C 3 rfl dX4_arrivesBeside_31 (by decide) (by decide) rfl ?_
  refine J_goto (tgt := 9) C dX4_arrivesBeside_34 (by decide) ?_
  refine J_lv [1, 2, 3, 0] rfl ?_
  exact hK9 (v3 + (1 : Int32))
set_option maxHeartbeats 4000000 in
set_option maxRecDepth 100000 in
theorem jX4_arrivesBeside_L9  {o0 : Int32} {σ : St} (C : Cxt p s m args c cX4_arrivesBeside 4 wsX4_arrivesBeside RX4 D [(cyI, .int), (cyZ, .boolean)] A) (hRet : ∀ (v : Int32) (pc : Nat) (lv : List (Nat × Value)), narrow .boolean (.int v) = .int v → decode cX4_arrivesBeside pc = .ok (.ireturn, 1) → J p l e ({ frames := 1, cells := 0, slots := 0, locals := 21 } : Room) s m args below meth c 4 D A (wX ad cyI cyZ) Q o0 (some v) σ pc lv [.int v]) (v0 v1 v2 : Int32) (n : Nat) (v3 : Int32) : J p l e ({ frames := 1, cells := 0, slots := 0, locals := 21 } : Room) s m args below meth c 4 D A (wX ad cyI cyZ) Q o0 (loop1 (fX4_arrivesBeside_b9 v0 v1 v2 σ) n v3) σ 9 [(0, .int v0), (1, .int v1), (2, .int v2), (3, .int v3)] [] := by
  refine J_loop1 (pc := 9) (fun v3 => [(0, .int v0), (1, .int v1), (2, .int v2), (3, .int v3)]) (fX4_arrivesBeside_b9 v0 v1 v2 σ) ?_ n v3
  intro K9 hK9 v3
  unfold fX4_arrivesBeside_b9
  refine J_iload_n C 3 rfl rfl dX4_arrivesBeside_9 ?_
  refine J_iload_n C 2 rfl rfl dX4_arrivesBeside_10 ?_
  refine J_iconst (v := (4 : Int32)) C dX4_arrivesBeside_11 (by decide) ?_
  refine J_iadd C dX4_arrivesBeside_12 ?_
  refine J_icmp_ge (tgt := 37) C dX4_arrivesBeside_13 (by decide) ?_ ?_
  · refine J_iconst (v := (0 : Int32)) C dX4_arrivesBeside_37 (by decide) ?_
    exact hRet (0 : Int32) _ _ (by decide) dX4_arrivesBeside_38
  · refine J_iload_n C 3 rfl rfl dX4_arrivesBeside_16 ?_
    refine J_iload_n C 0 rfl rfl dX4_arrivesBeside_17 ?_
    refine J_icmp_eq (tgt := 31) C dX4_arrivesBeside_18 (by decide) ?_ ?_
    · exact jX4_arrivesBeside_b31 C hRet v0 v1 v2 v3 hK9
    · refine J_iload_n C 1 rfl rfl dX4_arrivesBeside_21 ?_
      refine J_iload_n C 3 rfl rfl dX4_arrivesBeside_22 ?_
      refine J_callP_S C [.int v1, .int v3] (fun zr zh => tX4_contains v1 v3 σ zr zh) (va_cwS 2 C.1.2.2.2.2 gX4_arrivesBeside_X4_contains rfl rfl rfl (by decide +kernel) ⟨Nat.le_of_ble_eq_true rfl, Nat.le_of_ble_eq_true rfl⟩) rfl rfl (Nat.le_of_ble_eq_true rfl) dX4_arrivesBeside_23 (fun r1 => ?_)
      refine J_if_eq (tgt := 31) C dX4_arrivesBeside_26 (by decide) ?_ ?_
      · exact jX4_arrivesBeside_b31 C hRet v0 v1 v2 v3 hK9
      · refine J_iconst (v := (1 : Int32)) C dX4_arrivesBeside_29 (by decide) ?_
        exact hRet (1 : Int32) _ _ (by decide) dX4_arrivesBeside_30
set_option maxHeartbeats 4000000 in
set_option maxRecDepth 100000 in
theorem tX4_arrivesBeside {l : Launch} {D : va_G} {ad : Nat → Nat} {cyI cyZ : ClassId} (v0 v1 : Int32) (σ : St) (r : Int32) (h : fX4_arrivesBeside v0 v1 σ = some r) : MI l D [(cyI, .int), (cyZ, .boolean)] (wX ad cyI cyZ) yX4_arrivesBeside wsX4_arrivesBeside ({ frames := 1, cells := 0, slots := 0, locals := 21 } : Room) [.int v0, .int v1] σ r σ := by
  refine entryPZ (own := RX4) r (by decide +kernel) rfl rfl (Nat.le_of_ble_eq_true rfl) (fX4_arrivesBeside v0 v1 σ) h ?_
  intro p e s m below meth c Q A C hRet
  generalize ([.int v0, .int v1] : List Value).toArray = args at *
  show J p l e ({ frames := 1, cells := 0, slots := 0, locals := 21 } : Room) s m args below meth c 4 D A (wX ad cyI cyZ) Q r (fX4_arrivesBeside v0 v1 σ) σ 0 [(0, .int v0), (1, .int v1)] []
  unfold fX4_arrivesBeside
  refine J_iload_n C 0 rfl rfl dX4_arrivesBeside_0 ?_
  refine J_callP_S C [.int v0] (fun zr zh => tX4_bridgeOf v0 σ zr zh) (va_cwS 1 C.1.2.2.2.2 gX4_arrivesBeside_X4_bridgeOf rfl rfl rfl (by decide +kernel) ⟨Nat.le_of_ble_eq_true rfl, Nat.le_of_ble_eq_true rfl⟩) rfl rfl (Nat.le_of_ble_eq_true rfl) dX4_arrivesBeside_1 (fun r1 => ?_)
  refine J_iconst (v := (4 : Int32)) C dX4_arrivesBeside_4 (by decide) ?_
  refine J_imul C dX4_arrivesBeside_5 ?_
  refine J_istore_n C rfl dX4_arrivesBeside_6 (by decide) rfl ?_
  refine J_iload_n C 0 rfl rfl dX4_arrivesBeside_7 ?_
  refine J_istore_n C rfl dX4_arrivesBeside_8 (by decide) rfl ?_
  refine J_lv [2, 3, 1, 0] rfl ?_
  exact jX4_arrivesBeside_L9 C hRet v0 v1 (r1 * (4 : Int32)) fuel (r1 * (4 : Int32))
-- X4_nextArrivals
set_option maxHeartbeats 4000000 in
set_option maxRecDepth 100000 in
theorem jX4_nextArrivals_b46 {K5 : Int32 → Int32 → Option (Int32)} {o0 : Int32} {σ : St} (C : Cxt p s m args c cX4_nextArrivals 5 wsX4_nextArrivals RX4 D [(cyI, .int), (cyZ, .boolean)] A) (hRet : ∀ (v : Int32) (pc : Nat) (lv : List (Nat × Value)), decode cX4_nextArrivals pc = .ok (.ireturn, 1) → J p l e ({ frames := 3, cells := 0, slots := 0, locals := 63 } : Room) s m args below meth c 5 D A (wX ad cyI cyZ) Q o0 (some v) σ pc lv [.int v]) (v1 v2 v3 v4 : Int32) (hK5 : ∀ (v3 v4 : Int32), J p l e ({ frames := 3, cells := 0, slots := 0, locals := 63 } : Room) s m args below meth c 5 D A (wX ad cyI cyZ) Q o0 (K5 v3 v4) σ 5 [(0, .ref (ad 0)), (1, .int v1), (2, .int v2), (3, .int v3), (4, .int v4)] []) : J p l e ({ frames := 3, cells := 0, slots := 0, locals := 63 } : Room) s m args below meth c 5 D A (wX ad cyI cyZ) Q o0 (fX4_nextArrivals_b46 K5 v1 v2 v3 v4 σ) σ 46 [(0, .ref (ad 0)), (1, .int v1), (2, .int v2), (3, .int v3), (4, .int v4)] [] := by
  unfold fX4_nextArrivals_b46
  refine J_iinc (d := (1 : Int32)) C 4 rfl dX4_nextArrivals_46 (by decide) (by decide) rfl ?_
  refine J_goto (tgt := 5) C dX4_nextArrivals_49 (by decide) ?_
  refine J_lv [1, 2, 3, 4, 0] rfl ?_
  exact hK5 v3 (v4 + (1 : Int32))
set_option maxHeartbeats 4000000 in
set_option maxRecDepth 100000 in
theorem jX4_nextArrivals_L5  {o0 : Int32} {σ : St} (C : Cxt p s m args c cX4_nextArrivals 5 wsX4_nextArrivals RX4 D [(cyI, .int), (cyZ, .boolean)] A) (hRet : ∀ (v : Int32) (pc : Nat) (lv : List (Nat × Value)), decode cX4_nextArrivals pc = .ok (.ireturn, 1) → J p l e ({ frames := 3, cells := 0, slots := 0, locals := 63 } : Room) s m args below meth c 5 D A (wX ad cyI cyZ) Q o0 (some v) σ pc lv [.int v]) (v1 v2 : Int32) (n : Nat) (v3 v4 : Int32) : J p l e ({ frames := 3, cells := 0, slots := 0, locals := 63 } : Room) s m args below meth c 5 D A (wX ad cyI cyZ) Q o0 (loop2 (fX4_nextArrivals_b5 v1 v2 σ) n v3 v4) σ 5 [(0, .ref (ad 0)), (1, .int v1), (2, .int v2), (3, .int v3), (4, .int v4)] [] := by
  refine J_loop2 (pc := 5) (fun v3 v4 => [(0, .ref (ad 0)), (1, .int v1), (2, .int v2), (3, .int v3), (4, .int v4)]) (fX4_nextArrivals_b5 v1 v2 σ) ?_ n v3 v4
  intro K5 hK5 v3 v4
  unfold fX4_nextArrivals_b5
  refine J_iload C 4 rfl dX4_nextArrivals_5 ?_
  refine J_bipush (v := (20 : Int32)) C dX4_nextArrivals_7 (by decide) ?_
  refine J_icmp_ge (tgt := 52) C dX4_nextArrivals_9 (by decide) ?_ ?_
  · refine J_iload_n C 3 rfl rfl dX4_nextArrivals_52 ?_
    exact hRet v3 _ _ dX4_nextArrivals_53
  · refine J_aload_n C 0 rfl rfl dX4_nextArrivals_12 ?_
    refine J_iload C 4 rfl dX4_nextArrivals_13 ?_
    refine J_iload_n C 2 rfl rfl dX4_nextArrivals_15 ?_
    refine J_callP_V C [.int v4, .int v2] 0 4 rfl rfl (fun zr zh => tX4_isRegisteredAt v4 v2 σ zr zh) (cwV 2 C.1.2.2.2.2 gX4_nextArrivals_X4_isRegisteredAt rfl rfl rfl (by decide +kernel) ⟨Nat.le_of_ble_eq_true rfl, Nat.le_of_ble_eq_true rfl⟩) rfl rfl (Nat.le_of_ble_eq_true rfl) dX4_nextArrivals_16 (fun r1 => ?_)
    refine J_if_eq (tgt := 46) C dX4_nextArrivals_19 (by decide) ?_ ?_
    · exact jX4_nextArrivals_b46 C hRet v1 v2 v3 v4 hK5
    · refine J_iload C 4 rfl dX4_nextArrivals_22 ?_
      refine J_iload_n C 1 rfl rfl dX4_nextArrivals_24 ?_
      refine J_callP_S C [.int v4, .int v1] (fun zr zh => tX4_arrivesBeside v4 v1 σ zr zh) (va_cwS 2 C.1.2.2.2.2 gX4_nextArrivals_X4_arrivesBeside rfl rfl rfl (by decide +kernel) ⟨Nat.le_of_ble_eq_true rfl, Nat.le_of_ble_eq_true rfl⟩) rfl rfl (Nat.le_of_ble_eq_true rfl) dX4_nextArrivals_25 (fun r2 => ?_)
      refine J_if_eq (tgt := 46) C dX4_nextArrivals_28 (by decide) ?_ ?_
      · exact jX4_nextArrivals_b46 C hRet v1 v2 v3 v4 hK5
      · refine J_iload_n C 3 rfl rfl dX4_nextArrivals_31 ?_
        refine J_iconst (v := (1 : Int32)) C dX4_nextArrivals_32 (by decide) ?_
        refine J_aload_n C 0 rfl rfl dX4_nextArrivals_33 ?_
        refine J_get C 0 0 4 (C0 := RX4) (T := TX4) (N := 11) (by decide +kernel) rfl rfl (by decide) (by decide +kernel) rfl dX4_nextArrivals_34 ?_
        refine J_getN C 1 0 1 (C0 := RX1) (T := TX1) (N := 4) (host := RX4) (by decide +kernel) rfl rfl (by decide) (by decide +kernel) rfl dX4_nextArrivals_37 ?_
        refine J_iload C 4 rfl dX4_nextArrivals_40 ?_
        refine J_iald C 5 0 rfl rfl dX4_nextArrivals_42 ?_
        refine J_ishl C dX4_nextArrivals_43 ?_
        refine J_ior C dX4_nextArrivals_44 ?_
        refine J_istore_n C rfl dX4_nextArrivals_45 (by decide) rfl ?_
        refine J_lv [1, 2, 3, 0, 4] rfl ?_
        exact jX4_nextArrivals_b46 C hRet v1 v2 (v3 ||| ((1 : Int32) <<< ((σ 5 v4.toNatClampNeg) &&& 31))) v4 hK5
set_option maxHeartbeats 4000000 in
set_option maxRecDepth 100000 in
theorem tX4_nextArrivals {l : Launch} {D : va_G} {ad : Nat → Nat} {cyI cyZ : ClassId} (v1 v2 : Int32) (σ : St) (r : Int32) (h : fX4_nextArrivals v1 v2 σ = some r) : MI l D [(cyI, .int), (cyZ, .boolean)] (wX ad cyI cyZ) yX4_nextArrivals wsX4_nextArrivals ({ frames := 3, cells := 0, slots := 0, locals := 63 } : Room) [.ref (ad 0), .int v1, .int v2] σ r σ := by
  refine entryPI (own := RX4) r (by decide +kernel) rfl rfl (Nat.le_of_ble_eq_true rfl) (fX4_nextArrivals v1 v2 σ) h ?_
  intro p e s m below meth c Q A C hRet
  generalize ([.ref (ad 0), .int v1, .int v2] : List Value).toArray = args at *
  show J p l e ({ frames := 3, cells := 0, slots := 0, locals := 63 } : Room) s m args below meth c 5 D A (wX ad cyI cyZ) Q r (fX4_nextArrivals v1 v2 σ) σ 0 [(0, .ref (ad 0)), (1, .int v1), (2, .int v2)] []
  unfold fX4_nextArrivals
  refine J_iconst (v := (0 : Int32)) C dX4_nextArrivals_0 (by decide) ?_
  refine J_istore_n C rfl dX4_nextArrivals_1 (by decide) rfl ?_
  refine J_iconst (v := (0 : Int32)) C dX4_nextArrivals_2 (by decide) ?_
  refine J_istore C dX4_nextArrivals_3 (by decide) rfl ?_
  refine J_lv [2, 3, 4, 1, 0] rfl ?_
  exact jX4_nextArrivals_L5 C hRet v1 v2 fuel (0 : Int32) (0 : Int32)
-- X4_hostsReached
set_option maxHeartbeats 4000000 in
set_option maxRecDepth 100000 in
theorem jX4_hostsReached_L33  {o0 : Int32} {σ : St} (C : Cxt p s m args c cX4_hostsReached 7 wsX4_hostsReached RX4 D [(cyI, .int), (cyZ, .boolean)] A) (hRet : ∀ (v : Int32) (pc : Nat) (lv : List (Nat × Value)), decode cX4_hostsReached pc = .ok (.ireturn, 1) → J p l e ({ frames := 4, cells := 0, slots := 0, locals := 87 } : Room) s m args below meth c 7 D A (wX ad cyI cyZ) Q o0 (some v) σ pc lv [.int v]) (v1 v2 v3 : Int32) (n : Nat) (v4 v5 v6 : Int32) : J p l e ({ frames := 4, cells := 0, slots := 0, locals := 87 } : Room) s m args below meth c 7 D A (wX ad cyI cyZ) Q o0 (loop3 (fX4_hostsReached_b33 v1 v2 v3 σ) n v4 v5 v6) σ 33 [(0, .ref (ad 0)), (1, .int v1), (2, .int v2), (3, .int v3), (4, .int v4), (5, .int v5), (6, .int v6)] [] := by
  refine J_loop3 (pc := 33) (fun v4 v5 v6 => [(0, .ref (ad 0)), (1, .int v1), (2, .int v2), (3, .int v3), (4, .int v4), (5, .int v5), (6, .int v6)]) (fX4_hostsReached_b33 v1 v2 v3 σ) ?_ n v4 v5 v6
  intro K33 hK33 v4 v5 v6
  unfold fX4_hostsReached_b33
  refine J_iload C 6 rfl dX4_hostsReached_33 ?_
  refine J_iconst (v := (5 : Int32)) C dX4_hostsReached_35 (by decide) ?_
  refine J_icmp_ge (tgt := 64) C dX4_hostsReached_36 (by decide) ?_ ?_
  · refine J_iload C 4 rfl dX4_hostsReached_64 ?_
    exact hRet v4 _ _ dX4_hostsReached_66
  · refine J_aload_n C 0 rfl rfl dX4_hostsReached_39 ?_
    refine J_iload C 5 rfl dX4_hostsReached_40 ?_
    refine J_iload_n C 2 rfl rfl dX4_hostsReached_42 ?_
    refine J_callP_V C [.int v5, .int v2] 0 4 rfl rfl (fun zr zh => tX4_nextArrivals v5 v2 σ zr zh) (cwV 2 C.1.2.2.2.2 gX4_hostsReached_X4_nextArrivals rfl rfl rfl (by decide +kernel) ⟨Nat.le_of_ble_eq_true rfl, Nat.le_of_ble_eq_true rfl⟩) rfl rfl (Nat.le_of_ble_eq_true rfl) dX4_hostsReached_43 (fun r1 => ?_)
    refine J_istore C dX4_hostsReached_46 (by decide) rfl ?_
    refine J_iload C 5 rfl dX4_hostsReached_48 ?_
    refine J_iload C 0 rfl dX4_hostsReached_50 ?_
    refine J_bipush (v := (20 : Int32)) C dX4_hostsReached_52 (by decide) ?_
    refine J_iushr C dX4_hostsReached_54 ?_
    refine J_ior C dX4_hostsReached_55 ?_
    refine J_istore C dX4_hostsReached_56 (by decide) rfl ?_
    refine J_iinc (d := (1 : Int32)) C 6 rfl dX4_hostsReached_58 (by decide) (by decide) rfl ?_
    refine J_goto (tgt := 33) C dX4_hostsReached_61 (by decide) ?_
    refine J_lv [3, 4, 5, 6, 1, 2, 0] rfl ?_
    exact hK33 (v4 ||| ((r1.toUInt32 >>> ((20 : Int32).toUInt32 &&& Int32.toUInt32 31)).toInt32)) r1 (v6 + (1 : Int32))
set_option maxHeartbeats 4000000 in
set_option maxRecDepth 100000 in
theorem tX4_hostsReached {l : Launch} {D : va_G} {ad : Nat → Nat} {cyI cyZ : ClassId} (v1 v2 : Int32) (σ : St) (r : Int32) (h : fX4_hostsReached v1 v2 σ = some r) : MI l D [(cyI, .int), (cyZ, .boolean)] (wX ad cyI cyZ) yX4_hostsReached wsX4_hostsReached ({ frames := 4, cells := 0, slots := 0, locals := 87 } : Room) [.ref (ad 0), .int v1, .int v2] σ r σ := by
  refine entryPI (own := RX4) r (by decide +kernel) rfl rfl (Nat.le_of_ble_eq_true rfl) (fX4_hostsReached v1 v2 σ) h ?_
  intro p e s m below meth c Q A C hRet
  generalize ([.ref (ad 0), .int v1, .int v2] : List Value).toArray = args at *
  show J p l e ({ frames := 4, cells := 0, slots := 0, locals := 87 } : Room) s m args below meth c 7 D A (wX ad cyI cyZ) Q r (fX4_hostsReached v1 v2 σ) σ 0 [(0, .ref (ad 0)), (1, .int v1), (2, .int v2)] []
  unfold fX4_hostsReached
  refine J_aload_n C 0 rfl rfl dX4_hostsReached_0 ?_
  refine J_get C 0 0 4 (C0 := RX4) (T := TX4) (N := 11) (by decide +kernel) rfl rfl (by decide) (by decide +kernel) rfl dX4_hostsReached_1 ?_
  refine J_getN C 1 0 1 (C0 := RX1) (T := TX1) (N := 4) (host := RX4) (by decide +kernel) rfl rfl (by decide) (by decide +kernel) rfl dX4_hostsReached_4 ?_
  refine J_bipush (v := (20 : Int32)) C dX4_hostsReached_7 (by decide) ?_
  refine J_iload_n C 1 rfl rfl dX4_hostsReached_9 ?_
  refine J_iadd C dX4_hostsReached_10 ?_
  refine J_iald C 5 0 rfl rfl dX4_hostsReached_11 ?_
  refine J_istore_n C rfl dX4_hostsReached_12 (by decide) rfl ?_
  refine J_iload_n C 0 rfl rfl dX4_hostsReached_13 ?_
  refine J_callP_S C [.int (σ 5 ((20 : Int32) + v1).toNatClampNeg)] (fun zr zh => tX4_isPort (σ 5 ((20 : Int32) + v1).toNatClampNeg) σ zr zh) (va_cwS 1 C.1.2.2.2.2 gX4_hostsReached_X4_isPort rfl rfl rfl (by decide +kernel) ⟨Nat.le_of_ble_eq_true rfl, Nat.le_of_ble_eq_true rfl⟩) rfl rfl (Nat.le_of_ble_eq_true rfl) dX4_hostsReached_14 (fun r1 => ?_)
  refine J_if_ne (tgt := 22) C dX4_hostsReached_17 (by decide) ?_ ?_
  · refine J_iconst (v := (0 : Int32)) C dX4_hostsReached_22 (by decide) ?_
    refine J_istore C dX4_hostsReached_23 (by decide) rfl ?_
    refine J_iconst (v := (1 : Int32)) C dX4_hostsReached_25 (by decide) ?_
    refine J_iload_n C 1 rfl rfl dX4_hostsReached_26 ?_
    refine J_ishl C dX4_hostsReached_27 ?_
    refine J_istore C dX4_hostsReached_28 (by decide) rfl ?_
    refine J_iconst (v := (0 : Int32)) C dX4_hostsReached_30 (by decide) ?_
    refine J_istore C dX4_hostsReached_31 (by decide) rfl ?_
    refine J_lv [4, 5, 6, 3, 2, 1, 0] rfl ?_
    exact jX4_hostsReached_L33 C hRet v1 v2 (σ 5 ((20 : Int32) + v1).toNatClampNeg) fuel (0 : Int32) ((1 : Int32) <<< ((σ 5 ((20 : Int32) + v1).toNatClampNeg) &&& 31)) (0 : Int32)
  · refine J_iconst (v := (0 : Int32)) C dX4_hostsReached_20 (by decide) ?_
    exact hRet (0 : Int32) _ _ dX4_hostsReached_21
-- X4_receivers
set_option maxHeartbeats 4000000 in
set_option maxRecDepth 100000 in
theorem tX4_receivers {l : Launch} {D : va_G} {ad : Nat → Nat} {cyI cyZ : ClassId} (v1 v2 : Int32) (σ : St) (r : Int32) (h : fX4_receivers v1 v2 σ = some r) : MI l D [(cyI, .int), (cyZ, .boolean)] (wX ad cyI cyZ) yX4_receivers wsX4_receivers ({ frames := 5, cells := 0, slots := 0, locals := 113 } : Room) [.ref (ad 0), .int v1, .int v2] σ r σ := by
  refine entryPI (own := RX4) r (by decide +kernel) rfl rfl (Nat.le_of_ble_eq_true rfl) (fX4_receivers v1 v2 σ) h ?_
  intro p e s m below meth c Q A C hRet
  generalize ([.ref (ad 0), .int v1, .int v2] : List Value).toArray = args at *
  show J p l e ({ frames := 5, cells := 0, slots := 0, locals := 113 } : Room) s m args below meth c 4 D A (wX ad cyI cyZ) Q r (fX4_receivers v1 v2 σ) σ 0 [(0, .ref (ad 0)), (1, .int v1), (2, .int v2)] []
  unfold fX4_receivers
  refine J_aload_n C 0 rfl rfl dX4_receivers_0 ?_
  refine J_iload_n C 1 rfl rfl dX4_receivers_1 ?_
  refine J_iload_n C 2 rfl rfl dX4_receivers_2 ?_
  refine J_callP_V C [.int v1, .int v2] 0 4 rfl rfl (fun zr zh => tX4_cellOfHost v1 v2 σ zr zh) (cwV 2 C.1.2.2.2.2 gX4_receivers_X4_cellOfHost rfl rfl rfl (by decide +kernel) ⟨Nat.le_of_ble_eq_true rfl, Nat.le_of_ble_eq_true rfl⟩) rfl rfl (Nat.le_of_ble_eq_true rfl) dX4_receivers_3 (fun r1 => ?_)
  refine J_istore_n C rfl dX4_receivers_6 (by decide) rfl ?_
  refine J_iload_n C 0 rfl rfl dX4_receivers_7 ?_
  refine J_if_ge (tgt := 15) C dX4_receivers_8 (by decide) ?_ ?_
  · refine J_aload_n C 1 rfl rfl dX4_receivers_15 ?_
    refine J_iload_n C 2 rfl rfl dX4_receivers_16 ?_
    refine J_iload_n C 3 rfl rfl dX4_receivers_17 ?_
    refine J_callP_V C [.int v1, .int v2] 0 4 rfl rfl (fun zr zh => tX4_hostsReached v1 v2 σ zr zh) (cwV 2 C.1.2.2.2.2 gX4_receivers_X4_hostsReached rfl rfl rfl (by decide +kernel) ⟨Nat.le_of_ble_eq_true rfl, Nat.le_of_ble_eq_true rfl⟩) rfl rfl (Nat.le_of_ble_eq_true rfl) dX4_receivers_18 (fun r2 => ?_)
    exact hRet r2 _ _ dX4_receivers_21
  · refine J_iload_n C 0 rfl rfl dX4_receivers_11 ?_
    refine J_goto (tgt := 21) C dX4_receivers_12 (by decide) ?_
    exact hRet r1 _ _ dX4_receivers_21
-- X4_bridgesBetweenHosts
set_option maxHeartbeats 4000000 in
set_option maxRecDepth 100000 in
theorem tX4_bridgesBetweenHosts {l : Launch} {D : va_G} {ad : Nat → Nat} {cyI cyZ : ClassId} (v1 v2 : Int32) (σ : St) (r : Int32) (h : fX4_bridgesBetweenHosts v1 v2 σ = some r) : MI l D [(cyI, .int), (cyZ, .boolean)] (wX ad cyI cyZ) yX4_bridgesBetweenHosts wsX4_bridgesBetweenHosts ({ frames := 3, cells := 0, slots := 0, locals := 69 } : Room) [.ref (ad 0), .int v1, .int v2] σ r σ := by
  refine entryPI (own := RX4) r (by decide +kernel) rfl rfl (Nat.le_of_ble_eq_true rfl) (fX4_bridgesBetweenHosts v1 v2 σ) h ?_
  intro p e s m below meth c Q A C hRet
  generalize ([.ref (ad 0), .int v1, .int v2] : List Value).toArray = args at *
  show J p l e ({ frames := 3, cells := 0, slots := 0, locals := 69 } : Room) s m args below meth c 5 D A (wX ad cyI cyZ) Q r (fX4_bridgesBetweenHosts v1 v2 σ) σ 0 [(0, .ref (ad 0)), (1, .int v1), (2, .int v2)] []
  unfold fX4_bridgesBetweenHosts
  refine J_aload_n C 0 rfl rfl dX4_bridgesBetweenHosts_0 ?_
  refine J_get C 0 0 4 (C0 := RX4) (T := TX4) (N := 11) (by decide +kernel) rfl rfl (by decide) (by decide +kernel) rfl dX4_bridgesBetweenHosts_1 ?_
  refine J_getN C 1 0 1 (C0 := RX1) (T := TX1) (N := 4) (host := RX4) (by decide +kernel) rfl rfl (by decide) (by decide +kernel) rfl dX4_bridgesBetweenHosts_4 ?_
  refine J_bipush (v := (20 : Int32)) C dX4_bridgesBetweenHosts_7 (by decide) ?_
  refine J_iload_n C 1 rfl rfl dX4_bridgesBetweenHosts_9 ?_
  refine J_iadd C dX4_bridgesBetweenHosts_10 ?_
  refine J_iald C 5 0 rfl rfl dX4_bridgesBetweenHosts_11 ?_
  refine J_istore_n C rfl dX4_bridgesBetweenHosts_12 (by decide) rfl ?_
  refine J_aload_n C 1 rfl rfl dX4_bridgesBetweenHosts_13 ?_
  refine J_get C 0 0 4 (C0 := RX4) (T := TX4) (N := 11) (by decide +kernel) rfl rfl (by decide) (by decide +kernel) rfl dX4_bridgesBetweenHosts_14 ?_
  refine J_getN C 1 0 1 (C0 := RX1) (T := TX1) (N := 4) (host := RX4) (by decide +kernel) rfl rfl (by decide) (by decide +kernel) rfl dX4_bridgesBetweenHosts_17 ?_
  refine J_bipush (v := (20 : Int32)) C dX4_bridgesBetweenHosts_20 (by decide) ?_
  refine J_iload_n C 3 rfl rfl dX4_bridgesBetweenHosts_22 ?_
  refine J_iadd C dX4_bridgesBetweenHosts_23 ?_
  refine J_iald C 5 0 rfl rfl dX4_bridgesBetweenHosts_24 ?_
  refine J_istore C dX4_bridgesBetweenHosts_25 (by decide) rfl ?_
  refine J_iload_n C 1 rfl rfl dX4_bridgesBetweenHosts_27 ?_
  refine J_callP_S C [.int (σ 5 ((20 : Int32) + v1).toNatClampNeg)] (fun zr zh => tX4_isPort (σ 5 ((20 : Int32) + v1).toNatClampNeg) σ zr zh) (va_cwS 1 C.1.2.2.2.2 gX4_bridgesBetweenHosts_X4_isPort rfl rfl rfl (by decide +kernel) ⟨Nat.le_of_ble_eq_true rfl, Nat.le_of_ble_eq_true rfl⟩) rfl rfl (Nat.le_of_ble_eq_true rfl) dX4_bridgesBetweenHosts_28 (fun r1 => ?_)
  refine J_if_eq (tgt := 42) C dX4_bridgesBetweenHosts_31 (by decide) ?_ ?_
  · refine J_iconst (v := (0 : Int32)) C dX4_bridgesBetweenHosts_42 (by decide) ?_
    exact hRet (0 : Int32) _ _ dX4_bridgesBetweenHosts_43
  · refine J_iload C 0 rfl dX4_bridgesBetweenHosts_34 ?_
    refine J_callP_S C [.int (σ 5 ((20 : Int32) + v2).toNatClampNeg)] (fun zr zh => tX4_isPort (σ 5 ((20 : Int32) + v2).toNatClampNeg) σ zr zh) (va_cwS 1 C.1.2.2.2.2 gX4_bridgesBetweenHosts_X4_isPort rfl rfl rfl (by decide +kernel) ⟨Nat.le_of_ble_eq_true rfl, Nat.le_of_ble_eq_true rfl⟩) rfl rfl (Nat.le_of_ble_eq_true rfl) dX4_bridgesBetweenHosts_36 (fun r2 => ?_)
    refine J_if_ne (tgt := 44) C dX4_bridgesBetweenHosts_39 (by decide) ?_ ?_
    · refine J_aload_n C 2 rfl rfl dX4_bridgesBetweenHosts_44 ?_
      refine J_get C 0 0 4 (C0 := RX4) (T := TX4) (N := 11) (by decide +kernel) rfl rfl (by decide) (by decide +kernel) rfl dX4_bridgesBetweenHosts_45 ?_
      refine J_iload_n C 1 rfl rfl dX4_bridgesBetweenHosts_48 ?_
      refine J_callP_S C [.int (σ 5 ((20 : Int32) + v1).toNatClampNeg)] (fun zr zh => tX4_bridgeOf (σ 5 ((20 : Int32) + v1).toNatClampNeg) σ zr zh) (va_cwS 1 C.1.2.2.2.2 gX4_bridgesBetweenHosts_X4_bridgeOf rfl rfl rfl (by decide +kernel) ⟨Nat.le_of_ble_eq_true rfl, Nat.le_of_ble_eq_true rfl⟩) rfl rfl (Nat.le_of_ble_eq_true rfl) dX4_bridgesBetweenHosts_49 (fun r3 => ?_)
      refine J_iload C 0 rfl dX4_bridgesBetweenHosts_52 ?_
      refine J_callP_S C [.int (σ 5 ((20 : Int32) + v2).toNatClampNeg)] (fun zr zh => tX4_bridgeOf (σ 5 ((20 : Int32) + v2).toNatClampNeg) σ zr zh) (va_cwS 1 C.1.2.2.2.2 gX4_bridgesBetweenHosts_X4_bridgeOf rfl rfl rfl (by decide +kernel) ⟨Nat.le_of_ble_eq_true rfl, Nat.le_of_ble_eq_true rfl⟩) rfl rfl (Nat.le_of_ble_eq_true rfl) dX4_bridgesBetweenHosts_54 (fun r4 => ?_)
      refine J_callP_VN C [.int r3, .int r4] 1 1 rfl rfl (fun zr zh => tX1_bridgesOnWay r3 r4 σ zr zh) (⟨va_cnB (host := RX4) 2 C.1.2.2.2.2 gX4_bridgesBetweenHosts_X1_bridgesOnWay_n72 rfl rfl rfl (C.2.2.2 _ (by decide +kernel)) (C.1.2.2.2.2 (.initialized RX1) (by decide +kernel)) (by decide +kernel) ⟨Nat.le_of_ble_eq_true rfl, Nat.le_of_ble_eq_true rfl⟩, C.1.2.2.2.2 (.instanceMethod yX1_bridgesOnWay) (by decide +kernel), C.1.2.2.2.2 (.selects RX1 yX1_bridgesOnWay yX1_bridgesOnWay) (by decide +kernel)⟩) rfl rfl (Nat.le_of_ble_eq_true rfl) dX4_bridgesBetweenHosts_57 (fun r5 => ?_)
      exact hRet r5 _ _ dX4_bridgesBetweenHosts_60
    · refine J_iconst (v := (0 : Int32)) C dX4_bridgesBetweenHosts_42 (by decide) ?_
      exact hRet (0 : Int32) _ _ dX4_bridgesBetweenHosts_43
end
