-- printed by wip/whole/walk.py
section
variable {p : Program} {l : Launch} {e : Env} {s : State} {m : MethodId} {args : Array Value} {below : List Frame} {meth : Method} {c : Code} {D : va_G} {A : Nat → Prop} {Q : State → Prop} {ad : Nat → Nat} {cyI cyZ : ClassId}
-- X4_cut
set_option maxHeartbeats 4000000 in
set_option maxRecDepth 100000 in
theorem tX4_cut {l : Launch} {D : va_G} {ad : Nat → Nat} {cyI cyZ : ClassId} (v1 v2 : Int32) (σ : St) (r : Int32) (σ1 : St) (h : fX4_cut v1 v2 σ = some (r, σ1)) : MI l D [(cyI, .int), (cyZ, .boolean)] (wX ad cyI cyZ) yX4_cut wsX4_cut ({ frames := 2, cells := 0, slots := 0, locals := 45 } : Room) [.ref (ad 0), .int v1, .int v2] σ r σ1 := by
  refine entryI (own := RX4) r σ1 (by decide +kernel) rfl rfl (Nat.le_of_ble_eq_true rfl) (fX4_cut v1 v2 σ) h ?_
  intro p e s m below meth c Q A C hRet
  generalize ([.ref (ad 0), .int v1, .int v2] : List Value).toArray = args at *
  show J p l e ({ frames := 2, cells := 0, slots := 0, locals := 45 } : Room) s m args below meth c 5 D A (wX ad cyI cyZ) Q (r, σ1) (fX4_cut v1 v2 σ) σ 0 [(0, .ref (ad 0)), (1, .int v1), (2, .int v2)] []
  unfold fX4_cut
  refine J_aload_n C 0 rfl rfl dX4_cut_0 ?_
  refine J_get C 0 0 4 (C0 := RX4) (T := TX4) (N := 11) (by decide +kernel) rfl rfl (by decide) (by decide +kernel) rfl dX4_cut_1 ?_
  refine J_iload_n C 1 rfl rfl dX4_cut_4 ?_
  refine J_iload_n C 2 rfl rfl dX4_cut_5 ?_
  refine J_callP_VN C [.int v1, .int v2] 1 1 rfl rfl (fun zr zh => tX1_stationOfPort v1 v2 σ zr zh) (⟨va_cnB (host := RX4) 2 C.1.2.2.2.2 gX4_cut_X1_stationOfPort_n64 rfl rfl rfl (C.2.2.2 _ (by decide +kernel)) (C.1.2.2.2.2 (.initialized RX1) (by decide +kernel)) (by decide +kernel) ⟨Nat.le_of_ble_eq_true rfl, Nat.le_of_ble_eq_true rfl⟩, C.1.2.2.2.2 (.instanceMethod yX1_stationOfPort) (by decide +kernel), C.1.2.2.2.2 (.selects RX1 yX1_stationOfPort yX1_stationOfPort) (by decide +kernel)⟩) rfl rfl (Nat.le_of_ble_eq_true rfl) dX4_cut_6 (fun r1 => ?_)
  refine J_istore_n C rfl dX4_cut_9 (by decide) rfl ?_
  refine J_iload_n C 0 rfl rfl dX4_cut_10 ?_
  refine J_if_ge (tgt := 16) C dX4_cut_11 (by decide) ?_ ?_
  · refine J_aload_n C 1 rfl rfl dX4_cut_16 ?_
    refine J_get C 0 0 4 (C0 := RX4) (T := TX4) (N := 11) (by decide +kernel) rfl rfl (by decide) (by decide +kernel) rfl dX4_cut_17 ?_
    refine J_getN C 1 0 1 (C0 := RX1) (T := TX1) (N := 4) (host := RX4) (by decide +kernel) rfl rfl (by decide) (by decide +kernel) rfl dX4_cut_20 ?_
    refine J_iload_n C 0 rfl rfl dX4_cut_23 ?_
    refine J_iald C 5 0 rfl rfl dX4_cut_24 ?_
    refine J_istore C dX4_cut_25 (by decide) rfl ?_
    refine J_iload C 0 rfl dX4_cut_27 ?_
    refine J_callP_S C [.int (σ 5 r1.toNatClampNeg)] (fun zr zh => tX4_isPort (σ 5 r1.toNatClampNeg) σ zr zh) (va_cwS 1 C.1.2.2.2.2 gX4_cut_X4_isPort rfl rfl rfl (by decide +kernel) ⟨Nat.le_of_ble_eq_true rfl, Nat.le_of_ble_eq_true rfl⟩) rfl rfl (Nat.le_of_ble_eq_true rfl) dX4_cut_29 (fun r2 => ?_)
    refine J_if_ne (tgt := 38) C dX4_cut_32 (by decide) ?_ ?_
    · refine J_aload_n C 2 rfl rfl dX4_cut_38 ?_
      refine J_get C 0 0 4 (C0 := RX4) (T := TX4) (N := 11) (by decide +kernel) rfl rfl (by decide) (by decide +kernel) rfl dX4_cut_39 ?_
      refine J_iload_n C 1 rfl rfl dX4_cut_42 ?_
      refine J_iload C 0 rfl dX4_cut_43 ?_
      refine J_callV_VN C [.int r1, .int (σ 5 r1.toNatClampNeg)] 1 1 rfl rfl (fun zs zh => tX1_untie r1 (σ 5 r1.toNatClampNeg) σ zs zh) (⟨va_cnB (host := RX4) 2 C.1.2.2.2.2 gX4_cut_X1_untie_n92 rfl rfl rfl (C.2.2.2 _ (by decide +kernel)) (C.1.2.2.2.2 (.initialized RX1) (by decide +kernel)) (by decide +kernel) ⟨Nat.le_of_ble_eq_true rfl, Nat.le_of_ble_eq_true rfl⟩, C.1.2.2.2.2 (.instanceMethod yX1_untie) (by decide +kernel), C.1.2.2.2.2 (.selects RX1 yX1_untie yX1_untie) (by decide +kernel)⟩) rfl rfl (Nat.le_of_ble_eq_true rfl) dX4_cut_45 (fun σ3 => ?_)
      refine J_aload_n C 2 rfl rfl dX4_cut_48 ?_
      refine J_get C 0 0 4 (C0 := RX4) (T := TX4) (N := 11) (by decide +kernel) rfl rfl (by decide) (by decide +kernel) rfl dX4_cut_49 ?_
      refine J_dup C rfl dX4_cut_52 ?_
      refine J_getN C 1 3 1 (C0 := RX1) (T := TX1) (N := 4) (host := RX4) (by decide +kernel) rfl rfl (by decide) (by decide +kernel) rfl dX4_cut_53 ?_
      refine J_iconst (v := (1 : Int32)) C dX4_cut_56 (by decide) ?_
      refine J_isub C dX4_cut_57 ?_
      refine J_putN (σ' := up2 σ3 1 3 ((σ3 1 3) - (1 : Int32))) C 1 3 1 (C0 := RX1) (T := TX1) (N := 4) (host := RX4) tyX1 tyX1_ok nmX1 (by decide +kernel) rfl rfl (by decide) (by decide +kernel) rfl (by decide +kernel) (Nat.le_of_ble_eq_true rfl) (wX_p1_3 _ _ _ _ _) dX4_cut_58 ?_
      refine J_aload_n C 2 rfl rfl dX4_cut_61 ?_
      refine J_iload_n C 1 rfl rfl dX4_cut_62 ?_
      refine J_callV_V C [.int r1] 0 4 rfl rfl (fun zs zh => tX4_clearPort r1 (up2 σ3 1 3 ((σ3 1 3) - (1 : Int32))) zs zh) (cwV 1 C.1.2.2.2.2 gX4_cut_X4_clearPort rfl rfl rfl (by decide +kernel) ⟨Nat.le_of_ble_eq_true rfl, Nat.le_of_ble_eq_true rfl⟩) rfl rfl (Nat.le_of_ble_eq_true rfl) dX4_cut_63 (fun σ4 => ?_)
      refine J_aload_n C 2 rfl rfl dX4_cut_66 ?_
      refine J_iload C 0 rfl dX4_cut_67 ?_
      refine J_callV_V C [.int (σ 5 r1.toNatClampNeg)] 0 4 rfl rfl (fun zs zh => tX4_clearPort (σ 5 r1.toNatClampNeg) σ4 zs zh) (cwV 1 C.1.2.2.2.2 gX4_cut_X4_clearPort rfl rfl rfl (by decide +kernel) ⟨Nat.le_of_ble_eq_true rfl, Nat.le_of_ble_eq_true rfl⟩) rfl rfl (Nat.le_of_ble_eq_true rfl) dX4_cut_69 (fun σ5 => ?_)
      refine J_aload_n C 2 rfl rfl dX4_cut_72 ?_
      refine J_get C 0 0 4 (C0 := RX4) (T := TX4) (N := 11) (by decide +kernel) rfl rfl (by decide) (by decide +kernel) rfl dX4_cut_73 ?_
      refine J_getN C 1 3 1 (C0 := RX1) (T := TX1) (N := 4) (host := RX4) (by decide +kernel) rfl rfl (by decide) (by decide +kernel) rfl dX4_cut_76 ?_
      exact hRet (σ5 1 3) σ5 _ _ dX4_cut_79
    · refine J_bipush (v := (-7 : Int32)) C dX4_cut_35 (by decide) ?_
      exact hRet (-7 : Int32) σ _ _ dX4_cut_37
  · refine J_iload_n C 0 rfl rfl dX4_cut_14 ?_
    exact hRet r1 σ _ _ dX4_cut_15
-- X4_addHost
set_option maxHeartbeats 4000000 in
set_option maxRecDepth 100000 in
theorem tX4_addHost {l : Launch} {D : va_G} {ad : Nat → Nat} {cyI cyZ : ClassId} (v1 v2 : Int32) (σ : St) (r : Int32) (σ1 : St) (h : fX4_addHost v1 v2 σ = some (r, σ1)) : MI l D [(cyI, .int), (cyZ, .boolean)] (wX ad cyI cyZ) yX4_addHost wsX4_addHost ({ frames := 2, cells := 0, slots := 0, locals := 41 } : Room) [.ref (ad 0), .int v1, .int v2] σ r σ1 := by
  refine entryI (own := RX4) r σ1 (by decide +kernel) rfl rfl (Nat.le_of_ble_eq_true rfl) (fX4_addHost v1 v2 σ) h ?_
  intro p e s m below meth c Q A C hRet
  generalize ([.ref (ad 0), .int v1, .int v2] : List Value).toArray = args at *
  show J p l e ({ frames := 2, cells := 0, slots := 0, locals := 41 } : Room) s m args below meth c 5 D A (wX ad cyI cyZ) Q (r, σ1) (fX4_addHost v1 v2 σ) σ 0 [(0, .ref (ad 0)), (1, .int v1), (2, .int v2)] []
  unfold fX4_addHost
  refine J_aload_n C 0 rfl rfl dX4_addHost_0 ?_
  refine J_get C 0 0 4 (C0 := RX4) (T := TX4) (N := 11) (by decide +kernel) rfl rfl (by decide) (by decide +kernel) rfl dX4_addHost_1 ?_
  refine J_iload_n C 1 rfl rfl dX4_addHost_4 ?_
  refine J_iload_n C 2 rfl rfl dX4_addHost_5 ?_
  refine J_callP_VN C [.int v1, .int v2] 1 1 rfl rfl (fun zr zh => tX1_stationOfPort v1 v2 σ zr zh) (⟨va_cnB (host := RX4) 2 C.1.2.2.2.2 gX4_addHost_X1_stationOfPort_n64 rfl rfl rfl (C.2.2.2 _ (by decide +kernel)) (C.1.2.2.2.2 (.initialized RX1) (by decide +kernel)) (by decide +kernel) ⟨Nat.le_of_ble_eq_true rfl, Nat.le_of_ble_eq_true rfl⟩, C.1.2.2.2.2 (.instanceMethod yX1_stationOfPort) (by decide +kernel), C.1.2.2.2.2 (.selects RX1 yX1_stationOfPort yX1_stationOfPort) (by decide +kernel)⟩) rfl rfl (Nat.le_of_ble_eq_true rfl) dX4_addHost_6 (fun r1 => ?_)
  refine J_istore_n C rfl dX4_addHost_9 (by decide) rfl ?_
  refine J_iload_n C 0 rfl rfl dX4_addHost_10 ?_
  refine J_if_ge (tgt := 16) C dX4_addHost_11 (by decide) ?_ ?_
  · refine J_aload_n C 1 rfl rfl dX4_addHost_16 ?_
    refine J_get C 0 0 4 (C0 := RX4) (T := TX4) (N := 11) (by decide +kernel) rfl rfl (by decide) (by decide +kernel) rfl dX4_addHost_17 ?_
    refine J_iload_n C 0 rfl rfl dX4_addHost_20 ?_
    refine J_callP_VN C [.int r1] 1 1 rfl rfl (fun zr zh => tX1_isConnected r1 σ zr zh) (⟨va_cnB (host := RX4) 1 C.1.2.2.2.2 gX4_addHost_X1_isConnected_n68 rfl rfl rfl (C.2.2.2 _ (by decide +kernel)) (C.1.2.2.2.2 (.initialized RX1) (by decide +kernel)) (by decide +kernel) ⟨Nat.le_of_ble_eq_true rfl, Nat.le_of_ble_eq_true rfl⟩, C.1.2.2.2.2 (.instanceMethod yX1_isConnected) (by decide +kernel), C.1.2.2.2.2 (.selects RX1 yX1_isConnected yX1_isConnected) (by decide +kernel)⟩) rfl rfl (Nat.le_of_ble_eq_true rfl) dX4_addHost_21 (fun r2 => ?_)
    refine J_if_eq (tgt := 30) C dX4_addHost_24 (by decide) ?_ ?_
    · refine J_aload_n C 1 rfl rfl dX4_addHost_30 ?_
      refine J_get C 0 0 4 (C0 := RX4) (T := TX4) (N := 11) (by decide +kernel) rfl rfl (by decide) (by decide +kernel) rfl dX4_addHost_31 ?_
      refine J_getN C 1 2 1 (C0 := RX1) (T := TX1) (N := 4) (host := RX4) (by decide +kernel) rfl rfl (by decide) (by decide +kernel) rfl dX4_addHost_34 ?_
      refine J_bipush (v := (8 : Int32)) C dX4_addHost_37 (by decide) ?_
      refine J_icmp_lt (tgt := 45) C dX4_addHost_39 (by decide) ?_ ?_
      · refine J_aload_n C 1 rfl rfl dX4_addHost_45 ?_
        refine J_get C 0 0 4 (C0 := RX4) (T := TX4) (N := 11) (by decide +kernel) rfl rfl (by decide) (by decide +kernel) rfl dX4_addHost_46 ?_
        refine J_getN C 1 2 1 (C0 := RX1) (T := TX1) (N := 4) (host := RX4) (by decide +kernel) rfl rfl (by decide) (by decide +kernel) rfl dX4_addHost_49 ?_
        refine J_istore C dX4_addHost_52 (by decide) rfl ?_
        refine J_aload_n C 2 rfl rfl dX4_addHost_54 ?_
        refine J_get C 0 0 4 (C0 := RX4) (T := TX4) (N := 11) (by decide +kernel) rfl rfl (by decide) (by decide +kernel) rfl dX4_addHost_55 ?_
        refine J_dup C rfl dX4_addHost_58 ?_
        refine J_getN C 1 2 1 (C0 := RX1) (T := TX1) (N := 4) (host := RX4) (by decide +kernel) rfl rfl (by decide) (by decide +kernel) rfl dX4_addHost_59 ?_
        refine J_iconst (v := (1 : Int32)) C dX4_addHost_62 (by decide) ?_
        refine J_iadd C dX4_addHost_63 ?_
        refine J_putN (σ' := up2 σ 1 2 ((σ 1 2) + (1 : Int32))) C 1 2 1 (C0 := RX1) (T := TX1) (N := 4) (host := RX4) tyX1 tyX1_ok nmX1 (by decide +kernel) rfl rfl (by decide) (by decide +kernel) rfl (by decide +kernel) (Nat.le_of_ble_eq_true rfl) (wX_p1_2 _ _ _ _ _) dX4_addHost_64 ?_
        refine J_aload_n C 2 rfl rfl dX4_addHost_67 ?_
        refine J_get C 0 0 4 (C0 := RX4) (T := TX4) (N := 11) (by decide +kernel) rfl rfl (by decide) (by decide +kernel) rfl dX4_addHost_68 ?_
        refine J_iload_n C 1 rfl rfl dX4_addHost_71 ?_
        refine J_bipush (v := (20 : Int32)) C dX4_addHost_72 (by decide) ?_
        refine J_iload C 0 rfl dX4_addHost_74 ?_
        refine J_iadd C dX4_addHost_76 ?_
        refine J_callV_VN C [.int r1, .int ((20 : Int32) + (σ 1 2))] 1 1 rfl rfl (fun zs zh => tX1_tie r1 ((20 : Int32) + (σ 1 2)) (up2 σ 1 2 ((σ 1 2) + (1 : Int32))) zs zh) (⟨va_cnB (host := RX4) 2 C.1.2.2.2.2 gX4_addHost_X1_tie_n75 rfl rfl rfl (C.2.2.2 _ (by decide +kernel)) (C.1.2.2.2.2 (.initialized RX1) (by decide +kernel)) (by decide +kernel) ⟨Nat.le_of_ble_eq_true rfl, Nat.le_of_ble_eq_true rfl⟩, C.1.2.2.2.2 (.instanceMethod yX1_tie) (by decide +kernel), C.1.2.2.2.2 (.selects RX1 yX1_tie yX1_tie) (by decide +kernel)⟩) rfl rfl (Nat.le_of_ble_eq_true rfl) dX4_addHost_77 (fun σ3 => ?_)
        refine J_aload_n C 2 rfl rfl dX4_addHost_80 ?_
        refine J_iload_n C 1 rfl rfl dX4_addHost_81 ?_
        refine J_callV_V C [.int r1] 0 4 rfl rfl (fun zs zh => tX4_startPort r1 σ3 zs zh) (cwV 1 C.1.2.2.2.2 gX4_addHost_X4_startPort rfl rfl rfl (by decide +kernel) ⟨Nat.le_of_ble_eq_true rfl, Nat.le_of_ble_eq_true rfl⟩) rfl rfl (Nat.le_of_ble_eq_true rfl) dX4_addHost_82 (fun σ4 => ?_)
        refine J_iload C 0 rfl dX4_addHost_85 ?_
        exact hRet (σ 1 2) σ4 _ _ dX4_addHost_87
      · refine J_bipush (v := (-5 : Int32)) C dX4_addHost_42 (by decide) ?_
        exact hRet (-5 : Int32) σ _ _ dX4_addHost_44
    · refine J_bipush (v := (-6 : Int32)) C dX4_addHost_27 (by decide) ?_
      exact hRet (-6 : Int32) σ _ _ dX4_addHost_29
  · refine J_iload_n C 0 rfl rfl dX4_addHost_14 ?_
    exact hRet r1 σ _ _ dX4_addHost_15
-- X4_setTimes
set_option maxHeartbeats 4000000 in
set_option maxRecDepth 100000 in
theorem jX4_setTimes_b68 {K40 : Int32 → Int32 → St → Option (Int32 × St)} {o0 : Int32 × St} (C : Cxt p s m args c cX4_setTimes 5 wsX4_setTimes RX4 D [(cyI, .int), (cyZ, .boolean)] A) (hRet : ∀ (v : Int32) (σ2 : St) (pc : Nat) (lv : List (Nat × Value)), decode cX4_setTimes pc = .ok (.ireturn, 1) → J p l e ({ frames := 2, cells := 0, slots := 0, locals := 41 } : Room) s m args below meth c 5 D A (wX ad cyI cyZ) Q o0 (some (v, σ2)) σ2 pc lv [.int v]) (σ : St) (v1 v2 v3 v4 : Int32) (hK40 : ∀ (v3 v4 : Int32) (σ : St), J p l e ({ frames := 2, cells := 0, slots := 0, locals := 41 } : Room) s m args below meth c 5 D A (wX ad cyI cyZ) Q o0 (K40 v3 v4 σ) σ 40 [(0, .ref (ad 0)), (1, .int v1), (2, .int v2), (3, .int v3), (4, .int v4)] []) : J p l e ({ frames := 2, cells := 0, slots := 0, locals := 41 } : Room) s m args below meth c 5 D A (wX ad cyI cyZ) Q o0 (fX4_setTimes_b68 K40 v1 v2 v3 v4 σ) σ 68 [(0, .ref (ad 0)), (1, .int v1), (2, .int v2), (3, .int v3), (4, .int v4)] [] := by
  unfold fX4_setTimes_b68
  refine J_iinc (d := (1 : Int32)) C 4 rfl dX4_setTimes_68 (by decide) (by decide) rfl ?_
  refine J_goto (tgt := 40) C dX4_setTimes_71 (by decide) ?_
  refine J_lv [1, 2, 3, 4, 0] rfl ?_
  exact hK40 v3 (v4 + (1 : Int32)) σ
set_option maxHeartbeats 4000000 in
set_option maxRecDepth 100000 in
theorem jX4_setTimes_L40  {o0 : Int32 × St} (C : Cxt p s m args c cX4_setTimes 5 wsX4_setTimes RX4 D [(cyI, .int), (cyZ, .boolean)] A) (hRet : ∀ (v : Int32) (σ2 : St) (pc : Nat) (lv : List (Nat × Value)), decode cX4_setTimes pc = .ok (.ireturn, 1) → J p l e ({ frames := 2, cells := 0, slots := 0, locals := 41 } : Room) s m args below meth c 5 D A (wX ad cyI cyZ) Q o0 (some (v, σ2)) σ2 pc lv [.int v]) (v1 v2 : Int32) (n : Nat) (v3 v4 : Int32) (σ : St) : J p l e ({ frames := 2, cells := 0, slots := 0, locals := 41 } : Room) s m args below meth c 5 D A (wX ad cyI cyZ) Q o0 (loop2s (fX4_setTimes_b40 v1 v2) n v3 v4 σ) σ 40 [(0, .ref (ad 0)), (1, .int v1), (2, .int v2), (3, .int v3), (4, .int v4)] [] := by
  refine J_loop2s (pc := 40) (fun v3 v4 => [(0, .ref (ad 0)), (1, .int v1), (2, .int v2), (3, .int v3), (4, .int v4)]) (fX4_setTimes_b40 v1 v2) ?_ n v3 v4 σ
  intro K40 hK40 v3 v4 σ
  unfold fX4_setTimes_b40
  refine J_iload C 4 rfl dX4_setTimes_40 ?_
  refine J_bipush (v := (20 : Int32)) C dX4_setTimes_42 (by decide) ?_
  refine J_icmp_ge (tgt := 74) C dX4_setTimes_44 (by decide) ?_ ?_
  · refine J_iload_n C 3 rfl rfl dX4_setTimes_74 ?_
    exact hRet v3 σ _ _ dX4_setTimes_75
  · refine J_aload_n C 0 rfl rfl dX4_setTimes_47 ?_
    refine J_get C 0 0 4 (C0 := RX4) (T := TX4) (N := 11) (by decide +kernel) rfl rfl (by decide) (by decide +kernel) rfl dX4_setTimes_48 ?_
    refine J_iload C 4 rfl dX4_setTimes_51 ?_
    refine J_callP_VN C [.int v4] 1 1 rfl rfl (fun zr zh => tX1_isConnected v4 σ zr zh) (⟨va_cnB (host := RX4) 1 C.1.2.2.2.2 gX4_setTimes_X1_isConnected_n68 rfl rfl rfl (C.2.2.2 _ (by decide +kernel)) (C.1.2.2.2.2 (.initialized RX1) (by decide +kernel)) (by decide +kernel) ⟨Nat.le_of_ble_eq_true rfl, Nat.le_of_ble_eq_true rfl⟩, C.1.2.2.2.2 (.instanceMethod yX1_isConnected) (by decide +kernel), C.1.2.2.2.2 (.selects RX1 yX1_isConnected yX1_isConnected) (by decide +kernel)⟩) rfl rfl (Nat.le_of_ble_eq_true rfl) dX4_setTimes_53 (fun r1 => ?_)
    refine J_if_eq (tgt := 68) C dX4_setTimes_56 (by decide) ?_ ?_
    · exact jX4_setTimes_b68 C hRet σ v1 v2 v3 v4 hK40
    · refine J_aload_n C 0 rfl rfl dX4_setTimes_59 ?_
      refine J_iload C 4 rfl dX4_setTimes_60 ?_
      refine J_callV_V C [.int v4] 0 4 rfl rfl (fun zs zh => tX4_startPort v4 σ zs zh) (cwV 1 C.1.2.2.2.2 gX4_setTimes_X4_startPort rfl rfl rfl (by decide +kernel) ⟨Nat.le_of_ble_eq_true rfl, Nat.le_of_ble_eq_true rfl⟩) rfl rfl (Nat.le_of_ble_eq_true rfl) dX4_setTimes_62 (fun σ2 => ?_)
      refine J_iinc (d := (1 : Int32)) C 3 rfl dX4_setTimes_65 (by decide) (by decide) rfl ?_
      refine J_lv [1, 2, 3, 0, 4] rfl ?_
      exact jX4_setTimes_b68 C hRet σ2 v1 v2 (v3 + (1 : Int32)) v4 hK40
set_option maxHeartbeats 4000000 in
set_option maxRecDepth 100000 in
theorem tX4_setTimes {l : Launch} {D : va_G} {ad : Nat → Nat} {cyI cyZ : ClassId} (v1 v2 : Int32) (σ : St) (r : Int32) (σ1 : St) (h : fX4_setTimes v1 v2 σ = some (r, σ1)) : MI l D [(cyI, .int), (cyZ, .boolean)] (wX ad cyI cyZ) yX4_setTimes wsX4_setTimes ({ frames := 2, cells := 0, slots := 0, locals := 41 } : Room) [.ref (ad 0), .int v1, .int v2] σ r σ1 := by
  refine entryI (own := RX4) r σ1 (by decide +kernel) rfl rfl (Nat.le_of_ble_eq_true rfl) (fX4_setTimes v1 v2 σ) h ?_
  intro p e s m below meth c Q A C hRet
  generalize ([.ref (ad 0), .int v1, .int v2] : List Value).toArray = args at *
  show J p l e ({ frames := 2, cells := 0, slots := 0, locals := 41 } : Room) s m args below meth c 5 D A (wX ad cyI cyZ) Q (r, σ1) (fX4_setTimes v1 v2 σ) σ 0 [(0, .ref (ad 0)), (1, .int v1), (2, .int v2)] []
  unfold fX4_setTimes
  refine J_iload_n C 1 rfl rfl dX4_setTimes_0 ?_
  refine J_iconst (v := (1 : Int32)) C dX4_setTimes_1 (by decide) ?_
  refine J_icmp_lt (tgt := 22) C dX4_setTimes_2 (by decide) ?_ ?_
  · refine J_bipush (v := (-4 : Int32)) C dX4_setTimes_22 (by decide) ?_
    exact hRet (-4 : Int32) σ _ _ dX4_setTimes_24
  · refine J_iload_n C 1 rfl rfl dX4_setTimes_5 ?_
    refine J_bipush (v := (50 : Int32)) C dX4_setTimes_6 (by decide) ?_
    refine J_icmp_gt (tgt := 22) C dX4_setTimes_8 (by decide) ?_ ?_
    · refine J_bipush (v := (-4 : Int32)) C dX4_setTimes_22 (by decide) ?_
      exact hRet (-4 : Int32) σ _ _ dX4_setTimes_24
    · refine J_iload_n C 2 rfl rfl dX4_setTimes_11 ?_
      refine J_if_lt (tgt := 22) C dX4_setTimes_12 (by decide) ?_ ?_
      · refine J_bipush (v := (-4 : Int32)) C dX4_setTimes_22 (by decide) ?_
        exact hRet (-4 : Int32) σ _ _ dX4_setTimes_24
      · refine J_iload_n C 2 rfl rfl dX4_setTimes_15 ?_
        refine J_sipush (v := (200 : Int32)) C dX4_setTimes_16 (by decide) ?_
        refine J_icmp_le (tgt := 25) C dX4_setTimes_19 (by decide) ?_ ?_
        · refine J_aload_n C 0 rfl rfl dX4_setTimes_25 ?_
          refine J_iload_n C 1 rfl rfl dX4_setTimes_26 ?_
          refine J_put (σ' := up2 σ 0 8 v1) C 0 8 4 (C0 := RX4) (T := TX4) (N := 11) tyX4 tyX4_ok nmX4 (by decide +kernel) rfl rfl (by decide) (by decide +kernel) rfl (by decide +kernel) (Nat.le_of_ble_eq_true rfl) (wX_p0_8 _ _ _ _ _) dX4_setTimes_27 ?_
          refine J_aload_n C 0 rfl rfl dX4_setTimes_30 ?_
          refine J_iload_n C 2 rfl rfl dX4_setTimes_31 ?_
          refine J_put (σ' := up2 (up2 σ 0 8 v1) 0 9 v2) C 0 9 4 (C0 := RX4) (T := TX4) (N := 11) tyX4 tyX4_ok nmX4 (by decide +kernel) rfl rfl (by decide) (by decide +kernel) rfl (by decide +kernel) (Nat.le_of_ble_eq_true rfl) (wX_p0_9 _ _ _ _ _) dX4_setTimes_32 ?_
          refine J_iconst (v := (0 : Int32)) C dX4_setTimes_35 (by decide) ?_
          refine J_istore_n C rfl dX4_setTimes_36 (by decide) rfl ?_
          refine J_iconst (v := (0 : Int32)) C dX4_setTimes_37 (by decide) ?_
          refine J_istore C dX4_setTimes_38 (by decide) rfl ?_
          refine J_lv [2, 3, 4, 1, 0] rfl ?_
          exact jX4_setTimes_L40 C hRet v1 v2 fuel (0 : Int32) (0 : Int32) (up2 (up2 σ 0 8 v1) 0 9 v2)
        · refine J_bipush (v := (-4 : Int32)) C dX4_setTimes_22 (by decide) ?_
          exact hRet (-4 : Int32) σ _ _ dX4_setTimes_24
-- X4_isGroup
set_option maxHeartbeats 4000000 in
set_option maxRecDepth 100000 in
theorem tX4_isGroup {l : Launch} {D : va_G} {ad : Nat → Nat} {cyI cyZ : ClassId} (v0 : Int32) (σ : St) (r : Int32) (h : fX4_isGroup v0 σ = some r) : MI l D [(cyI, .int), (cyZ, .boolean)] (wX ad cyI cyZ) yX4_isGroup wsX4_isGroup ({ frames := 0, cells := 0, slots := 0, locals := 0 } : Room) [.int v0] σ r σ := by
  refine entryPZ (own := RX4) r (by decide +kernel) rfl rfl (Nat.le_of_ble_eq_true rfl) (fX4_isGroup v0 σ) h ?_
  intro p e s m below meth c Q A C hRet
  generalize ([.int v0] : List Value).toArray = args at *
  show J p l e ({ frames := 0, cells := 0, slots := 0, locals := 0 } : Room) s m args below meth c 1 D A (wX ad cyI cyZ) Q r (fX4_isGroup v0 σ) σ 0 [(0, .int v0)] []
  unfold fX4_isGroup
  refine J_iload_n C 0 rfl rfl dX4_isGroup_0 ?_
  refine J_if_lt (tgt := 13) C dX4_isGroup_1 (by decide) ?_ ?_
  · refine J_iconst (v := (0 : Int32)) C dX4_isGroup_13 (by decide) ?_
    exact hRet (0 : Int32) _ _ (by decide) dX4_isGroup_14
  · refine J_iload_n C 0 rfl rfl dX4_isGroup_4 ?_
    refine J_iconst (v := (4 : Int32)) C dX4_isGroup_5 (by decide) ?_
    refine J_icmp_ge (tgt := 13) C dX4_isGroup_6 (by decide) ?_ ?_
    · refine J_iconst (v := (0 : Int32)) C dX4_isGroup_13 (by decide) ?_
      exact hRet (0 : Int32) _ _ (by decide) dX4_isGroup_14
    · refine J_iconst (v := (1 : Int32)) C dX4_isGroup_9 (by decide) ?_
      refine J_goto (tgt := 14) C dX4_isGroup_10 (by decide) ?_
      exact hRet (1 : Int32) _ _ (by decide) dX4_isGroup_14
-- X4_cellOfHost
set_option maxHeartbeats 4000000 in
set_option maxRecDepth 100000 in
theorem tX4_cellOfHost {l : Launch} {D : va_G} {ad : Nat → Nat} {cyI cyZ : ClassId} (v1 v2 : Int32) (σ : St) (r : Int32) (h : fX4_cellOfHost v1 v2 σ = some r) : MI l D [(cyI, .int), (cyZ, .boolean)] (wX ad cyI cyZ) yX4_cellOfHost wsX4_cellOfHost ({ frames := 1, cells := 0, slots := 0, locals := 21 } : Room) [.ref (ad 0), .int v1, .int v2] σ r σ := by
  refine entryPI (own := RX4) r (by decide +kernel) rfl rfl (Nat.le_of_ble_eq_true rfl) (fX4_cellOfHost v1 v2 σ) h ?_
  intro p e s m below meth c Q A C hRet
  generalize ([.ref (ad 0), .int v1, .int v2] : List Value).toArray = args at *
  show J p l e ({ frames := 1, cells := 0, slots := 0, locals := 21 } : Room) s m args below meth c 4 D A (wX ad cyI cyZ) Q r (fX4_cellOfHost v1 v2 σ) σ 0 [(0, .ref (ad 0)), (1, .int v1), (2, .int v2)] []
  unfold fX4_cellOfHost
  refine J_aload_n C 0 rfl rfl dX4_cellOfHost_0 ?_
  refine J_get C 0 0 4 (C0 := RX4) (T := TX4) (N := 11) (by decide +kernel) rfl rfl (by decide) (by decide +kernel) rfl dX4_cellOfHost_1 ?_
  refine J_iload_n C 1 rfl rfl dX4_cellOfHost_4 ?_
  refine J_callP_VN C [.int v1] 1 1 rfl rfl (fun zr zh => tX1_stationOfHost v1 σ zr zh) (⟨va_cnB (host := RX4) 1 C.1.2.2.2.2 gX4_cellOfHost_X1_stationOfHost_n110 rfl rfl rfl (C.2.2.2 _ (by decide +kernel)) (C.1.2.2.2.2 (.initialized RX1) (by decide +kernel)) (by decide +kernel) ⟨Nat.le_of_ble_eq_true rfl, Nat.le_of_ble_eq_true rfl⟩, C.1.2.2.2.2 (.instanceMethod yX1_stationOfHost) (by decide +kernel), C.1.2.2.2.2 (.selects RX1 yX1_stationOfHost yX1_stationOfHost) (by decide +kernel)⟩) rfl rfl (Nat.le_of_ble_eq_true rfl) dX4_cellOfHost_5 (fun r1 => ?_)
  refine J_istore_n C rfl dX4_cellOfHost_8 (by decide) rfl ?_
  refine J_iload_n C 0 rfl rfl dX4_cellOfHost_9 ?_
  refine J_if_ge (tgt := 15) C dX4_cellOfHost_10 (by decide) ?_ ?_
  · refine J_iload_n C 3 rfl rfl dX4_cellOfHost_15 ?_
    refine J_callP_S C [.int v2] (fun zr zh => tX4_isGroup v2 σ zr zh) (va_cwS 1 C.1.2.2.2.2 gX4_cellOfHost_X4_isGroup rfl rfl rfl (by decide +kernel) ⟨Nat.le_of_ble_eq_true rfl, Nat.le_of_ble_eq_true rfl⟩) rfl rfl (Nat.le_of_ble_eq_true rfl) dX4_cellOfHost_16 (fun r2 => ?_)
    refine J_if_eq (tgt := 30) C dX4_cellOfHost_19 (by decide) ?_ ?_
    · refine J_bipush (v := (-3 : Int32)) C dX4_cellOfHost_30 (by decide) ?_
      exact hRet (-3 : Int32) _ _ dX4_cellOfHost_32
    · refine J_iload_n C 0 rfl rfl dX4_cellOfHost_22 ?_
      refine J_iload_n C 3 rfl rfl dX4_cellOfHost_23 ?_
      refine J_callP_S C [.int r1, .int v2] (fun zr zh => tX4_cellOf r1 v2 σ zr zh) (va_cwS 2 C.1.2.2.2.2 gX4_cellOfHost_X4_cellOf rfl rfl rfl (by decide +kernel) ⟨Nat.le_of_ble_eq_true rfl, Nat.le_of_ble_eq_true rfl⟩) rfl rfl (Nat.le_of_ble_eq_true rfl) dX4_cellOfHost_24 (fun r3 => ?_)
      refine J_goto (tgt := 32) C dX4_cellOfHost_27 (by decide) ?_
      exact hRet r3 _ _ dX4_cellOfHost_32
  · refine J_iload_n C 0 rfl rfl dX4_cellOfHost_13 ?_
    exact hRet r1 _ _ dX4_cellOfHost_14
-- X4_join
set_option maxHeartbeats 4000000 in
set_option maxRecDepth 100000 in
theorem tX4_join {l : Launch} {D : va_G} {ad : Nat → Nat} {cyI cyZ : ClassId} (v1 v2 : Int32) (σ : St) (r : Int32) (σ1 : St) (h : fX4_join v1 v2 σ = some (r, σ1)) : MI l D [(cyI, .int), (cyZ, .boolean)] (wX ad cyI cyZ) yX4_join wsX4_join ({ frames := 2, cells := 0, slots := 0, locals := 44 } : Room) [.ref (ad 0), .int v1, .int v2] σ r σ1 := by
  refine entryI (own := RX4) r σ1 (by decide +kernel) rfl rfl (Nat.le_of_ble_eq_true rfl) (fX4_join v1 v2 σ) h ?_
  intro p e s m below meth c Q A C hRet
  generalize ([.ref (ad 0), .int v1, .int v2] : List Value).toArray = args at *
  show J p l e ({ frames := 2, cells := 0, slots := 0, locals := 44 } : Room) s m args below meth c 4 D A (wX ad cyI cyZ) Q (r, σ1) (fX4_join v1 v2 σ) σ 0 [(0, .ref (ad 0)), (1, .int v1), (2, .int v2)] []
  unfold fX4_join
  refine J_aload_n C 0 rfl rfl dX4_join_0 ?_
  refine J_iload_n C 1 rfl rfl dX4_join_1 ?_
  refine J_iload_n C 2 rfl rfl dX4_join_2 ?_
  refine J_callP_V C [.int v1, .int v2] 0 4 rfl rfl (fun zr zh => tX4_cellOfHost v1 v2 σ zr zh) (cwV 2 C.1.2.2.2.2 gX4_join_X4_cellOfHost rfl rfl rfl (by decide +kernel) ⟨Nat.le_of_ble_eq_true rfl, Nat.le_of_ble_eq_true rfl⟩) rfl rfl (Nat.le_of_ble_eq_true rfl) dX4_join_3 (fun r1 => ?_)
  refine J_istore_n C rfl dX4_join_6 (by decide) rfl ?_
  refine J_iload_n C 0 rfl rfl dX4_join_7 ?_
  refine J_if_ge (tgt := 13) C dX4_join_8 (by decide) ?_ ?_
  · refine J_aload_n C 1 rfl rfl dX4_join_13 ?_
    refine J_get C 0 2 4 (C0 := RX4) (T := TX4) (N := 11) (by decide +kernel) rfl rfl (by decide) (by decide +kernel) rfl dX4_join_14 ?_
    refine J_iload_n C 0 rfl rfl dX4_join_17 ?_
    refine J_callI_VN C [.int r1] 3 0 rfl rfl (fun zr zs zh => tX0_startDeclaring r1 σ zr zs zh) (⟨va_cnB (host := RX4) 1 C.1.2.2.2.2 gX4_join_X0_startDeclaring_n104 rfl rfl rfl (C.2.2.2 _ (by decide +kernel)) (C.1.2.2.2.2 (.initialized RX0) (by decide +kernel)) (by decide +kernel) ⟨Nat.le_of_ble_eq_true rfl, Nat.le_of_ble_eq_true rfl⟩, C.1.2.2.2.2 (.instanceMethod yX0_startDeclaring) (by decide +kernel), C.1.2.2.2.2 (.selects RX0 yX0_startDeclaring yX0_startDeclaring) (by decide +kernel)⟩) rfl rfl (Nat.le_of_ble_eq_true rfl) dX4_join_18 (fun r2 σ2 => ?_)
    refine J_if_eq (tgt := 28) C dX4_join_21 (by decide) ?_ ?_
    · refine J_iconst (v := (0 : Int32)) C dX4_join_28 (by decide) ?_
      exact hRet (0 : Int32) σ2 _ _ dX4_join_29
    · refine J_iconst (v := (1 : Int32)) C dX4_join_24 (by decide) ?_
      refine J_goto (tgt := 29) C dX4_join_25 (by decide) ?_
      exact hRet (1 : Int32) σ2 _ _ dX4_join_29
  · refine J_iload_n C 0 rfl rfl dX4_join_11 ?_
    exact hRet r1 σ _ _ dX4_join_12
-- X4_leave
set_option maxHeartbeats 4000000 in
set_option maxRecDepth 100000 in
theorem tX4_leave {l : Launch} {D : va_G} {ad : Nat → Nat} {cyI cyZ : ClassId} (v1 v2 : Int32) (σ : St) (r : Int32) (σ1 : St) (h : fX4_leave v1 v2 σ = some (r, σ1)) : MI l D [(cyI, .int), (cyZ, .boolean)] (wX ad cyI cyZ) yX4_leave wsX4_leave ({ frames := 2, cells := 0, slots := 0, locals := 44 } : Room) [.ref (ad 0), .int v1, .int v2] σ r σ1 := by
  refine entryI (own := RX4) r σ1 (by decide +kernel) rfl rfl (Nat.le_of_ble_eq_true rfl) (fX4_leave v1 v2 σ) h ?_
  intro p e s m below meth c Q A C hRet
  generalize ([.ref (ad 0), .int v1, .int v2] : List Value).toArray = args at *
  show J p l e ({ frames := 2, cells := 0, slots := 0, locals := 44 } : Room) s m args below meth c 4 D A (wX ad cyI cyZ) Q (r, σ1) (fX4_leave v1 v2 σ) σ 0 [(0, .ref (ad 0)), (1, .int v1), (2, .int v2)] []
  unfold fX4_leave
  refine J_aload_n C 0 rfl rfl dX4_leave_0 ?_
  refine J_iload_n C 1 rfl rfl dX4_leave_1 ?_
  refine J_iload_n C 2 rfl rfl dX4_leave_2 ?_
  refine J_callP_V C [.int v1, .int v2] 0 4 rfl rfl (fun zr zh => tX4_cellOfHost v1 v2 σ zr zh) (cwV 2 C.1.2.2.2.2 gX4_leave_X4_cellOfHost rfl rfl rfl (by decide +kernel) ⟨Nat.le_of_ble_eq_true rfl, Nat.le_of_ble_eq_true rfl⟩) rfl rfl (Nat.le_of_ble_eq_true rfl) dX4_leave_3 (fun r1 => ?_)
  refine J_istore_n C rfl dX4_leave_6 (by decide) rfl ?_
  refine J_iload_n C 0 rfl rfl dX4_leave_7 ?_
  refine J_if_ge (tgt := 13) C dX4_leave_8 (by decide) ?_ ?_
  · refine J_aload_n C 1 rfl rfl dX4_leave_13 ?_
    refine J_get C 0 2 4 (C0 := RX4) (T := TX4) (N := 11) (by decide +kernel) rfl rfl (by decide) (by decide +kernel) rfl dX4_leave_14 ?_
    refine J_iload_n C 0 rfl rfl dX4_leave_17 ?_
    refine J_callI_VN C [.int r1] 3 0 rfl rfl (fun zr zs zh => tX0_stopDeclaring r1 σ zr zs zh) (⟨va_cnB (host := RX4) 1 C.1.2.2.2.2 gX4_leave_X0_stopDeclaring_n107 rfl rfl rfl (C.2.2.2 _ (by decide +kernel)) (C.1.2.2.2.2 (.initialized RX0) (by decide +kernel)) (by decide +kernel) ⟨Nat.le_of_ble_eq_true rfl, Nat.le_of_ble_eq_true rfl⟩, C.1.2.2.2.2 (.instanceMethod yX0_stopDeclaring) (by decide +kernel), C.1.2.2.2.2 (.selects RX0 yX0_stopDeclaring yX0_stopDeclaring) (by decide +kernel)⟩) rfl rfl (Nat.le_of_ble_eq_true rfl) dX4_leave_18 (fun r2 σ2 => ?_)
    refine J_if_eq (tgt := 28) C dX4_leave_21 (by decide) ?_ ?_
    · refine J_iconst (v := (0 : Int32)) C dX4_leave_28 (by decide) ?_
      exact hRet (0 : Int32) σ2 _ _ dX4_leave_29
    · refine J_iconst (v := (1 : Int32)) C dX4_leave_24 (by decide) ?_
      refine J_goto (tgt := 29) C dX4_leave_25 (by decide) ?_
      exact hRet (1 : Int32) σ2 _ _ dX4_leave_29
  · refine J_iload_n C 0 rfl rfl dX4_leave_11 ?_
    exact hRet r1 σ _ _ dX4_leave_12
-- X4_setSilent
set_option maxHeartbeats 4000000 in
set_option maxRecDepth 100000 in
theorem jX4_setSilent_b30  {o0 : Int32 × St} (C : Cxt p s m args c cX4_setSilent 5 wsX4_setSilent RX4 D [(cyI, .int), (cyZ, .boolean)] A) (hRet : ∀ (v : Int32) (σ2 : St) (pc : Nat) (lv : List (Nat × Value)), decode cX4_setSilent pc = .ok (.ireturn, 1) → J p l e ({ frames := 1, cells := 0, slots := 0, locals := 21 } : Room) s m args below meth c 5 D A (wX ad cyI cyZ) Q o0 (some (v, σ2)) σ2 pc lv [.int v]) (σ : St) (v1 v2 v3 t0 : Int32) : J p l e ({ frames := 1, cells := 0, slots := 0, locals := 21 } : Room) s m args below meth c 5 D A (wX ad cyI cyZ) Q o0 (fX4_setSilent_b30 v1 v2 v3 t0 σ) σ 30 [(0, .ref (ad 0)), (1, .int v1), (2, .int v2), (3, .int v3)] [.int t0] := by
  unfold fX4_setSilent_b30
  refine J_istore C dX4_setSilent_30 (by decide) rfl ?_
  refine J_aload_n C 1 rfl rfl dX4_setSilent_32 ?_
  refine J_get C 0 7 4 (C0 := RX4) (T := TX4) (N := 11) (by decide +kernel) rfl rfl (by decide) (by decide +kernel) rfl dX4_setSilent_33 ?_
  refine J_iload_n C 4 rfl rfl dX4_setSilent_36 ?_
  refine J_iload_n C 3 rfl rfl dX4_setSilent_37 ?_
  refine J_zast (σ' := up2 σ 15 v3.toNatClampNeg (vp_nar .boolean v2)) C 15 1 rfl rfl (wX_s15 _ _ _ _ _ _) dX4_setSilent_38 ?_
  refine J_iload C 0 rfl dX4_setSilent_39 ?_
  refine J_if_eq (tgt := 48) C dX4_setSilent_41 (by decide) ?_ ?_
  · refine J_iconst (v := (0 : Int32)) C dX4_setSilent_48 (by decide) ?_
    exact hRet (0 : Int32) (up2 σ 15 v3.toNatClampNeg (vp_nar .boolean v2)) _ _ dX4_setSilent_49
  · refine J_iconst (v := (1 : Int32)) C dX4_setSilent_44 (by decide) ?_
    refine J_goto (tgt := 49) C dX4_setSilent_45 (by decide) ?_
    exact hRet (1 : Int32) (up2 σ 15 v3.toNatClampNeg (vp_nar .boolean v2)) _ _ dX4_setSilent_49
set_option maxHeartbeats 4000000 in
set_option maxRecDepth 100000 in
theorem tX4_setSilent {l : Launch} {D : va_G} {ad : Nat → Nat} {cyI cyZ : ClassId} (v1 v2 : Int32) (σ : St) (r : Int32) (σ1 : St) (h : fX4_setSilent v1 v2 σ = some (r, σ1)) : MI l D [(cyI, .int), (cyZ, .boolean)] (wX ad cyI cyZ) yX4_setSilent wsX4_setSilent ({ frames := 1, cells := 0, slots := 0, locals := 21 } : Room) [.ref (ad 0), .int v1, .int v2] σ r σ1 := by
  refine entryI (own := RX4) r σ1 (by decide +kernel) rfl rfl (Nat.le_of_ble_eq_true rfl) (fX4_setSilent v1 v2 σ) h ?_
  intro p e s m below meth c Q A C hRet
  generalize ([.ref (ad 0), .int v1, .int v2] : List Value).toArray = args at *
  show J p l e ({ frames := 1, cells := 0, slots := 0, locals := 21 } : Room) s m args below meth c 5 D A (wX ad cyI cyZ) Q (r, σ1) (fX4_setSilent v1 v2 σ) σ 0 [(0, .ref (ad 0)), (1, .int v1), (2, .int v2)] []
  unfold fX4_setSilent
  refine J_aload_n C 0 rfl rfl dX4_setSilent_0 ?_
  refine J_get C 0 0 4 (C0 := RX4) (T := TX4) (N := 11) (by decide +kernel) rfl rfl (by decide) (by decide +kernel) rfl dX4_setSilent_1 ?_
  refine J_iload_n C 1 rfl rfl dX4_setSilent_4 ?_
  refine J_callP_VN C [.int v1] 1 1 rfl rfl (fun zr zh => tX1_stationOfHost v1 σ zr zh) (⟨va_cnB (host := RX4) 1 C.1.2.2.2.2 gX4_setSilent_X1_stationOfHost_n110 rfl rfl rfl (C.2.2.2 _ (by decide +kernel)) (C.1.2.2.2.2 (.initialized RX1) (by decide +kernel)) (by decide +kernel) ⟨Nat.le_of_ble_eq_true rfl, Nat.le_of_ble_eq_true rfl⟩, C.1.2.2.2.2 (.instanceMethod yX1_stationOfHost) (by decide +kernel), C.1.2.2.2.2 (.selects RX1 yX1_stationOfHost yX1_stationOfHost) (by decide +kernel)⟩) rfl rfl (Nat.le_of_ble_eq_true rfl) dX4_setSilent_5 (fun r1 => ?_)
  refine J_istore_n C rfl dX4_setSilent_8 (by decide) rfl ?_
  refine J_iload_n C 0 rfl rfl dX4_setSilent_9 ?_
  refine J_if_ge (tgt := 15) C dX4_setSilent_10 (by decide) ?_ ?_
  · refine J_aload_n C 1 rfl rfl dX4_setSilent_15 ?_
    refine J_get C 0 7 4 (C0 := RX4) (T := TX4) (N := 11) (by decide +kernel) rfl rfl (by decide) (by decide +kernel) rfl dX4_setSilent_16 ?_
    refine J_iload_n C 0 rfl rfl dX4_setSilent_19 ?_
    refine J_zald C 15 1 rfl rfl dX4_setSilent_20 ?_
    refine J_iload_n C 3 rfl rfl dX4_setSilent_21 ?_
    refine J_icmp_eq (tgt := 29) C dX4_setSilent_22 (by decide) ?_ ?_
    · refine J_iconst (v := (0 : Int32)) C dX4_setSilent_29 (by decide) ?_
      refine J_lv [1, 2, 3, 0] rfl ?_
      exact jX4_setSilent_b30 C hRet σ v1 v2 r1 (0 : Int32)
    · refine J_iconst (v := (1 : Int32)) C dX4_setSilent_25 (by decide) ?_
      refine J_goto (tgt := 30) C dX4_setSilent_26 (by decide) ?_
      refine J_lv [1, 2, 3, 0] rfl ?_
      exact jX4_setSilent_b30 C hRet σ v1 v2 r1 (1 : Int32)
  · refine J_iload_n C 0 rfl rfl dX4_setSilent_13 ?_
    exact hRet r1 σ _ _ dX4_setSilent_14
-- X4_loseNext
set_option maxHeartbeats 4000000 in
set_option maxRecDepth 100000 in
theorem jX4_loseNext_b48  {o0 : Int32 × St} (C : Cxt p s m args c cX4_loseNext 5 wsX4_loseNext RX4 D [(cyI, .int), (cyZ, .boolean)] A) (hRet : ∀ (v : Int32) (σ2 : St) (pc : Nat) (lv : List (Nat × Value)), decode cX4_loseNext pc = .ok (.ireturn, 1) → J p l e ({ frames := 1, cells := 0, slots := 0, locals := 22 } : Room) s m args below meth c 5 D A (wX ad cyI cyZ) Q o0 (some (v, σ2)) σ2 pc lv [.int v]) (σ : St) (v1 v2 v3 t0 : Int32) : J p l e ({ frames := 1, cells := 0, slots := 0, locals := 22 } : Room) s m args below meth c 5 D A (wX ad cyI cyZ) Q o0 (fX4_loseNext_b48 v1 v2 v3 t0 σ) σ 48 [(0, .ref (ad 0)), (1, .int v1), (2, .int v2), (3, .int v3)] [.int t0] := by
  unfold fX4_loseNext_b48
  refine J_istore C dX4_loseNext_48 (by decide) rfl ?_
  refine J_aload_n C 1 rfl rfl dX4_loseNext_50 ?_
  refine J_get C 0 6 4 (C0 := RX4) (T := TX4) (N := 11) (by decide +kernel) rfl rfl (by decide) (by decide +kernel) rfl dX4_loseNext_51 ?_
  refine J_iload_n C 4 rfl rfl dX4_loseNext_54 ?_
  refine J_iconst (v := (1 : Int32)) C dX4_loseNext_55 (by decide) ?_
  refine J_zast (σ' := up2 σ 14 v3.toNatClampNeg (vp_nar .boolean (1 : Int32))) C 14 1 rfl rfl (wX_s14 _ _ _ _ _ _) dX4_loseNext_56 ?_
  refine J_iload C 0 rfl dX4_loseNext_57 ?_
  refine J_if_eq (tgt := 66) C dX4_loseNext_59 (by decide) ?_ ?_
  · refine J_iconst (v := (0 : Int32)) C dX4_loseNext_66 (by decide) ?_
    exact hRet (0 : Int32) (up2 σ 14 v3.toNatClampNeg (vp_nar .boolean (1 : Int32))) _ _ dX4_loseNext_67
  · refine J_iconst (v := (1 : Int32)) C dX4_loseNext_62 (by decide) ?_
    refine J_goto (tgt := 67) C dX4_loseNext_63 (by decide) ?_
    exact hRet (1 : Int32) (up2 σ 14 v3.toNatClampNeg (vp_nar .boolean (1 : Int32))) _ _ dX4_loseNext_67
set_option maxHeartbeats 4000000 in
set_option maxRecDepth 100000 in
theorem tX4_loseNext {l : Launch} {D : va_G} {ad : Nat → Nat} {cyI cyZ : ClassId} (v1 v2 : Int32) (σ : St) (r : Int32) (σ1 : St) (h : fX4_loseNext v1 v2 σ = some (r, σ1)) : MI l D [(cyI, .int), (cyZ, .boolean)] (wX ad cyI cyZ) yX4_loseNext wsX4_loseNext ({ frames := 1, cells := 0, slots := 0, locals := 22 } : Room) [.ref (ad 0), .int v1, .int v2] σ r σ1 := by
  refine entryI (own := RX4) r σ1 (by decide +kernel) rfl rfl (Nat.le_of_ble_eq_true rfl) (fX4_loseNext v1 v2 σ) h ?_
  intro p e s m below meth c Q A C hRet
  generalize ([.ref (ad 0), .int v1, .int v2] : List Value).toArray = args at *
  show J p l e ({ frames := 1, cells := 0, slots := 0, locals := 22 } : Room) s m args below meth c 5 D A (wX ad cyI cyZ) Q (r, σ1) (fX4_loseNext v1 v2 σ) σ 0 [(0, .ref (ad 0)), (1, .int v1), (2, .int v2)] []
  unfold fX4_loseNext
  refine J_aload_n C 0 rfl rfl dX4_loseNext_0 ?_
  refine J_get C 0 0 4 (C0 := RX4) (T := TX4) (N := 11) (by decide +kernel) rfl rfl (by decide) (by decide +kernel) rfl dX4_loseNext_1 ?_
  refine J_iload_n C 1 rfl rfl dX4_loseNext_4 ?_
  refine J_iload_n C 2 rfl rfl dX4_loseNext_5 ?_
  refine J_callP_VN C [.int v1, .int v2] 1 1 rfl rfl (fun zr zh => tX1_stationOfPort v1 v2 σ zr zh) (⟨va_cnB (host := RX4) 2 C.1.2.2.2.2 gX4_loseNext_X1_stationOfPort_n64 rfl rfl rfl (C.2.2.2 _ (by decide +kernel)) (C.1.2.2.2.2 (.initialized RX1) (by decide +kernel)) (by decide +kernel) ⟨Nat.le_of_ble_eq_true rfl, Nat.le_of_ble_eq_true rfl⟩, C.1.2.2.2.2 (.instanceMethod yX1_stationOfPort) (by decide +kernel), C.1.2.2.2.2 (.selects RX1 yX1_stationOfPort yX1_stationOfPort) (by decide +kernel)⟩) rfl rfl (Nat.le_of_ble_eq_true rfl) dX4_loseNext_6 (fun r1 => ?_)
  refine J_istore_n C rfl dX4_loseNext_9 (by decide) rfl ?_
  refine J_iload_n C 0 rfl rfl dX4_loseNext_10 ?_
  refine J_if_ge (tgt := 16) C dX4_loseNext_11 (by decide) ?_ ?_
  · refine J_aload_n C 1 rfl rfl dX4_loseNext_16 ?_
    refine J_get C 0 0 4 (C0 := RX4) (T := TX4) (N := 11) (by decide +kernel) rfl rfl (by decide) (by decide +kernel) rfl dX4_loseNext_17 ?_
    refine J_getN C 1 0 1 (C0 := RX1) (T := TX1) (N := 4) (host := RX4) (by decide +kernel) rfl rfl (by decide) (by decide +kernel) rfl dX4_loseNext_20 ?_
    refine J_iload_n C 0 rfl rfl dX4_loseNext_23 ?_
    refine J_iald C 5 0 rfl rfl dX4_loseNext_24 ?_
    refine J_callP_S C [.int (σ 5 r1.toNatClampNeg)] (fun zr zh => tX4_isPort (σ 5 r1.toNatClampNeg) σ zr zh) (va_cwS 1 C.1.2.2.2.2 gX4_loseNext_X4_isPort rfl rfl rfl (by decide +kernel) ⟨Nat.le_of_ble_eq_true rfl, Nat.le_of_ble_eq_true rfl⟩) rfl rfl (Nat.le_of_ble_eq_true rfl) dX4_loseNext_25 (fun r2 => ?_)
    refine J_if_ne (tgt := 34) C dX4_loseNext_28 (by decide) ?_ ?_
    · refine J_aload_n C 1 rfl rfl dX4_loseNext_34 ?_
      refine J_get C 0 6 4 (C0 := RX4) (T := TX4) (N := 11) (by decide +kernel) rfl rfl (by decide) (by decide +kernel) rfl dX4_loseNext_35 ?_
      refine J_iload_n C 0 rfl rfl dX4_loseNext_38 ?_
      refine J_zald C 14 1 rfl rfl dX4_loseNext_39 ?_
      refine J_if_ne (tgt := 47) C dX4_loseNext_40 (by decide) ?_ ?_
      · refine J_iconst (v := (0 : Int32)) C dX4_loseNext_47 (by decide) ?_
        refine J_lv [1, 2, 3, 0] rfl ?_
        exact jX4_loseNext_b48 C hRet σ v1 v2 r1 (0 : Int32)
      · refine J_iconst (v := (1 : Int32)) C dX4_loseNext_43 (by decide) ?_
        refine J_goto (tgt := 48) C dX4_loseNext_44 (by decide) ?_
        refine J_lv [1, 2, 3, 0] rfl ?_
        exact jX4_loseNext_b48 C hRet σ v1 v2 r1 (1 : Int32)
    · refine J_bipush (v := (-7 : Int32)) C dX4_loseNext_31 (by decide) ?_
      exact hRet (-7 : Int32) σ _ _ dX4_loseNext_33
  · refine J_iload_n C 0 rfl rfl dX4_loseNext_14 ?_
    exact hRet r1 σ _ _ dX4_loseNext_15
-- X4_countDownRegistrars
set_option maxHeartbeats 4000000 in
set_option maxRecDepth 100000 in
theorem jX4_countDownRegistrars_L2  {o0 : St} (C : Cxt p s m args c cX4_countDownRegistrars 3 wsX4_countDownRegistrars RX4 D [(cyI, .int), (cyZ, .boolean)] A) (hRet : ∀ (σ2 : St) (pc : Nat) (lv : List (Nat × Value)), decode cX4_countDownRegistrars pc = .ok (.return_, 1) → J p l e ({ frames := 1, cells := 0, slots := 0, locals := 21 } : Room) s m args below meth c 3 D A (wX ad cyI cyZ) Q o0 (some σ2) σ2 pc lv []) (v1 : Int32) (n : Nat) (v2 : Int32) (σ : St) : J p l e ({ frames := 1, cells := 0, slots := 0, locals := 21 } : Room) s m args below meth c 3 D A (wX ad cyI cyZ) Q o0 (loop1s (fX4_countDownRegistrars_b2 v1) n v2 σ) σ 2 [(0, .ref (ad 0)), (1, .int v1), (2, .int v2)] [] := by
  refine J_loop1s (pc := 2) (fun v2 => [(0, .ref (ad 0)), (1, .int v1), (2, .int v2)]) (fX4_countDownRegistrars_b2 v1) ?_ n v2 σ
  intro K2 hK2 v2 σ
  unfold fX4_countDownRegistrars_b2
  refine J_iload_n C 2 rfl rfl dX4_countDownRegistrars_2 ?_
  refine J_iconst (v := (4 : Int32)) C dX4_countDownRegistrars_3 (by decide) ?_
  refine J_icmp_ge (tgt := 25) C dX4_countDownRegistrars_4 (by decide) ?_ ?_
  · exact hRet σ _ _ dX4_countDownRegistrars_25
  · refine J_aload_n C 0 rfl rfl dX4_countDownRegistrars_7 ?_
    refine J_get C 0 1 4 (C0 := RX4) (T := TX4) (N := 11) (by decide +kernel) rfl rfl (by decide) (by decide +kernel) rfl dX4_countDownRegistrars_8 ?_
    refine J_iload_n C 1 rfl rfl dX4_countDownRegistrars_11 ?_
    refine J_iload_n C 2 rfl rfl dX4_countDownRegistrars_12 ?_
    refine J_callP_S C [.int v1, .int v2] (fun zr zh => tX4_cellOf v1 v2 σ zr zh) (va_cwS 2 C.1.2.2.2.2 gX4_countDownRegistrars_X4_cellOf rfl rfl rfl (by decide +kernel) ⟨Nat.le_of_ble_eq_true rfl, Nat.le_of_ble_eq_true rfl⟩) rfl rfl (Nat.le_of_ble_eq_true rfl) dX4_countDownRegistrars_13 (fun r1 => ?_)
    refine J_callV_VN C [.int r1] 2 3 rfl rfl (fun zs zh => tX3_countDown r1 σ zs zh) (⟨va_cnB (host := RX4) 1 C.1.2.2.2.2 gX4_countDownRegistrars_X3_countDown_n183 rfl rfl rfl (C.2.2.2 _ (by decide +kernel)) (C.1.2.2.2.2 (.initialized RX3) (by decide +kernel)) (by decide +kernel) ⟨Nat.le_of_ble_eq_true rfl, Nat.le_of_ble_eq_true rfl⟩, C.1.2.2.2.2 (.instanceMethod yX3_countDown) (by decide +kernel), C.1.2.2.2.2 (.selects RX3 yX3_countDown yX3_countDown) (by decide +kernel)⟩) rfl rfl (Nat.le_of_ble_eq_true rfl) dX4_countDownRegistrars_16 (fun σ2 => ?_)
    refine J_iinc (d := (1 : Int32)) C 2 rfl dX4_countDownRegistrars_19 (by decide) (by decide) rfl ?_
    refine J_goto (tgt := 2) C dX4_countDownRegistrars_22 (by decide) ?_
    refine J_lv [1, 2, 0] rfl ?_
    exact hK2 (v2 + (1 : Int32)) σ2
set_option maxHeartbeats 4000000 in
set_option maxRecDepth 100000 in
theorem tX4_countDownRegistrars {l : Launch} {D : va_G} {ad : Nat → Nat} {cyI cyZ : ClassId} (v1 : Int32) (σ : St) (σ1 : St) (h : fX4_countDownRegistrars v1 σ = some σ1) : MV l D [(cyI, .int), (cyZ, .boolean)] (wX ad cyI cyZ) yX4_countDownRegistrars wsX4_countDownRegistrars ({ frames := 1, cells := 0, slots := 0, locals := 21 } : Room) [.ref (ad 0), .int v1] σ σ1 := by
  refine entryV (own := RX4) σ1 (by decide +kernel) rfl rfl (Nat.le_of_ble_eq_true rfl) (fX4_countDownRegistrars v1 σ) h ?_
  intro p e s m below meth c Q A C hRet
  generalize ([.ref (ad 0), .int v1] : List Value).toArray = args at *
  show J p l e ({ frames := 1, cells := 0, slots := 0, locals := 21 } : Room) s m args below meth c 3 D A (wX ad cyI cyZ) Q σ1 (fX4_countDownRegistrars v1 σ) σ 0 [(0, .ref (ad 0)), (1, .int v1)] []
  unfold fX4_countDownRegistrars
  refine J_iconst (v := (0 : Int32)) C dX4_countDownRegistrars_0 (by decide) ?_
  refine J_istore_n C rfl dX4_countDownRegistrars_1 (by decide) rfl ?_
  refine J_lv [1, 2, 0] rfl ?_
  exact jX4_countDownRegistrars_L2 C hRet v1 fuel (0 : Int32) σ
-- X4_countDownToLeaveAll
set_option maxHeartbeats 4000000 in
set_option maxRecDepth 100000 in
theorem tX4_countDownToLeaveAll {l : Launch} {D : va_G} {ad : Nat → Nat} {cyI cyZ : ClassId} (v1 : Int32) (σ : St) (σ1 : St) (h : fX4_countDownToLeaveAll v1 σ = some σ1) : MV l D [(cyI, .int), (cyZ, .boolean)] (wX ad cyI cyZ) yX4_countDownToLeaveAll wsX4_countDownToLeaveAll ({ frames := 0, cells := 0, slots := 0, locals := 0 } : Room) [.ref (ad 0), .int v1] σ σ1 := by
  refine entryV (own := RX4) σ1 (by decide +kernel) rfl rfl (Nat.le_of_ble_eq_true rfl) (fX4_countDownToLeaveAll v1 σ) h ?_
  intro p e s m below meth c Q A C hRet
  generalize ([.ref (ad 0), .int v1] : List Value).toArray = args at *
  show J p l e ({ frames := 0, cells := 0, slots := 0, locals := 0 } : Room) s m args below meth c 2 D A (wX ad cyI cyZ) Q σ1 (fX4_countDownToLeaveAll v1 σ) σ 0 [(0, .ref (ad 0)), (1, .int v1)] []
  unfold fX4_countDownToLeaveAll
  refine J_aload_n C 0 rfl rfl dX4_countDownToLeaveAll_0 ?_
  refine J_get C 0 4 4 (C0 := RX4) (T := TX4) (N := 11) (by decide +kernel) rfl rfl (by decide) (by decide +kernel) rfl dX4_countDownToLeaveAll_1 ?_
  refine J_iload_n C 1 rfl rfl dX4_countDownToLeaveAll_4 ?_
  refine J_iald C 12 0 rfl rfl dX4_countDownToLeaveAll_5 ?_
  refine J_if_le (tgt := 45) C dX4_countDownToLeaveAll_6 (by decide) ?_ ?_
  · exact hRet σ _ _ dX4_countDownToLeaveAll_45
  · refine J_aload_n C 0 rfl rfl dX4_countDownToLeaveAll_9 ?_
    refine J_get C 0 4 4 (C0 := RX4) (T := TX4) (N := 11) (by decide +kernel) rfl rfl (by decide) (by decide +kernel) rfl dX4_countDownToLeaveAll_10 ?_
    refine J_iload_n C 1 rfl rfl dX4_countDownToLeaveAll_13 ?_
    refine J_dup2 C rfl rfl dX4_countDownToLeaveAll_14 ?_
    refine J_iald C 12 0 rfl rfl dX4_countDownToLeaveAll_15 ?_
    refine J_iconst (v := (1 : Int32)) C dX4_countDownToLeaveAll_16 (by decide) ?_
    refine J_isub C dX4_countDownToLeaveAll_17 ?_
    refine J_iast (σ' := up2 σ 12 v1.toNatClampNeg ((σ 12 v1.toNatClampNeg) - (1 : Int32))) C 12 0 rfl rfl (wX_s12 _ _ _ _ _ _) dX4_countDownToLeaveAll_18 ?_
    refine J_aload_n C 0 rfl rfl dX4_countDownToLeaveAll_19 ?_
    refine J_get C 0 4 4 (C0 := RX4) (T := TX4) (N := 11) (by decide +kernel) rfl rfl (by decide) (by decide +kernel) rfl dX4_countDownToLeaveAll_20 ?_
    refine J_iload_n C 1 rfl rfl dX4_countDownToLeaveAll_23 ?_
    refine J_iald C 12 0 rfl rfl dX4_countDownToLeaveAll_24 ?_
    refine J_if_ne (tgt := 45) C dX4_countDownToLeaveAll_25 (by decide) ?_ ?_
    · exact hRet (up2 σ 12 v1.toNatClampNeg ((σ 12 v1.toNatClampNeg) - (1 : Int32))) _ _ dX4_countDownToLeaveAll_45
    · refine J_aload_n C 0 rfl rfl dX4_countDownToLeaveAll_28 ?_
      refine J_get C 0 5 4 (C0 := RX4) (T := TX4) (N := 11) (by decide +kernel) rfl rfl (by decide) (by decide +kernel) rfl dX4_countDownToLeaveAll_29 ?_
      refine J_iload_n C 1 rfl rfl dX4_countDownToLeaveAll_32 ?_
      refine J_iconst (v := (1 : Int32)) C dX4_countDownToLeaveAll_33 (by decide) ?_
      refine J_zast (σ' := up2 (up2 σ 12 v1.toNatClampNeg ((σ 12 v1.toNatClampNeg) - (1 : Int32))) 13 v1.toNatClampNeg (vp_nar .boolean (1 : Int32))) C 13 1 rfl rfl (wX_s13 _ _ _ _ _ _) dX4_countDownToLeaveAll_34 ?_
      refine J_aload_n C 0 rfl rfl dX4_countDownToLeaveAll_35 ?_
      refine J_get C 0 4 4 (C0 := RX4) (T := TX4) (N := 11) (by decide +kernel) rfl rfl (by decide) (by decide +kernel) rfl dX4_countDownToLeaveAll_36 ?_
      refine J_iload_n C 1 rfl rfl dX4_countDownToLeaveAll_39 ?_
      refine J_aload_n C 0 rfl rfl dX4_countDownToLeaveAll_40 ?_
      refine J_get C 0 9 4 (C0 := RX4) (T := TX4) (N := 11) (by decide +kernel) rfl rfl (by decide) (by decide +kernel) rfl dX4_countDownToLeaveAll_41 ?_
      refine J_iast (σ' := up2 (up2 (up2 σ 12 v1.toNatClampNeg ((σ 12 v1.toNatClampNeg) - (1 : Int32))) 13 v1.toNatClampNeg (vp_nar .boolean (1 : Int32))) 12 v1.toNatClampNeg ((up2 (up2 σ 12 v1.toNatClampNeg ((σ 12 v1.toNatClampNeg) - (1 : Int32))) 13 v1.toNatClampNeg (vp_nar .boolean (1 : Int32))) 0 9)) C 12 0 rfl rfl (wX_s12 _ _ _ _ _ _) dX4_countDownToLeaveAll_44 ?_
      exact hRet (up2 (up2 (up2 σ 12 v1.toNatClampNeg ((σ 12 v1.toNatClampNeg) - (1 : Int32))) 13 v1.toNatClampNeg (vp_nar .boolean (1 : Int32))) 12 v1.toNatClampNeg ((up2 (up2 σ 12 v1.toNatClampNeg ((σ 12 v1.toNatClampNeg) - (1 : Int32))) 13 v1.toNatClampNeg (vp_nar .boolean (1 : Int32))) 0 9)) _ _ dX4_countDownToLeaveAll_45
-- X4_runTimers
set_option maxHeartbeats 4000000 in
set_option maxRecDepth 100000 in
theorem jX4_runTimers_b36 {K2 : Int32 → St → Option (St)} {o0 : St} (C : Cxt p s m args c cX4_runTimers 2 wsX4_runTimers RX4 D [(cyI, .int), (cyZ, .boolean)] A) (hRet : ∀ (σ2 : St) (pc : Nat) (lv : List (Nat × Value)), decode cX4_runTimers pc = .ok (.return_, 1) → J p l e ({ frames := 2, cells := 0, slots := 0, locals := 43 } : Room) s m args below meth c 2 D A (wX ad cyI cyZ) Q o0 (some σ2) σ2 pc lv []) (σ : St) (v1 : Int32) (hK2 : ∀ (v1 : Int32) (σ : St), J p l e ({ frames := 2, cells := 0, slots := 0, locals := 43 } : Room) s m args below meth c 2 D A (wX ad cyI cyZ) Q o0 (K2 v1 σ) σ 2 [(0, .ref (ad 0)), (1, .int v1)] []) : J p l e ({ frames := 2, cells := 0, slots := 0, locals := 43 } : Room) s m args below meth c 2 D A (wX ad cyI cyZ) Q o0 (fX4_runTimers_b36 K2 v1 σ) σ 36 [(0, .ref (ad 0)), (1, .int v1)] [] := by
  unfold fX4_runTimers_b36
  refine J_iinc (d := (1 : Int32)) C 1 rfl dX4_runTimers_36 (by decide) (by decide) rfl ?_
  refine J_goto (tgt := 2) C dX4_runTimers_39 (by decide) ?_
  refine J_lv [1, 0] rfl ?_
  exact hK2 (v1 + (1 : Int32)) σ
set_option maxHeartbeats 4000000 in
set_option maxRecDepth 100000 in
theorem jX4_runTimers_L2  {o0 : St} (C : Cxt p s m args c cX4_runTimers 2 wsX4_runTimers RX4 D [(cyI, .int), (cyZ, .boolean)] A) (hRet : ∀ (σ2 : St) (pc : Nat) (lv : List (Nat × Value)), decode cX4_runTimers pc = .ok (.return_, 1) → J p l e ({ frames := 2, cells := 0, slots := 0, locals := 43 } : Room) s m args below meth c 2 D A (wX ad cyI cyZ) Q o0 (some σ2) σ2 pc lv []) (n : Nat) (v1 : Int32) (σ : St) : J p l e ({ frames := 2, cells := 0, slots := 0, locals := 43 } : Room) s m args below meth c 2 D A (wX ad cyI cyZ) Q o0 (loop1s (fX4_runTimers_b2) n v1 σ) σ 2 [(0, .ref (ad 0)), (1, .int v1)] [] := by
  refine J_loop1s (pc := 2) (fun v1 => [(0, .ref (ad 0)), (1, .int v1)]) (fX4_runTimers_b2) ?_ n v1 σ
  intro K2 hK2 v1 σ
  unfold fX4_runTimers_b2
  refine J_iload_n C 1 rfl rfl dX4_runTimers_2 ?_
  refine J_bipush (v := (20 : Int32)) C dX4_runTimers_3 (by decide) ?_
  refine J_icmp_ge (tgt := 42) C dX4_runTimers_5 (by decide) ?_ ?_
  · exact hRet σ _ _ dX4_runTimers_42
  · refine J_aload_n C 0 rfl rfl dX4_runTimers_8 ?_
    refine J_get C 0 5 4 (C0 := RX4) (T := TX4) (N := 11) (by decide +kernel) rfl rfl (by decide) (by decide +kernel) rfl dX4_runTimers_9 ?_
    refine J_iload_n C 1 rfl rfl dX4_runTimers_12 ?_
    refine J_iconst (v := (0 : Int32)) C dX4_runTimers_13 (by decide) ?_
    refine J_zast (σ' := up2 σ 13 v1.toNatClampNeg (vp_nar .boolean (0 : Int32))) C 13 1 rfl rfl (wX_s13 _ _ _ _ _ _) dX4_runTimers_14 ?_
    refine J_aload_n C 0 rfl rfl dX4_runTimers_15 ?_
    refine J_get C 0 0 4 (C0 := RX4) (T := TX4) (N := 11) (by decide +kernel) rfl rfl (by decide) (by decide +kernel) rfl dX4_runTimers_16 ?_
    refine J_iload_n C 1 rfl rfl dX4_runTimers_19 ?_
    refine J_callP_VN C [.int v1] 1 1 rfl rfl (fun zr zh => tX1_isConnected v1 (up2 σ 13 v1.toNatClampNeg (vp_nar .boolean (0 : Int32))) zr zh) (⟨va_cnB (host := RX4) 1 C.1.2.2.2.2 gX4_runTimers_X1_isConnected_n68 rfl rfl rfl (C.2.2.2 _ (by decide +kernel)) (C.1.2.2.2.2 (.initialized RX1) (by decide +kernel)) (by decide +kernel) ⟨Nat.le_of_ble_eq_true rfl, Nat.le_of_ble_eq_true rfl⟩, C.1.2.2.2.2 (.instanceMethod yX1_isConnected) (by decide +kernel), C.1.2.2.2.2 (.selects RX1 yX1_isConnected yX1_isConnected) (by decide +kernel)⟩) rfl rfl (Nat.le_of_ble_eq_true rfl) dX4_runTimers_20 (fun r1 => ?_)
    refine J_if_eq (tgt := 36) C dX4_runTimers_23 (by decide) ?_ ?_
    · exact jX4_runTimers_b36 C hRet (up2 σ 13 v1.toNatClampNeg (vp_nar .boolean (0 : Int32))) v1 hK2
    · refine J_aload_n C 0 rfl rfl dX4_runTimers_26 ?_
      refine J_iload_n C 1 rfl rfl dX4_runTimers_27 ?_
      refine J_callV_V C [.int v1] 0 4 rfl rfl (fun zs zh => tX4_countDownRegistrars v1 (up2 σ 13 v1.toNatClampNeg (vp_nar .boolean (0 : Int32))) zs zh) (cwV 1 C.1.2.2.2.2 gX4_runTimers_X4_countDownRegistrars rfl rfl rfl (by decide +kernel) ⟨Nat.le_of_ble_eq_true rfl, Nat.le_of_ble_eq_true rfl⟩) rfl rfl (Nat.le_of_ble_eq_true rfl) dX4_runTimers_28 (fun σ2 => ?_)
      refine J_aload_n C 0 rfl rfl dX4_runTimers_31 ?_
      refine J_iload_n C 1 rfl rfl dX4_runTimers_32 ?_
      refine J_callV_V C [.int v1] 0 4 rfl rfl (fun zs zh => tX4_countDownToLeaveAll v1 σ2 zs zh) (cwV 1 C.1.2.2.2.2 gX4_runTimers_X4_countDownToLeaveAll rfl rfl rfl (by decide +kernel) ⟨Nat.le_of_ble_eq_true rfl, Nat.le_of_ble_eq_true rfl⟩) rfl rfl (Nat.le_of_ble_eq_true rfl) dX4_runTimers_33 (fun σ3 => ?_)
      exact jX4_runTimers_b36 C hRet σ3 v1 hK2
set_option maxHeartbeats 4000000 in
set_option maxRecDepth 100000 in
theorem tX4_runTimers {l : Launch} {D : va_G} {ad : Nat → Nat} {cyI cyZ : ClassId} (σ : St) (σ1 : St) (h : fX4_runTimers σ = some σ1) : MV l D [(cyI, .int), (cyZ, .boolean)] (wX ad cyI cyZ) yX4_runTimers wsX4_runTimers ({ frames := 2, cells := 0, slots := 0, locals := 43 } : Room) [.ref (ad 0)] σ σ1 := by
  refine entryV (own := RX4) σ1 (by decide +kernel) rfl rfl (Nat.le_of_ble_eq_true rfl) (fX4_runTimers σ) h ?_
  intro p e s m below meth c Q A C hRet
  generalize ([.ref (ad 0)] : List Value).toArray = args at *
  show J p l e ({ frames := 2, cells := 0, slots := 0, locals := 43 } : Room) s m args below meth c 2 D A (wX ad cyI cyZ) Q σ1 (fX4_runTimers σ) σ 0 [(0, .ref (ad 0))] []
  unfold fX4_runTimers
  refine J_iconst (v := (0 : Int32)) C dX4_runTimers_0 (by decide) ?_
  refine J_istore_n C rfl dX4_runTimers_1 (by decide) rfl ?_
  refine J_lv [1, 0] rfl ?_
  exact jX4_runTimers_L2 C hRet fuel (0 : Int32) σ
-- X4_isRegisteredAt
set_option maxHeartbeats 4000000 in
set_option maxRecDepth 100000 in
theorem tX4_isRegisteredAt {l : Launch} {D : va_G} {ad : Nat → Nat} {cyI cyZ : ClassId} (v1 v2 : Int32) (σ : St) (r : Int32) (h : fX4_isRegisteredAt v1 v2 σ = some r) : MI l D [(cyI, .int), (cyZ, .boolean)] (wX ad cyI cyZ) yX4_isRegisteredAt wsX4_isRegisteredAt ({ frames := 2, cells := 0, slots := 0, locals := 41 } : Room) [.ref (ad 0), .int v1, .int v2] σ r σ := by
  refine entryPZ (own := RX4) r (by decide +kernel) rfl rfl (Nat.le_of_ble_eq_true rfl) (fX4_isRegisteredAt v1 v2 σ) h ?_
  intro p e s m below meth c Q A C hRet
  generalize ([.ref (ad 0), .int v1, .int v2] : List Value).toArray = args at *
  show J p l e ({ frames := 2, cells := 0, slots := 0, locals := 41 } : Room) s m args below meth c 3 D A (wX ad cyI cyZ) Q r (fX4_isRegisteredAt v1 v2 σ) σ 0 [(0, .ref (ad 0)), (1, .int v1), (2, .int v2)] []
  unfold fX4_isRegisteredAt
  refine J_aload_n C 0 rfl rfl dX4_isRegisteredAt_0 ?_
  refine J_get C 0 0 4 (C0 := RX4) (T := TX4) (N := 11) (by decide +kernel) rfl rfl (by decide) (by decide +kernel) rfl dX4_isRegisteredAt_1 ?_
  refine J_iload_n C 1 rfl rfl dX4_isRegisteredAt_4 ?_
  refine J_callP_VN C [.int v1] 1 1 rfl rfl (fun zr zh => tX1_isConnected v1 σ zr zh) (⟨va_cnB (host := RX4) 1 C.1.2.2.2.2 gX4_isRegisteredAt_X1_isConnected_n68 rfl rfl rfl (C.2.2.2 _ (by decide +kernel)) (C.1.2.2.2.2 (.initialized RX1) (by decide +kernel)) (by decide +kernel) ⟨Nat.le_of_ble_eq_true rfl, Nat.le_of_ble_eq_true rfl⟩, C.1.2.2.2.2 (.instanceMethod yX1_isConnected) (by decide +kernel), C.1.2.2.2.2 (.selects RX1 yX1_isConnected yX1_isConnected) (by decide +kernel)⟩) rfl rfl (Nat.le_of_ble_eq_true rfl) dX4_isRegisteredAt_5 (fun r1 => ?_)
  refine J_if_eq (tgt := 31) C dX4_isRegisteredAt_8 (by decide) ?_ ?_
  · refine J_iconst (v := (0 : Int32)) C dX4_isRegisteredAt_31 (by decide) ?_
    exact hRet (0 : Int32) _ _ (by decide) dX4_isRegisteredAt_32
  · refine J_aload_n C 0 rfl rfl dX4_isRegisteredAt_11 ?_
    refine J_get C 0 1 4 (C0 := RX4) (T := TX4) (N := 11) (by decide +kernel) rfl rfl (by decide) (by decide +kernel) rfl dX4_isRegisteredAt_12 ?_
    refine J_getN C 2 0 3 (C0 := RX3) (T := TX3) (N := 2) (host := RX4) (by decide +kernel) rfl rfl (by decide) (by decide +kernel) rfl dX4_isRegisteredAt_15 ?_
    refine J_iload_n C 1 rfl rfl dX4_isRegisteredAt_18 ?_
    refine J_iload_n C 2 rfl rfl dX4_isRegisteredAt_19 ?_
    refine J_callP_S C [.int v1, .int v2] (fun zr zh => tX4_cellOf v1 v2 σ zr zh) (va_cwS 2 C.1.2.2.2.2 gX4_isRegisteredAt_X4_cellOf rfl rfl rfl (by decide +kernel) ⟨Nat.le_of_ble_eq_true rfl, Nat.le_of_ble_eq_true rfl⟩) rfl rfl (Nat.le_of_ble_eq_true rfl) dX4_isRegisteredAt_20 (fun r2 => ?_)
    refine J_iald C 6 0 rfl rfl dX4_isRegisteredAt_23 ?_
    refine J_if_eq (tgt := 31) C dX4_isRegisteredAt_24 (by decide) ?_ ?_
    · refine J_iconst (v := (0 : Int32)) C dX4_isRegisteredAt_31 (by decide) ?_
      exact hRet (0 : Int32) _ _ (by decide) dX4_isRegisteredAt_32
    · refine J_iconst (v := (1 : Int32)) C dX4_isRegisteredAt_27 (by decide) ?_
      refine J_goto (tgt := 32) C dX4_isRegisteredAt_28 (by decide) ?_
      exact hRet (1 : Int32) _ _ (by decide) dX4_isRegisteredAt_32
-- X4_isWanted
set_option maxHeartbeats 4000000 in
set_option maxRecDepth 100000 in
theorem jX4_isWanted_b36 {K10 : Int32 → Option (Int32)} {o0 : Int32} {σ : St} (C : Cxt p s m args c cX4_isWanted 5 wsX4_isWanted RX4 D [(cyI, .int), (cyZ, .boolean)] A) (hRet : ∀ (v : Int32) (pc : Nat) (lv : List (Nat × Value)), narrow .boolean (.int v) = .int v → decode cX4_isWanted pc = .ok (.ireturn, 1) → J p l e ({ frames := 3, cells := 0, slots := 0, locals := 63 } : Room) s m args below meth c 5 D A (wX ad cyI cyZ) Q o0 (some v) σ pc lv [.int v]) (v1 v2 v3 v4 : Int32) (hK10 : ∀ (v4 : Int32), J p l e ({ frames := 3, cells := 0, slots := 0, locals := 63 } : Room) s m args below meth c 5 D A (wX ad cyI cyZ) Q o0 (K10 v4) σ 10 [(0, .ref (ad 0)), (1, .int v1), (2, .int v2), (3, .int v3), (4, .int v4)] []) : J p l e ({ frames := 3, cells := 0, slots := 0, locals := 63 } : Room) s m args below meth c 5 D A (wX ad cyI cyZ) Q o0 (fX4_isWanted_b36 K10 v1 v2 v3 v4 σ) σ 36 [(0, .ref (ad 0)), (1, .int v1), (2, .int v2), (3, .int v3), (4, .int v4)] [] := by
  unfold fX4_isWanted_b36
  refine J_iinc (d := (1 : Int32)) C 4 rfl dX4_isWanted_36 (by decide) (by decide) rfl ?_
  refine J_goto (tgt := 10) C dX4_isWanted_39 (by decide) ?_
  refine J_lv [1, 2, 3, 4, 0] rfl ?_
  exact hK10 (v4 + (1 : Int32))
set_option maxHeartbeats 4000000 in
set_option maxRecDepth 100000 in
theorem jX4_isWanted_L10  {o0 : Int32} {σ : St} (C : Cxt p s m args c cX4_isWanted 5 wsX4_isWanted RX4 D [(cyI, .int), (cyZ, .boolean)] A) (hRet : ∀ (v : Int32) (pc : Nat) (lv : List (Nat × Value)), narrow .boolean (.int v) = .int v → decode cX4_isWanted pc = .ok (.ireturn, 1) → J p l e ({ frames := 3, cells := 0, slots := 0, locals := 63 } : Room) s m args below meth c 5 D A (wX ad cyI cyZ) Q o0 (some v) σ pc lv [.int v]) (v1 v2 v3 : Int32) (n : Nat) (v4 : Int32) : J p l e ({ frames := 3, cells := 0, slots := 0, locals := 63 } : Room) s m args below meth c 5 D A (wX ad cyI cyZ) Q o0 (loop1 (fX4_isWanted_b10 v1 v2 v3 σ) n v4) σ 10 [(0, .ref (ad 0)), (1, .int v1), (2, .int v2), (3, .int v3), (4, .int v4)] [] := by
  refine J_loop1 (pc := 10) (fun v4 => [(0, .ref (ad 0)), (1, .int v1), (2, .int v2), (3, .int v3), (4, .int v4)]) (fX4_isWanted_b10 v1 v2 v3 σ) ?_ n v4
  intro K10 hK10 v4
  unfold fX4_isWanted_b10
  refine J_iload C 4 rfl dX4_isWanted_10 ?_
  refine J_iload_n C 3 rfl rfl dX4_isWanted_12 ?_
  refine J_iconst (v := (4 : Int32)) C dX4_isWanted_13 (by decide) ?_
  refine J_iadd C dX4_isWanted_14 ?_
  refine J_icmp_ge (tgt := 42) C dX4_isWanted_15 (by decide) ?_ ?_
  · refine J_iconst (v := (0 : Int32)) C dX4_isWanted_42 (by decide) ?_
    exact hRet (0 : Int32) _ _ (by decide) dX4_isWanted_43
  · refine J_iload C 4 rfl dX4_isWanted_18 ?_
    refine J_iload_n C 1 rfl rfl dX4_isWanted_20 ?_
    refine J_icmp_eq (tgt := 36) C dX4_isWanted_21 (by decide) ?_ ?_
    · exact jX4_isWanted_b36 C hRet v1 v2 v3 v4 hK10
    · refine J_aload_n C 0 rfl rfl dX4_isWanted_24 ?_
      refine J_iload C 4 rfl dX4_isWanted_25 ?_
      refine J_iload_n C 2 rfl rfl dX4_isWanted_27 ?_
      refine J_callP_V C [.int v4, .int v2] 0 4 rfl rfl (fun zr zh => tX4_isRegisteredAt v4 v2 σ zr zh) (cwV 2 C.1.2.2.2.2 gX4_isWanted_X4_isRegisteredAt rfl rfl rfl (by decide +kernel) ⟨Nat.le_of_ble_eq_true rfl, Nat.le_of_ble_eq_true rfl⟩) rfl rfl (Nat.le_of_ble_eq_true rfl) dX4_isWanted_28 (fun r1 => ?_)
      refine J_if_eq (tgt := 36) C dX4_isWanted_31 (by decide) ?_ ?_
      · exact jX4_isWanted_b36 C hRet v1 v2 v3 v4 hK10
      · refine J_iconst (v := (1 : Int32)) C dX4_isWanted_34 (by decide) ?_
        exact hRet (1 : Int32) _ _ (by decide) dX4_isWanted_35
set_option maxHeartbeats 4000000 in
set_option maxRecDepth 100000 in
theorem tX4_isWanted {l : Launch} {D : va_G} {ad : Nat → Nat} {cyI cyZ : ClassId} (v1 v2 : Int32) (σ : St) (r : Int32) (h : fX4_isWanted v1 v2 σ = some r) : MI l D [(cyI, .int), (cyZ, .boolean)] (wX ad cyI cyZ) yX4_isWanted wsX4_isWanted ({ frames := 3, cells := 0, slots := 0, locals := 63 } : Room) [.ref (ad 0), .int v1, .int v2] σ r σ := by
  refine entryPZ (own := RX4) r (by decide +kernel) rfl rfl (Nat.le_of_ble_eq_true rfl) (fX4_isWanted v1 v2 σ) h ?_
  intro p e s m below meth c Q A C hRet
  generalize ([.ref (ad 0), .int v1, .int v2] : List Value).toArray = args at *
  show J p l e ({ frames := 3, cells := 0, slots := 0, locals := 63 } : Room) s m args below meth c 5 D A (wX ad cyI cyZ) Q r (fX4_isWanted v1 v2 σ) σ 0 [(0, .ref (ad 0)), (1, .int v1), (2, .int v2)] []
  unfold fX4_isWanted
  refine J_iload_n C 1 rfl rfl dX4_isWanted_0 ?_
  refine J_callP_S C [.int v1] (fun zr zh => tX4_bridgeOf v1 σ zr zh) (va_cwS 1 C.1.2.2.2.2 gX4_isWanted_X4_bridgeOf rfl rfl rfl (by decide +kernel) ⟨Nat.le_of_ble_eq_true rfl, Nat.le_of_ble_eq_true rfl⟩) rfl rfl (Nat.le_of_ble_eq_true rfl) dX4_isWanted_1 (fun r1 => ?_)
  refine J_iconst (v := (4 : Int32)) C dX4_isWanted_4 (by decide) ?_
  refine J_imul C dX4_isWanted_5 ?_
  refine J_istore_n C rfl dX4_isWanted_6 (by decide) rfl ?_
  refine J_iload_n C 0 rfl rfl dX4_isWanted_7 ?_
  refine J_istore C dX4_isWanted_8 (by decide) rfl ?_
  refine J_lv [2, 3, 4, 1, 0] rfl ?_
  exact jX4_isWanted_L10 C hRet v1 v2 (r1 * (4 : Int32)) fuel (r1 * (4 : Int32))
-- X4_propagateTo
set_option maxHeartbeats 4000000 in
set_option maxRecDepth 100000 in
theorem jX4_propagateTo_b45 {K2 : Int32 → St → Option (St)} {o0 : St} (C : Cxt p s m args c cX4_propagateTo 3 wsX4_propagateTo RX4 D [(cyI, .int), (cyZ, .boolean)] A) (hRet : ∀ (σ2 : St) (pc : Nat) (lv : List (Nat × Value)), decode cX4_propagateTo pc = .ok (.return_, 1) → J p l e ({ frames := 4, cells := 0, slots := 0, locals := 87 } : Room) s m args below meth c 3 D A (wX ad cyI cyZ) Q o0 (some σ2) σ2 pc lv []) (σ : St) (v1 v2 : Int32) (hK2 : ∀ (v2 : Int32) (σ : St), J p l e ({ frames := 4, cells := 0, slots := 0, locals := 87 } : Room) s m args below meth c 3 D A (wX ad cyI cyZ) Q o0 (K2 v2 σ) σ 2 [(0, .ref (ad 0)), (1, .int v1), (2, .int v2)] []) : J p l e ({ frames := 4, cells := 0, slots := 0, locals := 87 } : Room) s m args below meth c 3 D A (wX ad cyI cyZ) Q o0 (fX4_propagateTo_b45 K2 v1 v2 σ) σ 45 [(0, .ref (ad 0)), (1, .int v1), (2, .int v2)] [] := by
  unfold fX4_propagateTo_b45
  refine J_iinc (d := (1 : Int32)) C 2 rfl dX4_propagateTo_45 (by decide) (by decide) rfl ?_
  refine J_goto (tgt := 2) C dX4_propagateTo_48 (by decide) ?_
  refine J_lv [1, 2, 0] rfl ?_
  exact hK2 (v2 + (1 : Int32)) σ
set_option maxHeartbeats 4000000 in
set_option maxRecDepth 100000 in
theorem jX4_propagateTo_L2  {o0 : St} (C : Cxt p s m args c cX4_propagateTo 3 wsX4_propagateTo RX4 D [(cyI, .int), (cyZ, .boolean)] A) (hRet : ∀ (σ2 : St) (pc : Nat) (lv : List (Nat × Value)), decode cX4_propagateTo pc = .ok (.return_, 1) → J p l e ({ frames := 4, cells := 0, slots := 0, locals := 87 } : Room) s m args below meth c 3 D A (wX ad cyI cyZ) Q o0 (some σ2) σ2 pc lv []) (v1 : Int32) (n : Nat) (v2 : Int32) (σ : St) : J p l e ({ frames := 4, cells := 0, slots := 0, locals := 87 } : Room) s m args below meth c 3 D A (wX ad cyI cyZ) Q o0 (loop1s (fX4_propagateTo_b2 v1) n v2 σ) σ 2 [(0, .ref (ad 0)), (1, .int v1), (2, .int v2)] [] := by
  refine J_loop1s (pc := 2) (fun v2 => [(0, .ref (ad 0)), (1, .int v1), (2, .int v2)]) (fX4_propagateTo_b2 v1) ?_ n v2 σ
  intro K2 hK2 v2 σ
  unfold fX4_propagateTo_b2
  refine J_iload_n C 2 rfl rfl dX4_propagateTo_2 ?_
  refine J_iconst (v := (4 : Int32)) C dX4_propagateTo_3 (by decide) ?_
  refine J_icmp_ge (tgt := 51) C dX4_propagateTo_4 (by decide) ?_ ?_
  · exact hRet σ _ _ dX4_propagateTo_51
  · refine J_aload_n C 0 rfl rfl dX4_propagateTo_7 ?_
    refine J_iload_n C 1 rfl rfl dX4_propagateTo_8 ?_
    refine J_iload_n C 2 rfl rfl dX4_propagateTo_9 ?_
    refine J_callP_V C [.int v1, .int v2] 0 4 rfl rfl (fun zr zh => tX4_isWanted v1 v2 σ zr zh) (cwV 2 C.1.2.2.2.2 gX4_propagateTo_X4_isWanted rfl rfl rfl (by decide +kernel) ⟨Nat.le_of_ble_eq_true rfl, Nat.le_of_ble_eq_true rfl⟩) rfl rfl (Nat.le_of_ble_eq_true rfl) dX4_propagateTo_10 (fun r1 => ?_)
    refine J_if_eq (tgt := 32) C dX4_propagateTo_13 (by decide) ?_ ?_
    · refine J_aload_n C 0 rfl rfl dX4_propagateTo_32 ?_
      refine J_get C 0 2 4 (C0 := RX4) (T := TX4) (N := 11) (by decide +kernel) rfl rfl (by decide) (by decide +kernel) rfl dX4_propagateTo_33 ?_
      refine J_iload_n C 1 rfl rfl dX4_propagateTo_36 ?_
      refine J_iload_n C 2 rfl rfl dX4_propagateTo_37 ?_
      refine J_callP_S C [.int v1, .int v2] (fun zr zh => tX4_cellOf v1 v2 σ zr zh) (va_cwS 2 C.1.2.2.2.2 gX4_propagateTo_X4_cellOf rfl rfl rfl (by decide +kernel) ⟨Nat.le_of_ble_eq_true rfl, Nat.le_of_ble_eq_true rfl⟩) rfl rfl (Nat.le_of_ble_eq_true rfl) dX4_propagateTo_38 (fun r2 => ?_)
      refine J_callI_VN C [.int r2] 3 0 rfl rfl (fun zr zs zh => tX0_stopDeclaring r2 σ zr zs zh) (⟨va_cnB (host := RX4) 1 C.1.2.2.2.2 gX4_propagateTo_X0_stopDeclaring_n107 rfl rfl rfl (C.2.2.2 _ (by decide +kernel)) (C.1.2.2.2.2 (.initialized RX0) (by decide +kernel)) (by decide +kernel) ⟨Nat.le_of_ble_eq_true rfl, Nat.le_of_ble_eq_true rfl⟩, C.1.2.2.2.2 (.instanceMethod yX0_stopDeclaring) (by decide +kernel), C.1.2.2.2.2 (.selects RX0 yX0_stopDeclaring yX0_stopDeclaring) (by decide +kernel)⟩) rfl rfl (Nat.le_of_ble_eq_true rfl) dX4_propagateTo_41 (fun r3 σ3 => ?_)
      refine J_pop C rfl dX4_propagateTo_44 ?_
      exact jX4_propagateTo_b45 C hRet σ3 v1 v2 hK2
    · refine J_aload_n C 0 rfl rfl dX4_propagateTo_16 ?_
      refine J_get C 0 2 4 (C0 := RX4) (T := TX4) (N := 11) (by decide +kernel) rfl rfl (by decide) (by decide +kernel) rfl dX4_propagateTo_17 ?_
      refine J_iload_n C 1 rfl rfl dX4_propagateTo_20 ?_
      refine J_iload_n C 2 rfl rfl dX4_propagateTo_21 ?_
      refine J_callP_S C [.int v1, .int v2] (fun zr zh => tX4_cellOf v1 v2 σ zr zh) (va_cwS 2 C.1.2.2.2.2 gX4_propagateTo_X4_cellOf rfl rfl rfl (by decide +kernel) ⟨Nat.le_of_ble_eq_true rfl, Nat.le_of_ble_eq_true rfl⟩) rfl rfl (Nat.le_of_ble_eq_true rfl) dX4_propagateTo_22 (fun r4 => ?_)
      refine J_callI_VN C [.int r4] 3 0 rfl rfl (fun zr zs zh => tX0_startDeclaring r4 σ zr zs zh) (⟨va_cnB (host := RX4) 1 C.1.2.2.2.2 gX4_propagateTo_X0_startDeclaring_n104 rfl rfl rfl (C.2.2.2 _ (by decide +kernel)) (C.1.2.2.2.2 (.initialized RX0) (by decide +kernel)) (by decide +kernel) ⟨Nat.le_of_ble_eq_true rfl, Nat.le_of_ble_eq_true rfl⟩, C.1.2.2.2.2 (.instanceMethod yX0_startDeclaring) (by decide +kernel), C.1.2.2.2.2 (.selects RX0 yX0_startDeclaring yX0_startDeclaring) (by decide +kernel)⟩) rfl rfl (Nat.le_of_ble_eq_true rfl) dX4_propagateTo_25 (fun r5 σ5 => ?_)
      refine J_pop C rfl dX4_propagateTo_28 ?_
      refine J_goto (tgt := 45) C dX4_propagateTo_29 (by decide) ?_
      exact jX4_propagateTo_b45 C hRet σ5 v1 v2 hK2
set_option maxHeartbeats 4000000 in
set_option maxRecDepth 100000 in
theorem tX4_propagateTo {l : Launch} {D : va_G} {ad : Nat → Nat} {cyI cyZ : ClassId} (v1 : Int32) (σ : St) (σ1 : St) (h : fX4_propagateTo v1 σ = some σ1) : MV l D [(cyI, .int), (cyZ, .boolean)] (wX ad cyI cyZ) yX4_propagateTo wsX4_propagateTo ({ frames := 4, cells := 0, slots := 0, locals := 87 } : Room) [.ref (ad 0), .int v1] σ σ1 := by
  refine entryV (own := RX4) σ1 (by decide +kernel) rfl rfl (Nat.le_of_ble_eq_true rfl) (fX4_propagateTo v1 σ) h ?_
  intro p e s m below meth c Q A C hRet
  generalize ([.ref (ad 0), .int v1] : List Value).toArray = args at *
  show J p l e ({ frames := 4, cells := 0, slots := 0, locals := 87 } : Room) s m args below meth c 3 D A (wX ad cyI cyZ) Q σ1 (fX4_propagateTo v1 σ) σ 0 [(0, .ref (ad 0)), (1, .int v1)] []
  unfold fX4_propagateTo
  refine J_iconst (v := (0 : Int32)) C dX4_propagateTo_0 (by decide) ?_
  refine J_istore_n C rfl dX4_propagateTo_1 (by decide) rfl ?_
  refine J_lv [1, 2, 0] rfl ?_
  exact jX4_propagateTo_L2 C hRet v1 fuel (0 : Int32) σ
-- X4_propagate
set_option maxHeartbeats 4000000 in
set_option maxRecDepth 100000 in
theorem jX4_propagate_b24 {K2 : Int32 → St → Option (St)} {o0 : St} (C : Cxt p s m args c cX4_propagate 2 wsX4_propagate RX4 D [(cyI, .int), (cyZ, .boolean)] A) (hRet : ∀ (σ2 : St) (pc : Nat) (lv : List (Nat × Value)), decode cX4_propagate pc = .ok (.return_, 1) → J p l e ({ frames := 5, cells := 0, slots := 0, locals := 109 } : Room) s m args below meth c 2 D A (wX ad cyI cyZ) Q o0 (some σ2) σ2 pc lv []) (σ : St) (v1 : Int32) (hK2 : ∀ (v1 : Int32) (σ : St), J p l e ({ frames := 5, cells := 0, slots := 0, locals := 109 } : Room) s m args below meth c 2 D A (wX ad cyI cyZ) Q o0 (K2 v1 σ) σ 2 [(0, .ref (ad 0)), (1, .int v1)] []) : J p l e ({ frames := 5, cells := 0, slots := 0, locals := 109 } : Room) s m args below meth c 2 D A (wX ad cyI cyZ) Q o0 (fX4_propagate_b24 K2 v1 σ) σ 24 [(0, .ref (ad 0)), (1, .int v1)] [] := by
  unfold fX4_propagate_b24
  refine J_iinc (d := (1 : Int32)) C 1 rfl dX4_propagate_24 (by decide) (by decide) rfl ?_
  refine J_goto (tgt := 2) C dX4_propagate_27 (by decide) ?_
  refine J_lv [1, 0] rfl ?_
  exact hK2 (v1 + (1 : Int32)) σ
set_option maxHeartbeats 4000000 in
set_option maxRecDepth 100000 in
theorem jX4_propagate_L2  {o0 : St} (C : Cxt p s m args c cX4_propagate 2 wsX4_propagate RX4 D [(cyI, .int), (cyZ, .boolean)] A) (hRet : ∀ (σ2 : St) (pc : Nat) (lv : List (Nat × Value)), decode cX4_propagate pc = .ok (.return_, 1) → J p l e ({ frames := 5, cells := 0, slots := 0, locals := 109 } : Room) s m args below meth c 2 D A (wX ad cyI cyZ) Q o0 (some σ2) σ2 pc lv []) (n : Nat) (v1 : Int32) (σ : St) : J p l e ({ frames := 5, cells := 0, slots := 0, locals := 109 } : Room) s m args below meth c 2 D A (wX ad cyI cyZ) Q o0 (loop1s (fX4_propagate_b2) n v1 σ) σ 2 [(0, .ref (ad 0)), (1, .int v1)] [] := by
  refine J_loop1s (pc := 2) (fun v1 => [(0, .ref (ad 0)), (1, .int v1)]) (fX4_propagate_b2) ?_ n v1 σ
  intro K2 hK2 v1 σ
  unfold fX4_propagate_b2
  refine J_iload_n C 1 rfl rfl dX4_propagate_2 ?_
  refine J_bipush (v := (20 : Int32)) C dX4_propagate_3 (by decide) ?_
  refine J_icmp_ge (tgt := 30) C dX4_propagate_5 (by decide) ?_ ?_
  · exact hRet σ _ _ dX4_propagate_30
  · refine J_aload_n C 0 rfl rfl dX4_propagate_8 ?_
    refine J_get C 0 0 4 (C0 := RX4) (T := TX4) (N := 11) (by decide +kernel) rfl rfl (by decide) (by decide +kernel) rfl dX4_propagate_9 ?_
    refine J_iload_n C 1 rfl rfl dX4_propagate_12 ?_
    refine J_callP_VN C [.int v1] 1 1 rfl rfl (fun zr zh => tX1_isConnected v1 σ zr zh) (⟨va_cnB (host := RX4) 1 C.1.2.2.2.2 gX4_propagate_X1_isConnected_n68 rfl rfl rfl (C.2.2.2 _ (by decide +kernel)) (C.1.2.2.2.2 (.initialized RX1) (by decide +kernel)) (by decide +kernel) ⟨Nat.le_of_ble_eq_true rfl, Nat.le_of_ble_eq_true rfl⟩, C.1.2.2.2.2 (.instanceMethod yX1_isConnected) (by decide +kernel), C.1.2.2.2.2 (.selects RX1 yX1_isConnected yX1_isConnected) (by decide +kernel)⟩) rfl rfl (Nat.le_of_ble_eq_true rfl) dX4_propagate_13 (fun r1 => ?_)
    refine J_if_eq (tgt := 24) C dX4_propagate_16 (by decide) ?_ ?_
    · exact jX4_propagate_b24 C hRet σ v1 hK2
    · refine J_aload_n C 0 rfl rfl dX4_propagate_19 ?_
      refine J_iload_n C 1 rfl rfl dX4_propagate_20 ?_
      refine J_callV_V C [.int v1] 0 4 rfl rfl (fun zs zh => tX4_propagateTo v1 σ zs zh) (cwV 1 C.1.2.2.2.2 gX4_propagate_X4_propagateTo rfl rfl rfl (by decide +kernel) ⟨Nat.le_of_ble_eq_true rfl, Nat.le_of_ble_eq_true rfl⟩) rfl rfl (Nat.le_of_ble_eq_true rfl) dX4_propagate_21 (fun σ2 => ?_)
      exact jX4_propagate_b24 C hRet σ2 v1 hK2
set_option maxHeartbeats 4000000 in
set_option maxRecDepth 100000 in
theorem tX4_propagate {l : Launch} {D : va_G} {ad : Nat → Nat} {cyI cyZ : ClassId} (σ : St) (σ1 : St) (h : fX4_propagate σ = some σ1) : MV l D [(cyI, .int), (cyZ, .boolean)] (wX ad cyI cyZ) yX4_propagate wsX4_propagate ({ frames := 5, cells := 0, slots := 0, locals := 109 } : Room) [.ref (ad 0)] σ σ1 := by
  refine entryV (own := RX4) σ1 (by decide +kernel) rfl rfl (Nat.le_of_ble_eq_true rfl) (fX4_propagate σ) h ?_
  intro p e s m below meth c Q A C hRet
  generalize ([.ref (ad 0)] : List Value).toArray = args at *
  show J p l e ({ frames := 5, cells := 0, slots := 0, locals := 109 } : Room) s m args below meth c 2 D A (wX ad cyI cyZ) Q σ1 (fX4_propagate σ) σ 0 [(0, .ref (ad 0))] []
  unfold fX4_propagate
  refine J_iconst (v := (0 : Int32)) C dX4_propagate_0 (by decide) ?_
  refine J_istore_n C rfl dX4_propagate_1 (by decide) rfl ?_
  refine J_lv [1, 0] rfl ?_
  exact jX4_propagate_L2 C hRet fuel (0 : Int32) σ
-- X4_obeyLeaveAll
set_option maxHeartbeats 4000000 in
set_option maxRecDepth 100000 in
theorem jX4_obeyLeaveAll_b32 {K2 : Int32 → St → Option (St)} {o0 : St} (C : Cxt p s m args c cX4_obeyLeaveAll 4 wsX4_obeyLeaveAll RX4 D [(cyI, .int), (cyZ, .boolean)] A) (hRet : ∀ (σ2 : St) (pc : Nat) (lv : List (Nat × Value)), decode cX4_obeyLeaveAll pc = .ok (.return_, 1) → J p l e ({ frames := 2, cells := 0, slots := 0, locals := 45 } : Room) s m args below meth c 4 D A (wX ad cyI cyZ) Q o0 (some σ2) σ2 pc lv []) (σ : St) (v1 v2 v3 : Int32) (hK2 : ∀ (v2 : Int32) (σ : St), J p l e ({ frames := 2, cells := 0, slots := 0, locals := 45 } : Room) s m args below meth c 4 D A (wX ad cyI cyZ) Q o0 (K2 v2 σ) σ 2 [(0, .ref (ad 0)), (1, .int v1), (2, .int v2)] []) : J p l e ({ frames := 2, cells := 0, slots := 0, locals := 45 } : Room) s m args below meth c 4 D A (wX ad cyI cyZ) Q o0 (fX4_obeyLeaveAll_b32 K2 v1 v2 v3 σ) σ 32 [(0, .ref (ad 0)), (1, .int v1), (2, .int v2), (3, .int v3)] [] := by
  unfold fX4_obeyLeaveAll_b32
  refine J_aload_n C 0 rfl rfl dX4_obeyLeaveAll_32 ?_
  refine J_get C 0 2 4 (C0 := RX4) (T := TX4) (N := 11) (by decide +kernel) rfl rfl (by decide) (by decide +kernel) rfl dX4_obeyLeaveAll_33 ?_
  refine J_iload_n C 3 rfl rfl dX4_obeyLeaveAll_36 ?_
  refine J_callV_VN C [.int v3] 3 0 rfl rfl (fun zs zh => tX0_declareAgain v3 σ zs zh) (⟨va_cnB (host := RX4) 1 C.1.2.2.2.2 gX4_obeyLeaveAll_X0_declareAgain_n210 rfl rfl rfl (C.2.2.2 _ (by decide +kernel)) (C.1.2.2.2.2 (.initialized RX0) (by decide +kernel)) (by decide +kernel) ⟨Nat.le_of_ble_eq_true rfl, Nat.le_of_ble_eq_true rfl⟩, C.1.2.2.2.2 (.instanceMethod yX0_declareAgain) (by decide +kernel), C.1.2.2.2.2 (.selects RX0 yX0_declareAgain yX0_declareAgain) (by decide +kernel)⟩) rfl rfl (Nat.le_of_ble_eq_true rfl) dX4_obeyLeaveAll_37 (fun σ1 => ?_)
  refine J_iinc (d := (1 : Int32)) C 2 rfl dX4_obeyLeaveAll_40 (by decide) (by decide) rfl ?_
  refine J_goto (tgt := 2) C dX4_obeyLeaveAll_43 (by decide) ?_
  refine J_lv [1, 2, 0] rfl ?_
  exact hK2 (v2 + (1 : Int32)) σ1
set_option maxHeartbeats 4000000 in
set_option maxRecDepth 100000 in
theorem jX4_obeyLeaveAll_L2  {o0 : St} (C : Cxt p s m args c cX4_obeyLeaveAll 4 wsX4_obeyLeaveAll RX4 D [(cyI, .int), (cyZ, .boolean)] A) (hRet : ∀ (σ2 : St) (pc : Nat) (lv : List (Nat × Value)), decode cX4_obeyLeaveAll pc = .ok (.return_, 1) → J p l e ({ frames := 2, cells := 0, slots := 0, locals := 45 } : Room) s m args below meth c 4 D A (wX ad cyI cyZ) Q o0 (some σ2) σ2 pc lv []) (v1 : Int32) (n : Nat) (v2 : Int32) (σ : St) : J p l e ({ frames := 2, cells := 0, slots := 0, locals := 45 } : Room) s m args below meth c 4 D A (wX ad cyI cyZ) Q o0 (loop1s (fX4_obeyLeaveAll_b2 v1) n v2 σ) σ 2 [(0, .ref (ad 0)), (1, .int v1), (2, .int v2)] [] := by
  refine J_loop1s (pc := 2) (fun v2 => [(0, .ref (ad 0)), (1, .int v1), (2, .int v2)]) (fX4_obeyLeaveAll_b2 v1) ?_ n v2 σ
  intro K2 hK2 v2 σ
  unfold fX4_obeyLeaveAll_b2
  refine J_iload_n C 2 rfl rfl dX4_obeyLeaveAll_2 ?_
  refine J_iconst (v := (4 : Int32)) C dX4_obeyLeaveAll_3 (by decide) ?_
  refine J_icmp_ge (tgt := 46) C dX4_obeyLeaveAll_4 (by decide) ?_ ?_
  · exact hRet σ _ _ dX4_obeyLeaveAll_46
  · refine J_iload_n C 1 rfl rfl dX4_obeyLeaveAll_7 ?_
    refine J_iload_n C 2 rfl rfl dX4_obeyLeaveAll_8 ?_
    refine J_callP_S C [.int v1, .int v2] (fun zr zh => tX4_cellOf v1 v2 σ zr zh) (va_cwS 2 C.1.2.2.2.2 gX4_obeyLeaveAll_X4_cellOf rfl rfl rfl (by decide +kernel) ⟨Nat.le_of_ble_eq_true rfl, Nat.le_of_ble_eq_true rfl⟩) rfl rfl (Nat.le_of_ble_eq_true rfl) dX4_obeyLeaveAll_9 (fun r1 => ?_)
    refine J_istore_n C rfl dX4_obeyLeaveAll_12 (by decide) rfl ?_
    refine J_iload_n C 2 rfl rfl dX4_obeyLeaveAll_13 ?_
    refine J_callP_S C [.int v1] (fun zr zh => tX4_isPort v1 σ zr zh) (va_cwS 1 C.1.2.2.2.2 gX4_obeyLeaveAll_X4_isPort rfl rfl rfl (by decide +kernel) ⟨Nat.le_of_ble_eq_true rfl, Nat.le_of_ble_eq_true rfl⟩) rfl rfl (Nat.le_of_ble_eq_true rfl) dX4_obeyLeaveAll_14 (fun r2 => ?_)
    refine J_if_eq (tgt := 32) C dX4_obeyLeaveAll_17 (by decide) ?_ ?_
    · refine J_lv [1, 2, 3, 0] rfl ?_
      exact jX4_obeyLeaveAll_b32 C hRet σ v1 v2 r1 hK2
    · refine J_aload_n C 1 rfl rfl dX4_obeyLeaveAll_20 ?_
      refine J_get C 0 1 4 (C0 := RX4) (T := TX4) (N := 11) (by decide +kernel) rfl rfl (by decide) (by decide +kernel) rfl dX4_obeyLeaveAll_21 ?_
      refine J_iload_n C 0 rfl rfl dX4_obeyLeaveAll_24 ?_
      refine J_aload_n C 1 rfl rfl dX4_obeyLeaveAll_25 ?_
      refine J_get C 0 8 4 (C0 := RX4) (T := TX4) (N := 11) (by decide +kernel) rfl rfl (by decide) (by decide +kernel) rfl dX4_obeyLeaveAll_26 ?_
      refine J_callV_VN C [.int r1, .int (σ 0 8)] 2 3 rfl rfl (fun zs zh => tX3_startLeaving r1 (σ 0 8) σ zs zh) (⟨va_cnB (host := RX4) 2 C.1.2.2.2.2 gX4_obeyLeaveAll_X3_startLeaving_n207 rfl rfl rfl (C.2.2.2 _ (by decide +kernel)) (C.1.2.2.2.2 (.initialized RX3) (by decide +kernel)) (by decide +kernel) ⟨Nat.le_of_ble_eq_true rfl, Nat.le_of_ble_eq_true rfl⟩, C.1.2.2.2.2 (.instanceMethod yX3_startLeaving) (by decide +kernel), C.1.2.2.2.2 (.selects RX3 yX3_startLeaving yX3_startLeaving) (by decide +kernel)⟩) rfl rfl (Nat.le_of_ble_eq_true rfl) dX4_obeyLeaveAll_29 (fun σ3 => ?_)
      refine J_lv [1, 2, 3, 0] rfl ?_
      exact jX4_obeyLeaveAll_b32 C hRet σ3 v1 v2 r1 hK2
set_option maxHeartbeats 4000000 in
set_option maxRecDepth 100000 in
theorem tX4_obeyLeaveAll {l : Launch} {D : va_G} {ad : Nat → Nat} {cyI cyZ : ClassId} (v1 : Int32) (σ : St) (σ1 : St) (h : fX4_obeyLeaveAll v1 σ = some σ1) : MV l D [(cyI, .int), (cyZ, .boolean)] (wX ad cyI cyZ) yX4_obeyLeaveAll wsX4_obeyLeaveAll ({ frames := 2, cells := 0, slots := 0, locals := 45 } : Room) [.ref (ad 0), .int v1] σ σ1 := by
  refine entryV (own := RX4) σ1 (by decide +kernel) rfl rfl (Nat.le_of_ble_eq_true rfl) (fX4_obeyLeaveAll v1 σ) h ?_
  intro p e s m below meth c Q A C hRet
  generalize ([.ref (ad 0), .int v1] : List Value).toArray = args at *
  show J p l e ({ frames := 2, cells := 0, slots := 0, locals := 45 } : Room) s m args below meth c 4 D A (wX ad cyI cyZ) Q σ1 (fX4_obeyLeaveAll v1 σ) σ 0 [(0, .ref (ad 0)), (1, .int v1)] []
  unfold fX4_obeyLeaveAll
  refine J_iconst (v := (0 : Int32)) C dX4_obeyLeaveAll_0 (by decide) ?_
  refine J_istore_n C rfl dX4_obeyLeaveAll_1 (by decide) rfl ?_
  refine J_lv [1, 2, 0] rfl ?_
  exact jX4_obeyLeaveAll_L2 C hRet v1 fuel (0 : Int32) σ
-- X4_sendFrom
set_option maxHeartbeats 4000000 in
set_option maxRecDepth 100000 in
theorem jX4_sendFrom_b85 {K38 : Int32 → Int32 → St → Option (Int32 × St)} {o0 : Int32 × St} (C : Cxt p s m args c cX4_sendFrom 5 wsX4_sendFrom RX4 D [(cyI, .int), (cyZ, .boolean)] A) (hRet : ∀ (v : Int32) (σ2 : St) (pc : Nat) (lv : List (Nat × Value)), decode cX4_sendFrom pc = .ok (.ireturn, 1) → J p l e ({ frames := 3, cells := 0, slots := 0, locals := 68 } : Room) s m args below meth c 5 D A (wX ad cyI cyZ) Q o0 (some (v, σ2)) σ2 pc lv [.int v]) (σ : St) (v1 v2 v3 v4 : Int32) (hK38 : ∀ (v2 v3 : Int32) (σ : St), J p l e ({ frames := 3, cells := 0, slots := 0, locals := 68 } : Room) s m args below meth c 5 D A (wX ad cyI cyZ) Q o0 (K38 v2 v3 σ) σ 38 [(0, .ref (ad 0)), (1, .int v1), (2, .int v2), (3, .int v3)] []) : J p l e ({ frames := 3, cells := 0, slots := 0, locals := 68 } : Room) s m args below meth c 5 D A (wX ad cyI cyZ) Q o0 (fX4_sendFrom_b85 K38 v1 v2 v3 v4 σ) σ 85 [(0, .ref (ad 0)), (1, .int v1), (2, .int v2), (3, .int v3), (4, .int v4)] [] := by
  unfold fX4_sendFrom_b85
  refine J_iinc (d := (1 : Int32)) C 3 rfl dX4_sendFrom_85 (by decide) (by decide) rfl ?_
  refine J_goto (tgt := 38) C dX4_sendFrom_88 (by decide) ?_
  refine J_lv [1, 2, 3, 0] rfl ?_
  exact hK38 v2 (v3 + (1 : Int32)) σ
set_option maxHeartbeats 4000000 in
set_option maxRecDepth 100000 in
theorem jX4_sendFrom_L38  {o0 : Int32 × St} (C : Cxt p s m args c cX4_sendFrom 5 wsX4_sendFrom RX4 D [(cyI, .int), (cyZ, .boolean)] A) (hRet : ∀ (v : Int32) (σ2 : St) (pc : Nat) (lv : List (Nat × Value)), decode cX4_sendFrom pc = .ok (.ireturn, 1) → J p l e ({ frames := 3, cells := 0, slots := 0, locals := 68 } : Room) s m args below meth c 5 D A (wX ad cyI cyZ) Q o0 (some (v, σ2)) σ2 pc lv [.int v]) (v1 : Int32) (n : Nat) (v2 v3 : Int32) (σ : St) : J p l e ({ frames := 3, cells := 0, slots := 0, locals := 68 } : Room) s m args below meth c 5 D A (wX ad cyI cyZ) Q o0 (loop2s (fX4_sendFrom_b38 v1) n v2 v3 σ) σ 38 [(0, .ref (ad 0)), (1, .int v1), (2, .int v2), (3, .int v3)] [] := by
  refine J_loop2s (pc := 38) (fun v2 v3 => [(0, .ref (ad 0)), (1, .int v1), (2, .int v2), (3, .int v3)]) (fX4_sendFrom_b38 v1) ?_ n v2 v3 σ
  intro K38 hK38 v2 v3 σ
  unfold fX4_sendFrom_b38
  refine J_iload_n C 3 rfl rfl dX4_sendFrom_38 ?_
  refine J_iconst (v := (4 : Int32)) C dX4_sendFrom_39 (by decide) ?_
  refine J_icmp_ge (tgt := 91) C dX4_sendFrom_40 (by decide) ?_ ?_
  · refine J_iload_n C 2 rfl rfl dX4_sendFrom_91 ?_
    exact hRet v2 σ _ _ dX4_sendFrom_92
  · refine J_iload_n C 1 rfl rfl dX4_sendFrom_43 ?_
    refine J_iload_n C 3 rfl rfl dX4_sendFrom_44 ?_
    refine J_callP_S C [.int v1, .int v3] (fun zr zh => tX4_cellOf v1 v3 σ zr zh) (va_cwS 2 C.1.2.2.2.2 gX4_sendFrom_X4_cellOf rfl rfl rfl (by decide +kernel) ⟨Nat.le_of_ble_eq_true rfl, Nat.le_of_ble_eq_true rfl⟩) rfl rfl (Nat.le_of_ble_eq_true rfl) dX4_sendFrom_45 (fun r1 => ?_)
    refine J_istore C dX4_sendFrom_48 (by decide) rfl ?_
    refine J_aload_n C 1 rfl rfl dX4_sendFrom_50 ?_
    refine J_get C 0 3 4 (C0 := RX4) (T := TX4) (N := 11) (by decide +kernel) rfl rfl (by decide) (by decide +kernel) rfl dX4_sendFrom_51 ?_
    refine J_getN C 4 1 2 (C0 := RX2) (T := TX2) (N := 2) (host := RX4) (by decide +kernel) rfl rfl (by decide) (by decide +kernel) rfl dX4_sendFrom_54 ?_
    refine J_iload C 0 rfl dX4_sendFrom_57 ?_
    refine J_aload_n C 1 rfl rfl dX4_sendFrom_59 ?_
    refine J_get C 0 2 4 (C0 := RX4) (T := TX4) (N := 11) (by decide +kernel) rfl rfl (by decide) (by decide +kernel) rfl dX4_sendFrom_60 ?_
    refine J_iload C 0 rfl dX4_sendFrom_63 ?_
    refine J_callI_VN C [.int r1] 3 0 rfl rfl (fun zr zs zh => tX0_nextMessage r1 σ zr zs zh) (⟨va_cnB (host := RX4) 1 C.1.2.2.2.2 gX4_sendFrom_X0_nextMessage_n204 rfl rfl rfl (C.2.2.2 _ (by decide +kernel)) (C.1.2.2.2.2 (.initialized RX0) (by decide +kernel)) (by decide +kernel) ⟨Nat.le_of_ble_eq_true rfl, Nat.le_of_ble_eq_true rfl⟩, C.1.2.2.2.2 (.instanceMethod yX0_nextMessage) (by decide +kernel), C.1.2.2.2.2 (.selects RX0 yX0_nextMessage yX0_nextMessage) (by decide +kernel)⟩) rfl rfl (Nat.le_of_ble_eq_true rfl) dX4_sendFrom_65 (fun r2 σ2 => ?_)
    refine J_iast (σ' := up2 σ2 11 r1.toNatClampNeg r2) C 11 0 rfl rfl (wX_s11 _ _ _ _ _ _) dX4_sendFrom_68 ?_
    refine J_aload_n C 1 rfl rfl dX4_sendFrom_69 ?_
    refine J_get C 0 3 4 (C0 := RX4) (T := TX4) (N := 11) (by decide +kernel) rfl rfl (by decide) (by decide +kernel) rfl dX4_sendFrom_70 ?_
    refine J_getN C 4 1 2 (C0 := RX2) (T := TX2) (N := 2) (host := RX4) (by decide +kernel) rfl rfl (by decide) (by decide +kernel) rfl dX4_sendFrom_73 ?_
    refine J_iload C 0 rfl dX4_sendFrom_76 ?_
    refine J_iald C 11 0 rfl rfl dX4_sendFrom_78 ?_
    refine J_if_eq (tgt := 85) C dX4_sendFrom_79 (by decide) ?_ ?_
    · refine J_lv [1, 2, 3, 4, 0] rfl ?_
      exact jX4_sendFrom_b85 C hRet (up2 σ2 11 r1.toNatClampNeg r2) v1 v2 v3 r1 hK38
    · refine J_iinc (d := (1 : Int32)) C 3 rfl dX4_sendFrom_82 (by decide) (by decide) rfl ?_
      refine J_lv [2, 3, 0, 4, 1] rfl ?_
      exact jX4_sendFrom_b85 C hRet (up2 σ2 11 r1.toNatClampNeg r2) v1 (v2 + (1 : Int32)) v3 r1 hK38
set_option maxHeartbeats 4000000 in
set_option maxRecDepth 100000 in
theorem jX4_sendFrom_b36  {o0 : Int32 × St} (C : Cxt p s m args c cX4_sendFrom 5 wsX4_sendFrom RX4 D [(cyI, .int), (cyZ, .boolean)] A) (hRet : ∀ (v : Int32) (σ2 : St) (pc : Nat) (lv : List (Nat × Value)), decode cX4_sendFrom pc = .ok (.ireturn, 1) → J p l e ({ frames := 3, cells := 0, slots := 0, locals := 68 } : Room) s m args below meth c 5 D A (wX ad cyI cyZ) Q o0 (some (v, σ2)) σ2 pc lv [.int v]) (σ : St) (v1 v2 : Int32) : J p l e ({ frames := 3, cells := 0, slots := 0, locals := 68 } : Room) s m args below meth c 5 D A (wX ad cyI cyZ) Q o0 (fX4_sendFrom_b36 v1 v2 σ) σ 36 [(0, .ref (ad 0)), (1, .int v1), (2, .int v2)] [] := by
  unfold fX4_sendFrom_b36
  refine J_iconst (v := (0 : Int32)) C dX4_sendFrom_36 (by decide) ?_
  refine J_istore_n C rfl dX4_sendFrom_37 (by decide) rfl ?_
  refine J_lv [1, 2, 3, 0] rfl ?_
  exact jX4_sendFrom_L38 C hRet v1 fuel v2 (0 : Int32) σ
set_option maxHeartbeats 4000000 in
set_option maxRecDepth 100000 in
theorem tX4_sendFrom {l : Launch} {D : va_G} {ad : Nat → Nat} {cyI cyZ : ClassId} (v1 : Int32) (σ : St) (r : Int32) (σ1 : St) (h : fX4_sendFrom v1 σ = some (r, σ1)) : MI l D [(cyI, .int), (cyZ, .boolean)] (wX ad cyI cyZ) yX4_sendFrom wsX4_sendFrom ({ frames := 3, cells := 0, slots := 0, locals := 68 } : Room) [.ref (ad 0), .int v1] σ r σ1 := by
  refine entryI (own := RX4) r σ1 (by decide +kernel) rfl rfl (Nat.le_of_ble_eq_true rfl) (fX4_sendFrom v1 σ) h ?_
  intro p e s m below meth c Q A C hRet
  generalize ([.ref (ad 0), .int v1] : List Value).toArray = args at *
  show J p l e ({ frames := 3, cells := 0, slots := 0, locals := 68 } : Room) s m args below meth c 5 D A (wX ad cyI cyZ) Q (r, σ1) (fX4_sendFrom v1 σ) σ 0 [(0, .ref (ad 0)), (1, .int v1)] []
  unfold fX4_sendFrom
  refine J_iconst (v := (0 : Int32)) C dX4_sendFrom_0 (by decide) ?_
  refine J_istore_n C rfl dX4_sendFrom_1 (by decide) rfl ?_
  refine J_iload_n C 2 rfl rfl dX4_sendFrom_2 ?_
  refine J_callP_S C [.int v1] (fun zr zh => tX4_isPort v1 σ zr zh) (va_cwS 1 C.1.2.2.2.2 gX4_sendFrom_X4_isPort rfl rfl rfl (by decide +kernel) ⟨Nat.le_of_ble_eq_true rfl, Nat.le_of_ble_eq_true rfl⟩) rfl rfl (Nat.le_of_ble_eq_true rfl) dX4_sendFrom_3 (fun r1 => ?_)
  refine J_if_eq (tgt := 36) C dX4_sendFrom_6 (by decide) ?_ ?_
  · refine J_lv [1, 2, 0] rfl ?_
    exact jX4_sendFrom_b36 C hRet σ v1 (0 : Int32)
  · refine J_aload_n C 1 rfl rfl dX4_sendFrom_9 ?_
    refine J_get C 0 5 4 (C0 := RX4) (T := TX4) (N := 11) (by decide +kernel) rfl rfl (by decide) (by decide +kernel) rfl dX4_sendFrom_10 ?_
    refine J_iload_n C 2 rfl rfl dX4_sendFrom_13 ?_
    refine J_zald C 13 1 rfl rfl dX4_sendFrom_14 ?_
    refine J_if_eq (tgt := 36) C dX4_sendFrom_15 (by decide) ?_ ?_
    · refine J_lv [1, 2, 0] rfl ?_
      exact jX4_sendFrom_b36 C hRet σ v1 (0 : Int32)
    · refine J_aload_n C 1 rfl rfl dX4_sendFrom_18 ?_
      refine J_get C 0 3 4 (C0 := RX4) (T := TX4) (N := 11) (by decide +kernel) rfl rfl (by decide) (by decide +kernel) rfl dX4_sendFrom_19 ?_
      refine J_getN C 4 0 2 (C0 := RX2) (T := TX2) (N := 2) (host := RX4) (by decide +kernel) rfl rfl (by decide) (by decide +kernel) rfl dX4_sendFrom_22 ?_
      refine J_iload_n C 2 rfl rfl dX4_sendFrom_25 ?_
      refine J_iconst (v := (1 : Int32)) C dX4_sendFrom_26 (by decide) ?_
      refine J_zast (σ' := up2 σ 10 v1.toNatClampNeg (vp_nar .boolean (1 : Int32))) C 10 1 rfl rfl (wX_s10 _ _ _ _ _ _) dX4_sendFrom_27 ?_
      refine J_aload_n C 1 rfl rfl dX4_sendFrom_28 ?_
      refine J_iload_n C 2 rfl rfl dX4_sendFrom_29 ?_
      refine J_callV_V C [.int v1] 0 4 rfl rfl (fun zs zh => tX4_obeyLeaveAll v1 (up2 σ 10 v1.toNatClampNeg (vp_nar .boolean (1 : Int32))) zs zh) (cwV 1 C.1.2.2.2.2 gX4_sendFrom_X4_obeyLeaveAll rfl rfl rfl (by decide +kernel) ⟨Nat.le_of_ble_eq_true rfl, Nat.le_of_ble_eq_true rfl⟩) rfl rfl (Nat.le_of_ble_eq_true rfl) dX4_sendFrom_30 (fun σ2 => ?_)
      refine J_iinc (d := (1 : Int32)) C 0 rfl dX4_sendFrom_33 (by decide) (by decide) rfl ?_
      refine J_lv [1, 2, 0] rfl ?_
      exact jX4_sendFrom_b36 C hRet σ2 v1 ((0 : Int32) + (1 : Int32))
end
