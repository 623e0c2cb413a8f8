-- printed by wip/whole/walk.py
section
variable {p : Program} {l : Launch} {e : Env} {s : State} {m : MethodId} {args : Array Value} {below : List Frame} {meth : Method} {c : Code} {D : va_G} {A : Nat → Prop} {Q : State → Prop} {ad : Nat → Nat} {cyI cyZ : ClassId}
-- X4_missedCount
set_option maxHeartbeats 4000000 in
set_option maxRecDepth 100000 in
theorem jX4_missedCount_b99 {K27 : Int32 → Int32 → Option (Int32)} {o0 : Int32} {σ : St} (C : Cxt p s m args c cX4_missedCount 8 wsX4_missedCount RX4 D [(cyI, .int), (cyZ, .boolean)] A) (hRet : ∀ (v : Int32) (pc : Nat) (lv : List (Nat × Value)), decode cX4_missedCount pc = .ok (.ireturn, 1) → J p l e ({ frames := 5, cells := 0, slots := 0, locals := 113 } : Room) s m args below meth c 8 D A (wX ad cyI cyZ) Q o0 (some v) σ pc lv [.int v]) (v1 v2 v3 v4 v5 v6 v7 : Int32) (hK27 : ∀ (v5 v6 : Int32), J p l e ({ frames := 5, cells := 0, slots := 0, locals := 113 } : Room) s m args below meth c 8 D A (wX ad cyI cyZ) Q o0 (K27 v5 v6) σ 27 [(0, .ref (ad 0)), (1, .int v1), (2, .int v2), (3, .int v3), (4, .int v4), (5, .int v5), (6, .int v6)] []) : J p l e ({ frames := 5, cells := 0, slots := 0, locals := 113 } : Room) s m args below meth c 8 D A (wX ad cyI cyZ) Q o0 (fX4_missedCount_b99 K27 v1 v2 v3 v4 v5 v6 v7 σ) σ 99 [(0, .ref (ad 0)), (1, .int v1), (2, .int v2), (3, .int v3), (4, .int v4), (5, .int v5), (6, .int v6), (7, .int v7)] [] := by
  unfold fX4_missedCount_b99
  refine J_iinc (d := (1 : Int32)) C 6 rfl dX4_missedCount_99 (by decide) (by decide) rfl ?_
  refine J_goto (tgt := 27) C dX4_missedCount_102 (by decide) ?_
  refine J_lv [1, 2, 3, 4, 5, 6, 0] rfl ?_
  exact hK27 v5 (v6 + (1 : Int32))
set_option maxHeartbeats 4000000 in
set_option maxRecDepth 100000 in
theorem jX4_missedCount_b79 {K27 : Int32 → Int32 → Option (Int32)} {o0 : Int32} {σ : St} (C : Cxt p s m args c cX4_missedCount 8 wsX4_missedCount RX4 D [(cyI, .int), (cyZ, .boolean)] A) (hRet : ∀ (v : Int32) (pc : Nat) (lv : List (Nat × Value)), decode cX4_missedCount pc = .ok (.ireturn, 1) → J p l e ({ frames := 5, cells := 0, slots := 0, locals := 113 } : Room) s m args below meth c 8 D A (wX ad cyI cyZ) Q o0 (some v) σ pc lv [.int v]) (v1 v2 v3 v4 v5 v6 t0 : Int32) (hK27 : ∀ (v5 v6 : Int32), J p l e ({ frames := 5, cells := 0, slots := 0, locals := 113 } : Room) s m args below meth c 8 D A (wX ad cyI cyZ) Q o0 (K27 v5 v6) σ 27 [(0, .ref (ad 0)), (1, .int v1), (2, .int v2), (3, .int v3), (4, .int v4), (5, .int v5), (6, .int v6)] []) : J p l e ({ frames := 5, cells := 0, slots := 0, locals := 113 } : Room) s m args below meth c 8 D A (wX ad cyI cyZ) Q o0 (fX4_missedCount_b79 K27 v1 v2 v3 v4 v5 v6 t0 σ) σ 79 [(0, .ref (ad 0)), (1, .int v1), (2, .int v2), (3, .int v3), (4, .int v4), (5, .int v5), (6, .int v6)] [.int t0] := by
  unfold fX4_missedCount_b79
  refine J_istore C dX4_missedCount_79 (by decide) rfl ?_
  refine J_iload C 0 rfl dX4_missedCount_81 ?_
  refine J_if_eq (tgt := 99) C dX4_missedCount_83 (by decide) ?_ ?_
  · refine J_lv [1, 2, 3, 4, 5, 6, 7, 0] rfl ?_
    exact jX4_missedCount_b99 C hRet v1 v2 v3 v4 v5 v6 t0 hK27
  · refine J_iload C 5 rfl dX4_missedCount_86 ?_
    refine J_iload C 7 rfl dX4_missedCount_88 ?_
    refine J_callP_S C [.int v4, .int v6] (fun zr zh => tX4_contains v4 v6 σ zr zh) (va_cwS 2 C.1.2.2.2.2 gX4_missedCount_X4_contains rfl rfl rfl (by decide +kernel) ⟨Nat.le_of_ble_eq_true rfl, Nat.le_of_ble_eq_true rfl⟩) rfl rfl (Nat.le_of_ble_eq_true rfl) dX4_missedCount_90 (fun r1 => ?_)
    refine J_if_ne (tgt := 99) C dX4_missedCount_93 (by decide) ?_ ?_
    · refine J_lv [1, 2, 3, 4, 5, 6, 7, 0] rfl ?_
      exact jX4_missedCount_b99 C hRet v1 v2 v3 v4 v5 v6 t0 hK27
    · refine J_iinc (d := (1 : Int32)) C 6 rfl dX4_missedCount_96 (by decide) (by decide) rfl ?_
      refine J_lv [2, 3, 4, 5, 6, 0, 7, 1] rfl ?_
      exact jX4_missedCount_b99 C hRet v1 v2 v3 v4 (v5 + (1 : Int32)) v6 t0 hK27
set_option maxHeartbeats 4000000 in
set_option maxRecDepth 100000 in
theorem jX4_missedCount_b78 {K27 : Int32 → Int32 → Option (Int32)} {o0 : Int32} {σ : St} (C : Cxt p s m args c cX4_missedCount 8 wsX4_missedCount RX4 D [(cyI, .int), (cyZ, .boolean)] A) (hRet : ∀ (v : Int32) (pc : Nat) (lv : List (Nat × Value)), decode cX4_missedCount pc = .ok (.ireturn, 1) → J p l e ({ frames := 5, cells := 0, slots := 0, locals := 113 } : Room) s m args below meth c 8 D A (wX ad cyI cyZ) Q o0 (some v) σ pc lv [.int v]) (v1 v2 v3 v4 v5 v6 : Int32) (hK27 : ∀ (v5 v6 : Int32), J p l e ({ frames := 5, cells := 0, slots := 0, locals := 113 } : Room) s m args below meth c 8 D A (wX ad cyI cyZ) Q o0 (K27 v5 v6) σ 27 [(0, .ref (ad 0)), (1, .int v1), (2, .int v2), (3, .int v3), (4, .int v4), (5, .int v5), (6, .int v6)] []) : J p l e ({ frames := 5, cells := 0, slots := 0, locals := 113 } : Room) s m args below meth c 8 D A (wX ad cyI cyZ) Q o0 (fX4_missedCount_b78 K27 v1 v2 v3 v4 v5 v6 σ) σ 78 [(0, .ref (ad 0)), (1, .int v1), (2, .int v2), (3, .int v3), (4, .int v4), (5, .int v5), (6, .int v6)] [] := by
  unfold fX4_missedCount_b78
  refine J_iconst (v := (0 : Int32)) C dX4_missedCount_78 (by decide) ?_
  exact jX4_missedCount_b79 C hRet v1 v2 v3 v4 v5 v6 (0 : Int32) hK27
set_option maxHeartbeats 4000000 in
set_option maxRecDepth 100000 in
theorem jX4_missedCount_L27  {o0 : Int32} {σ : St} (C : Cxt p s m args c cX4_missedCount 8 wsX4_missedCount RX4 D [(cyI, .int), (cyZ, .boolean)] A) (hRet : ∀ (v : Int32) (pc : Nat) (lv : List (Nat × Value)), decode cX4_missedCount pc = .ok (.ireturn, 1) → J p l e ({ frames := 5, cells := 0, slots := 0, locals := 113 } : Room) s m args below meth c 8 D A (wX ad cyI cyZ) Q o0 (some v) σ pc lv [.int v]) (v1 v2 v3 v4 : Int32) (n : Nat) (v5 v6 : Int32) : J p l e ({ frames := 5, cells := 0, slots := 0, locals := 113 } : Room) s m args below meth c 8 D A (wX ad cyI cyZ) Q o0 (loop2 (fX4_missedCount_b27 v1 v2 v3 v4 σ) n v5 v6) σ 27 [(0, .ref (ad 0)), (1, .int v1), (2, .int v2), (3, .int v3), (4, .int v4), (5, .int v5), (6, .int v6)] [] := by
  refine J_loop2 (pc := 27) (fun v5 v6 => [(0, .ref (ad 0)), (1, .int v1), (2, .int v2), (3, .int v3), (4, .int v4), (5, .int v5), (6, .int v6)]) (fX4_missedCount_b27 v1 v2 v3 v4 σ) ?_ n v5 v6
  intro K27 hK27 v5 v6
  unfold fX4_missedCount_b27
  refine J_iload C 6 rfl dX4_missedCount_27 ?_
  refine J_aload_n C 0 rfl rfl dX4_missedCount_29 ?_
  refine J_get C 0 0 4 (C0 := RX4) (T := TX4) (N := 11) (by decide +kernel) rfl rfl (by decide) (by decide +kernel) rfl dX4_missedCount_30 ?_
  refine J_getN C 1 2 1 (C0 := RX1) (T := TX1) (N := 4) (host := RX4) (by decide +kernel) rfl rfl (by decide) (by decide +kernel) rfl dX4_missedCount_33 ?_
  refine J_icmp_ge (tgt := 105) C dX4_missedCount_36 (by decide) ?_ ?_
  · refine J_iload C 5 rfl dX4_missedCount_105 ?_
    exact hRet v5 _ _ dX4_missedCount_107
  · refine J_iload C 6 rfl dX4_missedCount_39 ?_
    refine J_iload_n C 1 rfl rfl dX4_missedCount_41 ?_
    refine J_icmp_eq (tgt := 78) C dX4_missedCount_42 (by decide) ?_ ?_
    · exact jX4_missedCount_b78 C hRet v1 v2 v3 v4 v5 v6 hK27
    · refine J_aload_n C 0 rfl rfl dX4_missedCount_45 ?_
      refine J_iload_n C 1 rfl rfl dX4_missedCount_46 ?_
      refine J_iload C 6 rfl dX4_missedCount_47 ?_
      refine J_callP_V C [.int v1, .int v6] 0 4 rfl rfl (fun zr zh => tX4_bridgesBetweenHosts v1 v6 σ zr zh) (cwV 2 C.1.2.2.2.2 gX4_missedCount_X4_bridgesBetweenHosts rfl rfl rfl (by decide +kernel) ⟨Nat.le_of_ble_eq_true rfl, Nat.le_of_ble_eq_true rfl⟩) rfl rfl (Nat.le_of_ble_eq_true rfl) dX4_missedCount_49 (fun r1 => ?_)
      refine J_if_le (tgt := 78) C dX4_missedCount_52 (by decide) ?_ ?_
      · exact jX4_missedCount_b78 C hRet v1 v2 v3 v4 v5 v6 hK27
      · refine J_aload_n C 0 rfl rfl dX4_missedCount_55 ?_
        refine J_get C 0 2 4 (C0 := RX4) (T := TX4) (N := 11) (by decide +kernel) rfl rfl (by decide) (by decide +kernel) rfl dX4_missedCount_56 ?_
        refine J_bipush (v := (20 : Int32)) C dX4_missedCount_59 (by decide) ?_
        refine J_iload C 6 rfl dX4_missedCount_61 ?_
        refine J_iadd C dX4_missedCount_63 ?_
        refine J_iload_n C 2 rfl rfl dX4_missedCount_64 ?_
        refine J_callP_S C [.int ((20 : Int32) + v6), .int v2] (fun zr zh => tX4_cellOf ((20 : Int32) + v6) v2 σ zr zh) (va_cwS 2 C.1.2.2.2.2 gX4_missedCount_X4_cellOf rfl rfl rfl (by decide +kernel) ⟨Nat.le_of_ble_eq_true rfl, Nat.le_of_ble_eq_true rfl⟩) rfl rfl (Nat.le_of_ble_eq_true rfl) dX4_missedCount_65 (fun r2 => ?_)
        refine J_callP_VN C [.int r2] 3 0 rfl rfl (fun zr zh => tX0_isDeclaring r2 σ zr zh) (⟨va_cnB (host := RX4) 1 C.1.2.2.2.2 gX4_missedCount_X0_isDeclaring_n153 rfl rfl rfl (C.2.2.2 _ (by decide +kernel)) (C.1.2.2.2.2 (.initialized RX0) (by decide +kernel)) (by decide +kernel) ⟨Nat.le_of_ble_eq_true rfl, Nat.le_of_ble_eq_true rfl⟩, C.1.2.2.2.2 (.instanceMethod yX0_isDeclaring) (by decide +kernel), C.1.2.2.2.2 (.selects RX0 yX0_isDeclaring yX0_isDeclaring) (by decide +kernel)⟩) rfl rfl (Nat.le_of_ble_eq_true rfl) dX4_missedCount_68 (fun r3 => ?_)
        refine J_if_eq (tgt := 78) C dX4_missedCount_71 (by decide) ?_ ?_
        · exact jX4_missedCount_b78 C hRet v1 v2 v3 v4 v5 v6 hK27
        · refine J_iconst (v := (1 : Int32)) C dX4_missedCount_74 (by decide) ?_
          refine J_goto (tgt := 79) C dX4_missedCount_75 (by decide) ?_
          exact jX4_missedCount_b79 C hRet v1 v2 v3 v4 v5 v6 (1 : Int32) hK27
set_option maxHeartbeats 4000000 in
set_option maxRecDepth 100000 in
theorem tX4_missedCount {l : Launch} {D : va_G} {ad : Nat → Nat} {cyI cyZ : ClassId} (v1 v2 : Int32) (σ : St) (r : Int32) (h : fX4_missedCount v1 v2 σ = some r) : MI l D [(cyI, .int), (cyZ, .boolean)] (wX ad cyI cyZ) yX4_missedCount wsX4_missedCount ({ frames := 5, cells := 0, slots := 0, locals := 113 } : Room) [.ref (ad 0), .int v1, .int v2] σ r σ := by
  refine entryPI (own := RX4) r (by decide +kernel) rfl rfl (Nat.le_of_ble_eq_true rfl) (fX4_missedCount v1 v2 σ) h ?_
  intro p e s m below meth c Q A C hRet
  generalize ([.ref (ad 0), .int v1, .int v2] : List Value).toArray = args at *
  show J p l e ({ frames := 5, cells := 0, slots := 0, locals := 113 } : Room) s m args below meth c 8 D A (wX ad cyI cyZ) Q r (fX4_missedCount v1 v2 σ) σ 0 [(0, .ref (ad 0)), (1, .int v1), (2, .int v2)] []
  unfold fX4_missedCount
  refine J_aload_n C 0 rfl rfl dX4_missedCount_0 ?_
  refine J_iload_n C 1 rfl rfl dX4_missedCount_1 ?_
  refine J_iload_n C 2 rfl rfl dX4_missedCount_2 ?_
  refine J_callP_V C [.int v1, .int v2] 0 4 rfl rfl (fun zr zh => tX4_cellOfHost v1 v2 σ zr zh) (cwV 2 C.1.2.2.2.2 gX4_missedCount_X4_cellOfHost rfl rfl rfl (by decide +kernel) ⟨Nat.le_of_ble_eq_true rfl, Nat.le_of_ble_eq_true rfl⟩) rfl rfl (Nat.le_of_ble_eq_true rfl) dX4_missedCount_3 (fun r1 => ?_)
  refine J_istore_n C rfl dX4_missedCount_6 (by decide) rfl ?_
  refine J_iload_n C 0 rfl rfl dX4_missedCount_7 ?_
  refine J_if_ge (tgt := 13) C dX4_missedCount_8 (by decide) ?_ ?_
  · refine J_aload_n C 1 rfl rfl dX4_missedCount_13 ?_
    refine J_iload_n C 2 rfl rfl dX4_missedCount_14 ?_
    refine J_iload_n C 3 rfl rfl dX4_missedCount_15 ?_
    refine J_callP_V C [.int v1, .int v2] 0 4 rfl rfl (fun zr zh => tX4_hostsReached v1 v2 σ zr zh) (cwV 2 C.1.2.2.2.2 gX4_missedCount_X4_hostsReached rfl rfl rfl (by decide +kernel) ⟨Nat.le_of_ble_eq_true rfl, Nat.le_of_ble_eq_true rfl⟩) rfl rfl (Nat.le_of_ble_eq_true rfl) dX4_missedCount_16 (fun r2 => ?_)
    refine J_istore C dX4_missedCount_19 (by decide) rfl ?_
    refine J_iconst (v := (0 : Int32)) C dX4_missedCount_21 (by decide) ?_
    refine J_istore C dX4_missedCount_22 (by decide) rfl ?_
    refine J_iconst (v := (0 : Int32)) C dX4_missedCount_24 (by decide) ?_
    refine J_istore C dX4_missedCount_25 (by decide) rfl ?_
    refine J_lv [4, 5, 6, 3, 2, 1, 0] rfl ?_
    exact jX4_missedCount_L27 C hRet v1 v2 r1 r2 fuel (0 : Int32) (0 : Int32)
  · refine J_iload_n C 0 rfl rfl dX4_missedCount_11 ?_
    exact hRet r1 _ _ dX4_missedCount_12
-- X4_needlessCount
set_option maxHeartbeats 4000000 in
set_option maxRecDepth 100000 in
theorem jX4_needlessCount_b75 {K27 : Int32 → Int32 → Option (Int32)} {o0 : Int32} {σ : St} (C : Cxt p s m args c cX4_needlessCount 8 wsX4_needlessCount RX4 D [(cyI, .int), (cyZ, .boolean)] A) (hRet : ∀ (v : Int32) (pc : Nat) (lv : List (Nat × Value)), decode cX4_needlessCount pc = .ok (.ireturn, 1) → J p l e ({ frames := 5, cells := 0, slots := 0, locals := 113 } : Room) s m args below meth c 8 D A (wX ad cyI cyZ) Q o0 (some v) σ pc lv [.int v]) (v1 v2 v3 v4 v5 v6 v7 : Int32) (hK27 : ∀ (v5 v6 : Int32), J p l e ({ frames := 5, cells := 0, slots := 0, locals := 113 } : Room) s m args below meth c 8 D A (wX ad cyI cyZ) Q o0 (K27 v5 v6) σ 27 [(0, .ref (ad 0)), (1, .int v1), (2, .int v2), (3, .int v3), (4, .int v4), (5, .int v5), (6, .int v6)] []) : J p l e ({ frames := 5, cells := 0, slots := 0, locals := 113 } : Room) s m args below meth c 8 D A (wX ad cyI cyZ) Q o0 (fX4_needlessCount_b75 K27 v1 v2 v3 v4 v5 v6 v7 σ) σ 75 [(0, .ref (ad 0)), (1, .int v1), (2, .int v2), (3, .int v3), (4, .int v4), (5, .int v5), (6, .int v6), (7, .int v7)] [] := by
  unfold fX4_needlessCount_b75
  refine J_iinc (d := (1 : Int32)) C 6 rfl dX4_needlessCount_75 (by decide) (by decide) rfl ?_
  refine J_goto (tgt := 27) C dX4_needlessCount_78 (by decide) ?_
  refine J_lv [1, 2, 3, 4, 5, 6, 0] rfl ?_
  exact hK27 v5 (v6 + (1 : Int32))
set_option maxHeartbeats 4000000 in
set_option maxRecDepth 100000 in
theorem jX4_needlessCount_L27  {o0 : Int32} {σ : St} (C : Cxt p s m args c cX4_needlessCount 8 wsX4_needlessCount RX4 D [(cyI, .int), (cyZ, .boolean)] A) (hRet : ∀ (v : Int32) (pc : Nat) (lv : List (Nat × Value)), decode cX4_needlessCount pc = .ok (.ireturn, 1) → J p l e ({ frames := 5, cells := 0, slots := 0, locals := 113 } : Room) s m args below meth c 8 D A (wX ad cyI cyZ) Q o0 (some v) σ pc lv [.int v]) (v1 v2 v3 v4 : Int32) (n : Nat) (v5 v6 : Int32) : J p l e ({ frames := 5, cells := 0, slots := 0, locals := 113 } : Room) s m args below meth c 8 D A (wX ad cyI cyZ) Q o0 (loop2 (fX4_needlessCount_b27 v1 v2 v3 v4 σ) n v5 v6) σ 27 [(0, .ref (ad 0)), (1, .int v1), (2, .int v2), (3, .int v3), (4, .int v4), (5, .int v5), (6, .int v6)] [] := by
  refine J_loop2 (pc := 27) (fun v5 v6 => [(0, .ref (ad 0)), (1, .int v1), (2, .int v2), (3, .int v3), (4, .int v4), (5, .int v5), (6, .int v6)]) (fX4_needlessCount_b27 v1 v2 v3 v4 σ) ?_ n v5 v6
  intro K27 hK27 v5 v6
  unfold fX4_needlessCount_b27
  refine J_iload C 6 rfl dX4_needlessCount_27 ?_
  refine J_aload_n C 0 rfl rfl dX4_needlessCount_29 ?_
  refine J_get C 0 0 4 (C0 := RX4) (T := TX4) (N := 11) (by decide +kernel) rfl rfl (by decide) (by decide +kernel) rfl dX4_needlessCount_30 ?_
  refine J_getN C 1 2 1 (C0 := RX1) (T := TX1) (N := 4) (host := RX4) (by decide +kernel) rfl rfl (by decide) (by decide +kernel) rfl dX4_needlessCount_33 ?_
  refine J_icmp_ge (tgt := 81) C dX4_needlessCount_36 (by decide) ?_ ?_
  · refine J_iload C 5 rfl dX4_needlessCount_81 ?_
    exact hRet v5 _ _ dX4_needlessCount_83
  · refine J_aload_n C 0 rfl rfl dX4_needlessCount_39 ?_
    refine J_get C 0 2 4 (C0 := RX4) (T := TX4) (N := 11) (by decide +kernel) rfl rfl (by decide) (by decide +kernel) rfl dX4_needlessCount_40 ?_
    refine J_bipush (v := (20 : Int32)) C dX4_needlessCount_43 (by decide) ?_
    refine J_iload C 6 rfl dX4_needlessCount_45 ?_
    refine J_iadd C dX4_needlessCount_47 ?_
    refine J_iload_n C 2 rfl rfl dX4_needlessCount_48 ?_
    refine J_callP_S C [.int ((20 : Int32) + v6), .int v2] (fun zr zh => tX4_cellOf ((20 : Int32) + v6) v2 σ zr zh) (va_cwS 2 C.1.2.2.2.2 gX4_needlessCount_X4_cellOf rfl rfl rfl (by decide +kernel) ⟨Nat.le_of_ble_eq_true rfl, Nat.le_of_ble_eq_true rfl⟩) rfl rfl (Nat.le_of_ble_eq_true rfl) dX4_needlessCount_49 (fun r1 => ?_)
    refine J_callP_VN C [.int r1] 3 0 rfl rfl (fun zr zh => tX0_isDeclaring r1 σ zr zh) (⟨va_cnB (host := RX4) 1 C.1.2.2.2.2 gX4_needlessCount_X0_isDeclaring_n153 rfl rfl rfl (C.2.2.2 _ (by decide +kernel)) (C.1.2.2.2.2 (.initialized RX0) (by decide +kernel)) (by decide +kernel) ⟨Nat.le_of_ble_eq_true rfl, Nat.le_of_ble_eq_true rfl⟩, C.1.2.2.2.2 (.instanceMethod yX0_isDeclaring) (by decide +kernel), C.1.2.2.2.2 (.selects RX0 yX0_isDeclaring yX0_isDeclaring) (by decide +kernel)⟩) rfl rfl (Nat.le_of_ble_eq_true rfl) dX4_needlessCount_52 (fun r2 => ?_)
    refine J_istore C dX4_needlessCount_55 (by decide) rfl ?_
    refine J_iload C 5 rfl dX4_needlessCount_57 ?_
    refine J_iload C 7 rfl dX4_needlessCount_59 ?_
    refine J_callP_S C [.int v4, .int v6] (fun zr zh => tX4_contains v4 v6 σ zr zh) (va_cwS 2 C.1.2.2.2.2 gX4_needlessCount_X4_contains rfl rfl rfl (by decide +kernel) ⟨Nat.le_of_ble_eq_true rfl, Nat.le_of_ble_eq_true rfl⟩) rfl rfl (Nat.le_of_ble_eq_true rfl) dX4_needlessCount_61 (fun r3 => ?_)
    refine J_if_eq (tgt := 75) C dX4_needlessCount_64 (by decide) ?_ ?_
    · refine J_lv [1, 2, 3, 4, 5, 6, 7, 0] rfl ?_
      exact jX4_needlessCount_b75 C hRet v1 v2 v3 v4 v5 v6 r2 hK27
    · refine J_iload C 0 rfl dX4_needlessCount_67 ?_
      refine J_if_ne (tgt := 75) C dX4_needlessCount_69 (by decide) ?_ ?_
      · refine J_lv [1, 2, 3, 4, 5, 6, 7, 0] rfl ?_
        exact jX4_needlessCount_b75 C hRet v1 v2 v3 v4 v5 v6 r2 hK27
      · refine J_iinc (d := (1 : Int32)) C 6 rfl dX4_needlessCount_72 (by decide) (by decide) rfl ?_
        refine J_lv [2, 3, 4, 5, 6, 0, 7, 1] rfl ?_
        exact jX4_needlessCount_b75 C hRet v1 v2 v3 v4 (v5 + (1 : Int32)) v6 r2 hK27
set_option maxHeartbeats 4000000 in
set_option maxRecDepth 100000 in
theorem tX4_needlessCount {l : Launch} {D : va_G} {ad : Nat → Nat} {cyI cyZ : ClassId} (v1 v2 : Int32) (σ : St) (r : Int32) (h : fX4_needlessCount v1 v2 σ = some r) : MI l D [(cyI, .int), (cyZ, .boolean)] (wX ad cyI cyZ) yX4_needlessCount wsX4_needlessCount ({ frames := 5, cells := 0, slots := 0, locals := 113 } : Room) [.ref (ad 0), .int v1, .int v2] σ r σ := by
  refine entryPI (own := RX4) r (by decide +kernel) rfl rfl (Nat.le_of_ble_eq_true rfl) (fX4_needlessCount v1 v2 σ) h ?_
  intro p e s m below meth c Q A C hRet
  generalize ([.ref (ad 0), .int v1, .int v2] : List Value).toArray = args at *
  show J p l e ({ frames := 5, cells := 0, slots := 0, locals := 113 } : Room) s m args below meth c 8 D A (wX ad cyI cyZ) Q r (fX4_needlessCount v1 v2 σ) σ 0 [(0, .ref (ad 0)), (1, .int v1), (2, .int v2)] []
  unfold fX4_needlessCount
  refine J_aload_n C 0 rfl rfl dX4_needlessCount_0 ?_
  refine J_iload_n C 1 rfl rfl dX4_needlessCount_1 ?_
  refine J_iload_n C 2 rfl rfl dX4_needlessCount_2 ?_
  refine J_callP_V C [.int v1, .int v2] 0 4 rfl rfl (fun zr zh => tX4_cellOfHost v1 v2 σ zr zh) (cwV 2 C.1.2.2.2.2 gX4_needlessCount_X4_cellOfHost rfl rfl rfl (by decide +kernel) ⟨Nat.le_of_ble_eq_true rfl, Nat.le_of_ble_eq_true rfl⟩) rfl rfl (Nat.le_of_ble_eq_true rfl) dX4_needlessCount_3 (fun r1 => ?_)
  refine J_istore_n C rfl dX4_needlessCount_6 (by decide) rfl ?_
  refine J_iload_n C 0 rfl rfl dX4_needlessCount_7 ?_
  refine J_if_ge (tgt := 13) C dX4_needlessCount_8 (by decide) ?_ ?_
  · refine J_aload_n C 1 rfl rfl dX4_needlessCount_13 ?_
    refine J_iload_n C 2 rfl rfl dX4_needlessCount_14 ?_
    refine J_iload_n C 3 rfl rfl dX4_needlessCount_15 ?_
    refine J_callP_V C [.int v1, .int v2] 0 4 rfl rfl (fun zr zh => tX4_hostsReached v1 v2 σ zr zh) (cwV 2 C.1.2.2.2.2 gX4_needlessCount_X4_hostsReached rfl rfl rfl (by decide +kernel) ⟨Nat.le_of_ble_eq_true rfl, Nat.le_of_ble_eq_true rfl⟩) rfl rfl (Nat.le_of_ble_eq_true rfl) dX4_needlessCount_16 (fun r2 => ?_)
    refine J_istore C dX4_needlessCount_19 (by decide) rfl ?_
    refine J_iconst (v := (0 : Int32)) C dX4_needlessCount_21 (by decide) ?_
    refine J_istore C dX4_needlessCount_22 (by decide) rfl ?_
    refine J_iconst (v := (0 : Int32)) C dX4_needlessCount_24 (by decide) ?_
    refine J_istore C dX4_needlessCount_25 (by decide) rfl ?_
    refine J_lv [4, 5, 6, 3, 2, 1, 0] rfl ?_
    exact jX4_needlessCount_L27 C hRet v1 v2 r1 r2 fuel (0 : Int32) (0 : Int32)
  · refine J_iload_n C 0 rfl rfl dX4_needlessCount_11 ?_
    exact hRet r1 _ _ dX4_needlessCount_12
-- X4_distance
set_option maxHeartbeats 4000000 in
set_option maxRecDepth 100000 in
theorem tX4_distance {l : Launch} {D : va_G} {ad : Nat → Nat} {cyI cyZ : ClassId} (v1 v2 : Int32) (σ : St) (r : Int32) (h : fX4_distance v1 v2 σ = some r) : MI l D [(cyI, .int), (cyZ, .boolean)] (wX ad cyI cyZ) yX4_distance wsX4_distance ({ frames := 4, cells := 0, slots := 0, locals := 93 } : Room) [.ref (ad 0), .int v1, .int v2] σ r σ := by
  refine entryPI (own := RX4) r (by decide +kernel) rfl rfl (Nat.le_of_ble_eq_true rfl) (fX4_distance v1 v2 σ) h ?_
  intro p e s m below meth c Q A C hRet
  generalize ([.ref (ad 0), .int v1, .int v2] : List Value).toArray = args at *
  show J p l e ({ frames := 4, cells := 0, slots := 0, locals := 93 } : Room) s m args below meth c 3 D A (wX ad cyI cyZ) Q r (fX4_distance v1 v2 σ) σ 0 [(0, .ref (ad 0)), (1, .int v1), (2, .int v2)] []
  unfold fX4_distance
  refine J_aload_n C 0 rfl rfl dX4_distance_0 ?_
  refine J_get C 0 0 4 (C0 := RX4) (T := TX4) (N := 11) (by decide +kernel) rfl rfl (by decide) (by decide +kernel) rfl dX4_distance_1 ?_
  refine J_iload_n C 1 rfl rfl dX4_distance_4 ?_
  refine J_callP_VN C [.int v1] 1 1 rfl rfl (fun zr zh => tX1_stationOfHost v1 σ zr zh) (⟨va_cnB (host := RX4) 1 C.1.2.2.2.2 gX4_distance_X1_stationOfHost_n110 rfl rfl rfl (C.2.2.2 _ (by decide +kernel)) (C.1.2.2.2.2 (.initialized RX1) (by decide +kernel)) (by decide +kernel) ⟨Nat.le_of_ble_eq_true rfl, Nat.le_of_ble_eq_true rfl⟩, C.1.2.2.2.2 (.instanceMethod yX1_stationOfHost) (by decide +kernel), C.1.2.2.2.2 (.selects RX1 yX1_stationOfHost yX1_stationOfHost) (by decide +kernel)⟩) rfl rfl (Nat.le_of_ble_eq_true rfl) dX4_distance_5 (fun r1 => ?_)
  refine J_if_lt (tgt := 22) C dX4_distance_8 (by decide) ?_ ?_
  · refine J_bipush (v := (-2 : Int32)) C dX4_distance_22 (by decide) ?_
    exact hRet (-2 : Int32) _ _ dX4_distance_24
  · refine J_aload_n C 0 rfl rfl dX4_distance_11 ?_
    refine J_get C 0 0 4 (C0 := RX4) (T := TX4) (N := 11) (by decide +kernel) rfl rfl (by decide) (by decide +kernel) rfl dX4_distance_12 ?_
    refine J_iload_n C 2 rfl rfl dX4_distance_15 ?_
    refine J_callP_VN C [.int v2] 1 1 rfl rfl (fun zr zh => tX1_stationOfHost v2 σ zr zh) (⟨va_cnB (host := RX4) 1 C.1.2.2.2.2 gX4_distance_X1_stationOfHost_n110 rfl rfl rfl (C.2.2.2 _ (by decide +kernel)) (C.1.2.2.2.2 (.initialized RX1) (by decide +kernel)) (by decide +kernel) ⟨Nat.le_of_ble_eq_true rfl, Nat.le_of_ble_eq_true rfl⟩, C.1.2.2.2.2 (.instanceMethod yX1_stationOfHost) (by decide +kernel), C.1.2.2.2.2 (.selects RX1 yX1_stationOfHost yX1_stationOfHost) (by decide +kernel)⟩) rfl rfl (Nat.le_of_ble_eq_true rfl) dX4_distance_16 (fun r2 => ?_)
    refine J_if_ge (tgt := 25) C dX4_distance_19 (by decide) ?_ ?_
    · refine J_aload_n C 0 rfl rfl dX4_distance_25 ?_
      refine J_iload_n C 1 rfl rfl dX4_distance_26 ?_
      refine J_iload_n C 2 rfl rfl dX4_distance_27 ?_
      refine J_callP_V C [.int v1, .int v2] 0 4 rfl rfl (fun zr zh => tX4_bridgesBetweenHosts v1 v2 σ zr zh) (cwV 2 C.1.2.2.2.2 gX4_distance_X4_bridgesBetweenHosts rfl rfl rfl (by decide +kernel) ⟨Nat.le_of_ble_eq_true rfl, Nat.le_of_ble_eq_true rfl⟩) rfl rfl (Nat.le_of_ble_eq_true rfl) dX4_distance_28 (fun r3 => ?_)
      exact hRet r3 _ _ dX4_distance_31
    · refine J_bipush (v := (-2 : Int32)) C dX4_distance_22 (by decide) ?_
      exact hRet (-2 : Int32) _ _ dX4_distance_24
end
