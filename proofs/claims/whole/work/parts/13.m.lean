-- printed by wip/whole/walk.py
section
variable {p : Program} {l : Launch} {e : Env} {s : State} {m : MethodId} {args : Array Value} {below : List Frame} {meth : Method} {c : Code} {D : va_G} {A : Nat → Prop} {Q : State → Prop} {ad : Nat → Nat} {cyI cyZ : ClassId}
-- X5_reached
set_option maxHeartbeats 4000000 in
set_option maxRecDepth 100000 in
theorem jX5_reached_b143 {K20 : Int32 → Int32 → Int32 → St → Option (Int32 × St)} {o0 : Int32 × St} (C : Cxt p s m args c cX5_reached 8 wsX5_reached RX5 D [(cyI, .int), (cyZ, .boolean)] A) (hRet : ∀ (v : Int32) (σ2 : St) (pc : Nat) (lv : List (Nat × Value)), decode cX5_reached pc = .ok (.ireturn, 1) → J p l e ({ frames := 2, cells := 0, slots := 0, locals := 43 } : Room) s m args below meth c 8 D A (wM ad cyI cyZ) Q o0 (some (v, σ2)) σ2 pc lv [.int v]) (σ : St) (v1 v2 v3 v4 v5 v6 v7 : Int32) (hK20 : ∀ (v3 v4 v5 : Int32) (σ : St), J p l e ({ frames := 2, cells := 0, slots := 0, locals := 43 } : Room) s m args below meth c 8 D A (wM ad cyI cyZ) Q o0 (K20 v3 v4 v5 σ) σ 20 [(0, .ref (ad 0)), (1, .int v1), (2, .int v2), (3, .int v3), (4, .int v4), (5, .int v5)] []) : J p l e ({ frames := 2, cells := 0, slots := 0, locals := 43 } : Room) s m args below meth c 8 D A (wM ad cyI cyZ) Q o0 (fX5_reached_b143 K20 v1 v2 v3 v4 v5 v6 v7 σ) σ 143 [(0, .ref (ad 0)), (1, .int v1), (2, .int v2), (3, .int v3), (4, .int v4), (5, .int v5), (6, .int v6), (7, .int v7)] [] := by
  unfold fX5_reached_b143
  refine J_iinc (d := (1 : Int32)) C 5 rfl dX5_reached_143 (by decide) (by decide) rfl ?_
  refine J_goto (tgt := 20) C dX5_reached_146 (by decide) ?_
  refine J_lv [1, 2, 3, 4, 5, 0] rfl ?_
  exact hK20 v3 v4 (v5 + (1 : Int32)) σ
set_option maxHeartbeats 4000000 in
set_option maxRecDepth 100000 in
theorem jX5_reached_b137 {K20 : Int32 → Int32 → Int32 → St → Option (Int32 × St)} {K44 : Int32 → Int32 → Int32 → St → Option (Int32 × St)} {o0 : Int32 × St} (C : Cxt p s m args c cX5_reached 8 wsX5_reached RX5 D [(cyI, .int), (cyZ, .boolean)] A) (hRet : ∀ (v : Int32) (σ2 : St) (pc : Nat) (lv : List (Nat × Value)), decode cX5_reached pc = .ok (.ireturn, 1) → J p l e ({ frames := 2, cells := 0, slots := 0, locals := 43 } : Room) s m args below meth c 8 D A (wM ad cyI cyZ) Q o0 (some (v, σ2)) σ2 pc lv [.int v]) (σ : St) (v1 v2 v3 v4 v5 v6 v7 : Int32) (hK20 : ∀ (v3 v4 v5 : Int32) (σ : St), J p l e ({ frames := 2, cells := 0, slots := 0, locals := 43 } : Room) s m args below meth c 8 D A (wM ad cyI cyZ) Q o0 (K20 v3 v4 v5 σ) σ 20 [(0, .ref (ad 0)), (1, .int v1), (2, .int v2), (3, .int v3), (4, .int v4), (5, .int v5)] []) (hK44 : ∀ (v3 v4 v7 : Int32) (σ : St), J p l e ({ frames := 2, cells := 0, slots := 0, locals := 43 } : Room) s m args below meth c 8 D A (wM ad cyI cyZ) Q o0 (K44 v3 v4 v7 σ) σ 44 [(0, .ref (ad 0)), (1, .int v1), (2, .int v2), (3, .int v3), (4, .int v4), (5, .int v5), (6, .int v6), (7, .int v7)] []) : J p l e ({ frames := 2, cells := 0, slots := 0, locals := 43 } : Room) s m args below meth c 8 D A (wM ad cyI cyZ) Q o0 (fX5_reached_b137 K20 K44 v1 v2 v3 v4 v5 v6 v7 σ) σ 137 [(0, .ref (ad 0)), (1, .int v1), (2, .int v2), (3, .int v3), (4, .int v4), (5, .int v5), (6, .int v6), (7, .int v7)] [] := by
  unfold fX5_reached_b137
  refine J_iinc (d := (1 : Int32)) C 7 rfl dX5_reached_137 (by decide) (by decide) rfl ?_
  refine J_goto (tgt := 44) C dX5_reached_140 (by decide) ?_
  refine J_lv [1, 2, 3, 4, 5, 6, 7, 0] rfl ?_
  exact hK44 v3 v4 (v7 + (1 : Int32)) σ
set_option maxHeartbeats 4000000 in
set_option maxRecDepth 100000 in
theorem jX5_reached_L44 {K20 : Int32 → Int32 → Int32 → St → Option (Int32 × St)} {o0 : Int32 × St} (C : Cxt p s m args c cX5_reached 8 wsX5_reached RX5 D [(cyI, .int), (cyZ, .boolean)] A) (hRet : ∀ (v : Int32) (σ2 : St) (pc : Nat) (lv : List (Nat × Value)), decode cX5_reached pc = .ok (.ireturn, 1) → J p l e ({ frames := 2, cells := 0, slots := 0, locals := 43 } : Room) s m args below meth c 8 D A (wM ad cyI cyZ) Q o0 (some (v, σ2)) σ2 pc lv [.int v]) (v1 v2 v5 v6 : Int32) (hK20 : ∀ (v3 v4 v5 : Int32) (σ : St), J p l e ({ frames := 2, cells := 0, slots := 0, locals := 43 } : Room) s m args below meth c 8 D A (wM ad cyI cyZ) Q o0 (K20 v3 v4 v5 σ) σ 20 [(0, .ref (ad 0)), (1, .int v1), (2, .int v2), (3, .int v3), (4, .int v4), (5, .int v5)] []) (n : Nat) (v3 v4 v7 : Int32) (σ : St) : J p l e ({ frames := 2, cells := 0, slots := 0, locals := 43 } : Room) s m args below meth c 8 D A (wM ad cyI cyZ) Q o0 (loop3s (fX5_reached_b44 K20 v1 v2 v5 v6) n v3 v4 v7 σ) σ 44 [(0, .ref (ad 0)), (1, .int v1), (2, .int v2), (3, .int v3), (4, .int v4), (5, .int v5), (6, .int v6), (7, .int v7)] [] := by
  refine J_loop3s (pc := 44) (fun v3 v4 v7 => [(0, .ref (ad 0)), (1, .int v1), (2, .int v2), (3, .int v3), (4, .int v4), (5, .int v5), (6, .int v6), (7, .int v7)]) (fX5_reached_b44 K20 v1 v2 v5 v6) ?_ n v3 v4 v7 σ
  intro K44 hK44 v3 v4 v7 σ
  unfold fX5_reached_b44
  refine J_iload C 7 rfl dX5_reached_44 ?_
  refine J_iconst (v := (4 : Int32)) C dX5_reached_46 (by decide) ?_
  refine J_iload C 6 rfl dX5_reached_47 ?_
  refine J_imul C dX5_reached_49 ?_
  refine J_iconst (v := (4 : Int32)) C dX5_reached_50 (by decide) ?_
  refine J_iadd C dX5_reached_51 ?_
  refine J_icmp_ge (tgt := 143) C dX5_reached_52 (by decide) ?_ ?_
  · exact jX5_reached_b143 C hRet σ v1 v2 v3 v4 v5 v6 v7 hK20
  · refine J_iload C 7 rfl dX5_reached_55 ?_
    refine J_aload_n C 0 rfl rfl dX5_reached_57 ?_
    refine J_get C 0 21 5 (C0 := RX5) (T := TX5) (N := 23) (by decide +kernel) rfl rfl (by decide) (by decide +kernel) rfl dX5_reached_58 ?_
    refine J_iload C 5 rfl dX5_reached_61 ?_
    refine J_iald C 16 0 rfl rfl dX5_reached_63 ?_
    refine J_icmp_eq (tgt := 137) C dX5_reached_64 (by decide) ?_ ?_
    · exact jX5_reached_b137 C hRet σ v1 v2 v3 v4 v5 v6 v7 hK20 hK44
    · refine J_aload_n C 0 rfl rfl dX5_reached_67 ?_
      refine J_iload C 7 rfl dX5_reached_68 ?_
      refine J_callP_V C [.int v7] 0 5 rfl rfl (fun zr zh => tX5_isConnected v7 σ zr zh) (cwV 1 C.1.2.2.2.2 gX5_reached_X5_isConnected rfl rfl rfl (by decide +kernel) ⟨Nat.le_of_ble_eq_true rfl, Nat.le_of_ble_eq_true rfl⟩) rfl rfl (Nat.le_of_ble_eq_true rfl) dX5_reached_70 (fun r1 => ?_)
      refine J_if_eq (tgt := 137) C dX5_reached_73 (by decide) ?_ ?_
      · exact jX5_reached_b137 C hRet σ v1 v2 v3 v4 v5 v6 v7 hK20 hK44
      · refine J_aload_n C 0 rfl rfl dX5_reached_76 ?_
        refine J_get C 0 9 5 (C0 := RX5) (T := TX5) (N := 23) (by decide +kernel) rfl rfl (by decide) (by decide +kernel) rfl dX5_reached_77 ?_
        refine J_iconst (v := (4 : Int32)) C dX5_reached_80 (by decide) ?_
        refine J_iload C 7 rfl dX5_reached_81 ?_
        refine J_imul C dX5_reached_83 ?_
        refine J_iload_n C 2 rfl rfl dX5_reached_84 ?_
        refine J_iadd C dX5_reached_85 ?_
        refine J_iald C 4 0 rfl rfl dX5_reached_86 ?_
        refine J_if_ne (tgt := 93) C dX5_reached_87 (by decide) ?_ ?_
        · refine J_aload_n C 0 rfl rfl dX5_reached_93 ?_
          refine J_iload C 7 rfl dX5_reached_94 ?_
          refine J_callP_V C [.int v7] 0 5 rfl rfl (fun zr zh => tX5_isLinked v7 σ zr zh) (cwV 1 C.1.2.2.2.2 gX5_reached_X5_isLinked rfl rfl rfl (by decide +kernel) ⟨Nat.le_of_ble_eq_true rfl, Nat.le_of_ble_eq_true rfl⟩) rfl rfl (Nat.le_of_ble_eq_true rfl) dX5_reached_96 (fun r2 => ?_)
          refine J_if_eq (tgt := 122) C dX5_reached_99 (by decide) ?_ ?_
          · refine J_iload_n C 3 rfl rfl dX5_reached_122 ?_
            refine J_iconst (v := (1 : Int32)) C dX5_reached_123 (by decide) ?_
            refine J_aload_n C 0 rfl rfl dX5_reached_124 ?_
            refine J_get C 0 3 5 (C0 := RX5) (T := TX5) (N := 23) (by decide +kernel) rfl rfl (by decide) (by decide +kernel) rfl dX5_reached_125 ?_
            refine J_iload C 7 rfl dX5_reached_128 ?_
            refine J_iald C 1 0 rfl rfl dX5_reached_130 ?_
            refine J_bipush (v := (100 : Int32)) C dX5_reached_131 (by decide) ?_
            refine J_isub C dX5_reached_133 ?_
            refine J_ishl C dX5_reached_134 ?_
            refine J_ior C dX5_reached_135 ?_
            refine J_istore_n C rfl dX5_reached_136 (by decide) rfl ?_
            refine J_lv [1, 2, 3, 0, 4, 5, 6, 7] rfl ?_
            exact jX5_reached_b137 C hRet σ v1 v2 (v3 ||| ((1 : Int32) <<< (((σ 1 v7.toNatClampNeg) - (100 : Int32)) &&& 31))) v4 v5 v6 v7 hK20 hK44
          · refine J_aload_n C 0 rfl rfl dX5_reached_102 ?_
            refine J_get C 0 21 5 (C0 := RX5) (T := TX5) (N := 23) (by decide +kernel) rfl rfl (by decide) (by decide +kernel) rfl dX5_reached_103 ?_
            refine J_iload C 4 rfl dX5_reached_106 ?_
            refine J_aload_n C 0 rfl rfl dX5_reached_108 ?_
            refine J_get C 0 3 5 (C0 := RX5) (T := TX5) (N := 23) (by decide +kernel) rfl rfl (by decide) (by decide +kernel) rfl dX5_reached_109 ?_
            refine J_iload C 7 rfl dX5_reached_112 ?_
            refine J_iald C 1 0 rfl rfl dX5_reached_114 ?_
            refine J_iast (σ' := up2 σ 16 v4.toNatClampNeg (σ 1 v7.toNatClampNeg)) C 16 0 rfl rfl (wM_s16 _ _ _ _ _ _) dX5_reached_115 ?_
            refine J_iinc (d := (1 : Int32)) C 4 rfl dX5_reached_116 (by decide) (by decide) rfl ?_
            refine J_goto (tgt := 137) C dX5_reached_119 (by decide) ?_
            refine J_lv [1, 2, 3, 4, 0, 5, 6, 7] rfl ?_
            exact jX5_reached_b137 C hRet (up2 σ 16 v4.toNatClampNeg (σ 1 v7.toNatClampNeg)) v1 v2 v3 (v4 + (1 : Int32)) v5 v6 v7 hK20 hK44
        · refine J_goto (tgt := 137) C dX5_reached_90 (by decide) ?_
          exact jX5_reached_b137 C hRet σ v1 v2 v3 v4 v5 v6 v7 hK20 hK44
set_option maxHeartbeats 4000000 in
set_option maxRecDepth 100000 in
theorem jX5_reached_L20  {o0 : Int32 × St} (C : Cxt p s m args c cX5_reached 8 wsX5_reached RX5 D [(cyI, .int), (cyZ, .boolean)] A) (hRet : ∀ (v : Int32) (σ2 : St) (pc : Nat) (lv : List (Nat × Value)), decode cX5_reached pc = .ok (.ireturn, 1) → J p l e ({ frames := 2, cells := 0, slots := 0, locals := 43 } : Room) s m args below meth c 8 D A (wM ad cyI cyZ) Q o0 (some (v, σ2)) σ2 pc lv [.int v]) (v1 v2 : Int32) (n : Nat) (v3 v4 v5 : Int32) (σ : St) : J p l e ({ frames := 2, cells := 0, slots := 0, locals := 43 } : Room) s m args below meth c 8 D A (wM ad cyI cyZ) Q o0 (loop3s (fX5_reached_b20 v1 v2) n v3 v4 v5 σ) σ 20 [(0, .ref (ad 0)), (1, .int v1), (2, .int v2), (3, .int v3), (4, .int v4), (5, .int v5)] [] := by
  refine J_loop3s (pc := 20) (fun v3 v4 v5 => [(0, .ref (ad 0)), (1, .int v1), (2, .int v2), (3, .int v3), (4, .int v4), (5, .int v5)]) (fX5_reached_b20 v1 v2) ?_ n v3 v4 v5 σ
  intro K20 hK20 v3 v4 v5 σ
  unfold fX5_reached_b20
  refine J_iload C 5 rfl dX5_reached_20 ?_
  refine J_iload C 4 rfl dX5_reached_22 ?_
  refine J_icmp_ge (tgt := 149) C dX5_reached_24 (by decide) ?_ ?_
  · refine J_iload_n C 3 rfl rfl dX5_reached_149 ?_
    exact hRet v3 σ _ _ dX5_reached_150
  · refine J_aload_n C 0 rfl rfl dX5_reached_27 ?_
    refine J_get C 0 21 5 (C0 := RX5) (T := TX5) (N := 23) (by decide +kernel) rfl rfl (by decide) (by decide +kernel) rfl dX5_reached_28 ?_
    refine J_iload C 5 rfl dX5_reached_31 ?_
    refine J_iald C 16 0 rfl rfl dX5_reached_33 ?_
    refine J_iconst (v := (4 : Int32)) C dX5_reached_34 (by decide) ?_
    refine J_idiv C (by decide) dX5_reached_35 ?_
    refine J_istore C dX5_reached_36 (by decide) rfl ?_
    refine J_iconst (v := (4 : Int32)) C dX5_reached_38 (by decide) ?_
    refine J_iload C 0 rfl dX5_reached_39 ?_
    refine J_imul C dX5_reached_41 ?_
    refine J_istore C dX5_reached_42 (by decide) rfl ?_
    refine J_lv [2, 3, 4, 5, 6, 7, 1, 0] rfl ?_
    exact jX5_reached_L44 C hRet v1 v2 v5 ((σ 16 v5.toNatClampNeg) / (4 : Int32)) hK20 fuel v3 v4 ((4 : Int32) * ((σ 16 v5.toNatClampNeg) / (4 : Int32))) σ
set_option maxHeartbeats 4000000 in
set_option maxRecDepth 100000 in
theorem tX5_reached {l : Launch} {D : va_G} {ad : Nat → Nat} {cyI cyZ : ClassId} (v1 v2 : Int32) (σ : St) (r : Int32) (σ1 : St) (h : fX5_reached v1 v2 σ = some (r, σ1)) : MI l D [(cyI, .int), (cyZ, .boolean)] (wM ad cyI cyZ) yX5_reached wsX5_reached ({ frames := 2, cells := 0, slots := 0, locals := 43 } : Room) [.ref (ad 0), .int v1, .int v2] σ r σ1 := by
  refine entryI (own := RX5) r σ1 (by decide +kernel) rfl rfl (Nat.le_of_ble_eq_true rfl) (fX5_reached v1 v2 σ) h ?_
  intro p e s m below meth c Q A C hRet
  generalize ([.ref (ad 0), .int v1, .int v2] : List Value).toArray = args at *
  show J p l e ({ frames := 2, cells := 0, slots := 0, locals := 43 } : Room) s m args below meth c 8 D A (wM ad cyI cyZ) Q (r, σ1) (fX5_reached v1 v2 σ) σ 0 [(0, .ref (ad 0)), (1, .int v1), (2, .int v2)] []
  unfold fX5_reached
  refine J_iconst (v := (0 : Int32)) C dX5_reached_0 (by decide) ?_
  refine J_istore_n C rfl dX5_reached_1 (by decide) rfl ?_
  refine J_iconst (v := (1 : Int32)) C dX5_reached_2 (by decide) ?_
  refine J_istore C dX5_reached_3 (by decide) rfl ?_
  refine J_aload_n C 2 rfl rfl dX5_reached_5 ?_
  refine J_get C 0 21 5 (C0 := RX5) (T := TX5) (N := 23) (by decide +kernel) rfl rfl (by decide) (by decide +kernel) rfl dX5_reached_6 ?_
  refine J_iconst (v := (0 : Int32)) C dX5_reached_9 (by decide) ?_
  refine J_aload_n C 2 rfl rfl dX5_reached_10 ?_
  refine J_get C 0 4 5 (C0 := RX5) (T := TX5) (N := 23) (by decide +kernel) rfl rfl (by decide) (by decide +kernel) rfl dX5_reached_11 ?_
  refine J_iload_n C 3 rfl rfl dX5_reached_14 ?_
  refine J_iald C 2 0 rfl rfl dX5_reached_15 ?_
  refine J_iast (σ' := up2 σ 16 (0 : Int32).toNatClampNeg (σ 2 v1.toNatClampNeg)) C 16 0 rfl rfl (wM_s16 _ _ _ _ _ _) dX5_reached_16 ?_
  refine J_iconst (v := (0 : Int32)) C dX5_reached_17 (by decide) ?_
  refine J_istore C dX5_reached_18 (by decide) rfl ?_
  refine J_lv [3, 4, 5, 2, 1, 0] rfl ?_
  exact jX5_reached_L20 C hRet v1 v2 fuel (0 : Int32) (1 : Int32) (0 : Int32) (up2 σ 16 (0 : Int32).toNatClampNeg (σ 2 v1.toNatClampNeg))
-- X5_receivers
set_option maxHeartbeats 4000000 in
set_option maxRecDepth 100000 in
theorem tX5_receivers {l : Launch} {D : va_G} {ad : Nat → Nat} {cyI cyZ : ClassId} (v1 v2 : Int32) (σ : St) (r : Int32) (σ1 : St) (h : fX5_receivers v1 v2 σ = some (r, σ1)) : MI l D [(cyI, .int), (cyZ, .boolean)] (wM ad cyI cyZ) yX5_receivers wsX5_receivers ({ frames := 3, cells := 0, slots := 0, locals := 70 } : Room) [.ref (ad 0), .int v1, .int v2] σ r σ1 := by
  refine entryI (own := RX5) r σ1 (by decide +kernel) rfl rfl (Nat.le_of_ble_eq_true rfl) (fX5_receivers v1 v2 σ) h ?_
  intro p e s m below meth c Q A C hRet
  generalize ([.ref (ad 0), .int v1, .int v2] : List Value).toArray = args at *
  show J p l e ({ frames := 3, cells := 0, slots := 0, locals := 70 } : Room) s m args below meth c 4 D A (wM ad cyI cyZ) Q (r, σ1) (fX5_receivers v1 v2 σ) σ 0 [(0, .ref (ad 0)), (1, .int v1), (2, .int v2)] []
  unfold fX5_receivers
  refine J_aload_n C 0 rfl rfl dX5_receivers_0 ?_
  refine J_iload_n C 1 rfl rfl dX5_receivers_1 ?_
  refine J_iload_n C 2 rfl rfl dX5_receivers_2 ?_
  refine J_callP_V C [.int v1, .int v2] 0 5 rfl rfl (fun zr zh => tX5_refusedHost v1 v2 σ zr zh) (cwV 2 C.1.2.2.2.2 gX5_receivers_X5_refusedHost rfl rfl rfl (by decide +kernel) ⟨Nat.le_of_ble_eq_true rfl, Nat.le_of_ble_eq_true rfl⟩) rfl rfl (Nat.le_of_ble_eq_true rfl) dX5_receivers_3 (fun r1 => ?_)
  refine J_istore_n C rfl dX5_receivers_6 (by decide) rfl ?_
  refine J_iload_n C 0 rfl rfl dX5_receivers_7 ?_
  refine J_if_eq (tgt := 15) C dX5_receivers_8 (by decide) ?_ ?_
  · refine J_aload_n C 1 rfl rfl dX5_receivers_15 ?_
    refine J_iload_n C 2 rfl rfl dX5_receivers_16 ?_
    refine J_iload_n C 3 rfl rfl dX5_receivers_17 ?_
    refine J_callI_V C [.int v1, .int v2] 0 5 rfl rfl (fun zr zs zh => tX5_reached v1 v2 σ zr zs zh) (cwV 2 C.1.2.2.2.2 gX5_receivers_X5_reached rfl rfl rfl (by decide +kernel) ⟨Nat.le_of_ble_eq_true rfl, Nat.le_of_ble_eq_true rfl⟩) rfl rfl (Nat.le_of_ble_eq_true rfl) dX5_receivers_18 (fun r2 σ2 => ?_)
    exact hRet r2 σ2 _ _ dX5_receivers_21
  · refine J_iload_n C 0 rfl rfl dX5_receivers_11 ?_
    refine J_goto (tgt := 21) C dX5_receivers_12 (by decide) ?_
    exact hRet r1 σ _ _ dX5_receivers_21
-- X5_missedCount
set_option maxHeartbeats 4000000 in
set_option maxRecDepth 100000 in
theorem jX5_missedCount_b120 {K41 : Int32 → Int32 → Option (Int32 × St)} {o0 : Int32 × St} (C : Cxt p s m args c cX5_missedCount 9 wsX5_missedCount RX5 D [(cyI, .int), (cyZ, .boolean)] A) (hRet : ∀ (v : Int32) (σ2 : St) (pc : Nat) (lv : List (Nat × Value)), decode cX5_missedCount pc = .ok (.ireturn, 1) → J p l e ({ frames := 3, cells := 0, slots := 0, locals := 70 } : Room) s m args below meth c 9 D A (wM ad cyI cyZ) Q o0 (some (v, σ2)) σ2 pc lv [.int v]) (σ : St) (v1 v2 v3 v4 v5 v6 v7 v8 t0 t1 : Int32) (hK41 : ∀ (v6 v7 : Int32), J p l e ({ frames := 3, cells := 0, slots := 0, locals := 70 } : Room) s m args below meth c 9 D A (wM ad cyI cyZ) Q o0 (K41 v6 v7) σ 41 [(0, .ref (ad 0)), (1, .int v1), (2, .int v2), (3, .int v3), (4, .int v4), (5, .int v5), (6, .int v6), (7, .int v7)] []) : J p l e ({ frames := 3, cells := 0, slots := 0, locals := 70 } : Room) s m args below meth c 9 D A (wM ad cyI cyZ) Q o0 (fX5_missedCount_b120 K41 v1 v2 v3 v4 v5 v6 v7 v8 t0 t1 σ) σ 120 [(0, .ref (ad 0)), (1, .int v1), (2, .int v2), (3, .int v3), (4, .int v4), (5, .int v5), (6, .int v6), (7, .int v7), (8, .int v8)] [.int t0, .int t1] := by
  unfold fX5_missedCount_b120
  refine J_iadd C dX5_missedCount_120 ?_
  refine J_istore C dX5_missedCount_121 (by decide) rfl ?_
  refine J_iinc (d := (1 : Int32)) C 7 rfl dX5_missedCount_123 (by decide) (by decide) rfl ?_
  refine J_goto (tgt := 41) C dX5_missedCount_126 (by decide) ?_
  refine J_lv [2, 3, 4, 5, 6, 7, 1, 0] rfl ?_
  exact hK41 (t1 + t0) (v7 + (1 : Int32))
set_option maxHeartbeats 4000000 in
set_option maxRecDepth 100000 in
theorem jX5_missedCount_b119 {K41 : Int32 → Int32 → Option (Int32 × St)} {o0 : Int32 × St} (C : Cxt p s m args c cX5_missedCount 9 wsX5_missedCount RX5 D [(cyI, .int), (cyZ, .boolean)] A) (hRet : ∀ (v : Int32) (σ2 : St) (pc : Nat) (lv : List (Nat × Value)), decode cX5_missedCount pc = .ok (.ireturn, 1) → J p l e ({ frames := 3, cells := 0, slots := 0, locals := 70 } : Room) s m args below meth c 9 D A (wM ad cyI cyZ) Q o0 (some (v, σ2)) σ2 pc lv [.int v]) (σ : St) (v1 v2 v3 v4 v5 v6 v7 v8 t0 : Int32) (hK41 : ∀ (v6 v7 : Int32), J p l e ({ frames := 3, cells := 0, slots := 0, locals := 70 } : Room) s m args below meth c 9 D A (wM ad cyI cyZ) Q o0 (K41 v6 v7) σ 41 [(0, .ref (ad 0)), (1, .int v1), (2, .int v2), (3, .int v3), (4, .int v4), (5, .int v5), (6, .int v6), (7, .int v7)] []) : J p l e ({ frames := 3, cells := 0, slots := 0, locals := 70 } : Room) s m args below meth c 9 D A (wM ad cyI cyZ) Q o0 (fX5_missedCount_b119 K41 v1 v2 v3 v4 v5 v6 v7 v8 t0 σ) σ 119 [(0, .ref (ad 0)), (1, .int v1), (2, .int v2), (3, .int v3), (4, .int v4), (5, .int v5), (6, .int v6), (7, .int v7), (8, .int v8)] [.int t0] := by
  unfold fX5_missedCount_b119
  refine J_iconst (v := (0 : Int32)) C dX5_missedCount_119 (by decide) ?_
  exact jX5_missedCount_b120 C hRet σ v1 v2 v3 v4 v5 v6 v7 v8 (0 : Int32) t0 hK41
set_option maxHeartbeats 4000000 in
set_option maxRecDepth 100000 in
theorem jX5_missedCount_b96 {K41 : Int32 → Int32 → Option (Int32 × St)} {o0 : Int32 × St} (C : Cxt p s m args c cX5_missedCount 9 wsX5_missedCount RX5 D [(cyI, .int), (cyZ, .boolean)] A) (hRet : ∀ (v : Int32) (σ2 : St) (pc : Nat) (lv : List (Nat × Value)), decode cX5_missedCount pc = .ok (.ireturn, 1) → J p l e ({ frames := 3, cells := 0, slots := 0, locals := 70 } : Room) s m args below meth c 9 D A (wM ad cyI cyZ) Q o0 (some (v, σ2)) σ2 pc lv [.int v]) (σ : St) (v1 v2 v3 v4 v5 v6 v7 t0 : Int32) (hK41 : ∀ (v6 v7 : Int32), J p l e ({ frames := 3, cells := 0, slots := 0, locals := 70 } : Room) s m args below meth c 9 D A (wM ad cyI cyZ) Q o0 (K41 v6 v7) σ 41 [(0, .ref (ad 0)), (1, .int v1), (2, .int v2), (3, .int v3), (4, .int v4), (5, .int v5), (6, .int v6), (7, .int v7)] []) : J p l e ({ frames := 3, cells := 0, slots := 0, locals := 70 } : Room) s m args below meth c 9 D A (wM ad cyI cyZ) Q o0 (fX5_missedCount_b96 K41 v1 v2 v3 v4 v5 v6 v7 t0 σ) σ 96 [(0, .ref (ad 0)), (1, .int v1), (2, .int v2), (3, .int v3), (4, .int v4), (5, .int v5), (6, .int v6), (7, .int v7)] [.int t0] := by
  unfold fX5_missedCount_b96
  refine J_istore C dX5_missedCount_96 (by decide) rfl ?_
  refine J_iload C 7 rfl dX5_missedCount_98 ?_
  refine J_iload C 0 rfl dX5_missedCount_100 ?_
  refine J_if_eq (tgt := 119) C dX5_missedCount_102 (by decide) ?_ ?_
  · refine J_lv [1, 2, 3, 4, 5, 6, 7, 8, 0] rfl ?_
    exact jX5_missedCount_b119 C hRet σ v1 v2 v3 v4 v5 v6 v7 t0 v6 hK41
  · refine J_iload C 5 rfl dX5_missedCount_105 ?_
    refine J_iload C 8 rfl dX5_missedCount_107 ?_
    refine J_ishr C dX5_missedCount_109 ?_
    refine J_iconst (v := (1 : Int32)) C dX5_missedCount_110 (by decide) ?_
    refine J_iand C dX5_missedCount_111 ?_
    refine J_if_ne (tgt := 119) C dX5_missedCount_112 (by decide) ?_ ?_
    · refine J_lv [1, 2, 3, 4, 5, 6, 7, 8, 0] rfl ?_
      exact jX5_missedCount_b119 C hRet σ v1 v2 v3 v4 v5 v6 v7 t0 v6 hK41
    · refine J_iconst (v := (1 : Int32)) C dX5_missedCount_115 (by decide) ?_
      refine J_goto (tgt := 120) C dX5_missedCount_116 (by decide) ?_
      refine J_lv [1, 2, 3, 4, 5, 6, 7, 8, 0] rfl ?_
      exact jX5_missedCount_b120 C hRet σ v1 v2 v3 v4 v5 v6 v7 t0 (1 : Int32) v6 hK41
set_option maxHeartbeats 4000000 in
set_option maxRecDepth 100000 in
theorem jX5_missedCount_b95 {K41 : Int32 → Int32 → Option (Int32 × St)} {o0 : Int32 × St} (C : Cxt p s m args c cX5_missedCount 9 wsX5_missedCount RX5 D [(cyI, .int), (cyZ, .boolean)] A) (hRet : ∀ (v : Int32) (σ2 : St) (pc : Nat) (lv : List (Nat × Value)), decode cX5_missedCount pc = .ok (.ireturn, 1) → J p l e ({ frames := 3, cells := 0, slots := 0, locals := 70 } : Room) s m args below meth c 9 D A (wM ad cyI cyZ) Q o0 (some (v, σ2)) σ2 pc lv [.int v]) (σ : St) (v1 v2 v3 v4 v5 v6 v7 : Int32) (hK41 : ∀ (v6 v7 : Int32), J p l e ({ frames := 3, cells := 0, slots := 0, locals := 70 } : Room) s m args below meth c 9 D A (wM ad cyI cyZ) Q o0 (K41 v6 v7) σ 41 [(0, .ref (ad 0)), (1, .int v1), (2, .int v2), (3, .int v3), (4, .int v4), (5, .int v5), (6, .int v6), (7, .int v7)] []) : J p l e ({ frames := 3, cells := 0, slots := 0, locals := 70 } : Room) s m args below meth c 9 D A (wM ad cyI cyZ) Q o0 (fX5_missedCount_b95 K41 v1 v2 v3 v4 v5 v6 v7 σ) σ 95 [(0, .ref (ad 0)), (1, .int v1), (2, .int v2), (3, .int v3), (4, .int v4), (5, .int v5), (6, .int v6), (7, .int v7)] [] := by
  unfold fX5_missedCount_b95
  refine J_iconst (v := (0 : Int32)) C dX5_missedCount_95 (by decide) ?_
  exact jX5_missedCount_b96 C hRet σ v1 v2 v3 v4 v5 v6 v7 (0 : Int32) hK41
set_option maxHeartbeats 4000000 in
set_option maxRecDepth 100000 in
theorem jX5_missedCount_L41  {o0 : Int32 × St} (C : Cxt p s m args c cX5_missedCount 9 wsX5_missedCount RX5 D [(cyI, .int), (cyZ, .boolean)] A) (hRet : ∀ (v : Int32) (σ2 : St) (pc : Nat) (lv : List (Nat × Value)), decode cX5_missedCount pc = .ok (.ireturn, 1) → J p l e ({ frames := 3, cells := 0, slots := 0, locals := 70 } : Room) s m args below meth c 9 D A (wM ad cyI cyZ) Q o0 (some (v, σ2)) σ2 pc lv [.int v]) (σ : St) (v1 v2 v3 v4 v5 : Int32) (n : Nat) (v6 v7 : Int32) : J p l e ({ frames := 3, cells := 0, slots := 0, locals := 70 } : Room) s m args below meth c 9 D A (wM ad cyI cyZ) Q o0 (loop2 (fX5_missedCount_b41 v1 v2 v3 v4 v5 σ) n v6 v7) σ 41 [(0, .ref (ad 0)), (1, .int v1), (2, .int v2), (3, .int v3), (4, .int v4), (5, .int v5), (6, .int v6), (7, .int v7)] [] := by
  refine J_loop2 (pc := 41) (fun v6 v7 => [(0, .ref (ad 0)), (1, .int v1), (2, .int v2), (3, .int v3), (4, .int v4), (5, .int v5), (6, .int v6), (7, .int v7)]) (fX5_missedCount_b41 v1 v2 v3 v4 v5 σ) ?_ n v6 v7
  intro K41 hK41 v6 v7
  unfold fX5_missedCount_b41
  refine J_iload C 7 rfl dX5_missedCount_41 ?_
  refine J_aload_n C 0 rfl rfl dX5_missedCount_43 ?_
  refine J_get C 0 1 5 (C0 := RX5) (T := TX5) (N := 23) (by decide +kernel) rfl rfl (by decide) (by decide +kernel) rfl dX5_missedCount_44 ?_
  refine J_icmp_ge (tgt := 129) C dX5_missedCount_47 (by decide) ?_ ?_
  · refine J_iload C 6 rfl dX5_missedCount_129 ?_
    exact hRet v6 σ _ _ dX5_missedCount_131
  · refine J_iload C 7 rfl dX5_missedCount_50 ?_
    refine J_iload_n C 1 rfl rfl dX5_missedCount_52 ?_
    refine J_icmp_eq (tgt := 95) C dX5_missedCount_53 (by decide) ?_ ?_
    · exact jX5_missedCount_b95 C hRet σ v1 v2 v3 v4 v5 v6 v7 hK41
    · refine J_iload C 5 rfl dX5_missedCount_56 ?_
      refine J_aload_n C 0 rfl rfl dX5_missedCount_58 ?_
      refine J_get C 0 4 5 (C0 := RX5) (T := TX5) (N := 23) (by decide +kernel) rfl rfl (by decide) (by decide +kernel) rfl dX5_missedCount_59 ?_
      refine J_iload C 7 rfl dX5_missedCount_62 ?_
      refine J_iald C 2 0 rfl rfl dX5_missedCount_64 ?_
      refine J_iconst (v := (4 : Int32)) C dX5_missedCount_65 (by decide) ?_
      refine J_idiv C (by decide) dX5_missedCount_66 ?_
      refine J_ishr C dX5_missedCount_67 ?_
      refine J_iconst (v := (1 : Int32)) C dX5_missedCount_68 (by decide) ?_
      refine J_iand C dX5_missedCount_69 ?_
      refine J_iconst (v := (1 : Int32)) C dX5_missedCount_70 (by decide) ?_
      refine J_icmp_ne (tgt := 95) C dX5_missedCount_71 (by decide) ?_ ?_
      · exact jX5_missedCount_b95 C hRet σ v1 v2 v3 v4 v5 v6 v7 hK41
      · refine J_aload_n C 0 rfl rfl dX5_missedCount_74 ?_
        refine J_get C 0 15 5 (C0 := RX5) (T := TX5) (N := 23) (by decide +kernel) rfl rfl (by decide) (by decide +kernel) rfl dX5_missedCount_75 ?_
        refine J_iconst (v := (4 : Int32)) C dX5_missedCount_78 (by decide) ?_
        refine J_iload C 7 rfl dX5_missedCount_79 ?_
        refine J_imul C dX5_missedCount_81 ?_
        refine J_iload_n C 2 rfl rfl dX5_missedCount_82 ?_
        refine J_iadd C dX5_missedCount_83 ?_
        refine J_iald C 10 0 rfl rfl dX5_missedCount_84 ?_
        refine J_callP_S C [.int (σ 10 (((4 : Int32) * v7) + v2).toNatClampNeg)] (fun zr zh => tX5_declares (σ 10 (((4 : Int32) * v7) + v2).toNatClampNeg) σ zr zh) (va_cwS 1 C.1.2.2.2.2 gX5_missedCount_X5_declares rfl rfl rfl (by decide +kernel) ⟨Nat.le_of_ble_eq_true rfl, Nat.le_of_ble_eq_true rfl⟩) rfl rfl (Nat.le_of_ble_eq_true rfl) dX5_missedCount_85 (fun r1 => ?_)
        refine J_if_eq (tgt := 95) C dX5_missedCount_88 (by decide) ?_ ?_
        · exact jX5_missedCount_b95 C hRet σ v1 v2 v3 v4 v5 v6 v7 hK41
        · refine J_iconst (v := (1 : Int32)) C dX5_missedCount_91 (by decide) ?_
          refine J_goto (tgt := 96) C dX5_missedCount_92 (by decide) ?_
          exact jX5_missedCount_b96 C hRet σ v1 v2 v3 v4 v5 v6 v7 (1 : Int32) hK41
set_option maxHeartbeats 4000000 in
set_option maxRecDepth 100000 in
theorem tX5_missedCount {l : Launch} {D : va_G} {ad : Nat → Nat} {cyI cyZ : ClassId} (v1 v2 : Int32) (σ : St) (r : Int32) (σ1 : St) (h : fX5_missedCount v1 v2 σ = some (r, σ1)) : MI l D [(cyI, .int), (cyZ, .boolean)] (wM ad cyI cyZ) yX5_missedCount wsX5_missedCount ({ frames := 3, cells := 0, slots := 0, locals := 70 } : Room) [.ref (ad 0), .int v1, .int v2] σ r σ1 := by
  refine entryI (own := RX5) r σ1 (by decide +kernel) rfl rfl (Nat.le_of_ble_eq_true rfl) (fX5_missedCount v1 v2 σ) h ?_
  intro p e s m below meth c Q A C hRet
  generalize ([.ref (ad 0), .int v1, .int v2] : List Value).toArray = args at *
  show J p l e ({ frames := 3, cells := 0, slots := 0, locals := 70 } : Room) s m args below meth c 9 D A (wM ad cyI cyZ) Q (r, σ1) (fX5_missedCount v1 v2 σ) σ 0 [(0, .ref (ad 0)), (1, .int v1), (2, .int v2)] []
  unfold fX5_missedCount
  refine J_aload_n C 0 rfl rfl dX5_missedCount_0 ?_
  refine J_iload_n C 1 rfl rfl dX5_missedCount_1 ?_
  refine J_iload_n C 2 rfl rfl dX5_missedCount_2 ?_
  refine J_callP_V C [.int v1, .int v2] 0 5 rfl rfl (fun zr zh => tX5_refusedHost v1 v2 σ zr zh) (cwV 2 C.1.2.2.2.2 gX5_missedCount_X5_refusedHost rfl rfl rfl (by decide +kernel) ⟨Nat.le_of_ble_eq_true rfl, Nat.le_of_ble_eq_true rfl⟩) rfl rfl (Nat.le_of_ble_eq_true rfl) dX5_missedCount_3 (fun r1 => ?_)
  refine J_istore_n C rfl dX5_missedCount_6 (by decide) rfl ?_
  refine J_iload_n C 0 rfl rfl dX5_missedCount_7 ?_
  refine J_if_eq (tgt := 13) C dX5_missedCount_8 (by decide) ?_ ?_
  · refine J_aload_n C 1 rfl rfl dX5_missedCount_13 ?_
    refine J_iload_n C 2 rfl rfl dX5_missedCount_14 ?_
    refine J_iload_n C 3 rfl rfl dX5_missedCount_15 ?_
    refine J_callI_V C [.int v1, .int v2] 0 5 rfl rfl (fun zr zs zh => tX5_reached v1 v2 σ zr zs zh) (cwV 2 C.1.2.2.2.2 gX5_missedCount_X5_reached rfl rfl rfl (by decide +kernel) ⟨Nat.le_of_ble_eq_true rfl, Nat.le_of_ble_eq_true rfl⟩) rfl rfl (Nat.le_of_ble_eq_true rfl) dX5_missedCount_16 (fun r2 σ2 => ?_)
    refine J_istore C dX5_missedCount_19 (by decide) rfl ?_
    refine J_aload_n C 2 rfl rfl dX5_missedCount_21 ?_
    refine J_aload_n C 2 rfl rfl dX5_missedCount_22 ?_
    refine J_get C 0 4 5 (C0 := RX5) (T := TX5) (N := 23) (by decide +kernel) rfl rfl (by decide) (by decide +kernel) rfl dX5_missedCount_23 ?_
    refine J_iload_n C 3 rfl rfl dX5_missedCount_26 ?_
    refine J_iald C 2 0 rfl rfl dX5_missedCount_27 ?_
    refine J_iconst (v := (4 : Int32)) C dX5_missedCount_28 (by decide) ?_
    refine J_idiv C (by decide) dX5_missedCount_29 ?_
    refine J_callP_V C [.int ((σ2 2 v1.toNatClampNeg) / (4 : Int32))] 0 5 rfl rfl (fun zr zh => tX5_partOf ((σ2 2 v1.toNatClampNeg) / (4 : Int32)) σ2 zr zh) (cwV 1 C.1.2.2.2.2 gX5_missedCount_X5_partOf rfl rfl rfl (by decide +kernel) ⟨Nat.le_of_ble_eq_true rfl, Nat.le_of_ble_eq_true rfl⟩) rfl rfl (Nat.le_of_ble_eq_true rfl) dX5_missedCount_30 (fun r3 => ?_)
    refine J_istore C dX5_missedCount_33 (by decide) rfl ?_
    refine J_iconst (v := (0 : Int32)) C dX5_missedCount_35 (by decide) ?_
    refine J_istore C dX5_missedCount_36 (by decide) rfl ?_
    refine J_iconst (v := (0 : Int32)) C dX5_missedCount_38 (by decide) ?_
    refine J_istore C dX5_missedCount_39 (by decide) rfl ?_
    refine J_lv [5, 6, 7, 4, 3, 2, 1, 0] rfl ?_
    exact jX5_missedCount_L41 C hRet σ2 v1 v2 r1 r2 r3 fuel (0 : Int32) (0 : Int32)
  · refine J_iload_n C 0 rfl rfl dX5_missedCount_11 ?_
    exact hRet r1 σ _ _ dX5_missedCount_12
-- X5_needlessCount
set_option maxHeartbeats 4000000 in
set_option maxRecDepth 100000 in
theorem jX5_needlessCount_b71 {K27 : Int32 → Int32 → Option (Int32 × St)} {o0 : Int32 × St} (C : Cxt p s m args c cX5_needlessCount 7 wsX5_needlessCount RX5 D [(cyI, .int), (cyZ, .boolean)] A) (hRet : ∀ (v : Int32) (σ2 : St) (pc : Nat) (lv : List (Nat × Value)), decode cX5_needlessCount pc = .ok (.ireturn, 1) → J p l e ({ frames := 3, cells := 0, slots := 0, locals := 70 } : Room) s m args below meth c 7 D A (wM ad cyI cyZ) Q o0 (some (v, σ2)) σ2 pc lv [.int v]) (σ : St) (v1 v2 v3 v4 v5 v6 t0 t1 : Int32) (hK27 : ∀ (v5 v6 : Int32), J p l e ({ frames := 3, cells := 0, slots := 0, locals := 70 } : Room) s m args below meth c 7 D A (wM ad cyI cyZ) Q o0 (K27 v5 v6) σ 27 [(0, .ref (ad 0)), (1, .int v1), (2, .int v2), (3, .int v3), (4, .int v4), (5, .int v5), (6, .int v6)] []) : J p l e ({ frames := 3, cells := 0, slots := 0, locals := 70 } : Room) s m args below meth c 7 D A (wM ad cyI cyZ) Q o0 (fX5_needlessCount_b71 K27 v1 v2 v3 v4 v5 v6 t0 t1 σ) σ 71 [(0, .ref (ad 0)), (1, .int v1), (2, .int v2), (3, .int v3), (4, .int v4), (5, .int v5), (6, .int v6)] [.int t0, .int t1] := by
  unfold fX5_needlessCount_b71
  refine J_iadd C dX5_needlessCount_71 ?_
  refine J_istore C dX5_needlessCount_72 (by decide) rfl ?_
  refine J_iinc (d := (1 : Int32)) C 6 rfl dX5_needlessCount_74 (by decide) (by decide) rfl ?_
  refine J_goto (tgt := 27) C dX5_needlessCount_77 (by decide) ?_
  refine J_lv [2, 3, 4, 5, 6, 1, 0] rfl ?_
  exact hK27 (t1 + t0) (v6 + (1 : Int32))
set_option maxHeartbeats 4000000 in
set_option maxRecDepth 100000 in
theorem jX5_needlessCount_b70 {K27 : Int32 → Int32 → Option (Int32 × St)} {o0 : Int32 × St} (C : Cxt p s m args c cX5_needlessCount 7 wsX5_needlessCount RX5 D [(cyI, .int), (cyZ, .boolean)] A) (hRet : ∀ (v : Int32) (σ2 : St) (pc : Nat) (lv : List (Nat × Value)), decode cX5_needlessCount pc = .ok (.ireturn, 1) → J p l e ({ frames := 3, cells := 0, slots := 0, locals := 70 } : Room) s m args below meth c 7 D A (wM ad cyI cyZ) Q o0 (some (v, σ2)) σ2 pc lv [.int v]) (σ : St) (v1 v2 v3 v4 v5 v6 t0 : Int32) (hK27 : ∀ (v5 v6 : Int32), J p l e ({ frames := 3, cells := 0, slots := 0, locals := 70 } : Room) s m args below meth c 7 D A (wM ad cyI cyZ) Q o0 (K27 v5 v6) σ 27 [(0, .ref (ad 0)), (1, .int v1), (2, .int v2), (3, .int v3), (4, .int v4), (5, .int v5), (6, .int v6)] []) : J p l e ({ frames := 3, cells := 0, slots := 0, locals := 70 } : Room) s m args below meth c 7 D A (wM ad cyI cyZ) Q o0 (fX5_needlessCount_b70 K27 v1 v2 v3 v4 v5 v6 t0 σ) σ 70 [(0, .ref (ad 0)), (1, .int v1), (2, .int v2), (3, .int v3), (4, .int v4), (5, .int v5), (6, .int v6)] [.int t0] := by
  unfold fX5_needlessCount_b70
  refine J_iconst (v := (0 : Int32)) C dX5_needlessCount_70 (by decide) ?_
  exact jX5_needlessCount_b71 C hRet σ v1 v2 v3 v4 v5 v6 (0 : Int32) t0 hK27
set_option maxHeartbeats 4000000 in
set_option maxRecDepth 100000 in
theorem jX5_needlessCount_L27  {o0 : Int32 × St} (C : Cxt p s m args c cX5_needlessCount 7 wsX5_needlessCount RX5 D [(cyI, .int), (cyZ, .boolean)] A) (hRet : ∀ (v : Int32) (σ2 : St) (pc : Nat) (lv : List (Nat × Value)), decode cX5_needlessCount pc = .ok (.ireturn, 1) → J p l e ({ frames := 3, cells := 0, slots := 0, locals := 70 } : Room) s m args below meth c 7 D A (wM ad cyI cyZ) Q o0 (some (v, σ2)) σ2 pc lv [.int v]) (σ : St) (v1 v2 v3 v4 : Int32) (n : Nat) (v5 v6 : Int32) : J p l e ({ frames := 3, cells := 0, slots := 0, locals := 70 } : Room) s m args below meth c 7 D A (wM ad cyI cyZ) Q o0 (loop2 (fX5_needlessCount_b27 v1 v2 v3 v4 σ) n v5 v6) σ 27 [(0, .ref (ad 0)), (1, .int v1), (2, .int v2), (3, .int v3), (4, .int v4), (5, .int v5), (6, .int v6)] [] := by
  refine J_loop2 (pc := 27) (fun v5 v6 => [(0, .ref (ad 0)), (1, .int v1), (2, .int v2), (3, .int v3), (4, .int v4), (5, .int v5), (6, .int v6)]) (fX5_needlessCount_b27 v1 v2 v3 v4 σ) ?_ n v5 v6
  intro K27 hK27 v5 v6
  unfold fX5_needlessCount_b27
  refine J_iload C 6 rfl dX5_needlessCount_27 ?_
  refine J_aload_n C 0 rfl rfl dX5_needlessCount_29 ?_
  refine J_get C 0 1 5 (C0 := RX5) (T := TX5) (N := 23) (by decide +kernel) rfl rfl (by decide) (by decide +kernel) rfl dX5_needlessCount_30 ?_
  refine J_icmp_ge (tgt := 80) C dX5_needlessCount_33 (by decide) ?_ ?_
  · refine J_iload C 5 rfl dX5_needlessCount_80 ?_
    exact hRet v5 σ _ _ dX5_needlessCount_82
  · refine J_iload C 5 rfl dX5_needlessCount_36 ?_
    refine J_iload C 4 rfl dX5_needlessCount_38 ?_
    refine J_iload C 6 rfl dX5_needlessCount_40 ?_
    refine J_ishr C dX5_needlessCount_42 ?_
    refine J_iconst (v := (1 : Int32)) C dX5_needlessCount_43 (by decide) ?_
    refine J_iand C dX5_needlessCount_44 ?_
    refine J_iconst (v := (1 : Int32)) C dX5_needlessCount_45 (by decide) ?_
    refine J_icmp_ne (tgt := 70) C dX5_needlessCount_46 (by decide) ?_ ?_
    · exact jX5_needlessCount_b70 C hRet σ v1 v2 v3 v4 v5 v6 v5 hK27
    · refine J_aload_n C 0 rfl rfl dX5_needlessCount_49 ?_
      refine J_get C 0 15 5 (C0 := RX5) (T := TX5) (N := 23) (by decide +kernel) rfl rfl (by decide) (by decide +kernel) rfl dX5_needlessCount_50 ?_
      refine J_iconst (v := (4 : Int32)) C dX5_needlessCount_53 (by decide) ?_
      refine J_iload C 6 rfl dX5_needlessCount_54 ?_
      refine J_imul C dX5_needlessCount_56 ?_
      refine J_iload_n C 2 rfl rfl dX5_needlessCount_57 ?_
      refine J_iadd C dX5_needlessCount_58 ?_
      refine J_iald C 10 0 rfl rfl dX5_needlessCount_59 ?_
      refine J_callP_S C [.int (σ 10 (((4 : Int32) * v6) + v2).toNatClampNeg)] (fun zr zh => tX5_declares (σ 10 (((4 : Int32) * v6) + v2).toNatClampNeg) σ zr zh) (va_cwS 1 C.1.2.2.2.2 gX5_needlessCount_X5_declares rfl rfl rfl (by decide +kernel) ⟨Nat.le_of_ble_eq_true rfl, Nat.le_of_ble_eq_true rfl⟩) rfl rfl (Nat.le_of_ble_eq_true rfl) dX5_needlessCount_60 (fun r1 => ?_)
      refine J_if_ne (tgt := 70) C dX5_needlessCount_63 (by decide) ?_ ?_
      · exact jX5_needlessCount_b70 C hRet σ v1 v2 v3 v4 v5 v6 v5 hK27
      · refine J_iconst (v := (1 : Int32)) C dX5_needlessCount_66 (by decide) ?_
        refine J_goto (tgt := 71) C dX5_needlessCount_67 (by decide) ?_
        exact jX5_needlessCount_b71 C hRet σ v1 v2 v3 v4 v5 v6 (1 : Int32) v5 hK27
set_option maxHeartbeats 4000000 in
set_option maxRecDepth 100000 in
theorem tX5_needlessCount {l : Launch} {D : va_G} {ad : Nat → Nat} {cyI cyZ : ClassId} (v1 v2 : Int32) (σ : St) (r : Int32) (σ1 : St) (h : fX5_needlessCount v1 v2 σ = some (r, σ1)) : MI l D [(cyI, .int), (cyZ, .boolean)] (wM ad cyI cyZ) yX5_needlessCount wsX5_needlessCount ({ frames := 3, cells := 0, slots := 0, locals := 70 } : Room) [.ref (ad 0), .int v1, .int v2] σ r σ1 := by
  refine entryI (own := RX5) r σ1 (by decide +kernel) rfl rfl (Nat.le_of_ble_eq_true rfl) (fX5_needlessCount v1 v2 σ) h ?_
  intro p e s m below meth c Q A C hRet
  generalize ([.ref (ad 0), .int v1, .int v2] : List Value).toArray = args at *
  show J p l e ({ frames := 3, cells := 0, slots := 0, locals := 70 } : Room) s m args below meth c 7 D A (wM ad cyI cyZ) Q (r, σ1) (fX5_needlessCount v1 v2 σ) σ 0 [(0, .ref (ad 0)), (1, .int v1), (2, .int v2)] []
  unfold fX5_needlessCount
  refine J_aload_n C 0 rfl rfl dX5_needlessCount_0 ?_
  refine J_iload_n C 1 rfl rfl dX5_needlessCount_1 ?_
  refine J_iload_n C 2 rfl rfl dX5_needlessCount_2 ?_
  refine J_callP_V C [.int v1, .int v2] 0 5 rfl rfl (fun zr zh => tX5_refusedHost v1 v2 σ zr zh) (cwV 2 C.1.2.2.2.2 gX5_needlessCount_X5_refusedHost rfl rfl rfl (by decide +kernel) ⟨Nat.le_of_ble_eq_true rfl, Nat.le_of_ble_eq_true rfl⟩) rfl rfl (Nat.le_of_ble_eq_true rfl) dX5_needlessCount_3 (fun r1 => ?_)
  refine J_istore_n C rfl dX5_needlessCount_6 (by decide) rfl ?_
  refine J_iload_n C 0 rfl rfl dX5_needlessCount_7 ?_
  refine J_if_eq (tgt := 13) C dX5_needlessCount_8 (by decide) ?_ ?_
  · refine J_aload_n C 1 rfl rfl dX5_needlessCount_13 ?_
    refine J_iload_n C 2 rfl rfl dX5_needlessCount_14 ?_
    refine J_iload_n C 3 rfl rfl dX5_needlessCount_15 ?_
    refine J_callI_V C [.int v1, .int v2] 0 5 rfl rfl (fun zr zs zh => tX5_reached v1 v2 σ zr zs zh) (cwV 2 C.1.2.2.2.2 gX5_needlessCount_X5_reached rfl rfl rfl (by decide +kernel) ⟨Nat.le_of_ble_eq_true rfl, Nat.le_of_ble_eq_true rfl⟩) rfl rfl (Nat.le_of_ble_eq_true rfl) dX5_needlessCount_16 (fun r2 σ2 => ?_)
    refine J_istore C dX5_needlessCount_19 (by decide) rfl ?_
    refine J_iconst (v := (0 : Int32)) C dX5_needlessCount_21 (by decide) ?_
    refine J_istore C dX5_needlessCount_22 (by decide) rfl ?_
    refine J_iconst (v := (0 : Int32)) C dX5_needlessCount_24 (by decide) ?_
    refine J_istore C dX5_needlessCount_25 (by decide) rfl ?_
    refine J_lv [4, 5, 6, 3, 2, 1, 0] rfl ?_
    exact jX5_needlessCount_L27 C hRet σ2 v1 v2 r1 r2 fuel (0 : Int32) (0 : Int32)
  · refine J_iload_n C 0 rfl rfl dX5_needlessCount_11 ?_
    exact hRet r1 σ _ _ dX5_needlessCount_12
-- X5_distance
set_option maxHeartbeats 4000000 in
set_option maxRecDepth 100000 in
theorem jX5_distance_b145  {o0 : Int32 × St} (C : Cxt p s m args c cX5_distance 5 wsX5_distance RX5 D [(cyI, .int), (cyZ, .boolean)] A) (hRet : ∀ (v : Int32) (σ2 : St) (pc : Nat) (lv : List (Nat × Value)), decode cX5_distance pc = .ok (.ireturn, 1) → J p l e ({ frames := 2, cells := 0, slots := 0, locals := 43 } : Room) s m args below meth c 5 D A (wM ad cyI cyZ) Q o0 (some (v, σ2)) σ2 pc lv [.int v]) (σ : St) (v1 v2 v3 : Int32) : J p l e ({ frames := 2, cells := 0, slots := 0, locals := 43 } : Room) s m args below meth c 5 D A (wM ad cyI cyZ) Q o0 (fX5_distance_b145 v1 v2 v3 σ) σ 145 [(0, .ref (ad 0)), (1, .int v1), (2, .int v2), (3, .int v3)] [] := by
  unfold fX5_distance_b145
  refine J_aload_n C 0 rfl rfl dX5_distance_145 ?_
  refine J_get C 0 22 5 (C0 := RX5) (T := TX5) (N := 23) (by decide +kernel) rfl rfl (by decide) (by decide +kernel) rfl dX5_distance_146 ?_
  refine J_aload_n C 0 rfl rfl dX5_distance_149 ?_
  refine J_get C 0 4 5 (C0 := RX5) (T := TX5) (N := 23) (by decide +kernel) rfl rfl (by decide) (by decide +kernel) rfl dX5_distance_150 ?_
  refine J_iload_n C 2 rfl rfl dX5_distance_153 ?_
  refine J_iald C 2 0 rfl rfl dX5_distance_154 ?_
  refine J_iconst (v := (4 : Int32)) C dX5_distance_155 (by decide) ?_
  refine J_idiv C (by decide) dX5_distance_156 ?_
  refine J_iald C 17 0 rfl rfl dX5_distance_157 ?_
  exact hRet (σ 17 ((σ 2 v2.toNatClampNeg) / (4 : Int32)).toNatClampNeg) σ _ _ dX5_distance_158
set_option maxHeartbeats 4000000 in
set_option maxRecDepth 100000 in
theorem jX5_distance_b139 {K55 : Int32 → St → Option (Int32 × St)} {o0 : Int32 × St} (C : Cxt p s m args c cX5_distance 5 wsX5_distance RX5 D [(cyI, .int), (cyZ, .boolean)] A) (hRet : ∀ (v : Int32) (σ2 : St) (pc : Nat) (lv : List (Nat × Value)), decode cX5_distance pc = .ok (.ireturn, 1) → J p l e ({ frames := 2, cells := 0, slots := 0, locals := 43 } : Room) s m args below meth c 5 D A (wM ad cyI cyZ) Q o0 (some (v, σ2)) σ2 pc lv [.int v]) (σ : St) (v1 v2 v3 v4 : Int32) (hK55 : ∀ (v3 : Int32) (σ : St), J p l e ({ frames := 2, cells := 0, slots := 0, locals := 43 } : Room) s m args below meth c 5 D A (wM ad cyI cyZ) Q o0 (K55 v3 σ) σ 55 [(0, .ref (ad 0)), (1, .int v1), (2, .int v2), (3, .int v3)] []) : J p l e ({ frames := 2, cells := 0, slots := 0, locals := 43 } : Room) s m args below meth c 5 D A (wM ad cyI cyZ) Q o0 (fX5_distance_b139 K55 v1 v2 v3 v4 σ) σ 139 [(0, .ref (ad 0)), (1, .int v1), (2, .int v2), (3, .int v3), (4, .int v4)] [] := by
  unfold fX5_distance_b139
  refine J_iinc (d := (1 : Int32)) C 3 rfl dX5_distance_139 (by decide) (by decide) rfl ?_
  refine J_goto (tgt := 55) C dX5_distance_142 (by decide) ?_
  refine J_lv [1, 2, 3, 0] rfl ?_
  exact hK55 (v3 + (1 : Int32)) σ
set_option maxHeartbeats 4000000 in
set_option maxRecDepth 100000 in
theorem jX5_distance_b133 {K55 : Int32 → St → Option (Int32 × St)} {K63 : Int32 → St → Option (Int32 × St)} {o0 : Int32 × St} (C : Cxt p s m args c cX5_distance 5 wsX5_distance RX5 D [(cyI, .int), (cyZ, .boolean)] A) (hRet : ∀ (v : Int32) (σ2 : St) (pc : Nat) (lv : List (Nat × Value)), decode cX5_distance pc = .ok (.ireturn, 1) → J p l e ({ frames := 2, cells := 0, slots := 0, locals := 43 } : Room) s m args below meth c 5 D A (wM ad cyI cyZ) Q o0 (some (v, σ2)) σ2 pc lv [.int v]) (σ : St) (v1 v2 v3 v4 : Int32) (hK55 : ∀ (v3 : Int32) (σ : St), J p l e ({ frames := 2, cells := 0, slots := 0, locals := 43 } : Room) s m args below meth c 5 D A (wM ad cyI cyZ) Q o0 (K55 v3 σ) σ 55 [(0, .ref (ad 0)), (1, .int v1), (2, .int v2), (3, .int v3)] []) (hK63 : ∀ (v4 : Int32) (σ : St), J p l e ({ frames := 2, cells := 0, slots := 0, locals := 43 } : Room) s m args below meth c 5 D A (wM ad cyI cyZ) Q o0 (K63 v4 σ) σ 63 [(0, .ref (ad 0)), (1, .int v1), (2, .int v2), (3, .int v3), (4, .int v4)] []) : J p l e ({ frames := 2, cells := 0, slots := 0, locals := 43 } : Room) s m args below meth c 5 D A (wM ad cyI cyZ) Q o0 (fX5_distance_b133 K55 K63 v1 v2 v3 v4 σ) σ 133 [(0, .ref (ad 0)), (1, .int v1), (2, .int v2), (3, .int v3), (4, .int v4)] [] := by
  unfold fX5_distance_b133
  refine J_iinc (d := (1 : Int32)) C 4 rfl dX5_distance_133 (by decide) (by decide) rfl ?_
  refine J_goto (tgt := 63) C dX5_distance_136 (by decide) ?_
  refine J_lv [1, 2, 3, 4, 0] rfl ?_
  exact hK63 (v4 + (1 : Int32)) σ
set_option maxHeartbeats 4000000 in
set_option maxRecDepth 100000 in
theorem jX5_distance_L63 {K55 : Int32 → St → Option (Int32 × St)} {o0 : Int32 × St} (C : Cxt p s m args c cX5_distance 5 wsX5_distance RX5 D [(cyI, .int), (cyZ, .boolean)] A) (hRet : ∀ (v : Int32) (σ2 : St) (pc : Nat) (lv : List (Nat × Value)), decode cX5_distance pc = .ok (.ireturn, 1) → J p l e ({ frames := 2, cells := 0, slots := 0, locals := 43 } : Room) s m args below meth c 5 D A (wM ad cyI cyZ) Q o0 (some (v, σ2)) σ2 pc lv [.int v]) (v1 v2 v3 : Int32) (hK55 : ∀ (v3 : Int32) (σ : St), J p l e ({ frames := 2, cells := 0, slots := 0, locals := 43 } : Room) s m args below meth c 5 D A (wM ad cyI cyZ) Q o0 (K55 v3 σ) σ 55 [(0, .ref (ad 0)), (1, .int v1), (2, .int v2), (3, .int v3)] []) (n : Nat) (v4 : Int32) (σ : St) : J p l e ({ frames := 2, cells := 0, slots := 0, locals := 43 } : Room) s m args below meth c 5 D A (wM ad cyI cyZ) Q o0 (loop1s (fX5_distance_b63 K55 v1 v2 v3) n v4 σ) σ 63 [(0, .ref (ad 0)), (1, .int v1), (2, .int v2), (3, .int v3), (4, .int v4)] [] := by
  refine J_loop1s (pc := 63) (fun v4 => [(0, .ref (ad 0)), (1, .int v1), (2, .int v2), (3, .int v3), (4, .int v4)]) (fX5_distance_b63 K55 v1 v2 v3) ?_ n v4 σ
  intro K63 hK63 v4 σ
  unfold fX5_distance_b63
  refine J_iload C 4 rfl dX5_distance_63 ?_
  refine J_bipush (v := (20 : Int32)) C dX5_distance_65 (by decide) ?_
  refine J_icmp_ge (tgt := 139) C dX5_distance_67 (by decide) ?_ ?_
  · exact jX5_distance_b139 C hRet σ v1 v2 v3 v4 hK55
  · refine J_aload_n C 0 rfl rfl dX5_distance_70 ?_
    refine J_iload C 4 rfl dX5_distance_71 ?_
    refine J_callP_V C [.int v4] 0 5 rfl rfl (fun zr zh => tX5_isLinked v4 σ zr zh) (cwV 1 C.1.2.2.2.2 gX5_distance_X5_isLinked rfl rfl rfl (by decide +kernel) ⟨Nat.le_of_ble_eq_true rfl, Nat.le_of_ble_eq_true rfl⟩) rfl rfl (Nat.le_of_ble_eq_true rfl) dX5_distance_73 (fun r1 => ?_)
    refine J_if_eq (tgt := 133) C dX5_distance_76 (by decide) ?_ ?_
    · exact jX5_distance_b133 C hRet σ v1 v2 v3 v4 hK55 hK63
    · refine J_aload_n C 0 rfl rfl dX5_distance_79 ?_
      refine J_get C 0 22 5 (C0 := RX5) (T := TX5) (N := 23) (by decide +kernel) rfl rfl (by decide) (by decide +kernel) rfl dX5_distance_80 ?_
      refine J_iload C 4 rfl dX5_distance_83 ?_
      refine J_iconst (v := (4 : Int32)) C dX5_distance_85 (by decide) ?_
      refine J_idiv C (by decide) dX5_distance_86 ?_
      refine J_iald C 17 0 rfl rfl dX5_distance_87 ?_
      refine J_if_le (tgt := 133) C dX5_distance_88 (by decide) ?_ ?_
      · exact jX5_distance_b133 C hRet σ v1 v2 v3 v4 hK55 hK63
      · refine J_aload_n C 0 rfl rfl dX5_distance_91 ?_
        refine J_get C 0 22 5 (C0 := RX5) (T := TX5) (N := 23) (by decide +kernel) rfl rfl (by decide) (by decide +kernel) rfl dX5_distance_92 ?_
        refine J_aload_n C 0 rfl rfl dX5_distance_95 ?_
        refine J_get C 0 3 5 (C0 := RX5) (T := TX5) (N := 23) (by decide +kernel) rfl rfl (by decide) (by decide +kernel) rfl dX5_distance_96 ?_
        refine J_iload C 4 rfl dX5_distance_99 ?_
        refine J_iald C 1 0 rfl rfl dX5_distance_101 ?_
        refine J_iconst (v := (4 : Int32)) C dX5_distance_102 (by decide) ?_
        refine J_idiv C (by decide) dX5_distance_103 ?_
        refine J_iald C 17 0 rfl rfl dX5_distance_104 ?_
        refine J_if_ne (tgt := 133) C dX5_distance_105 (by decide) ?_ ?_
        · exact jX5_distance_b133 C hRet σ v1 v2 v3 v4 hK55 hK63
        · refine J_aload_n C 0 rfl rfl dX5_distance_108 ?_
          refine J_get C 0 22 5 (C0 := RX5) (T := TX5) (N := 23) (by decide +kernel) rfl rfl (by decide) (by decide +kernel) rfl dX5_distance_109 ?_
          refine J_aload_n C 0 rfl rfl dX5_distance_112 ?_
          refine J_get C 0 3 5 (C0 := RX5) (T := TX5) (N := 23) (by decide +kernel) rfl rfl (by decide) (by decide +kernel) rfl dX5_distance_113 ?_
          refine J_iload C 4 rfl dX5_distance_116 ?_
          refine J_iald C 1 0 rfl rfl dX5_distance_118 ?_
          refine J_iconst (v := (4 : Int32)) C dX5_distance_119 (by decide) ?_
          refine J_idiv C (by decide) dX5_distance_120 ?_
          refine J_aload_n C 0 rfl rfl dX5_distance_121 ?_
          refine J_get C 0 22 5 (C0 := RX5) (T := TX5) (N := 23) (by decide +kernel) rfl rfl (by decide) (by decide +kernel) rfl dX5_distance_122 ?_
          refine J_iload C 4 rfl dX5_distance_125 ?_
          refine J_iconst (v := (4 : Int32)) C dX5_distance_127 (by decide) ?_
          refine J_idiv C (by decide) dX5_distance_128 ?_
          refine J_iald C 17 0 rfl rfl dX5_distance_129 ?_
          refine J_iconst (v := (1 : Int32)) C dX5_distance_130 (by decide) ?_
          refine J_iadd C dX5_distance_131 ?_
          refine J_iast (σ' := up2 σ 17 ((σ 1 v4.toNatClampNeg) / (4 : Int32)).toNatClampNeg ((σ 17 (v4 / (4 : Int32)).toNatClampNeg) + (1 : Int32))) C 17 0 rfl rfl (wM_s17 _ _ _ _ _ _) dX5_distance_132 ?_
          exact jX5_distance_b133 C hRet (up2 σ 17 ((σ 1 v4.toNatClampNeg) / (4 : Int32)).toNatClampNeg ((σ 17 (v4 / (4 : Int32)).toNatClampNeg) + (1 : Int32))) v1 v2 v3 v4 hK55 hK63
set_option maxHeartbeats 4000000 in
set_option maxRecDepth 100000 in
theorem jX5_distance_L55  {o0 : Int32 × St} (C : Cxt p s m args c cX5_distance 5 wsX5_distance RX5 D [(cyI, .int), (cyZ, .boolean)] A) (hRet : ∀ (v : Int32) (σ2 : St) (pc : Nat) (lv : List (Nat × Value)), decode cX5_distance pc = .ok (.ireturn, 1) → J p l e ({ frames := 2, cells := 0, slots := 0, locals := 43 } : Room) s m args below meth c 5 D A (wM ad cyI cyZ) Q o0 (some (v, σ2)) σ2 pc lv [.int v]) (v1 v2 : Int32) (n : Nat) (v3 : Int32) (σ : St) : J p l e ({ frames := 2, cells := 0, slots := 0, locals := 43 } : Room) s m args below meth c 5 D A (wM ad cyI cyZ) Q o0 (loop1s (fX5_distance_b55 v1 v2) n v3 σ) σ 55 [(0, .ref (ad 0)), (1, .int v1), (2, .int v2), (3, .int v3)] [] := by
  refine J_loop1s (pc := 55) (fun v3 => [(0, .ref (ad 0)), (1, .int v1), (2, .int v2), (3, .int v3)]) (fX5_distance_b55 v1 v2) ?_ n v3 σ
  intro K55 hK55 v3 σ
  unfold fX5_distance_b55
  refine J_iload_n C 3 rfl rfl dX5_distance_55 ?_
  refine J_iconst (v := (5 : Int32)) C dX5_distance_56 (by decide) ?_
  refine J_icmp_ge (tgt := 145) C dX5_distance_57 (by decide) ?_ ?_
  · exact jX5_distance_b145 C hRet σ v1 v2 v3
  · refine J_iconst (v := (0 : Int32)) C dX5_distance_60 (by decide) ?_
    refine J_istore C dX5_distance_61 (by decide) rfl ?_
    refine J_lv [1, 2, 3, 4, 0] rfl ?_
    exact jX5_distance_L63 C hRet v1 v2 v3 hK55 fuel (0 : Int32) σ
set_option maxHeartbeats 4000000 in
set_option maxRecDepth 100000 in
theorem jX5_distance_b39  {o0 : Int32 × St} (C : Cxt p s m args c cX5_distance 5 wsX5_distance RX5 D [(cyI, .int), (cyZ, .boolean)] A) (hRet : ∀ (v : Int32) (σ2 : St) (pc : Nat) (lv : List (Nat × Value)), decode cX5_distance pc = .ok (.ireturn, 1) → J p l e ({ frames := 2, cells := 0, slots := 0, locals := 43 } : Room) s m args below meth c 5 D A (wM ad cyI cyZ) Q o0 (some (v, σ2)) σ2 pc lv [.int v]) (σ : St) (v1 v2 v3 : Int32) : J p l e ({ frames := 2, cells := 0, slots := 0, locals := 43 } : Room) s m args below meth c 5 D A (wM ad cyI cyZ) Q o0 (fX5_distance_b39 v1 v2 v3 σ) σ 39 [(0, .ref (ad 0)), (1, .int v1), (2, .int v2), (3, .int v3)] [] := by
  unfold fX5_distance_b39
  refine J_aload_n C 0 rfl rfl dX5_distance_39 ?_
  refine J_get C 0 22 5 (C0 := RX5) (T := TX5) (N := 23) (by decide +kernel) rfl rfl (by decide) (by decide +kernel) rfl dX5_distance_40 ?_
  refine J_aload_n C 0 rfl rfl dX5_distance_43 ?_
  refine J_get C 0 4 5 (C0 := RX5) (T := TX5) (N := 23) (by decide +kernel) rfl rfl (by decide) (by decide +kernel) rfl dX5_distance_44 ?_
  refine J_iload_n C 1 rfl rfl dX5_distance_47 ?_
  refine J_iald C 2 0 rfl rfl dX5_distance_48 ?_
  refine J_iconst (v := (4 : Int32)) C dX5_distance_49 (by decide) ?_
  refine J_idiv C (by decide) dX5_distance_50 ?_
  refine J_iconst (v := (1 : Int32)) C dX5_distance_51 (by decide) ?_
  refine J_iast (σ' := up2 σ 17 ((σ 2 v1.toNatClampNeg) / (4 : Int32)).toNatClampNeg (1 : Int32)) C 17 0 rfl rfl (wM_s17 _ _ _ _ _ _) dX5_distance_52 ?_
  refine J_iconst (v := (0 : Int32)) C dX5_distance_53 (by decide) ?_
  refine J_istore_n C rfl dX5_distance_54 (by decide) rfl ?_
  refine J_lv [1, 2, 3, 0] rfl ?_
  exact jX5_distance_L55 C hRet v1 v2 fuel (0 : Int32) (up2 σ 17 ((σ 2 v1.toNatClampNeg) / (4 : Int32)).toNatClampNeg (1 : Int32))
set_option maxHeartbeats 4000000 in
set_option maxRecDepth 100000 in
theorem jX5_distance_L21  {o0 : Int32 × St} (C : Cxt p s m args c cX5_distance 5 wsX5_distance RX5 D [(cyI, .int), (cyZ, .boolean)] A) (hRet : ∀ (v : Int32) (σ2 : St) (pc : Nat) (lv : List (Nat × Value)), decode cX5_distance pc = .ok (.ireturn, 1) → J p l e ({ frames := 2, cells := 0, slots := 0, locals := 43 } : Room) s m args below meth c 5 D A (wM ad cyI cyZ) Q o0 (some (v, σ2)) σ2 pc lv [.int v]) (v1 v2 : Int32) (n : Nat) (v3 : Int32) (σ : St) : J p l e ({ frames := 2, cells := 0, slots := 0, locals := 43 } : Room) s m args below meth c 5 D A (wM ad cyI cyZ) Q o0 (loop1s (fX5_distance_b21 v1 v2) n v3 σ) σ 21 [(0, .ref (ad 0)), (1, .int v1), (2, .int v2), (3, .int v3)] [] := by
  refine J_loop1s (pc := 21) (fun v3 => [(0, .ref (ad 0)), (1, .int v1), (2, .int v2), (3, .int v3)]) (fX5_distance_b21 v1 v2) ?_ n v3 σ
  intro K21 hK21 v3 σ
  unfold fX5_distance_b21
  refine J_iload_n C 3 rfl rfl dX5_distance_21 ?_
  refine J_iconst (v := (5 : Int32)) C dX5_distance_22 (by decide) ?_
  refine J_icmp_ge (tgt := 39) C dX5_distance_23 (by decide) ?_ ?_
  · exact jX5_distance_b39 C hRet σ v1 v2 v3
  · refine J_aload_n C 0 rfl rfl dX5_distance_26 ?_
    refine J_get C 0 22 5 (C0 := RX5) (T := TX5) (N := 23) (by decide +kernel) rfl rfl (by decide) (by decide +kernel) rfl dX5_distance_27 ?_
    refine J_iload_n C 3 rfl rfl dX5_distance_30 ?_
    refine J_iconst (v := (0 : Int32)) C dX5_distance_31 (by decide) ?_
    refine J_iast (σ' := up2 σ 17 v3.toNatClampNeg (0 : Int32)) C 17 0 rfl rfl (wM_s17 _ _ _ _ _ _) dX5_distance_32 ?_
    refine J_iinc (d := (1 : Int32)) C 3 rfl dX5_distance_33 (by decide) (by decide) rfl ?_
    refine J_goto (tgt := 21) C dX5_distance_36 (by decide) ?_
    refine J_lv [1, 2, 3, 0] rfl ?_
    exact hK21 (v3 + (1 : Int32)) (up2 σ 17 v3.toNatClampNeg (0 : Int32))
set_option maxHeartbeats 4000000 in
set_option maxRecDepth 100000 in
theorem tX5_distance {l : Launch} {D : va_G} {ad : Nat → Nat} {cyI cyZ : ClassId} (v1 v2 : Int32) (σ : St) (r : Int32) (σ1 : St) (h : fX5_distance v1 v2 σ = some (r, σ1)) : MI l D [(cyI, .int), (cyZ, .boolean)] (wM ad cyI cyZ) yX5_distance wsX5_distance ({ frames := 2, cells := 0, slots := 0, locals := 43 } : Room) [.ref (ad 0), .int v1, .int v2] σ r σ1 := by
  refine entryI (own := RX5) r σ1 (by decide +kernel) rfl rfl (Nat.le_of_ble_eq_true rfl) (fX5_distance v1 v2 σ) h ?_
  intro p e s m below meth c Q A C hRet
  generalize ([.ref (ad 0), .int v1, .int v2] : List Value).toArray = args at *
  show J p l e ({ frames := 2, cells := 0, slots := 0, locals := 43 } : Room) s m args below meth c 5 D A (wM ad cyI cyZ) Q (r, σ1) (fX5_distance v1 v2 σ) σ 0 [(0, .ref (ad 0)), (1, .int v1), (2, .int v2)] []
  unfold fX5_distance
  refine J_aload_n C 0 rfl rfl dX5_distance_0 ?_
  refine J_iload_n C 1 rfl rfl dX5_distance_1 ?_
  refine J_callP_V C [.int v1] 0 5 rfl rfl (fun zr zh => tX5_isHost v1 σ zr zh) (cwV 1 C.1.2.2.2.2 gX5_distance_X5_isHost rfl rfl rfl (by decide +kernel) ⟨Nat.le_of_ble_eq_true rfl, Nat.le_of_ble_eq_true rfl⟩) rfl rfl (Nat.le_of_ble_eq_true rfl) dX5_distance_2 (fun r1 => ?_)
  refine J_if_eq (tgt := 16) C dX5_distance_5 (by decide) ?_ ?_
  · refine J_bipush (v := (-2 : Int32)) C dX5_distance_16 (by decide) ?_
    exact hRet (-2 : Int32) σ _ _ dX5_distance_18
  · refine J_aload_n C 0 rfl rfl dX5_distance_8 ?_
    refine J_iload_n C 2 rfl rfl dX5_distance_9 ?_
    refine J_callP_V C [.int v2] 0 5 rfl rfl (fun zr zh => tX5_isHost v2 σ zr zh) (cwV 1 C.1.2.2.2.2 gX5_distance_X5_isHost rfl rfl rfl (by decide +kernel) ⟨Nat.le_of_ble_eq_true rfl, Nat.le_of_ble_eq_true rfl⟩) rfl rfl (Nat.le_of_ble_eq_true rfl) dX5_distance_10 (fun r2 => ?_)
    refine J_if_ne (tgt := 19) C dX5_distance_13 (by decide) ?_ ?_
    · refine J_iconst (v := (0 : Int32)) C dX5_distance_19 (by decide) ?_
      refine J_istore_n C rfl dX5_distance_20 (by decide) rfl ?_
      refine J_lv [1, 2, 3, 0] rfl ?_
      exact jX5_distance_L21 C hRet v1 v2 fuel (0 : Int32) σ
    · refine J_bipush (v := (-2 : Int32)) C dX5_distance_16 (by decide) ?_
      exact hRet (-2 : Int32) σ _ _ dX5_distance_18
end
