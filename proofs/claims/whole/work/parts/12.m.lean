-- printed by wip/whole/walk.py
section
variable {p : Program} {l : Launch} {e : Env} {s : State} {m : MethodId} {args : Array Value} {below : List Frame} {meth : Method} {c : Code} {D : va_G} {A : Nat → Prop} {Q : State → Prop} {ad : Nat → Nat} {cyI cyZ : ClassId}
-- X5_gets
set_option maxHeartbeats 4000000 in
set_option maxRecDepth 100000 in
theorem tX5_gets {l : Launch} {D : va_G} {ad : Nat → Nat} {cyI cyZ : ClassId} (v1 v2 : Int32) (σ : St) (σ1 : St) (h : fX5_gets v1 v2 σ = some σ1) : MV l D [(cyI, .int), (cyZ, .boolean)] (wM ad cyI cyZ) yX5_gets wsX5_gets ({ frames := 0, cells := 0, slots := 0, locals := 0 } : Room) [.ref (ad 0), .int v1, .int v2] σ σ1 := by
  refine entryV (own := RX5) σ1 (by decide +kernel) rfl rfl (Nat.le_of_ble_eq_true rfl) (fX5_gets v1 v2 σ) h ?_
  intro p e s m below meth c Q A C hRet
  generalize ([.ref (ad 0), .int v1, .int v2] : List Value).toArray = args at *
  show J p l e ({ frames := 0, cells := 0, slots := 0, locals := 0 } : Room) s m args below meth c 3 D A (wM ad cyI cyZ) Q σ1 (fX5_gets v1 v2 σ) σ 0 [(0, .ref (ad 0)), (1, .int v1), (2, .int v2)] []
  unfold fX5_gets
  refine J_iload_n C 2 rfl rfl dX5_gets_0 ?_
  refine J_iconst (v := (1 : Int32)) C dX5_gets_1 (by decide) ?_
  refine J_icmp_ne (tgt := 22) C dX5_gets_2 (by decide) ?_ ?_
  · refine J_iload_n C 2 rfl rfl dX5_gets_22 ?_
    refine J_iconst (v := (2 : Int32)) C dX5_gets_23 (by decide) ?_
    refine J_icmp_ne (tgt := 54) C dX5_gets_24 (by decide) ?_ ?_
    · exact hRet σ _ _ dX5_gets_54
    · refine J_aload_n C 0 rfl rfl dX5_gets_27 ?_
      refine J_get C 0 9 5 (C0 := RX5) (T := TX5) (N := 23) (by decide +kernel) rfl rfl (by decide) (by decide +kernel) rfl dX5_gets_28 ?_
      refine J_iload_n C 1 rfl rfl dX5_gets_31 ?_
      refine J_iald C 4 0 rfl rfl dX5_gets_32 ?_
      refine J_iconst (v := (1 : Int32)) C dX5_gets_33 (by decide) ?_
      refine J_icmp_ne (tgt := 54) C dX5_gets_34 (by decide) ?_ ?_
      · exact hRet σ _ _ dX5_gets_54
      · refine J_aload_n C 0 rfl rfl dX5_gets_37 ?_
        refine J_get C 0 9 5 (C0 := RX5) (T := TX5) (N := 23) (by decide +kernel) rfl rfl (by decide) (by decide +kernel) rfl dX5_gets_38 ?_
        refine J_iload_n C 1 rfl rfl dX5_gets_41 ?_
        refine J_iconst (v := (2 : Int32)) C dX5_gets_42 (by decide) ?_
        refine J_iast (σ' := up2 σ 4 v1.toNatClampNeg (2 : Int32)) C 4 0 rfl rfl (wM_s4 _ _ _ _ _ _) dX5_gets_43 ?_
        refine J_aload_n C 0 rfl rfl dX5_gets_44 ?_
        refine J_get C 0 10 5 (C0 := RX5) (T := TX5) (N := 23) (by decide +kernel) rfl rfl (by decide) (by decide +kernel) rfl dX5_gets_45 ?_
        refine J_iload_n C 1 rfl rfl dX5_gets_48 ?_
        refine J_aload_n C 0 rfl rfl dX5_gets_49 ?_
        refine J_get C 0 6 5 (C0 := RX5) (T := TX5) (N := 23) (by decide +kernel) rfl rfl (by decide) (by decide +kernel) rfl dX5_gets_50 ?_
        refine J_iast (σ' := up2 (up2 σ 4 v1.toNatClampNeg (2 : Int32)) 5 v1.toNatClampNeg ((up2 σ 4 v1.toNatClampNeg (2 : Int32)) 0 6)) C 5 0 rfl rfl (wM_s5 _ _ _ _ _ _) dX5_gets_53 ?_
        exact hRet (up2 (up2 σ 4 v1.toNatClampNeg (2 : Int32)) 5 v1.toNatClampNeg ((up2 σ 4 v1.toNatClampNeg (2 : Int32)) 0 6)) _ _ dX5_gets_54
  · refine J_aload_n C 0 rfl rfl dX5_gets_5 ?_
    refine J_get C 0 9 5 (C0 := RX5) (T := TX5) (N := 23) (by decide +kernel) rfl rfl (by decide) (by decide +kernel) rfl dX5_gets_6 ?_
    refine J_iload_n C 1 rfl rfl dX5_gets_9 ?_
    refine J_iconst (v := (1 : Int32)) C dX5_gets_10 (by decide) ?_
    refine J_iast (σ' := up2 σ 4 v1.toNatClampNeg (1 : Int32)) C 4 0 rfl rfl (wM_s4 _ _ _ _ _ _) dX5_gets_11 ?_
    refine J_aload_n C 0 rfl rfl dX5_gets_12 ?_
    refine J_get C 0 10 5 (C0 := RX5) (T := TX5) (N := 23) (by decide +kernel) rfl rfl (by decide) (by decide +kernel) rfl dX5_gets_13 ?_
    refine J_iload_n C 1 rfl rfl dX5_gets_16 ?_
    refine J_iconst (v := (0 : Int32)) C dX5_gets_17 (by decide) ?_
    refine J_iast (σ' := up2 (up2 σ 4 v1.toNatClampNeg (1 : Int32)) 5 v1.toNatClampNeg (0 : Int32)) C 5 0 rfl rfl (wM_s5 _ _ _ _ _ _) dX5_gets_18 ?_
    refine J_goto (tgt := 54) C dX5_gets_19 (by decide) ?_
    exact hRet (up2 (up2 σ 4 v1.toNatClampNeg (1 : Int32)) 5 v1.toNatClampNeg (0 : Int32)) _ _ dX5_gets_54
-- X5_hostLeavesAll
set_option maxHeartbeats 4000000 in
set_option maxRecDepth 100000 in
theorem jX5_hostLeavesAll_b37 {K4 : Int32 → St → Option (St)} {o0 : St} (C : Cxt p s m args c cX5_hostLeavesAll 3 wsX5_hostLeavesAll RX5 D [(cyI, .int), (cyZ, .boolean)] A) (hRet : ∀ (σ2 : St) (pc : Nat) (lv : List (Nat × Value)), decode cX5_hostLeavesAll pc = .ok (.return_, 1) → J p l e ({ frames := 0, cells := 0, slots := 0, locals := 0 } : Room) s m args below meth c 3 D A (wM ad cyI cyZ) Q o0 (some σ2) σ2 pc lv []) (σ : St) (v1 v2 : Int32) (hK4 : ∀ (v2 : Int32) (σ : St), J p l e ({ frames := 0, cells := 0, slots := 0, locals := 0 } : Room) s m args below meth c 3 D A (wM ad cyI cyZ) Q o0 (K4 v2 σ) σ 4 [(0, .ref (ad 0)), (1, .int v1), (2, .int v2)] []) : J p l e ({ frames := 0, cells := 0, slots := 0, locals := 0 } : Room) s m args below meth c 3 D A (wM ad cyI cyZ) Q o0 (fX5_hostLeavesAll_b37 K4 v1 v2 σ) σ 37 [(0, .ref (ad 0)), (1, .int v1), (2, .int v2)] [] := by
  unfold fX5_hostLeavesAll_b37
  refine J_iinc (d := (1 : Int32)) C 2 rfl dX5_hostLeavesAll_37 (by decide) (by decide) rfl ?_
  refine J_goto (tgt := 4) C dX5_hostLeavesAll_40 (by decide) ?_
  refine J_lv [1, 2, 0] rfl ?_
  exact hK4 (v2 + (1 : Int32)) σ
set_option maxHeartbeats 4000000 in
set_option maxRecDepth 100000 in
theorem jX5_hostLeavesAll_L4  {o0 : St} (C : Cxt p s m args c cX5_hostLeavesAll 3 wsX5_hostLeavesAll RX5 D [(cyI, .int), (cyZ, .boolean)] A) (hRet : ∀ (σ2 : St) (pc : Nat) (lv : List (Nat × Value)), decode cX5_hostLeavesAll pc = .ok (.return_, 1) → J p l e ({ frames := 0, cells := 0, slots := 0, locals := 0 } : Room) s m args below meth c 3 D A (wM ad cyI cyZ) Q o0 (some σ2) σ2 pc lv []) (v1 : Int32) (n : Nat) (v2 : Int32) (σ : St) : J p l e ({ frames := 0, cells := 0, slots := 0, locals := 0 } : Room) s m args below meth c 3 D A (wM ad cyI cyZ) Q o0 (loop1s (fX5_hostLeavesAll_b4 v1) n v2 σ) σ 4 [(0, .ref (ad 0)), (1, .int v1), (2, .int v2)] [] := by
  refine J_loop1s (pc := 4) (fun v2 => [(0, .ref (ad 0)), (1, .int v1), (2, .int v2)]) (fX5_hostLeavesAll_b4 v1) ?_ n v2 σ
  intro K4 hK4 v2 σ
  unfold fX5_hostLeavesAll_b4
  refine J_iload_n C 2 rfl rfl dX5_hostLeavesAll_4 ?_
  refine J_iconst (v := (4 : Int32)) C dX5_hostLeavesAll_5 (by decide) ?_
  refine J_iload_n C 1 rfl rfl dX5_hostLeavesAll_6 ?_
  refine J_imul C dX5_hostLeavesAll_7 ?_
  refine J_iconst (v := (4 : Int32)) C dX5_hostLeavesAll_8 (by decide) ?_
  refine J_iadd C dX5_hostLeavesAll_9 ?_
  refine J_icmp_ge (tgt := 43) C dX5_hostLeavesAll_10 (by decide) ?_ ?_
  · exact hRet σ _ _ dX5_hostLeavesAll_43
  · refine J_aload_n C 0 rfl rfl dX5_hostLeavesAll_13 ?_
    refine J_get C 0 15 5 (C0 := RX5) (T := TX5) (N := 23) (by decide +kernel) rfl rfl (by decide) (by decide +kernel) rfl dX5_hostLeavesAll_14 ?_
    refine J_iload_n C 2 rfl rfl dX5_hostLeavesAll_17 ?_
    refine J_iald C 10 0 rfl rfl dX5_hostLeavesAll_18 ?_
    refine J_iconst (v := (2 : Int32)) C dX5_hostLeavesAll_19 (by decide) ?_
    refine J_icmp_ne (tgt := 37) C dX5_hostLeavesAll_20 (by decide) ?_ ?_
    · exact jX5_hostLeavesAll_b37 C hRet σ v1 v2 hK4
    · refine J_aload_n C 0 rfl rfl dX5_hostLeavesAll_23 ?_
      refine J_get C 0 15 5 (C0 := RX5) (T := TX5) (N := 23) (by decide +kernel) rfl rfl (by decide) (by decide +kernel) rfl dX5_hostLeavesAll_24 ?_
      refine J_iload_n C 2 rfl rfl dX5_hostLeavesAll_27 ?_
      refine J_iconst (v := (1 : Int32)) C dX5_hostLeavesAll_28 (by decide) ?_
      refine J_iast (σ' := up2 σ 10 v2.toNatClampNeg (1 : Int32)) C 10 0 rfl rfl (wM_s10 _ _ _ _ _ _) dX5_hostLeavesAll_29 ?_
      refine J_aload_n C 0 rfl rfl dX5_hostLeavesAll_30 ?_
      refine J_get C 0 16 5 (C0 := RX5) (T := TX5) (N := 23) (by decide +kernel) rfl rfl (by decide) (by decide +kernel) rfl dX5_hostLeavesAll_31 ?_
      refine J_iload_n C 2 rfl rfl dX5_hostLeavesAll_34 ?_
      refine J_iconst (v := (1 : Int32)) C dX5_hostLeavesAll_35 (by decide) ?_
      refine J_iast (σ' := up2 (up2 σ 10 v2.toNatClampNeg (1 : Int32)) 11 v2.toNatClampNeg (1 : Int32)) C 11 0 rfl rfl (wM_s11 _ _ _ _ _ _) dX5_hostLeavesAll_36 ?_
      exact jX5_hostLeavesAll_b37 C hRet (up2 (up2 σ 10 v2.toNatClampNeg (1 : Int32)) 11 v2.toNatClampNeg (1 : Int32)) v1 v2 hK4
set_option maxHeartbeats 4000000 in
set_option maxRecDepth 100000 in
theorem tX5_hostLeavesAll {l : Launch} {D : va_G} {ad : Nat → Nat} {cyI cyZ : ClassId} (v1 : Int32) (σ : St) (σ1 : St) (h : fX5_hostLeavesAll v1 σ = some σ1) : MV l D [(cyI, .int), (cyZ, .boolean)] (wM ad cyI cyZ) yX5_hostLeavesAll wsX5_hostLeavesAll ({ frames := 0, cells := 0, slots := 0, locals := 0 } : Room) [.ref (ad 0), .int v1] σ σ1 := by
  refine entryV (own := RX5) σ1 (by decide +kernel) rfl rfl (Nat.le_of_ble_eq_true rfl) (fX5_hostLeavesAll v1 σ) h ?_
  intro p e s m below meth c Q A C hRet
  generalize ([.ref (ad 0), .int v1] : List Value).toArray = args at *
  show J p l e ({ frames := 0, cells := 0, slots := 0, locals := 0 } : Room) s m args below meth c 3 D A (wM ad cyI cyZ) Q σ1 (fX5_hostLeavesAll v1 σ) σ 0 [(0, .ref (ad 0)), (1, .int v1)] []
  unfold fX5_hostLeavesAll
  refine J_iconst (v := (4 : Int32)) C dX5_hostLeavesAll_0 (by decide) ?_
  refine J_iload_n C 1 rfl rfl dX5_hostLeavesAll_1 ?_
  refine J_imul C dX5_hostLeavesAll_2 ?_
  refine J_istore_n C rfl dX5_hostLeavesAll_3 (by decide) rfl ?_
  refine J_lv [1, 2, 0] rfl ?_
  exact jX5_hostLeavesAll_L4 C hRet v1 fuel ((4 : Int32) * v1) σ
-- X5_delivers
set_option maxHeartbeats 4000000 in
set_option maxRecDepth 100000 in
theorem jX5_delivers_L71  {o0 : St} (C : Cxt p s m args c cX5_delivers 4 wsX5_delivers RX5 D [(cyI, .int), (cyZ, .boolean)] A) (hRet : ∀ (σ2 : St) (pc : Nat) (lv : List (Nat × Value)), decode cX5_delivers pc = .ok (.return_, 1) → J p l e ({ frames := 2, cells := 0, slots := 0, locals := 43 } : Room) s m args below meth c 4 D A (wM ad cyI cyZ) Q o0 (some σ2) σ2 pc lv []) (v1 v2 : Int32) (n : Nat) (v3 : Int32) (σ : St) : J p l e ({ frames := 2, cells := 0, slots := 0, locals := 43 } : Room) s m args below meth c 4 D A (wM ad cyI cyZ) Q o0 (loop1s (fX5_delivers_b71 v1 v2) n v3 σ) σ 71 [(0, .ref (ad 0)), (1, .int v1), (2, .int v2), (3, .int v3)] [] := by
  refine J_loop1s (pc := 71) (fun v3 => [(0, .ref (ad 0)), (1, .int v1), (2, .int v2), (3, .int v3)]) (fX5_delivers_b71 v1 v2) ?_ n v3 σ
  intro K71 hK71 v3 σ
  unfold fX5_delivers_b71
  refine J_iload_n C 3 rfl rfl dX5_delivers_71 ?_
  refine J_iconst (v := (4 : Int32)) C dX5_delivers_72 (by decide) ?_
  refine J_icmp_ge (tgt := 106) C dX5_delivers_73 (by decide) ?_ ?_
  · exact hRet σ _ _ dX5_delivers_106
  · refine J_aload_n C 0 rfl rfl dX5_delivers_76 ?_
    refine J_iconst (v := (4 : Int32)) C dX5_delivers_77 (by decide) ?_
    refine J_aload_n C 0 rfl rfl dX5_delivers_78 ?_
    refine J_get C 0 3 5 (C0 := RX5) (T := TX5) (N := 23) (by decide +kernel) rfl rfl (by decide) (by decide +kernel) rfl dX5_delivers_79 ?_
    refine J_iload_n C 1 rfl rfl dX5_delivers_82 ?_
    refine J_iald C 1 0 rfl rfl dX5_delivers_83 ?_
    refine J_imul C dX5_delivers_84 ?_
    refine J_iload_n C 3 rfl rfl dX5_delivers_85 ?_
    refine J_iadd C dX5_delivers_86 ?_
    refine J_aload_n C 0 rfl rfl dX5_delivers_87 ?_
    refine J_get C 0 19 5 (C0 := RX5) (T := TX5) (N := 23) (by decide +kernel) rfl rfl (by decide) (by decide +kernel) rfl dX5_delivers_88 ?_
    refine J_iconst (v := (4 : Int32)) C dX5_delivers_91 (by decide) ?_
    refine J_iload_n C 1 rfl rfl dX5_delivers_92 ?_
    refine J_imul C dX5_delivers_93 ?_
    refine J_iload_n C 3 rfl rfl dX5_delivers_94 ?_
    refine J_iadd C dX5_delivers_95 ?_
    refine J_iald C 14 0 rfl rfl dX5_delivers_96 ?_
    refine J_callV_V C [.int (((4 : Int32) * (σ 1 v1.toNatClampNeg)) + v3), .int (σ 14 (((4 : Int32) * v1) + v3).toNatClampNeg)] 0 5 rfl rfl (fun zs zh => tX5_gets (((4 : Int32) * (σ 1 v1.toNatClampNeg)) + v3) (σ 14 (((4 : Int32) * v1) + v3).toNatClampNeg) σ zs zh) (cwV 2 C.1.2.2.2.2 gX5_delivers_X5_gets rfl rfl rfl (by decide +kernel) ⟨Nat.le_of_ble_eq_true rfl, Nat.le_of_ble_eq_true rfl⟩) rfl rfl (Nat.le_of_ble_eq_true rfl) dX5_delivers_97 (fun σ1 => ?_)
    refine J_iinc (d := (1 : Int32)) C 3 rfl dX5_delivers_100 (by decide) (by decide) rfl ?_
    refine J_goto (tgt := 71) C dX5_delivers_103 (by decide) ?_
    refine J_lv [1, 2, 3, 0] rfl ?_
    exact hK71 (v3 + (1 : Int32)) σ1
set_option maxHeartbeats 4000000 in
set_option maxRecDepth 100000 in
theorem jX5_delivers_b69  {o0 : St} (C : Cxt p s m args c cX5_delivers 4 wsX5_delivers RX5 D [(cyI, .int), (cyZ, .boolean)] A) (hRet : ∀ (σ2 : St) (pc : Nat) (lv : List (Nat × Value)), decode cX5_delivers pc = .ok (.return_, 1) → J p l e ({ frames := 2, cells := 0, slots := 0, locals := 43 } : Room) s m args below meth c 4 D A (wM ad cyI cyZ) Q o0 (some σ2) σ2 pc lv []) (σ : St) (v1 v2 : Int32) : J p l e ({ frames := 2, cells := 0, slots := 0, locals := 43 } : Room) s m args below meth c 4 D A (wM ad cyI cyZ) Q o0 (fX5_delivers_b69 v1 v2 σ) σ 69 [(0, .ref (ad 0)), (1, .int v1), (2, .int v2)] [] := by
  unfold fX5_delivers_b69
  refine J_iconst (v := (0 : Int32)) C dX5_delivers_69 (by decide) ?_
  refine J_istore_n C rfl dX5_delivers_70 (by decide) rfl ?_
  refine J_lv [1, 2, 3, 0] rfl ?_
  exact jX5_delivers_L71 C hRet v1 v2 fuel (0 : Int32) σ
set_option maxHeartbeats 4000000 in
set_option maxRecDepth 100000 in
theorem tX5_delivers {l : Launch} {D : va_G} {ad : Nat → Nat} {cyI cyZ : ClassId} (v1 : Int32) (σ : St) (σ1 : St) (h : fX5_delivers v1 σ = some σ1) : MV l D [(cyI, .int), (cyZ, .boolean)] (wM ad cyI cyZ) yX5_delivers wsX5_delivers ({ frames := 2, cells := 0, slots := 0, locals := 43 } : Room) [.ref (ad 0), .int v1] σ σ1 := by
  refine entryV (own := RX5) σ1 (by decide +kernel) rfl rfl (Nat.le_of_ble_eq_true rfl) (fX5_delivers v1 σ) h ?_
  intro p e s m below meth c Q A C hRet
  generalize ([.ref (ad 0), .int v1] : List Value).toArray = args at *
  show J p l e ({ frames := 2, cells := 0, slots := 0, locals := 43 } : Room) s m args below meth c 4 D A (wM ad cyI cyZ) Q σ1 (fX5_delivers v1 σ) σ 0 [(0, .ref (ad 0)), (1, .int v1)] []
  unfold fX5_delivers
  refine J_aload_n C 0 rfl rfl dX5_delivers_0 ?_
  refine J_iload_n C 1 rfl rfl dX5_delivers_1 ?_
  refine J_callP_V C [.int v1] 0 5 rfl rfl (fun zr zh => tX5_isLinked v1 σ zr zh) (cwV 1 C.1.2.2.2.2 gX5_delivers_X5_isLinked rfl rfl rfl (by decide +kernel) ⟨Nat.le_of_ble_eq_true rfl, Nat.le_of_ble_eq_true rfl⟩) rfl rfl (Nat.le_of_ble_eq_true rfl) dX5_delivers_2 (fun r1 => ?_)
  refine J_if_ne (tgt := 31) C dX5_delivers_5 (by decide) ?_ ?_
  · refine J_aload_n C 0 rfl rfl dX5_delivers_31 ?_
    refine J_get C 0 14 5 (C0 := RX5) (T := TX5) (N := 23) (by decide +kernel) rfl rfl (by decide) (by decide +kernel) rfl dX5_delivers_32 ?_
    refine J_iload_n C 1 rfl rfl dX5_delivers_35 ?_
    refine J_zald C 9 1 rfl rfl dX5_delivers_36 ?_
    refine J_istore_n C rfl dX5_delivers_37 (by decide) rfl ?_
    refine J_aload_n C 1 rfl rfl dX5_delivers_38 ?_
    refine J_get C 0 14 5 (C0 := RX5) (T := TX5) (N := 23) (by decide +kernel) rfl rfl (by decide) (by decide +kernel) rfl dX5_delivers_39 ?_
    refine J_iload_n C 2 rfl rfl dX5_delivers_42 ?_
    refine J_iconst (v := (0 : Int32)) C dX5_delivers_43 (by decide) ?_
    refine J_zast (σ' := up2 σ 9 v1.toNatClampNeg (vp_nar .boolean (0 : Int32))) C 9 1 rfl rfl (wM_s9 _ _ _ _ _ _) dX5_delivers_44 ?_
    refine J_iload_n C 0 rfl rfl dX5_delivers_45 ?_
    refine J_if_eq (tgt := 50) C dX5_delivers_46 (by decide) ?_ ?_
    · refine J_aload_n C 1 rfl rfl dX5_delivers_50 ?_
      refine J_get C 0 18 5 (C0 := RX5) (T := TX5) (N := 23) (by decide +kernel) rfl rfl (by decide) (by decide +kernel) rfl dX5_delivers_51 ?_
      refine J_iload_n C 2 rfl rfl dX5_delivers_54 ?_
      refine J_zald C 13 1 rfl rfl dX5_delivers_55 ?_
      refine J_if_eq (tgt := 69) C dX5_delivers_56 (by decide) ?_ ?_
      · refine J_lv [1, 2, 0] rfl ?_
        exact jX5_delivers_b69 C hRet (up2 σ 9 v1.toNatClampNeg (vp_nar .boolean (0 : Int32))) v1 (σ 9 v1.toNatClampNeg)
      · refine J_aload_n C 1 rfl rfl dX5_delivers_59 ?_
        refine J_aload_n C 1 rfl rfl dX5_delivers_60 ?_
        refine J_get C 0 3 5 (C0 := RX5) (T := TX5) (N := 23) (by decide +kernel) rfl rfl (by decide) (by decide +kernel) rfl dX5_delivers_61 ?_
        refine J_iload_n C 2 rfl rfl dX5_delivers_64 ?_
        refine J_iald C 1 0 rfl rfl dX5_delivers_65 ?_
        refine J_callV_V C [.int ((up2 σ 9 v1.toNatClampNeg (vp_nar .boolean (0 : Int32))) 1 v1.toNatClampNeg)] 0 5 rfl rfl (fun zs zh => tX5_leavesAll ((up2 σ 9 v1.toNatClampNeg (vp_nar .boolean (0 : Int32))) 1 v1.toNatClampNeg) (up2 σ 9 v1.toNatClampNeg (vp_nar .boolean (0 : Int32))) zs zh) (cwV 1 C.1.2.2.2.2 gX5_delivers_X5_leavesAll rfl rfl rfl (by decide +kernel) ⟨Nat.le_of_ble_eq_true rfl, Nat.le_of_ble_eq_true rfl⟩) rfl rfl (Nat.le_of_ble_eq_true rfl) dX5_delivers_66 (fun σ2 => ?_)
        refine J_lv [1, 2, 0] rfl ?_
        exact jX5_delivers_b69 C hRet σ2 v1 (σ 9 v1.toNatClampNeg)
    · exact hRet (up2 σ 9 v1.toNatClampNeg (vp_nar .boolean (0 : Int32))) _ _ dX5_delivers_49
  · refine J_aload_n C 0 rfl rfl dX5_delivers_8 ?_
    refine J_get C 0 18 5 (C0 := RX5) (T := TX5) (N := 23) (by decide +kernel) rfl rfl (by decide) (by decide +kernel) rfl dX5_delivers_9 ?_
    refine J_iload_n C 1 rfl rfl dX5_delivers_12 ?_
    refine J_zald C 13 1 rfl rfl dX5_delivers_13 ?_
    refine J_if_eq (tgt := 30) C dX5_delivers_14 (by decide) ?_ ?_
    · exact hRet σ _ _ dX5_delivers_30
    · refine J_aload_n C 0 rfl rfl dX5_delivers_17 ?_
      refine J_aload_n C 0 rfl rfl dX5_delivers_18 ?_
      refine J_get C 0 3 5 (C0 := RX5) (T := TX5) (N := 23) (by decide +kernel) rfl rfl (by decide) (by decide +kernel) rfl dX5_delivers_19 ?_
      refine J_iload_n C 1 rfl rfl dX5_delivers_22 ?_
      refine J_iald C 1 0 rfl rfl dX5_delivers_23 ?_
      refine J_bipush (v := (100 : Int32)) C dX5_delivers_24 (by decide) ?_
      refine J_isub C dX5_delivers_26 ?_
      refine J_callV_V C [.int ((σ 1 v1.toNatClampNeg) - (100 : Int32))] 0 5 rfl rfl (fun zs zh => tX5_hostLeavesAll ((σ 1 v1.toNatClampNeg) - (100 : Int32)) σ zs zh) (cwV 1 C.1.2.2.2.2 gX5_delivers_X5_hostLeavesAll rfl rfl rfl (by decide +kernel) ⟨Nat.le_of_ble_eq_true rfl, Nat.le_of_ble_eq_true rfl⟩) rfl rfl (Nat.le_of_ble_eq_true rfl) dX5_delivers_27 (fun σ3 => ?_)
      exact hRet σ3 _ _ dX5_delivers_30
-- X5_passes
set_option maxHeartbeats 4000000 in
set_option maxRecDepth 100000 in
theorem jX5_passes_b183  {o0 : Int32 × St} (C : Cxt p s m args c cX5_passes 3 wsX5_passes RX5 D [(cyI, .int), (cyZ, .boolean)] A) (hRet : ∀ (v : Int32) (σ2 : St) (pc : Nat) (lv : List (Nat × Value)), decode cX5_passes pc = .ok (.ireturn, 1) → J p l e ({ frames := 3, cells := 0, slots := 0, locals := 68 } : Room) s m args below meth c 3 D A (wM ad cyI cyZ) Q o0 (some (v, σ2)) σ2 pc lv [.int v]) (σ : St) (v1 v2 : Int32) : J p l e ({ frames := 3, cells := 0, slots := 0, locals := 68 } : Room) s m args below meth c 3 D A (wM ad cyI cyZ) Q o0 (fX5_passes_b183 v1 v2 σ) σ 183 [(0, .ref (ad 0)), (1, .int v1), (2, .int v2)] [] := by
  unfold fX5_passes_b183
  refine J_aload_n C 0 rfl rfl dX5_passes_183 ?_
  refine J_dup C rfl dX5_passes_184 ?_
  refine J_get C 0 8 5 (C0 := RX5) (T := TX5) (N := 23) (by decide +kernel) rfl rfl (by decide) (by decide +kernel) rfl dX5_passes_185 ?_
  refine J_iconst (v := (1 : Int32)) C dX5_passes_188 (by decide) ?_
  refine J_iadd C dX5_passes_189 ?_
  refine J_put (σ' := up2 σ 0 8 ((σ 0 8) + (1 : Int32))) C 0 8 5 (C0 := RX5) (T := TX5) (N := 23) tyX5 tyX5_ok nmX5 (by decide +kernel) rfl rfl (by decide) (by decide +kernel) rfl (by decide +kernel) (Nat.le_of_ble_eq_true rfl) (wM_p0_8 _ _ _ _ _) dX5_passes_190 ?_
  refine J_iload_n C 1 rfl rfl dX5_passes_193 ?_
  exact hRet v1 (up2 σ 0 8 ((σ 0 8) + (1 : Int32))) _ _ dX5_passes_194
set_option maxHeartbeats 4000000 in
set_option maxRecDepth 100000 in
theorem jX5_passes_L143  {o0 : Int32 × St} (C : Cxt p s m args c cX5_passes 3 wsX5_passes RX5 D [(cyI, .int), (cyZ, .boolean)] A) (hRet : ∀ (v : Int32) (σ2 : St) (pc : Nat) (lv : List (Nat × Value)), decode cX5_passes pc = .ok (.ireturn, 1) → J p l e ({ frames := 3, cells := 0, slots := 0, locals := 68 } : Room) s m args below meth c 3 D A (wM ad cyI cyZ) Q o0 (some (v, σ2)) σ2 pc lv [.int v]) (v1 : Int32) (n : Nat) (v2 : Int32) (σ : St) : J p l e ({ frames := 3, cells := 0, slots := 0, locals := 68 } : Room) s m args below meth c 3 D A (wM ad cyI cyZ) Q o0 (loop1s (fX5_passes_b143 v1) n v2 σ) σ 143 [(0, .ref (ad 0)), (1, .int v1), (2, .int v2)] [] := by
  refine J_loop1s (pc := 143) (fun v2 => [(0, .ref (ad 0)), (1, .int v1), (2, .int v2)]) (fX5_passes_b143 v1) ?_ n v2 σ
  intro K143 hK143 v2 σ
  unfold fX5_passes_b143
  refine J_iload_n C 2 rfl rfl dX5_passes_143 ?_
  refine J_iconst (v := (4 : Int32)) C dX5_passes_144 (by decide) ?_
  refine J_aload_n C 0 rfl rfl dX5_passes_145 ?_
  refine J_get C 0 1 5 (C0 := RX5) (T := TX5) (N := 23) (by decide +kernel) rfl rfl (by decide) (by decide +kernel) rfl dX5_passes_146 ?_
  refine J_imul C dX5_passes_149 ?_
  refine J_icmp_ge (tgt := 183) C dX5_passes_150 (by decide) ?_ ?_
  · exact jX5_passes_b183 C hRet σ v1 v2
  · refine J_aload_n C 0 rfl rfl dX5_passes_153 ?_
    refine J_iconst (v := (4 : Int32)) C dX5_passes_154 (by decide) ?_
    refine J_aload_n C 0 rfl rfl dX5_passes_155 ?_
    refine J_get C 0 4 5 (C0 := RX5) (T := TX5) (N := 23) (by decide +kernel) rfl rfl (by decide) (by decide +kernel) rfl dX5_passes_156 ?_
    refine J_iload_n C 2 rfl rfl dX5_passes_159 ?_
    refine J_iconst (v := (4 : Int32)) C dX5_passes_160 (by decide) ?_
    refine J_idiv C (by decide) dX5_passes_161 ?_
    refine J_iald C 2 0 rfl rfl dX5_passes_162 ?_
    refine J_imul C dX5_passes_163 ?_
    refine J_iload_n C 2 rfl rfl dX5_passes_164 ?_
    refine J_iconst (v := (4 : Int32)) C dX5_passes_165 (by decide) ?_
    refine J_irem C (by decide) dX5_passes_166 ?_
    refine J_iadd C dX5_passes_167 ?_
    refine J_aload_n C 0 rfl rfl dX5_passes_168 ?_
    refine J_get C 0 20 5 (C0 := RX5) (T := TX5) (N := 23) (by decide +kernel) rfl rfl (by decide) (by decide +kernel) rfl dX5_passes_169 ?_
    refine J_iload_n C 2 rfl rfl dX5_passes_172 ?_
    refine J_iald C 15 0 rfl rfl dX5_passes_173 ?_
    refine J_callV_V C [.int (((4 : Int32) * (σ 2 (v2 / (4 : Int32)).toNatClampNeg)) + (v2 - v2 / (4 : Int32) * (4 : Int32))), .int (σ 15 v2.toNatClampNeg)] 0 5 rfl rfl (fun zs zh => tX5_gets (((4 : Int32) * (σ 2 (v2 / (4 : Int32)).toNatClampNeg)) + (v2 - v2 / (4 : Int32) * (4 : Int32))) (σ 15 v2.toNatClampNeg) σ zs zh) (cwV 2 C.1.2.2.2.2 gX5_passes_X5_gets rfl rfl rfl (by decide +kernel) ⟨Nat.le_of_ble_eq_true rfl, Nat.le_of_ble_eq_true rfl⟩) rfl rfl (Nat.le_of_ble_eq_true rfl) dX5_passes_174 (fun σ1 => ?_)
    refine J_iinc (d := (1 : Int32)) C 2 rfl dX5_passes_177 (by decide) (by decide) rfl ?_
    refine J_goto (tgt := 143) C dX5_passes_180 (by decide) ?_
    refine J_lv [1, 2, 0] rfl ?_
    exact hK143 (v2 + (1 : Int32)) σ1
set_option maxHeartbeats 4000000 in
set_option maxRecDepth 100000 in
theorem jX5_passes_b141  {o0 : Int32 × St} (C : Cxt p s m args c cX5_passes 3 wsX5_passes RX5 D [(cyI, .int), (cyZ, .boolean)] A) (hRet : ∀ (v : Int32) (σ2 : St) (pc : Nat) (lv : List (Nat × Value)), decode cX5_passes pc = .ok (.ireturn, 1) → J p l e ({ frames := 3, cells := 0, slots := 0, locals := 68 } : Room) s m args below meth c 3 D A (wM ad cyI cyZ) Q o0 (some (v, σ2)) σ2 pc lv [.int v]) (σ : St) (v1 v2 : Int32) : J p l e ({ frames := 3, cells := 0, slots := 0, locals := 68 } : Room) s m args below meth c 3 D A (wM ad cyI cyZ) Q o0 (fX5_passes_b141 v1 v2 σ) σ 141 [(0, .ref (ad 0)), (1, .int v1), (2, .int v2)] [] := by
  unfold fX5_passes_b141
  refine J_iconst (v := (0 : Int32)) C dX5_passes_141 (by decide) ?_
  refine J_istore_n C rfl dX5_passes_142 (by decide) rfl ?_
  refine J_lv [1, 2, 0] rfl ?_
  exact jX5_passes_L143 C hRet v1 fuel (0 : Int32) σ
set_option maxHeartbeats 4000000 in
set_option maxRecDepth 100000 in
theorem jX5_passes_b135 {K116 : Int32 → St → Option (Int32 × St)} {o0 : Int32 × St} (C : Cxt p s m args c cX5_passes 3 wsX5_passes RX5 D [(cyI, .int), (cyZ, .boolean)] A) (hRet : ∀ (v : Int32) (σ2 : St) (pc : Nat) (lv : List (Nat × Value)), decode cX5_passes pc = .ok (.ireturn, 1) → J p l e ({ frames := 3, cells := 0, slots := 0, locals := 68 } : Room) s m args below meth c 3 D A (wM ad cyI cyZ) Q o0 (some (v, σ2)) σ2 pc lv [.int v]) (σ : St) (v1 v2 : Int32) (hK116 : ∀ (v2 : Int32) (σ : St), J p l e ({ frames := 3, cells := 0, slots := 0, locals := 68 } : Room) s m args below meth c 3 D A (wM ad cyI cyZ) Q o0 (K116 v2 σ) σ 116 [(0, .ref (ad 0)), (1, .int v1), (2, .int v2)] []) : J p l e ({ frames := 3, cells := 0, slots := 0, locals := 68 } : Room) s m args below meth c 3 D A (wM ad cyI cyZ) Q o0 (fX5_passes_b135 K116 v1 v2 σ) σ 135 [(0, .ref (ad 0)), (1, .int v1), (2, .int v2)] [] := by
  unfold fX5_passes_b135
  refine J_iinc (d := (1 : Int32)) C 2 rfl dX5_passes_135 (by decide) (by decide) rfl ?_
  refine J_goto (tgt := 116) C dX5_passes_138 (by decide) ?_
  refine J_lv [1, 2, 0] rfl ?_
  exact hK116 (v2 + (1 : Int32)) σ
set_option maxHeartbeats 4000000 in
set_option maxRecDepth 100000 in
theorem jX5_passes_L116  {o0 : Int32 × St} (C : Cxt p s m args c cX5_passes 3 wsX5_passes RX5 D [(cyI, .int), (cyZ, .boolean)] A) (hRet : ∀ (v : Int32) (σ2 : St) (pc : Nat) (lv : List (Nat × Value)), decode cX5_passes pc = .ok (.ireturn, 1) → J p l e ({ frames := 3, cells := 0, slots := 0, locals := 68 } : Room) s m args below meth c 3 D A (wM ad cyI cyZ) Q o0 (some (v, σ2)) σ2 pc lv [.int v]) (v1 : Int32) (n : Nat) (v2 : Int32) (σ : St) : J p l e ({ frames := 3, cells := 0, slots := 0, locals := 68 } : Room) s m args below meth c 3 D A (wM ad cyI cyZ) Q o0 (loop1s (fX5_passes_b116 v1) n v2 σ) σ 116 [(0, .ref (ad 0)), (1, .int v1), (2, .int v2)] [] := by
  refine J_loop1s (pc := 116) (fun v2 => [(0, .ref (ad 0)), (1, .int v1), (2, .int v2)]) (fX5_passes_b116 v1) ?_ n v2 σ
  intro K116 hK116 v2 σ
  unfold fX5_passes_b116
  refine J_iload_n C 2 rfl rfl dX5_passes_116 ?_
  refine J_bipush (v := (20 : Int32)) C dX5_passes_117 (by decide) ?_
  refine J_icmp_ge (tgt := 141) C dX5_passes_119 (by decide) ?_ ?_
  · exact jX5_passes_b141 C hRet σ v1 v2
  · refine J_aload_n C 0 rfl rfl dX5_passes_122 ?_
    refine J_iload_n C 2 rfl rfl dX5_passes_123 ?_
    refine J_callP_V C [.int v2] 0 5 rfl rfl (fun zr zh => tX5_isConnected v2 σ zr zh) (cwV 1 C.1.2.2.2.2 gX5_passes_X5_isConnected rfl rfl rfl (by decide +kernel) ⟨Nat.le_of_ble_eq_true rfl, Nat.le_of_ble_eq_true rfl⟩) rfl rfl (Nat.le_of_ble_eq_true rfl) dX5_passes_124 (fun r1 => ?_)
    refine J_if_eq (tgt := 135) C dX5_passes_127 (by decide) ?_ ?_
    · exact jX5_passes_b135 C hRet σ v1 v2 hK116
    · refine J_aload_n C 0 rfl rfl dX5_passes_130 ?_
      refine J_iload_n C 2 rfl rfl dX5_passes_131 ?_
      refine J_callV_V C [.int v2] 0 5 rfl rfl (fun zs zh => tX5_delivers v2 σ zs zh) (cwV 1 C.1.2.2.2.2 gX5_passes_X5_delivers rfl rfl rfl (by decide +kernel) ⟨Nat.le_of_ble_eq_true rfl, Nat.le_of_ble_eq_true rfl⟩) rfl rfl (Nat.le_of_ble_eq_true rfl) dX5_passes_132 (fun σ2 => ?_)
      exact jX5_passes_b135 C hRet σ2 v1 v2 hK116
set_option maxHeartbeats 4000000 in
set_option maxRecDepth 100000 in
theorem jX5_passes_b114  {o0 : Int32 × St} (C : Cxt p s m args c cX5_passes 3 wsX5_passes RX5 D [(cyI, .int), (cyZ, .boolean)] A) (hRet : ∀ (v : Int32) (σ2 : St) (pc : Nat) (lv : List (Nat × Value)), decode cX5_passes pc = .ok (.ireturn, 1) → J p l e ({ frames := 3, cells := 0, slots := 0, locals := 68 } : Room) s m args below meth c 3 D A (wM ad cyI cyZ) Q o0 (some (v, σ2)) σ2 pc lv [.int v]) (σ : St) (v1 v2 : Int32) : J p l e ({ frames := 3, cells := 0, slots := 0, locals := 68 } : Room) s m args below meth c 3 D A (wM ad cyI cyZ) Q o0 (fX5_passes_b114 v1 v2 σ) σ 114 [(0, .ref (ad 0)), (1, .int v1), (2, .int v2)] [] := by
  unfold fX5_passes_b114
  refine J_iconst (v := (0 : Int32)) C dX5_passes_114 (by decide) ?_
  refine J_istore_n C rfl dX5_passes_115 (by decide) rfl ?_
  refine J_lv [1, 2, 0] rfl ?_
  exact jX5_passes_L116 C hRet v1 fuel (0 : Int32) σ
set_option maxHeartbeats 4000000 in
set_option maxRecDepth 100000 in
theorem jX5_passes_L92  {o0 : Int32 × St} (C : Cxt p s m args c cX5_passes 3 wsX5_passes RX5 D [(cyI, .int), (cyZ, .boolean)] A) (hRet : ∀ (v : Int32) (σ2 : St) (pc : Nat) (lv : List (Nat × Value)), decode cX5_passes pc = .ok (.ireturn, 1) → J p l e ({ frames := 3, cells := 0, slots := 0, locals := 68 } : Room) s m args below meth c 3 D A (wM ad cyI cyZ) Q o0 (some (v, σ2)) σ2 pc lv [.int v]) (n : Nat) (v1 v2 : Int32) (σ : St) : J p l e ({ frames := 3, cells := 0, slots := 0, locals := 68 } : Room) s m args below meth c 3 D A (wM ad cyI cyZ) Q o0 (loop2s (fX5_passes_b92) n v1 v2 σ) σ 92 [(0, .ref (ad 0)), (1, .int v1), (2, .int v2)] [] := by
  refine J_loop2s (pc := 92) (fun v1 v2 => [(0, .ref (ad 0)), (1, .int v1), (2, .int v2)]) (fX5_passes_b92) ?_ n v1 v2 σ
  intro K92 hK92 v1 v2 σ
  unfold fX5_passes_b92
  refine J_iload_n C 2 rfl rfl dX5_passes_92 ?_
  refine J_aload_n C 0 rfl rfl dX5_passes_93 ?_
  refine J_get C 0 1 5 (C0 := RX5) (T := TX5) (N := 23) (by decide +kernel) rfl rfl (by decide) (by decide +kernel) rfl dX5_passes_94 ?_
  refine J_icmp_ge (tgt := 114) C dX5_passes_97 (by decide) ?_ ?_
  · exact jX5_passes_b114 C hRet σ v1 v2
  · refine J_iload_n C 1 rfl rfl dX5_passes_100 ?_
    refine J_aload_n C 0 rfl rfl dX5_passes_101 ?_
    refine J_iload_n C 2 rfl rfl dX5_passes_102 ?_
    refine J_callI_V C [.int v2] 0 5 rfl rfl (fun zr zs zh => tX5_sendsOfHost v2 σ zr zs zh) (cwV 1 C.1.2.2.2.2 gX5_passes_X5_sendsOfHost rfl rfl rfl (by decide +kernel) ⟨Nat.le_of_ble_eq_true rfl, Nat.le_of_ble_eq_true rfl⟩) rfl rfl (Nat.le_of_ble_eq_true rfl) dX5_passes_103 (fun r1 σ1 => ?_)
    refine J_iadd C dX5_passes_106 ?_
    refine J_istore_n C rfl dX5_passes_107 (by decide) rfl ?_
    refine J_iinc (d := (1 : Int32)) C 2 rfl dX5_passes_108 (by decide) (by decide) rfl ?_
    refine J_goto (tgt := 92) C dX5_passes_111 (by decide) ?_
    refine J_lv [2, 1, 0] rfl ?_
    exact hK92 (v1 + r1) (v2 + (1 : Int32)) σ1
set_option maxHeartbeats 4000000 in
set_option maxRecDepth 100000 in
theorem jX5_passes_b90  {o0 : Int32 × St} (C : Cxt p s m args c cX5_passes 3 wsX5_passes RX5 D [(cyI, .int), (cyZ, .boolean)] A) (hRet : ∀ (v : Int32) (σ2 : St) (pc : Nat) (lv : List (Nat × Value)), decode cX5_passes pc = .ok (.ireturn, 1) → J p l e ({ frames := 3, cells := 0, slots := 0, locals := 68 } : Room) s m args below meth c 3 D A (wM ad cyI cyZ) Q o0 (some (v, σ2)) σ2 pc lv [.int v]) (σ : St) (v1 v2 : Int32) : J p l e ({ frames := 3, cells := 0, slots := 0, locals := 68 } : Room) s m args below meth c 3 D A (wM ad cyI cyZ) Q o0 (fX5_passes_b90 v1 v2 σ) σ 90 [(0, .ref (ad 0)), (1, .int v1), (2, .int v2)] [] := by
  unfold fX5_passes_b90
  refine J_iconst (v := (0 : Int32)) C dX5_passes_90 (by decide) ?_
  refine J_istore_n C rfl dX5_passes_91 (by decide) rfl ?_
  refine J_lv [1, 2, 0] rfl ?_
  exact jX5_passes_L92 C hRet fuel v1 (0 : Int32) σ
set_option maxHeartbeats 4000000 in
set_option maxRecDepth 100000 in
theorem jX5_passes_b82 {K58 : Int32 → Int32 → St → Option (Int32 × St)} {o0 : Int32 × St} (C : Cxt p s m args c cX5_passes 3 wsX5_passes RX5 D [(cyI, .int), (cyZ, .boolean)] A) (hRet : ∀ (v : Int32) (σ2 : St) (pc : Nat) (lv : List (Nat × Value)), decode cX5_passes pc = .ok (.ireturn, 1) → J p l e ({ frames := 3, cells := 0, slots := 0, locals := 68 } : Room) s m args below meth c 3 D A (wM ad cyI cyZ) Q o0 (some (v, σ2)) σ2 pc lv [.int v]) (σ : St) (v1 v2 t0 t1 : Int32) (hK58 : ∀ (v1 v2 : Int32) (σ : St), J p l e ({ frames := 3, cells := 0, slots := 0, locals := 68 } : Room) s m args below meth c 3 D A (wM ad cyI cyZ) Q o0 (K58 v1 v2 σ) σ 58 [(0, .ref (ad 0)), (1, .int v1), (2, .int v2)] []) : J p l e ({ frames := 3, cells := 0, slots := 0, locals := 68 } : Room) s m args below meth c 3 D A (wM ad cyI cyZ) Q o0 (fX5_passes_b82 K58 v1 v2 t0 t1 σ) σ 82 [(0, .ref (ad 0)), (1, .int v1), (2, .int v2)] [.int t0, .int t1] := by
  unfold fX5_passes_b82
  refine J_iadd C dX5_passes_82 ?_
  refine J_istore_n C rfl dX5_passes_83 (by decide) rfl ?_
  refine J_iinc (d := (1 : Int32)) C 2 rfl dX5_passes_84 (by decide) (by decide) rfl ?_
  refine J_goto (tgt := 58) C dX5_passes_87 (by decide) ?_
  refine J_lv [2, 1, 0] rfl ?_
  exact hK58 (t1 + t0) (v2 + (1 : Int32)) σ
set_option maxHeartbeats 4000000 in
set_option maxRecDepth 100000 in
theorem jX5_passes_L58  {o0 : Int32 × St} (C : Cxt p s m args c cX5_passes 3 wsX5_passes RX5 D [(cyI, .int), (cyZ, .boolean)] A) (hRet : ∀ (v : Int32) (σ2 : St) (pc : Nat) (lv : List (Nat × Value)), decode cX5_passes pc = .ok (.ireturn, 1) → J p l e ({ frames := 3, cells := 0, slots := 0, locals := 68 } : Room) s m args below meth c 3 D A (wM ad cyI cyZ) Q o0 (some (v, σ2)) σ2 pc lv [.int v]) (n : Nat) (v1 v2 : Int32) (σ : St) : J p l e ({ frames := 3, cells := 0, slots := 0, locals := 68 } : Room) s m args below meth c 3 D A (wM ad cyI cyZ) Q o0 (loop2s (fX5_passes_b58) n v1 v2 σ) σ 58 [(0, .ref (ad 0)), (1, .int v1), (2, .int v2)] [] := by
  refine J_loop2s (pc := 58) (fun v1 v2 => [(0, .ref (ad 0)), (1, .int v1), (2, .int v2)]) (fX5_passes_b58) ?_ n v1 v2 σ
  intro K58 hK58 v1 v2 σ
  unfold fX5_passes_b58
  refine J_iload_n C 2 rfl rfl dX5_passes_58 ?_
  refine J_bipush (v := (20 : Int32)) C dX5_passes_59 (by decide) ?_
  refine J_icmp_ge (tgt := 90) C dX5_passes_61 (by decide) ?_ ?_
  · exact jX5_passes_b90 C hRet σ v1 v2
  · refine J_iload_n C 1 rfl rfl dX5_passes_64 ?_
    refine J_aload_n C 0 rfl rfl dX5_passes_65 ?_
    refine J_iload_n C 2 rfl rfl dX5_passes_66 ?_
    refine J_callP_V C [.int v2] 0 5 rfl rfl (fun zr zh => tX5_isConnected v2 σ zr zh) (cwV 1 C.1.2.2.2.2 gX5_passes_X5_isConnected rfl rfl rfl (by decide +kernel) ⟨Nat.le_of_ble_eq_true rfl, Nat.le_of_ble_eq_true rfl⟩) rfl rfl (Nat.le_of_ble_eq_true rfl) dX5_passes_67 (fun r1 => ?_)
    refine J_if_eq (tgt := 81) C dX5_passes_70 (by decide) ?_ ?_
    · refine J_iconst (v := (0 : Int32)) C dX5_passes_81 (by decide) ?_
      exact jX5_passes_b82 C hRet σ v1 v2 (0 : Int32) v1 hK58
    · refine J_aload_n C 0 rfl rfl dX5_passes_73 ?_
      refine J_iload_n C 2 rfl rfl dX5_passes_74 ?_
      refine J_callI_V C [.int v2] 0 5 rfl rfl (fun zr zs zh => tX5_sendsOf v2 σ zr zs zh) (cwV 1 C.1.2.2.2.2 gX5_passes_X5_sendsOf rfl rfl rfl (by decide +kernel) ⟨Nat.le_of_ble_eq_true rfl, Nat.le_of_ble_eq_true rfl⟩) rfl rfl (Nat.le_of_ble_eq_true rfl) dX5_passes_75 (fun r2 σ2 => ?_)
      refine J_goto (tgt := 82) C dX5_passes_78 (by decide) ?_
      exact jX5_passes_b82 C hRet σ2 v1 v2 r2 v1 hK58
set_option maxHeartbeats 4000000 in
set_option maxRecDepth 100000 in
theorem jX5_passes_b56  {o0 : Int32 × St} (C : Cxt p s m args c cX5_passes 3 wsX5_passes RX5 D [(cyI, .int), (cyZ, .boolean)] A) (hRet : ∀ (v : Int32) (σ2 : St) (pc : Nat) (lv : List (Nat × Value)), decode cX5_passes pc = .ok (.ireturn, 1) → J p l e ({ frames := 3, cells := 0, slots := 0, locals := 68 } : Room) s m args below meth c 3 D A (wM ad cyI cyZ) Q o0 (some (v, σ2)) σ2 pc lv [.int v]) (σ : St) (v1 v2 : Int32) : J p l e ({ frames := 3, cells := 0, slots := 0, locals := 68 } : Room) s m args below meth c 3 D A (wM ad cyI cyZ) Q o0 (fX5_passes_b56 v1 v2 σ) σ 56 [(0, .ref (ad 0)), (1, .int v1), (2, .int v2)] [] := by
  unfold fX5_passes_b56
  refine J_iconst (v := (0 : Int32)) C dX5_passes_56 (by decide) ?_
  refine J_istore_n C rfl dX5_passes_57 (by decide) rfl ?_
  refine J_lv [1, 2, 0] rfl ?_
  exact jX5_passes_L58 C hRet fuel v1 (0 : Int32) σ
set_option maxHeartbeats 4000000 in
set_option maxRecDepth 100000 in
theorem jX5_passes_b50 {K31 : Int32 → St → Option (Int32 × St)} {o0 : Int32 × St} (C : Cxt p s m args c cX5_passes 3 wsX5_passes RX5 D [(cyI, .int), (cyZ, .boolean)] A) (hRet : ∀ (v : Int32) (σ2 : St) (pc : Nat) (lv : List (Nat × Value)), decode cX5_passes pc = .ok (.ireturn, 1) → J p l e ({ frames := 3, cells := 0, slots := 0, locals := 68 } : Room) s m args below meth c 3 D A (wM ad cyI cyZ) Q o0 (some (v, σ2)) σ2 pc lv [.int v]) (σ : St) (v1 v2 : Int32) (hK31 : ∀ (v2 : Int32) (σ : St), J p l e ({ frames := 3, cells := 0, slots := 0, locals := 68 } : Room) s m args below meth c 3 D A (wM ad cyI cyZ) Q o0 (K31 v2 σ) σ 31 [(0, .ref (ad 0)), (1, .int v1), (2, .int v2)] []) : J p l e ({ frames := 3, cells := 0, slots := 0, locals := 68 } : Room) s m args below meth c 3 D A (wM ad cyI cyZ) Q o0 (fX5_passes_b50 K31 v1 v2 σ) σ 50 [(0, .ref (ad 0)), (1, .int v1), (2, .int v2)] [] := by
  unfold fX5_passes_b50
  refine J_iinc (d := (1 : Int32)) C 2 rfl dX5_passes_50 (by decide) (by decide) rfl ?_
  refine J_goto (tgt := 31) C dX5_passes_53 (by decide) ?_
  refine J_lv [1, 2, 0] rfl ?_
  exact hK31 (v2 + (1 : Int32)) σ
set_option maxHeartbeats 4000000 in
set_option maxRecDepth 100000 in
theorem jX5_passes_L31  {o0 : Int32 × St} (C : Cxt p s m args c cX5_passes 3 wsX5_passes RX5 D [(cyI, .int), (cyZ, .boolean)] A) (hRet : ∀ (v : Int32) (σ2 : St) (pc : Nat) (lv : List (Nat × Value)), decode cX5_passes pc = .ok (.ireturn, 1) → J p l e ({ frames := 3, cells := 0, slots := 0, locals := 68 } : Room) s m args below meth c 3 D A (wM ad cyI cyZ) Q o0 (some (v, σ2)) σ2 pc lv [.int v]) (v1 : Int32) (n : Nat) (v2 : Int32) (σ : St) : J p l e ({ frames := 3, cells := 0, slots := 0, locals := 68 } : Room) s m args below meth c 3 D A (wM ad cyI cyZ) Q o0 (loop1s (fX5_passes_b31 v1) n v2 σ) σ 31 [(0, .ref (ad 0)), (1, .int v1), (2, .int v2)] [] := by
  refine J_loop1s (pc := 31) (fun v2 => [(0, .ref (ad 0)), (1, .int v1), (2, .int v2)]) (fX5_passes_b31 v1) ?_ n v2 σ
  intro K31 hK31 v2 σ
  unfold fX5_passes_b31
  refine J_iload_n C 2 rfl rfl dX5_passes_31 ?_
  refine J_bipush (v := (20 : Int32)) C dX5_passes_32 (by decide) ?_
  refine J_icmp_ge (tgt := 56) C dX5_passes_34 (by decide) ?_ ?_
  · exact jX5_passes_b56 C hRet σ v1 v2
  · refine J_aload_n C 0 rfl rfl dX5_passes_37 ?_
    refine J_iload_n C 2 rfl rfl dX5_passes_38 ?_
    refine J_callP_V C [.int v2] 0 5 rfl rfl (fun zr zh => tX5_isConnected v2 σ zr zh) (cwV 1 C.1.2.2.2.2 gX5_passes_X5_isConnected rfl rfl rfl (by decide +kernel) ⟨Nat.le_of_ble_eq_true rfl, Nat.le_of_ble_eq_true rfl⟩) rfl rfl (Nat.le_of_ble_eq_true rfl) dX5_passes_39 (fun r1 => ?_)
    refine J_if_eq (tgt := 50) C dX5_passes_42 (by decide) ?_ ?_
    · exact jX5_passes_b50 C hRet σ v1 v2 hK31
    · refine J_aload_n C 0 rfl rfl dX5_passes_45 ?_
      refine J_iload_n C 2 rfl rfl dX5_passes_46 ?_
      refine J_callV_V C [.int v2] 0 5 rfl rfl (fun zs zh => tX5_propagates v2 σ zs zh) (cwV 1 C.1.2.2.2.2 gX5_passes_X5_propagates rfl rfl rfl (by decide +kernel) ⟨Nat.le_of_ble_eq_true rfl, Nat.le_of_ble_eq_true rfl⟩) rfl rfl (Nat.le_of_ble_eq_true rfl) dX5_passes_47 (fun σ2 => ?_)
      exact jX5_passes_b50 C hRet σ2 v1 v2 hK31
set_option maxHeartbeats 4000000 in
set_option maxRecDepth 100000 in
theorem jX5_passes_b29  {o0 : Int32 × St} (C : Cxt p s m args c cX5_passes 3 wsX5_passes RX5 D [(cyI, .int), (cyZ, .boolean)] A) (hRet : ∀ (v : Int32) (σ2 : St) (pc : Nat) (lv : List (Nat × Value)), decode cX5_passes pc = .ok (.ireturn, 1) → J p l e ({ frames := 3, cells := 0, slots := 0, locals := 68 } : Room) s m args below meth c 3 D A (wM ad cyI cyZ) Q o0 (some (v, σ2)) σ2 pc lv [.int v]) (σ : St) (v1 v2 : Int32) : J p l e ({ frames := 3, cells := 0, slots := 0, locals := 68 } : Room) s m args below meth c 3 D A (wM ad cyI cyZ) Q o0 (fX5_passes_b29 v1 v2 σ) σ 29 [(0, .ref (ad 0)), (1, .int v1), (2, .int v2)] [] := by
  unfold fX5_passes_b29
  refine J_iconst (v := (0 : Int32)) C dX5_passes_29 (by decide) ?_
  refine J_istore_n C rfl dX5_passes_30 (by decide) rfl ?_
  refine J_lv [1, 2, 0] rfl ?_
  exact jX5_passes_L31 C hRet v1 fuel (0 : Int32) σ
set_option maxHeartbeats 4000000 in
set_option maxRecDepth 100000 in
theorem jX5_passes_b23 {K4 : Int32 → St → Option (Int32 × St)} {o0 : Int32 × St} (C : Cxt p s m args c cX5_passes 3 wsX5_passes RX5 D [(cyI, .int), (cyZ, .boolean)] A) (hRet : ∀ (v : Int32) (σ2 : St) (pc : Nat) (lv : List (Nat × Value)), decode cX5_passes pc = .ok (.ireturn, 1) → J p l e ({ frames := 3, cells := 0, slots := 0, locals := 68 } : Room) s m args below meth c 3 D A (wM ad cyI cyZ) Q o0 (some (v, σ2)) σ2 pc lv [.int v]) (σ : St) (v1 v2 : Int32) (hK4 : ∀ (v2 : Int32) (σ : St), J p l e ({ frames := 3, cells := 0, slots := 0, locals := 68 } : Room) s m args below meth c 3 D A (wM ad cyI cyZ) Q o0 (K4 v2 σ) σ 4 [(0, .ref (ad 0)), (1, .int v1), (2, .int v2)] []) : J p l e ({ frames := 3, cells := 0, slots := 0, locals := 68 } : Room) s m args below meth c 3 D A (wM ad cyI cyZ) Q o0 (fX5_passes_b23 K4 v1 v2 σ) σ 23 [(0, .ref (ad 0)), (1, .int v1), (2, .int v2)] [] := by
  unfold fX5_passes_b23
  refine J_iinc (d := (1 : Int32)) C 2 rfl dX5_passes_23 (by decide) (by decide) rfl ?_
  refine J_goto (tgt := 4) C dX5_passes_26 (by decide) ?_
  refine J_lv [1, 2, 0] rfl ?_
  exact hK4 (v2 + (1 : Int32)) σ
set_option maxHeartbeats 4000000 in
set_option maxRecDepth 100000 in
theorem jX5_passes_L4  {o0 : Int32 × St} (C : Cxt p s m args c cX5_passes 3 wsX5_passes RX5 D [(cyI, .int), (cyZ, .boolean)] A) (hRet : ∀ (v : Int32) (σ2 : St) (pc : Nat) (lv : List (Nat × Value)), decode cX5_passes pc = .ok (.ireturn, 1) → J p l e ({ frames := 3, cells := 0, slots := 0, locals := 68 } : Room) s m args below meth c 3 D A (wM ad cyI cyZ) Q o0 (some (v, σ2)) σ2 pc lv [.int v]) (v1 : Int32) (n : Nat) (v2 : Int32) (σ : St) : J p l e ({ frames := 3, cells := 0, slots := 0, locals := 68 } : Room) s m args below meth c 3 D A (wM ad cyI cyZ) Q o0 (loop1s (fX5_passes_b4 v1) n v2 σ) σ 4 [(0, .ref (ad 0)), (1, .int v1), (2, .int v2)] [] := by
  refine J_loop1s (pc := 4) (fun v2 => [(0, .ref (ad 0)), (1, .int v1), (2, .int v2)]) (fX5_passes_b4 v1) ?_ n v2 σ
  intro K4 hK4 v2 σ
  unfold fX5_passes_b4
  refine J_iload_n C 2 rfl rfl dX5_passes_4 ?_
  refine J_bipush (v := (20 : Int32)) C dX5_passes_5 (by decide) ?_
  refine J_icmp_ge (tgt := 29) C dX5_passes_7 (by decide) ?_ ?_
  · exact jX5_passes_b29 C hRet σ v1 v2
  · refine J_aload_n C 0 rfl rfl dX5_passes_10 ?_
    refine J_iload_n C 2 rfl rfl dX5_passes_11 ?_
    refine J_callP_V C [.int v2] 0 5 rfl rfl (fun zr zh => tX5_isConnected v2 σ zr zh) (cwV 1 C.1.2.2.2.2 gX5_passes_X5_isConnected rfl rfl rfl (by decide +kernel) ⟨Nat.le_of_ble_eq_true rfl, Nat.le_of_ble_eq_true rfl⟩) rfl rfl (Nat.le_of_ble_eq_true rfl) dX5_passes_12 (fun r1 => ?_)
    refine J_if_eq (tgt := 23) C dX5_passes_15 (by decide) ?_ ?_
    · exact jX5_passes_b23 C hRet σ v1 v2 hK4
    · refine J_aload_n C 0 rfl rfl dX5_passes_18 ?_
      refine J_iload_n C 2 rfl rfl dX5_passes_19 ?_
      refine J_callV_V C [.int v2] 0 5 rfl rfl (fun zs zh => tX5_ages v2 σ zs zh) (cwV 1 C.1.2.2.2.2 gX5_passes_X5_ages rfl rfl rfl (by decide +kernel) ⟨Nat.le_of_ble_eq_true rfl, Nat.le_of_ble_eq_true rfl⟩) rfl rfl (Nat.le_of_ble_eq_true rfl) dX5_passes_20 (fun σ2 => ?_)
      exact jX5_passes_b23 C hRet σ2 v1 v2 hK4
set_option maxHeartbeats 4000000 in
set_option maxRecDepth 100000 in
theorem tX5_passes {l : Launch} {D : va_G} {ad : Nat → Nat} {cyI cyZ : ClassId} (σ : St) (r : Int32) (σ1 : St) (h : fX5_passes σ = some (r, σ1)) : MI l D [(cyI, .int), (cyZ, .boolean)] (wM ad cyI cyZ) yX5_passes wsX5_passes ({ frames := 3, cells := 0, slots := 0, locals := 68 } : Room) [.ref (ad 0)] σ r σ1 := by
  refine entryI (own := RX5) r σ1 (by decide +kernel) rfl rfl (Nat.le_of_ble_eq_true rfl) (fX5_passes σ) h ?_
  intro p e s m below meth c Q A C hRet
  generalize ([.ref (ad 0)] : List Value).toArray = args at *
  show J p l e ({ frames := 3, cells := 0, slots := 0, locals := 68 } : Room) s m args below meth c 3 D A (wM ad cyI cyZ) Q (r, σ1) (fX5_passes σ) σ 0 [(0, .ref (ad 0))] []
  unfold fX5_passes
  refine J_iconst (v := (0 : Int32)) C dX5_passes_0 (by decide) ?_
  refine J_istore_n C rfl dX5_passes_1 (by decide) rfl ?_
  refine J_iconst (v := (0 : Int32)) C dX5_passes_2 (by decide) ?_
  refine J_istore_n C rfl dX5_passes_3 (by decide) rfl ?_
  refine J_lv [2, 1, 0] rfl ?_
  exact jX5_passes_L4 C hRet (0 : Int32) fuel (0 : Int32) σ
-- X5_tick
set_option maxHeartbeats 4000000 in
set_option maxRecDepth 100000 in
theorem jX5_tick_L17  {o0 : Int32 × St} (C : Cxt p s m args c cX5_tick 4 wsX5_tick RX5 D [(cyI, .int), (cyZ, .boolean)] A) (hRet : ∀ (v : Int32) (σ2 : St) (pc : Nat) (lv : List (Nat × Value)), decode cX5_tick pc = .ok (.ireturn, 1) → J p l e ({ frames := 4, cells := 0, slots := 0, locals := 90 } : Room) s m args below meth c 4 D A (wM ad cyI cyZ) Q o0 (some (v, σ2)) σ2 pc lv [.int v]) (v1 : Int32) (n : Nat) (v2 v3 : Int32) (σ : St) : J p l e ({ frames := 4, cells := 0, slots := 0, locals := 90 } : Room) s m args below meth c 4 D A (wM ad cyI cyZ) Q o0 (loop2s (fX5_tick_b17 v1) n v2 v3 σ) σ 17 [(0, .ref (ad 0)), (1, .int v1), (2, .int v2), (3, .int v3)] [] := by
  refine J_loop2s (pc := 17) (fun v2 v3 => [(0, .ref (ad 0)), (1, .int v1), (2, .int v2), (3, .int v3)]) (fX5_tick_b17 v1) ?_ n v2 v3 σ
  intro K17 hK17 v2 v3 σ
  unfold fX5_tick_b17
  refine J_iload_n C 3 rfl rfl dX5_tick_17 ?_
  refine J_iload_n C 1 rfl rfl dX5_tick_18 ?_
  refine J_icmp_ge (tgt := 35) C dX5_tick_19 (by decide) ?_ ?_
  · refine J_iload_n C 2 rfl rfl dX5_tick_35 ?_
    exact hRet v2 σ _ _ dX5_tick_36
  · refine J_iload_n C 2 rfl rfl dX5_tick_22 ?_
    refine J_aload_n C 0 rfl rfl dX5_tick_23 ?_
    refine J_callI_V C [] 0 5 rfl rfl (fun zr zs zh => tX5_passes σ zr zs zh) (cwV 0 C.1.2.2.2.2 gX5_tick_X5_passes rfl rfl rfl (by decide +kernel) ⟨Nat.le_of_ble_eq_true rfl, Nat.le_of_ble_eq_true rfl⟩) rfl rfl (Nat.le_of_ble_eq_true rfl) dX5_tick_24 (fun r1 σ1 => ?_)
    refine J_iadd C dX5_tick_27 ?_
    refine J_istore_n C rfl dX5_tick_28 (by decide) rfl ?_
    refine J_iinc (d := (1 : Int32)) C 3 rfl dX5_tick_29 (by decide) (by decide) rfl ?_
    refine J_goto (tgt := 17) C dX5_tick_32 (by decide) ?_
    refine J_lv [2, 3, 1, 0] rfl ?_
    exact hK17 (v2 + r1) (v3 + (1 : Int32)) σ1
set_option maxHeartbeats 4000000 in
set_option maxRecDepth 100000 in
theorem tX5_tick {l : Launch} {D : va_G} {ad : Nat → Nat} {cyI cyZ : ClassId} (v1 : Int32) (σ : St) (r : Int32) (σ1 : St) (h : fX5_tick v1 σ = some (r, σ1)) : MI l D [(cyI, .int), (cyZ, .boolean)] (wM ad cyI cyZ) yX5_tick wsX5_tick ({ frames := 4, cells := 0, slots := 0, locals := 90 } : Room) [.ref (ad 0), .int v1] σ r σ1 := by
  refine entryI (own := RX5) r σ1 (by decide +kernel) rfl rfl (Nat.le_of_ble_eq_true rfl) (fX5_tick v1 σ) h ?_
  intro p e s m below meth c Q A C hRet
  generalize ([.ref (ad 0), .int v1] : List Value).toArray = args at *
  show J p l e ({ frames := 4, cells := 0, slots := 0, locals := 90 } : Room) s m args below meth c 4 D A (wM ad cyI cyZ) Q (r, σ1) (fX5_tick v1 σ) σ 0 [(0, .ref (ad 0)), (1, .int v1)] []
  unfold fX5_tick
  refine J_iload_n C 1 rfl rfl dX5_tick_0 ?_
  refine J_iconst (v := (1 : Int32)) C dX5_tick_1 (by decide) ?_
  refine J_bipush (v := (100 : Int32)) C dX5_tick_2 (by decide) ?_
  refine J_callP_S C [.int v1, .int (1 : Int32), .int (100 : Int32)] (fun zr zh => tX5_within v1 (1 : Int32) (100 : Int32) σ zr zh) (va_cwS 3 C.1.2.2.2.2 gX5_tick_X5_within rfl rfl rfl (by decide +kernel) ⟨Nat.le_of_ble_eq_true rfl, Nat.le_of_ble_eq_true rfl⟩) rfl rfl (Nat.le_of_ble_eq_true rfl) dX5_tick_4 (fun r1 => ?_)
  refine J_if_ne (tgt := 13) C dX5_tick_7 (by decide) ?_ ?_
  · refine J_iconst (v := (0 : Int32)) C dX5_tick_13 (by decide) ?_
    refine J_istore_n C rfl dX5_tick_14 (by decide) rfl ?_
    refine J_iconst (v := (0 : Int32)) C dX5_tick_15 (by decide) ?_
    refine J_istore_n C rfl dX5_tick_16 (by decide) rfl ?_
    refine J_lv [2, 3, 1, 0] rfl ?_
    exact jX5_tick_L17 C hRet v1 fuel (0 : Int32) (0 : Int32) σ
  · refine J_bipush (v := (-4 : Int32)) C dX5_tick_10 (by decide) ?_
    exact hRet (-4 : Int32) σ _ _ dX5_tick_12
-- X5_time
set_option maxHeartbeats 4000000 in
set_option maxRecDepth 100000 in
theorem tX5_time {l : Launch} {D : va_G} {ad : Nat → Nat} {cyI cyZ : ClassId} (σ : St) (r : Int32) (h : fX5_time σ = some r) : MI l D [(cyI, .int), (cyZ, .boolean)] (wM ad cyI cyZ) yX5_time wsX5_time ({ frames := 0, cells := 0, slots := 0, locals := 0 } : Room) [.ref (ad 0)] σ r σ := by
  refine entryPI (own := RX5) r (by decide +kernel) rfl rfl (Nat.le_of_ble_eq_true rfl) (fX5_time σ) h ?_
  intro p e s m below meth c Q A C hRet
  generalize ([.ref (ad 0)] : List Value).toArray = args at *
  show J p l e ({ frames := 0, cells := 0, slots := 0, locals := 0 } : Room) s m args below meth c 1 D A (wM ad cyI cyZ) Q r (fX5_time σ) σ 0 [(0, .ref (ad 0))] []
  unfold fX5_time
  refine J_aload_n C 0 rfl rfl dX5_time_0 ?_
  refine J_get C 0 8 5 (C0 := RX5) (T := TX5) (N := 23) (by decide +kernel) rfl rfl (by decide) (by decide +kernel) rfl dX5_time_1 ?_
  exact hRet (σ 0 8) _ _ dX5_time_4
-- X5_refusedPort
set_option maxHeartbeats 4000000 in
set_option maxRecDepth 100000 in
theorem tX5_refusedPort {l : Launch} {D : va_G} {ad : Nat → Nat} {cyI cyZ : ClassId} (v1 v2 v3 : Int32) (σ : St) (r : Int32) (h : fX5_refusedPort v1 v2 v3 σ = some r) : MI l D [(cyI, .int), (cyZ, .boolean)] (wM ad cyI cyZ) yX5_refusedPort wsX5_refusedPort ({ frames := 2, cells := 0, slots := 0, locals := 44 } : Room) [.ref (ad 0), .int v1, .int v2, .int v3] σ r σ := by
  refine entryPI (own := RX5) r (by decide +kernel) rfl rfl (Nat.le_of_ble_eq_true rfl) (fX5_refusedPort v1 v2 v3 σ) h ?_
  intro p e s m below meth c Q A C hRet
  generalize ([.ref (ad 0), .int v1, .int v2, .int v3] : List Value).toArray = args at *
  show J p l e ({ frames := 2, cells := 0, slots := 0, locals := 44 } : Room) s m args below meth c 4 D A (wM ad cyI cyZ) Q r (fX5_refusedPort v1 v2 v3 σ) σ 0 [(0, .ref (ad 0)), (1, .int v1), (2, .int v2), (3, .int v3)] []
  unfold fX5_refusedPort
  refine J_aload_n C 0 rfl rfl dX5_refusedPort_0 ?_
  refine J_iload_n C 1 rfl rfl dX5_refusedPort_1 ?_
  refine J_iload_n C 2 rfl rfl dX5_refusedPort_2 ?_
  refine J_callP_V C [.int v1, .int v2] 0 5 rfl rfl (fun zr zh => tX5_isPort v1 v2 σ zr zh) (cwV 2 C.1.2.2.2.2 gX5_refusedPort_X5_isPort rfl rfl rfl (by decide +kernel) ⟨Nat.le_of_ble_eq_true rfl, Nat.le_of_ble_eq_true rfl⟩) rfl rfl (Nat.le_of_ble_eq_true rfl) dX5_refusedPort_3 (fun r1 => ?_)
  refine J_if_ne (tgt := 13) C dX5_refusedPort_6 (by decide) ?_ ?_
  · refine J_iload_n C 3 rfl rfl dX5_refusedPort_13 ?_
    refine J_callP_S C [.int v3] (fun zr zh => tX5_isGroup v3 σ zr zh) (va_cwS 1 C.1.2.2.2.2 gX5_refusedPort_X5_isGroup rfl rfl rfl (by decide +kernel) ⟨Nat.le_of_ble_eq_true rfl, Nat.le_of_ble_eq_true rfl⟩) rfl rfl (Nat.le_of_ble_eq_true rfl) dX5_refusedPort_14 (fun r2 => ?_)
    refine J_if_ne (tgt := 25) C dX5_refusedPort_17 (by decide) ?_ ?_
    · refine J_iconst (v := (0 : Int32)) C dX5_refusedPort_25 (by decide) ?_
      exact hRet (0 : Int32) _ _ dX5_refusedPort_26
    · refine J_bipush (v := (-3 : Int32)) C dX5_refusedPort_20 (by decide) ?_
      refine J_goto (tgt := 26) C dX5_refusedPort_22 (by decide) ?_
      exact hRet (-3 : Int32) _ _ dX5_refusedPort_26
  · refine J_iconst (v := (-1 : Int32)) C dX5_refusedPort_9 (by decide) ?_
    refine J_goto (tgt := 26) C dX5_refusedPort_10 (by decide) ?_
    exact hRet (-1 : Int32) _ _ dX5_refusedPort_26
-- X5_registrar
set_option maxHeartbeats 4000000 in
set_option maxRecDepth 100000 in
theorem tX5_registrar {l : Launch} {D : va_G} {ad : Nat → Nat} {cyI cyZ : ClassId} (v1 v2 v3 : Int32) (σ : St) (r : Int32) (h : fX5_registrar v1 v2 v3 σ = some r) : MI l D [(cyI, .int), (cyZ, .boolean)] (wM ad cyI cyZ) yX5_registrar wsX5_registrar ({ frames := 3, cells := 0, slots := 0, locals := 67 } : Room) [.ref (ad 0), .int v1, .int v2, .int v3] σ r σ := by
  refine entryPI (own := RX5) r (by decide +kernel) rfl rfl (Nat.le_of_ble_eq_true rfl) (fX5_registrar v1 v2 v3 σ) h ?_
  intro p e s m below meth c Q A C hRet
  generalize ([.ref (ad 0), .int v1, .int v2, .int v3] : List Value).toArray = args at *
  show J p l e ({ frames := 3, cells := 0, slots := 0, locals := 67 } : Room) s m args below meth c 5 D A (wM ad cyI cyZ) Q r (fX5_registrar v1 v2 v3 σ) σ 0 [(0, .ref (ad 0)), (1, .int v1), (2, .int v2), (3, .int v3)] []
  unfold fX5_registrar
  refine J_aload_n C 0 rfl rfl dX5_registrar_0 ?_
  refine J_iload_n C 1 rfl rfl dX5_registrar_1 ?_
  refine J_iload_n C 2 rfl rfl dX5_registrar_2 ?_
  refine J_iload_n C 3 rfl rfl dX5_registrar_3 ?_
  refine J_callP_V C [.int v1, .int v2, .int v3] 0 5 rfl rfl (fun zr zh => tX5_refusedPort v1 v2 v3 σ zr zh) (cwV 3 C.1.2.2.2.2 gX5_registrar_X5_refusedPort rfl rfl rfl (by decide +kernel) ⟨Nat.le_of_ble_eq_true rfl, Nat.le_of_ble_eq_true rfl⟩) rfl rfl (Nat.le_of_ble_eq_true rfl) dX5_registrar_4 (fun r1 => ?_)
  refine J_istore C dX5_registrar_7 (by decide) rfl ?_
  refine J_iload C 0 rfl dX5_registrar_9 ?_
  refine J_if_eq (tgt := 19) C dX5_registrar_11 (by decide) ?_ ?_
  · refine J_aload_n C 1 rfl rfl dX5_registrar_19 ?_
    refine J_get C 0 9 5 (C0 := RX5) (T := TX5) (N := 23) (by decide +kernel) rfl rfl (by decide) (by decide +kernel) rfl dX5_registrar_20 ?_
    refine J_bipush (v := (16 : Int32)) C dX5_registrar_23 (by decide) ?_
    refine J_iload_n C 2 rfl rfl dX5_registrar_25 ?_
    refine J_imul C dX5_registrar_26 ?_
    refine J_iconst (v := (4 : Int32)) C dX5_registrar_27 (by decide) ?_
    refine J_iload_n C 3 rfl rfl dX5_registrar_28 ?_
    refine J_imul C dX5_registrar_29 ?_
    refine J_iadd C dX5_registrar_30 ?_
    refine J_iload_n C 4 rfl rfl dX5_registrar_31 ?_
    refine J_iadd C dX5_registrar_32 ?_
    refine J_iald C 4 0 rfl rfl dX5_registrar_33 ?_
    exact hRet (σ 4 ((((16 : Int32) * v1) + ((4 : Int32) * v2)) + v3).toNatClampNeg) _ _ dX5_registrar_34
  · refine J_iload C 0 rfl dX5_registrar_14 ?_
    refine J_goto (tgt := 34) C dX5_registrar_16 (by decide) ?_
    exact hRet r1 _ _ dX5_registrar_34
-- X5_registrarTimer
set_option maxHeartbeats 4000000 in
set_option maxRecDepth 100000 in
theorem tX5_registrarTimer {l : Launch} {D : va_G} {ad : Nat → Nat} {cyI cyZ : ClassId} (v1 v2 v3 : Int32) (σ : St) (r : Int32) (h : fX5_registrarTimer v1 v2 v3 σ = some r) : MI l D [(cyI, .int), (cyZ, .boolean)] (wM ad cyI cyZ) yX5_registrarTimer wsX5_registrarTimer ({ frames := 3, cells := 0, slots := 0, locals := 67 } : Room) [.ref (ad 0), .int v1, .int v2, .int v3] σ r σ := by
  refine entryPI (own := RX5) r (by decide +kernel) rfl rfl (Nat.le_of_ble_eq_true rfl) (fX5_registrarTimer v1 v2 v3 σ) h ?_
  intro p e s m below meth c Q A C hRet
  generalize ([.ref (ad 0), .int v1, .int v2, .int v3] : List Value).toArray = args at *
  show J p l e ({ frames := 3, cells := 0, slots := 0, locals := 67 } : Room) s m args below meth c 5 D A (wM ad cyI cyZ) Q r (fX5_registrarTimer v1 v2 v3 σ) σ 0 [(0, .ref (ad 0)), (1, .int v1), (2, .int v2), (3, .int v3)] []
  unfold fX5_registrarTimer
  refine J_aload_n C 0 rfl rfl dX5_registrarTimer_0 ?_
  refine J_iload_n C 1 rfl rfl dX5_registrarTimer_1 ?_
  refine J_iload_n C 2 rfl rfl dX5_registrarTimer_2 ?_
  refine J_iload_n C 3 rfl rfl dX5_registrarTimer_3 ?_
  refine J_callP_V C [.int v1, .int v2, .int v3] 0 5 rfl rfl (fun zr zh => tX5_refusedPort v1 v2 v3 σ zr zh) (cwV 3 C.1.2.2.2.2 gX5_registrarTimer_X5_refusedPort rfl rfl rfl (by decide +kernel) ⟨Nat.le_of_ble_eq_true rfl, Nat.le_of_ble_eq_true rfl⟩) rfl rfl (Nat.le_of_ble_eq_true rfl) dX5_registrarTimer_4 (fun r1 => ?_)
  refine J_istore C dX5_registrarTimer_7 (by decide) rfl ?_
  refine J_iload C 0 rfl dX5_registrarTimer_9 ?_
  refine J_if_eq (tgt := 19) C dX5_registrarTimer_11 (by decide) ?_ ?_
  · refine J_aload_n C 1 rfl rfl dX5_registrarTimer_19 ?_
    refine J_get C 0 10 5 (C0 := RX5) (T := TX5) (N := 23) (by decide +kernel) rfl rfl (by decide) (by decide +kernel) rfl dX5_registrarTimer_20 ?_
    refine J_bipush (v := (16 : Int32)) C dX5_registrarTimer_23 (by decide) ?_
    refine J_iload_n C 2 rfl rfl dX5_registrarTimer_25 ?_
    refine J_imul C dX5_registrarTimer_26 ?_
    refine J_iconst (v := (4 : Int32)) C dX5_registrarTimer_27 (by decide) ?_
    refine J_iload_n C 3 rfl rfl dX5_registrarTimer_28 ?_
    refine J_imul C dX5_registrarTimer_29 ?_
    refine J_iadd C dX5_registrarTimer_30 ?_
    refine J_iload_n C 4 rfl rfl dX5_registrarTimer_31 ?_
    refine J_iadd C dX5_registrarTimer_32 ?_
    refine J_iald C 5 0 rfl rfl dX5_registrarTimer_33 ?_
    exact hRet (σ 5 ((((16 : Int32) * v1) + ((4 : Int32) * v2)) + v3).toNatClampNeg) _ _ dX5_registrarTimer_34
  · refine J_iload C 0 rfl dX5_registrarTimer_14 ?_
    refine J_goto (tgt := 34) C dX5_registrarTimer_16 (by decide) ?_
    exact hRet r1 _ _ dX5_registrarTimer_34
-- X5_applicant
set_option maxHeartbeats 4000000 in
set_option maxRecDepth 100000 in
theorem tX5_applicant {l : Launch} {D : va_G} {ad : Nat → Nat} {cyI cyZ : ClassId} (v1 v2 v3 : Int32) (σ : St) (r : Int32) (h : fX5_applicant v1 v2 v3 σ = some r) : MI l D [(cyI, .int), (cyZ, .boolean)] (wM ad cyI cyZ) yX5_applicant wsX5_applicant ({ frames := 3, cells := 0, slots := 0, locals := 67 } : Room) [.ref (ad 0), .int v1, .int v2, .int v3] σ r σ := by
  refine entryPI (own := RX5) r (by decide +kernel) rfl rfl (Nat.le_of_ble_eq_true rfl) (fX5_applicant v1 v2 v3 σ) h ?_
  intro p e s m below meth c Q A C hRet
  generalize ([.ref (ad 0), .int v1, .int v2, .int v3] : List Value).toArray = args at *
  show J p l e ({ frames := 3, cells := 0, slots := 0, locals := 67 } : Room) s m args below meth c 5 D A (wM ad cyI cyZ) Q r (fX5_applicant v1 v2 v3 σ) σ 0 [(0, .ref (ad 0)), (1, .int v1), (2, .int v2), (3, .int v3)] []
  unfold fX5_applicant
  refine J_aload_n C 0 rfl rfl dX5_applicant_0 ?_
  refine J_iload_n C 1 rfl rfl dX5_applicant_1 ?_
  refine J_iload_n C 2 rfl rfl dX5_applicant_2 ?_
  refine J_iload_n C 3 rfl rfl dX5_applicant_3 ?_
  refine J_callP_V C [.int v1, .int v2, .int v3] 0 5 rfl rfl (fun zr zh => tX5_refusedPort v1 v2 v3 σ zr zh) (cwV 3 C.1.2.2.2.2 gX5_applicant_X5_refusedPort rfl rfl rfl (by decide +kernel) ⟨Nat.le_of_ble_eq_true rfl, Nat.le_of_ble_eq_true rfl⟩) rfl rfl (Nat.le_of_ble_eq_true rfl) dX5_applicant_4 (fun r1 => ?_)
  refine J_istore C dX5_applicant_7 (by decide) rfl ?_
  refine J_iload C 0 rfl dX5_applicant_9 ?_
  refine J_if_eq (tgt := 19) C dX5_applicant_11 (by decide) ?_ ?_
  · refine J_aload_n C 1 rfl rfl dX5_applicant_19 ?_
    refine J_get C 0 11 5 (C0 := RX5) (T := TX5) (N := 23) (by decide +kernel) rfl rfl (by decide) (by decide +kernel) rfl dX5_applicant_20 ?_
    refine J_bipush (v := (16 : Int32)) C dX5_applicant_23 (by decide) ?_
    refine J_iload_n C 2 rfl rfl dX5_applicant_25 ?_
    refine J_imul C dX5_applicant_26 ?_
    refine J_iconst (v := (4 : Int32)) C dX5_applicant_27 (by decide) ?_
    refine J_iload_n C 3 rfl rfl dX5_applicant_28 ?_
    refine J_imul C dX5_applicant_29 ?_
    refine J_iadd C dX5_applicant_30 ?_
    refine J_iload_n C 4 rfl rfl dX5_applicant_31 ?_
    refine J_iadd C dX5_applicant_32 ?_
    refine J_iald C 6 0 rfl rfl dX5_applicant_33 ?_
    exact hRet (σ 6 ((((16 : Int32) * v1) + ((4 : Int32) * v2)) + v3).toNatClampNeg) _ _ dX5_applicant_34
  · refine J_iload C 0 rfl dX5_applicant_14 ?_
    refine J_goto (tgt := 34) C dX5_applicant_16 (by decide) ?_
    exact hRet r1 _ _ dX5_applicant_34
-- X5_hostApplicant
set_option maxHeartbeats 4000000 in
set_option maxRecDepth 100000 in
theorem tX5_hostApplicant {l : Launch} {D : va_G} {ad : Nat → Nat} {cyI cyZ : ClassId} (v1 v2 : Int32) (σ : St) (r : Int32) (h : fX5_hostApplicant v1 v2 σ = some r) : MI l D [(cyI, .int), (cyZ, .boolean)] (wM ad cyI cyZ) yX5_hostApplicant wsX5_hostApplicant ({ frames := 3, cells := 0, slots := 0, locals := 65 } : Room) [.ref (ad 0), .int v1, .int v2] σ r σ := by
  refine entryPI (own := RX5) r (by decide +kernel) rfl rfl (Nat.le_of_ble_eq_true rfl) (fX5_hostApplicant v1 v2 σ) h ?_
  intro p e s m below meth c Q A C hRet
  generalize ([.ref (ad 0), .int v1, .int v2] : List Value).toArray = args at *
  show J p l e ({ frames := 3, cells := 0, slots := 0, locals := 65 } : Room) s m args below meth c 4 D A (wM ad cyI cyZ) Q r (fX5_hostApplicant v1 v2 σ) σ 0 [(0, .ref (ad 0)), (1, .int v1), (2, .int v2)] []
  unfold fX5_hostApplicant
  refine J_aload_n C 0 rfl rfl dX5_hostApplicant_0 ?_
  refine J_iload_n C 1 rfl rfl dX5_hostApplicant_1 ?_
  refine J_iload_n C 2 rfl rfl dX5_hostApplicant_2 ?_
  refine J_callP_V C [.int v1, .int v2] 0 5 rfl rfl (fun zr zh => tX5_refusedHost v1 v2 σ zr zh) (cwV 2 C.1.2.2.2.2 gX5_hostApplicant_X5_refusedHost rfl rfl rfl (by decide +kernel) ⟨Nat.le_of_ble_eq_true rfl, Nat.le_of_ble_eq_true rfl⟩) rfl rfl (Nat.le_of_ble_eq_true rfl) dX5_hostApplicant_3 (fun r1 => ?_)
  refine J_istore_n C rfl dX5_hostApplicant_6 (by decide) rfl ?_
  refine J_iload_n C 0 rfl rfl dX5_hostApplicant_7 ?_
  refine J_if_eq (tgt := 15) C dX5_hostApplicant_8 (by decide) ?_ ?_
  · refine J_aload_n C 1 rfl rfl dX5_hostApplicant_15 ?_
    refine J_get C 0 15 5 (C0 := RX5) (T := TX5) (N := 23) (by decide +kernel) rfl rfl (by decide) (by decide +kernel) rfl dX5_hostApplicant_16 ?_
    refine J_iconst (v := (4 : Int32)) C dX5_hostApplicant_19 (by decide) ?_
    refine J_iload_n C 2 rfl rfl dX5_hostApplicant_20 ?_
    refine J_imul C dX5_hostApplicant_21 ?_
    refine J_iload_n C 3 rfl rfl dX5_hostApplicant_22 ?_
    refine J_iadd C dX5_hostApplicant_23 ?_
    refine J_iald C 10 0 rfl rfl dX5_hostApplicant_24 ?_
    exact hRet (σ 10 (((4 : Int32) * v1) + v2).toNatClampNeg) _ _ dX5_hostApplicant_25
  · refine J_iload_n C 0 rfl rfl dX5_hostApplicant_11 ?_
    refine J_goto (tgt := 25) C dX5_hostApplicant_12 (by decide) ?_
    exact hRet r1 _ _ dX5_hostApplicant_25
-- X5_leaveAllTimer
set_option maxHeartbeats 4000000 in
set_option maxRecDepth 100000 in
theorem tX5_leaveAllTimer {l : Launch} {D : va_G} {ad : Nat → Nat} {cyI cyZ : ClassId} (v1 v2 : Int32) (σ : St) (r : Int32) (h : fX5_leaveAllTimer v1 v2 σ = some r) : MI l D [(cyI, .int), (cyZ, .boolean)] (wM ad cyI cyZ) yX5_leaveAllTimer wsX5_leaveAllTimer ({ frames := 2, cells := 0, slots := 0, locals := 44 } : Room) [.ref (ad 0), .int v1, .int v2] σ r σ := by
  refine entryPI (own := RX5) r (by decide +kernel) rfl rfl (Nat.le_of_ble_eq_true rfl) (fX5_leaveAllTimer v1 v2 σ) h ?_
  intro p e s m below meth c Q A C hRet
  generalize ([.ref (ad 0), .int v1, .int v2] : List Value).toArray = args at *
  show J p l e ({ frames := 2, cells := 0, slots := 0, locals := 44 } : Room) s m args below meth c 3 D A (wM ad cyI cyZ) Q r (fX5_leaveAllTimer v1 v2 σ) σ 0 [(0, .ref (ad 0)), (1, .int v1), (2, .int v2)] []
  unfold fX5_leaveAllTimer
  refine J_aload_n C 0 rfl rfl dX5_leaveAllTimer_0 ?_
  refine J_iload_n C 1 rfl rfl dX5_leaveAllTimer_1 ?_
  refine J_iload_n C 2 rfl rfl dX5_leaveAllTimer_2 ?_
  refine J_callP_V C [.int v1, .int v2] 0 5 rfl rfl (fun zr zh => tX5_isPort v1 v2 σ zr zh) (cwV 2 C.1.2.2.2.2 gX5_leaveAllTimer_X5_isPort rfl rfl rfl (by decide +kernel) ⟨Nat.le_of_ble_eq_true rfl, Nat.le_of_ble_eq_true rfl⟩) rfl rfl (Nat.le_of_ble_eq_true rfl) dX5_leaveAllTimer_3 (fun r1 => ?_)
  refine J_if_eq (tgt := 22) C dX5_leaveAllTimer_6 (by decide) ?_ ?_
  · refine J_iconst (v := (-1 : Int32)) C dX5_leaveAllTimer_22 (by decide) ?_
    exact hRet (-1 : Int32) _ _ dX5_leaveAllTimer_23
  · refine J_aload_n C 0 rfl rfl dX5_leaveAllTimer_9 ?_
    refine J_get C 0 13 5 (C0 := RX5) (T := TX5) (N := 23) (by decide +kernel) rfl rfl (by decide) (by decide +kernel) rfl dX5_leaveAllTimer_10 ?_
    refine J_iconst (v := (4 : Int32)) C dX5_leaveAllTimer_13 (by decide) ?_
    refine J_iload_n C 1 rfl rfl dX5_leaveAllTimer_14 ?_
    refine J_imul C dX5_leaveAllTimer_15 ?_
    refine J_iload_n C 2 rfl rfl dX5_leaveAllTimer_16 ?_
    refine J_iadd C dX5_leaveAllTimer_17 ?_
    refine J_iald C 8 0 rfl rfl dX5_leaveAllTimer_18 ?_
    refine J_goto (tgt := 23) C dX5_leaveAllTimer_19 (by decide) ?_
    exact hRet (σ 8 (((4 : Int32) * v1) + v2).toNatClampNeg) _ _ dX5_leaveAllTimer_23
-- X5_isBusy
set_option maxHeartbeats 4000000 in
set_option maxRecDepth 100000 in
theorem jX5_isBusy_b10  {o0 : Int32} {σ : St} (C : Cxt p s m args c cX5_isBusy 1 wsX5_isBusy RX5 D [(cyI, .int), (cyZ, .boolean)] A) (hRet : ∀ (v : Int32) (pc : Nat) (lv : List (Nat × Value)), narrow .boolean (.int v) = .int v → decode cX5_isBusy pc = .ok (.ireturn, 1) → J p l e ({ frames := 0, cells := 0, slots := 0, locals := 0 } : Room) s m args below meth c 1 D A (wM ad cyI cyZ) Q o0 (some v) σ pc lv [.int v]) (v0 : Int32) : J p l e ({ frames := 0, cells := 0, slots := 0, locals := 0 } : Room) s m args below meth c 1 D A (wM ad cyI cyZ) Q o0 (fX5_isBusy_b10 v0 σ) σ 10 [(0, .int v0)] [] := by
  unfold fX5_isBusy_b10
  refine J_iconst (v := (1 : Int32)) C dX5_isBusy_10 (by decide) ?_
  refine J_goto (tgt := 15) C dX5_isBusy_11 (by decide) ?_
  exact hRet (1 : Int32) _ _ (by decide) dX5_isBusy_15
set_option maxHeartbeats 4000000 in
set_option maxRecDepth 100000 in
theorem tX5_isBusy {l : Launch} {D : va_G} {ad : Nat → Nat} {cyI cyZ : ClassId} (v0 : Int32) (σ : St) (r : Int32) (h : fX5_isBusy v0 σ = some r) : MI l D [(cyI, .int), (cyZ, .boolean)] (wM ad cyI cyZ) yX5_isBusy wsX5_isBusy ({ frames := 0, cells := 0, slots := 0, locals := 0 } : Room) [.int v0] σ r σ := by
  refine entryPZ (own := RX5) r (by decide +kernel) rfl rfl (Nat.le_of_ble_eq_true rfl) (fX5_isBusy v0 σ) h ?_
  intro p e s m below meth c Q A C hRet
  generalize ([.int v0] : List Value).toArray = args at *
  show J p l e ({ frames := 0, cells := 0, slots := 0, locals := 0 } : Room) s m args below meth c 1 D A (wM ad cyI cyZ) Q r (fX5_isBusy v0 σ) σ 0 [(0, .int v0)] []
  unfold fX5_isBusy
  refine J_iload_n C 0 rfl rfl dX5_isBusy_0 ?_
  refine J_iconst (v := (1 : Int32)) C dX5_isBusy_1 (by decide) ?_
  refine J_icmp_eq (tgt := 10) C dX5_isBusy_2 (by decide) ?_ ?_
  · exact jX5_isBusy_b10 C hRet v0
  · refine J_iload_n C 0 rfl rfl dX5_isBusy_5 ?_
    refine J_iconst (v := (3 : Int32)) C dX5_isBusy_6 (by decide) ?_
    refine J_icmp_ne (tgt := 14) C dX5_isBusy_7 (by decide) ?_ ?_
    · refine J_iconst (v := (0 : Int32)) C dX5_isBusy_14 (by decide) ?_
      exact hRet (0 : Int32) _ _ (by decide) dX5_isBusy_15
    · exact jX5_isBusy_b10 C hRet v0
-- X5_isPortSettled
set_option maxHeartbeats 4000000 in
set_option maxRecDepth 100000 in
theorem jX5_isPortSettled_b50 {K2 : Int32 → Option (Int32)} {o0 : Int32} {σ : St} (C : Cxt p s m args c cX5_isPortSettled 4 wsX5_isPortSettled RX5 D [(cyI, .int), (cyZ, .boolean)] A) (hRet : ∀ (v : Int32) (pc : Nat) (lv : List (Nat × Value)), narrow .boolean (.int v) = .int v → decode cX5_isPortSettled pc = .ok (.ireturn, 1) → J p l e ({ frames := 2, cells := 0, slots := 0, locals := 44 } : Room) s m args below meth c 4 D A (wM ad cyI cyZ) Q o0 (some v) σ pc lv [.int v]) (v1 v2 v3 t0 : Int32) (hK2 : ∀ (v2 : Int32), J p l e ({ frames := 2, cells := 0, slots := 0, locals := 44 } : Room) s m args below meth c 4 D A (wM ad cyI cyZ) Q o0 (K2 v2) σ 2 [(0, .ref (ad 0)), (1, .int v1), (2, .int v2)] []) : J p l e ({ frames := 2, cells := 0, slots := 0, locals := 44 } : Room) s m args below meth c 4 D A (wM ad cyI cyZ) Q o0 (fX5_isPortSettled_b50 K2 v1 v2 v3 t0 σ) σ 50 [(0, .ref (ad 0)), (1, .int v1), (2, .int v2), (3, .int v3)] [.int t0] := by
  unfold fX5_isPortSettled_b50
  refine J_aload_n C 0 rfl rfl dX5_isPortSettled_50 ?_
  refine J_iload_n C 1 rfl rfl dX5_isPortSettled_51 ?_
  refine J_iload_n C 2 rfl rfl dX5_isPortSettled_52 ?_
  refine J_callP_V C [.int v1, .int v2] 0 5 rfl rfl (fun zr zh => tX5_isWanted v1 v2 σ zr zh) (cwV 2 C.1.2.2.2.2 gX5_isPortSettled_X5_isWanted rfl rfl rfl (by decide +kernel) ⟨Nat.le_of_ble_eq_true rfl, Nat.le_of_ble_eq_true rfl⟩) rfl rfl (Nat.le_of_ble_eq_true rfl) dX5_isPortSettled_53 (fun r1 => ?_)
  refine J_icmp_eq (tgt := 61) C dX5_isPortSettled_56 (by decide) ?_ ?_
  · refine J_iinc (d := (1 : Int32)) C 2 rfl dX5_isPortSettled_61 (by decide) (by decide) rfl ?_
    refine J_goto (tgt := 2) C dX5_isPortSettled_64 (by decide) ?_
    refine J_lv [1, 2, 0] rfl ?_
    exact hK2 (v2 + (1 : Int32))
  · refine J_iconst (v := (0 : Int32)) C dX5_isPortSettled_59 (by decide) ?_
    exact hRet (0 : Int32) _ _ (by decide) dX5_isPortSettled_60
set_option maxHeartbeats 4000000 in
set_option maxRecDepth 100000 in
theorem jX5_isPortSettled_L2  {o0 : Int32} {σ : St} (C : Cxt p s m args c cX5_isPortSettled 4 wsX5_isPortSettled RX5 D [(cyI, .int), (cyZ, .boolean)] A) (hRet : ∀ (v : Int32) (pc : Nat) (lv : List (Nat × Value)), narrow .boolean (.int v) = .int v → decode cX5_isPortSettled pc = .ok (.ireturn, 1) → J p l e ({ frames := 2, cells := 0, slots := 0, locals := 44 } : Room) s m args below meth c 4 D A (wM ad cyI cyZ) Q o0 (some v) σ pc lv [.int v]) (v1 : Int32) (n : Nat) (v2 : Int32) : J p l e ({ frames := 2, cells := 0, slots := 0, locals := 44 } : Room) s m args below meth c 4 D A (wM ad cyI cyZ) Q o0 (loop1 (fX5_isPortSettled_b2 v1 σ) n v2) σ 2 [(0, .ref (ad 0)), (1, .int v1), (2, .int v2)] [] := by
  refine J_loop1 (pc := 2) (fun v2 => [(0, .ref (ad 0)), (1, .int v1), (2, .int v2)]) (fX5_isPortSettled_b2 v1 σ) ?_ n v2
  intro K2 hK2 v2
  unfold fX5_isPortSettled_b2
  refine J_iload_n C 2 rfl rfl dX5_isPortSettled_2 ?_
  refine J_iconst (v := (4 : Int32)) C dX5_isPortSettled_3 (by decide) ?_
  refine J_icmp_ge (tgt := 67) C dX5_isPortSettled_4 (by decide) ?_ ?_
  · refine J_iconst (v := (1 : Int32)) C dX5_isPortSettled_67 (by decide) ?_
    exact hRet (1 : Int32) _ _ (by decide) dX5_isPortSettled_68
  · refine J_iconst (v := (4 : Int32)) C dX5_isPortSettled_7 (by decide) ?_
    refine J_iload_n C 1 rfl rfl dX5_isPortSettled_8 ?_
    refine J_imul C dX5_isPortSettled_9 ?_
    refine J_iload_n C 2 rfl rfl dX5_isPortSettled_10 ?_
    refine J_iadd C dX5_isPortSettled_11 ?_
    refine J_istore_n C rfl dX5_isPortSettled_12 (by decide) rfl ?_
    refine J_aload_n C 1 rfl rfl dX5_isPortSettled_13 ?_
    refine J_get C 0 11 5 (C0 := RX5) (T := TX5) (N := 23) (by decide +kernel) rfl rfl (by decide) (by decide +kernel) rfl dX5_isPortSettled_14 ?_
    refine J_iload_n C 0 rfl rfl dX5_isPortSettled_17 ?_
    refine J_iald C 6 0 rfl rfl dX5_isPortSettled_18 ?_
    refine J_callP_S C [.int (σ 6 (((4 : Int32) * v1) + v2).toNatClampNeg)] (fun zr zh => tX5_isBusy (σ 6 (((4 : Int32) * v1) + v2).toNatClampNeg) σ zr zh) (va_cwS 1 C.1.2.2.2.2 gX5_isPortSettled_X5_isBusy rfl rfl rfl (by decide +kernel) ⟨Nat.le_of_ble_eq_true rfl, Nat.le_of_ble_eq_true rfl⟩) rfl rfl (Nat.le_of_ble_eq_true rfl) dX5_isPortSettled_19 (fun r1 => ?_)
    refine J_if_ne (tgt := 59) C dX5_isPortSettled_22 (by decide) ?_ ?_
    · refine J_iconst (v := (0 : Int32)) C dX5_isPortSettled_59 (by decide) ?_
      exact hRet (0 : Int32) _ _ (by decide) dX5_isPortSettled_60
    · refine J_aload_n C 1 rfl rfl dX5_isPortSettled_25 ?_
      refine J_get C 0 9 5 (C0 := RX5) (T := TX5) (N := 23) (by decide +kernel) rfl rfl (by decide) (by decide +kernel) rfl dX5_isPortSettled_26 ?_
      refine J_iload_n C 0 rfl rfl dX5_isPortSettled_29 ?_
      refine J_iald C 4 0 rfl rfl dX5_isPortSettled_30 ?_
      refine J_iconst (v := (2 : Int32)) C dX5_isPortSettled_31 (by decide) ?_
      refine J_icmp_eq (tgt := 59) C dX5_isPortSettled_32 (by decide) ?_ ?_
      · refine J_iconst (v := (0 : Int32)) C dX5_isPortSettled_59 (by decide) ?_
        exact hRet (0 : Int32) _ _ (by decide) dX5_isPortSettled_60
      · refine J_aload_n C 1 rfl rfl dX5_isPortSettled_35 ?_
        refine J_get C 0 11 5 (C0 := RX5) (T := TX5) (N := 23) (by decide +kernel) rfl rfl (by decide) (by decide +kernel) rfl dX5_isPortSettled_36 ?_
        refine J_iload_n C 0 rfl rfl dX5_isPortSettled_39 ?_
        refine J_iald C 6 0 rfl rfl dX5_isPortSettled_40 ?_
        refine J_iconst (v := (2 : Int32)) C dX5_isPortSettled_41 (by decide) ?_
        refine J_icmp_ne (tgt := 49) C dX5_isPortSettled_42 (by decide) ?_ ?_
        · refine J_iconst (v := (0 : Int32)) C dX5_isPortSettled_49 (by decide) ?_
          refine J_lv [1, 2, 3, 0] rfl ?_
          exact jX5_isPortSettled_b50 C hRet v1 v2 (((4 : Int32) * v1) + v2) (0 : Int32) hK2
        · refine J_iconst (v := (1 : Int32)) C dX5_isPortSettled_45 (by decide) ?_
          refine J_goto (tgt := 50) C dX5_isPortSettled_46 (by decide) ?_
          refine J_lv [1, 2, 3, 0] rfl ?_
          exact jX5_isPortSettled_b50 C hRet v1 v2 (((4 : Int32) * v1) + v2) (1 : Int32) hK2
set_option maxHeartbeats 4000000 in
set_option maxRecDepth 100000 in
theorem tX5_isPortSettled {l : Launch} {D : va_G} {ad : Nat → Nat} {cyI cyZ : ClassId} (v1 : Int32) (σ : St) (r : Int32) (h : fX5_isPortSettled v1 σ = some r) : MI l D [(cyI, .int), (cyZ, .boolean)] (wM ad cyI cyZ) yX5_isPortSettled wsX5_isPortSettled ({ frames := 2, cells := 0, slots := 0, locals := 44 } : Room) [.ref (ad 0), .int v1] σ r σ := by
  refine entryPZ (own := RX5) r (by decide +kernel) rfl rfl (Nat.le_of_ble_eq_true rfl) (fX5_isPortSettled v1 σ) h ?_
  intro p e s m below meth c Q A C hRet
  generalize ([.ref (ad 0), .int v1] : List Value).toArray = args at *
  show J p l e ({ frames := 2, cells := 0, slots := 0, locals := 44 } : Room) s m args below meth c 4 D A (wM ad cyI cyZ) Q r (fX5_isPortSettled v1 σ) σ 0 [(0, .ref (ad 0)), (1, .int v1)] []
  unfold fX5_isPortSettled
  refine J_iconst (v := (0 : Int32)) C dX5_isPortSettled_0 (by decide) ?_
  refine J_istore_n C rfl dX5_isPortSettled_1 (by decide) rfl ?_
  refine J_lv [1, 2, 0] rfl ?_
  exact jX5_isPortSettled_L2 C hRet v1 fuel (0 : Int32)
-- X5_isSettled
set_option maxHeartbeats 4000000 in
set_option maxRecDepth 100000 in
theorem jX5_isSettled_b69 {K34 : Int32 → Option (Int32)} {o0 : Int32} {σ : St} (C : Cxt p s m args c cX5_isSettled 2 wsX5_isSettled RX5 D [(cyI, .int), (cyZ, .boolean)] A) (hRet : ∀ (v : Int32) (pc : Nat) (lv : List (Nat × Value)), decode cX5_isSettled pc = .ok (.ireturn, 1) → J p l e ({ frames := 3, cells := 0, slots := 0, locals := 67 } : Room) s m args below meth c 2 D A (wM ad cyI cyZ) Q o0 (some v) σ pc lv [.int v]) (v1 : Int32) (hK34 : ∀ (v1 : Int32), J p l e ({ frames := 3, cells := 0, slots := 0, locals := 67 } : Room) s m args below meth c 2 D A (wM ad cyI cyZ) Q o0 (K34 v1) σ 34 [(0, .ref (ad 0)), (1, .int v1)] []) : J p l e ({ frames := 3, cells := 0, slots := 0, locals := 67 } : Room) s m args below meth c 2 D A (wM ad cyI cyZ) Q o0 (fX5_isSettled_b69 K34 v1 σ) σ 69 [(0, .ref (ad 0)), (1, .int v1)] [] := by
  unfold fX5_isSettled_b69
  refine J_iinc (d := (1 : Int32)) C 1 rfl dX5_isSettled_69 (by decide) (by decide) rfl ?_
  refine J_goto (tgt := 34) C dX5_isSettled_72 (by decide) ?_
  refine J_lv [1, 0] rfl ?_
  exact hK34 (v1 + (1 : Int32))
set_option maxHeartbeats 4000000 in
set_option maxRecDepth 100000 in
theorem jX5_isSettled_L34  {o0 : Int32} {σ : St} (C : Cxt p s m args c cX5_isSettled 2 wsX5_isSettled RX5 D [(cyI, .int), (cyZ, .boolean)] A) (hRet : ∀ (v : Int32) (pc : Nat) (lv : List (Nat × Value)), decode cX5_isSettled pc = .ok (.ireturn, 1) → J p l e ({ frames := 3, cells := 0, slots := 0, locals := 67 } : Room) s m args below meth c 2 D A (wM ad cyI cyZ) Q o0 (some v) σ pc lv [.int v]) (n : Nat) (v1 : Int32) : J p l e ({ frames := 3, cells := 0, slots := 0, locals := 67 } : Room) s m args below meth c 2 D A (wM ad cyI cyZ) Q o0 (loop1 (fX5_isSettled_b34 σ) n v1) σ 34 [(0, .ref (ad 0)), (1, .int v1)] [] := by
  refine J_loop1 (pc := 34) (fun v1 => [(0, .ref (ad 0)), (1, .int v1)]) (fX5_isSettled_b34 σ) ?_ n v1
  intro K34 hK34 v1
  unfold fX5_isSettled_b34
  refine J_iload_n C 1 rfl rfl dX5_isSettled_34 ?_
  refine J_iconst (v := (4 : Int32)) C dX5_isSettled_35 (by decide) ?_
  refine J_aload_n C 0 rfl rfl dX5_isSettled_36 ?_
  refine J_get C 0 1 5 (C0 := RX5) (T := TX5) (N := 23) (by decide +kernel) rfl rfl (by decide) (by decide +kernel) rfl dX5_isSettled_37 ?_
  refine J_imul C dX5_isSettled_40 ?_
  refine J_icmp_ge (tgt := 75) C dX5_isSettled_41 (by decide) ?_ ?_
  · refine J_iconst (v := (1 : Int32)) C dX5_isSettled_75 (by decide) ?_
    exact hRet (1 : Int32) _ _ dX5_isSettled_76
  · refine J_aload_n C 0 rfl rfl dX5_isSettled_44 ?_
    refine J_get C 0 5 5 (C0 := RX5) (T := TX5) (N := 23) (by decide +kernel) rfl rfl (by decide) (by decide +kernel) rfl dX5_isSettled_45 ?_
    refine J_iload_n C 1 rfl rfl dX5_isSettled_48 ?_
    refine J_iconst (v := (4 : Int32)) C dX5_isSettled_49 (by decide) ?_
    refine J_idiv C (by decide) dX5_isSettled_50 ?_
    refine J_zald C 3 1 rfl rfl dX5_isSettled_51 ?_
    refine J_if_ne (tgt := 69) C dX5_isSettled_52 (by decide) ?_ ?_
    · exact jX5_isSettled_b69 C hRet v1 hK34
    · refine J_aload_n C 0 rfl rfl dX5_isSettled_55 ?_
      refine J_get C 0 15 5 (C0 := RX5) (T := TX5) (N := 23) (by decide +kernel) rfl rfl (by decide) (by decide +kernel) rfl dX5_isSettled_56 ?_
      refine J_iload_n C 1 rfl rfl dX5_isSettled_59 ?_
      refine J_iald C 10 0 rfl rfl dX5_isSettled_60 ?_
      refine J_callP_S C [.int (σ 10 v1.toNatClampNeg)] (fun zr zh => tX5_isBusy (σ 10 v1.toNatClampNeg) σ zr zh) (va_cwS 1 C.1.2.2.2.2 gX5_isSettled_X5_isBusy rfl rfl rfl (by decide +kernel) ⟨Nat.le_of_ble_eq_true rfl, Nat.le_of_ble_eq_true rfl⟩) rfl rfl (Nat.le_of_ble_eq_true rfl) dX5_isSettled_61 (fun r1 => ?_)
      refine J_if_eq (tgt := 69) C dX5_isSettled_64 (by decide) ?_ ?_
      · exact jX5_isSettled_b69 C hRet v1 hK34
      · refine J_iconst (v := (0 : Int32)) C dX5_isSettled_67 (by decide) ?_
        exact hRet (0 : Int32) _ _ dX5_isSettled_68
set_option maxHeartbeats 4000000 in
set_option maxRecDepth 100000 in
theorem jX5_isSettled_b32  {o0 : Int32} {σ : St} (C : Cxt p s m args c cX5_isSettled 2 wsX5_isSettled RX5 D [(cyI, .int), (cyZ, .boolean)] A) (hRet : ∀ (v : Int32) (pc : Nat) (lv : List (Nat × Value)), decode cX5_isSettled pc = .ok (.ireturn, 1) → J p l e ({ frames := 3, cells := 0, slots := 0, locals := 67 } : Room) s m args below meth c 2 D A (wM ad cyI cyZ) Q o0 (some v) σ pc lv [.int v]) (v1 : Int32) : J p l e ({ frames := 3, cells := 0, slots := 0, locals := 67 } : Room) s m args below meth c 2 D A (wM ad cyI cyZ) Q o0 (fX5_isSettled_b32 v1 σ) σ 32 [(0, .ref (ad 0)), (1, .int v1)] [] := by
  unfold fX5_isSettled_b32
  refine J_iconst (v := (0 : Int32)) C dX5_isSettled_32 (by decide) ?_
  refine J_istore_n C rfl dX5_isSettled_33 (by decide) rfl ?_
  refine J_lv [1, 0] rfl ?_
  exact jX5_isSettled_L34 C hRet fuel (0 : Int32)
set_option maxHeartbeats 4000000 in
set_option maxRecDepth 100000 in
theorem jX5_isSettled_b26 {K2 : Int32 → Option (Int32)} {o0 : Int32} {σ : St} (C : Cxt p s m args c cX5_isSettled 2 wsX5_isSettled RX5 D [(cyI, .int), (cyZ, .boolean)] A) (hRet : ∀ (v : Int32) (pc : Nat) (lv : List (Nat × Value)), decode cX5_isSettled pc = .ok (.ireturn, 1) → J p l e ({ frames := 3, cells := 0, slots := 0, locals := 67 } : Room) s m args below meth c 2 D A (wM ad cyI cyZ) Q o0 (some v) σ pc lv [.int v]) (v1 : Int32) (hK2 : ∀ (v1 : Int32), J p l e ({ frames := 3, cells := 0, slots := 0, locals := 67 } : Room) s m args below meth c 2 D A (wM ad cyI cyZ) Q o0 (K2 v1) σ 2 [(0, .ref (ad 0)), (1, .int v1)] []) : J p l e ({ frames := 3, cells := 0, slots := 0, locals := 67 } : Room) s m args below meth c 2 D A (wM ad cyI cyZ) Q o0 (fX5_isSettled_b26 K2 v1 σ) σ 26 [(0, .ref (ad 0)), (1, .int v1)] [] := by
  unfold fX5_isSettled_b26
  refine J_iinc (d := (1 : Int32)) C 1 rfl dX5_isSettled_26 (by decide) (by decide) rfl ?_
  refine J_goto (tgt := 2) C dX5_isSettled_29 (by decide) ?_
  refine J_lv [1, 0] rfl ?_
  exact hK2 (v1 + (1 : Int32))
set_option maxHeartbeats 4000000 in
set_option maxRecDepth 100000 in
theorem jX5_isSettled_L2  {o0 : Int32} {σ : St} (C : Cxt p s m args c cX5_isSettled 2 wsX5_isSettled RX5 D [(cyI, .int), (cyZ, .boolean)] A) (hRet : ∀ (v : Int32) (pc : Nat) (lv : List (Nat × Value)), decode cX5_isSettled pc = .ok (.ireturn, 1) → J p l e ({ frames := 3, cells := 0, slots := 0, locals := 67 } : Room) s m args below meth c 2 D A (wM ad cyI cyZ) Q o0 (some v) σ pc lv [.int v]) (n : Nat) (v1 : Int32) : J p l e ({ frames := 3, cells := 0, slots := 0, locals := 67 } : Room) s m args below meth c 2 D A (wM ad cyI cyZ) Q o0 (loop1 (fX5_isSettled_b2 σ) n v1) σ 2 [(0, .ref (ad 0)), (1, .int v1)] [] := by
  refine J_loop1 (pc := 2) (fun v1 => [(0, .ref (ad 0)), (1, .int v1)]) (fX5_isSettled_b2 σ) ?_ n v1
  intro K2 hK2 v1
  unfold fX5_isSettled_b2
  refine J_iload_n C 1 rfl rfl dX5_isSettled_2 ?_
  refine J_bipush (v := (20 : Int32)) C dX5_isSettled_3 (by decide) ?_
  refine J_icmp_ge (tgt := 32) C dX5_isSettled_5 (by decide) ?_ ?_
  · exact jX5_isSettled_b32 C hRet v1
  · refine J_aload_n C 0 rfl rfl dX5_isSettled_8 ?_
    refine J_iload_n C 1 rfl rfl dX5_isSettled_9 ?_
    refine J_callP_V C [.int v1] 0 5 rfl rfl (fun zr zh => tX5_isConnected v1 σ zr zh) (cwV 1 C.1.2.2.2.2 gX5_isSettled_X5_isConnected rfl rfl rfl (by decide +kernel) ⟨Nat.le_of_ble_eq_true rfl, Nat.le_of_ble_eq_true rfl⟩) rfl rfl (Nat.le_of_ble_eq_true rfl) dX5_isSettled_10 (fun r1 => ?_)
    refine J_if_eq (tgt := 26) C dX5_isSettled_13 (by decide) ?_ ?_
    · exact jX5_isSettled_b26 C hRet v1 hK2
    · refine J_aload_n C 0 rfl rfl dX5_isSettled_16 ?_
      refine J_iload_n C 1 rfl rfl dX5_isSettled_17 ?_
      refine J_callP_V C [.int v1] 0 5 rfl rfl (fun zr zh => tX5_isPortSettled v1 σ zr zh) (cwV 1 C.1.2.2.2.2 gX5_isSettled_X5_isPortSettled rfl rfl rfl (by decide +kernel) ⟨Nat.le_of_ble_eq_true rfl, Nat.le_of_ble_eq_true rfl⟩) rfl rfl (Nat.le_of_ble_eq_true rfl) dX5_isSettled_18 (fun r2 => ?_)
      refine J_if_ne (tgt := 26) C dX5_isSettled_21 (by decide) ?_ ?_
      · exact jX5_isSettled_b26 C hRet v1 hK2
      · refine J_iconst (v := (0 : Int32)) C dX5_isSettled_24 (by decide) ?_
        exact hRet (0 : Int32) _ _ dX5_isSettled_25
set_option maxHeartbeats 4000000 in
set_option maxRecDepth 100000 in
theorem tX5_isSettled {l : Launch} {D : va_G} {ad : Nat → Nat} {cyI cyZ : ClassId} (σ : St) (r : Int32) (h : fX5_isSettled σ = some r) : MI l D [(cyI, .int), (cyZ, .boolean)] (wM ad cyI cyZ) yX5_isSettled wsX5_isSettled ({ frames := 3, cells := 0, slots := 0, locals := 67 } : Room) [.ref (ad 0)] σ r σ := by
  refine entryPI (own := RX5) r (by decide +kernel) rfl rfl (Nat.le_of_ble_eq_true rfl) (fX5_isSettled σ) h ?_
  intro p e s m below meth c Q A C hRet
  generalize ([.ref (ad 0)] : List Value).toArray = args at *
  show J p l e ({ frames := 3, cells := 0, slots := 0, locals := 67 } : Room) s m args below meth c 2 D A (wM ad cyI cyZ) Q r (fX5_isSettled σ) σ 0 [(0, .ref (ad 0))] []
  unfold fX5_isSettled
  refine J_iconst (v := (0 : Int32)) C dX5_isSettled_0 (by decide) ?_
  refine J_istore_n C rfl dX5_isSettled_1 (by decide) rfl ?_
  refine J_lv [1, 0] rfl ?_
  exact jX5_isSettled_L2 C hRet fuel (0 : Int32)
end
