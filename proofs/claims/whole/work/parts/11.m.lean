-- printed by wip/whole/walk.py
section
variable {p : Program} {l : Launch} {e : Env} {s : State} {m : MethodId} {args : Array Value} {below : List Frame} {meth : Method} {c : Code} {D : va_G} {A : Nat → Prop} {Q : State → Prop} {ad : Nat → Nat} {cyI cyZ : ClassId}
-- X5_setSilent
set_option maxHeartbeats 4000000 in
set_option maxRecDepth 100000 in
theorem jX5_setSilent_b26  {o0 : Int32 × St} (C : Cxt p s m args c cX5_setSilent 4 wsX5_setSilent RX5 D [(cyI, .int), (cyZ, .boolean)] A) (hRet : ∀ (v : Int32) (σ2 : St) (pc : Nat) (lv : List (Nat × Value)), decode cX5_setSilent pc = .ok (.ireturn, 1) → J p l e ({ frames := 2, cells := 0, slots := 0, locals := 43 } : Room) s m args below meth c 4 D A (wM ad cyI cyZ) Q o0 (some (v, σ2)) σ2 pc lv [.int v]) (σ : St) (v1 v2 t0 : Int32) : J p l e ({ frames := 2, cells := 0, slots := 0, locals := 43 } : Room) s m args below meth c 4 D A (wM ad cyI cyZ) Q o0 (fX5_setSilent_b26 v1 v2 t0 σ) σ 26 [(0, .ref (ad 0)), (1, .int v1), (2, .int v2)] [.int t0] := by
  unfold fX5_setSilent_b26
  refine J_istore_n C rfl dX5_setSilent_26 (by decide) rfl ?_
  refine J_aload_n C 1 rfl rfl dX5_setSilent_27 ?_
  refine J_get C 0 5 5 (C0 := RX5) (T := TX5) (N := 23) (by decide +kernel) rfl rfl (by decide) (by decide +kernel) rfl dX5_setSilent_28 ?_
  refine J_iload_n C 2 rfl rfl dX5_setSilent_31 ?_
  refine J_iload_n C 3 rfl rfl dX5_setSilent_32 ?_
  refine J_zast (σ' := up2 σ 3 v1.toNatClampNeg (vp_nar .boolean v2)) C 3 1 rfl rfl (wM_s3 _ _ _ _ _ _) dX5_setSilent_33 ?_
  refine J_iload_n C 0 rfl rfl dX5_setSilent_34 ?_
  exact hRet t0 (up2 σ 3 v1.toNatClampNeg (vp_nar .boolean v2)) _ _ dX5_setSilent_35
set_option maxHeartbeats 4000000 in
set_option maxRecDepth 100000 in
theorem tX5_setSilent {l : Launch} {D : va_G} {ad : Nat → Nat} {cyI cyZ : ClassId} (v1 v2 : Int32) (σ : St) (r : Int32) (σ1 : St) (h : fX5_setSilent v1 v2 σ = some (r, σ1)) : MI l D [(cyI, .int), (cyZ, .boolean)] (wM ad cyI cyZ) yX5_setSilent wsX5_setSilent ({ frames := 2, cells := 0, slots := 0, locals := 43 } : Room) [.ref (ad 0), .int v1, .int v2] σ r σ1 := by
  refine entryI (own := RX5) r σ1 (by decide +kernel) rfl rfl (Nat.le_of_ble_eq_true rfl) (fX5_setSilent v1 v2 σ) h ?_
  intro p e s m below meth c Q A C hRet
  generalize ([.ref (ad 0), .int v1, .int v2] : List Value).toArray = args at *
  show J p l e ({ frames := 2, cells := 0, slots := 0, locals := 43 } : Room) s m args below meth c 4 D A (wM ad cyI cyZ) Q (r, σ1) (fX5_setSilent v1 v2 σ) σ 0 [(0, .ref (ad 0)), (1, .int v1), (2, .int v2)] []
  unfold fX5_setSilent
  refine J_aload_n C 0 rfl rfl dX5_setSilent_0 ?_
  refine J_iload_n C 1 rfl rfl dX5_setSilent_1 ?_
  refine J_callP_V C [.int v1] 0 5 rfl rfl (fun zr zh => tX5_isHost v1 σ zr zh) (cwV 1 C.1.2.2.2.2 gX5_setSilent_X5_isHost rfl rfl rfl (by decide +kernel) ⟨Nat.le_of_ble_eq_true rfl, Nat.le_of_ble_eq_true rfl⟩) rfl rfl (Nat.le_of_ble_eq_true rfl) dX5_setSilent_2 (fun r1 => ?_)
  refine J_if_ne (tgt := 11) C dX5_setSilent_5 (by decide) ?_ ?_
  · refine J_aload_n C 0 rfl rfl dX5_setSilent_11 ?_
    refine J_get C 0 5 5 (C0 := RX5) (T := TX5) (N := 23) (by decide +kernel) rfl rfl (by decide) (by decide +kernel) rfl dX5_setSilent_12 ?_
    refine J_iload_n C 1 rfl rfl dX5_setSilent_15 ?_
    refine J_zald C 3 1 rfl rfl dX5_setSilent_16 ?_
    refine J_iload_n C 2 rfl rfl dX5_setSilent_17 ?_
    refine J_icmp_ne (tgt := 25) C dX5_setSilent_18 (by decide) ?_ ?_
    · refine J_iconst (v := (1 : Int32)) C dX5_setSilent_25 (by decide) ?_
      exact jX5_setSilent_b26 C hRet σ v1 v2 (1 : Int32)
    · refine J_iconst (v := (0 : Int32)) C dX5_setSilent_21 (by decide) ?_
      refine J_goto (tgt := 26) C dX5_setSilent_22 (by decide) ?_
      exact jX5_setSilent_b26 C hRet σ v1 v2 (0 : Int32)
  · refine J_bipush (v := (-2 : Int32)) C dX5_setSilent_8 (by decide) ?_
    exact hRet (-2 : Int32) σ _ _ dX5_setSilent_10
-- X5_loseNext
set_option maxHeartbeats 4000000 in
set_option maxRecDepth 100000 in
theorem jX5_loseNext_b42  {o0 : Int32 × St} (C : Cxt p s m args c cX5_loseNext 5 wsX5_loseNext RX5 D [(cyI, .int), (cyZ, .boolean)] A) (hRet : ∀ (v : Int32) (σ2 : St) (pc : Nat) (lv : List (Nat × Value)), decode cX5_loseNext pc = .ok (.ireturn, 1) → J p l e ({ frames := 2, cells := 0, slots := 0, locals := 44 } : Room) s m args below meth c 5 D A (wM ad cyI cyZ) Q o0 (some (v, σ2)) σ2 pc lv [.int v]) (σ : St) (v1 v2 v3 t0 : Int32) : J p l e ({ frames := 2, cells := 0, slots := 0, locals := 44 } : Room) s m args below meth c 5 D A (wM ad cyI cyZ) Q o0 (fX5_loseNext_b42 v1 v2 v3 t0 σ) σ 42 [(0, .ref (ad 0)), (1, .int v1), (2, .int v2), (3, .int v3)] [.int t0] := by
  unfold fX5_loseNext_b42
  refine J_istore C dX5_loseNext_42 (by decide) rfl ?_
  refine J_aload_n C 1 rfl rfl dX5_loseNext_44 ?_
  refine J_get C 0 14 5 (C0 := RX5) (T := TX5) (N := 23) (by decide +kernel) rfl rfl (by decide) (by decide +kernel) rfl dX5_loseNext_45 ?_
  refine J_iload_n C 4 rfl rfl dX5_loseNext_48 ?_
  refine J_iconst (v := (1 : Int32)) C dX5_loseNext_49 (by decide) ?_
  refine J_zast (σ' := up2 σ 9 v3.toNatClampNeg (vp_nar .boolean (1 : Int32))) C 9 1 rfl rfl (wM_s9 _ _ _ _ _ _) dX5_loseNext_50 ?_
  refine J_iload C 0 rfl dX5_loseNext_51 ?_
  exact hRet t0 (up2 σ 9 v3.toNatClampNeg (vp_nar .boolean (1 : Int32))) _ _ dX5_loseNext_53
set_option maxHeartbeats 4000000 in
set_option maxRecDepth 100000 in
theorem tX5_loseNext {l : Launch} {D : va_G} {ad : Nat → Nat} {cyI cyZ : ClassId} (v1 v2 : Int32) (σ : St) (r : Int32) (σ1 : St) (h : fX5_loseNext v1 v2 σ = some (r, σ1)) : MI l D [(cyI, .int), (cyZ, .boolean)] (wM ad cyI cyZ) yX5_loseNext wsX5_loseNext ({ frames := 2, cells := 0, slots := 0, locals := 44 } : Room) [.ref (ad 0), .int v1, .int v2] σ r σ1 := by
  refine entryI (own := RX5) r σ1 (by decide +kernel) rfl rfl (Nat.le_of_ble_eq_true rfl) (fX5_loseNext v1 v2 σ) h ?_
  intro p e s m below meth c Q A C hRet
  generalize ([.ref (ad 0), .int v1, .int v2] : List Value).toArray = args at *
  show J p l e ({ frames := 2, cells := 0, slots := 0, locals := 44 } : Room) s m args below meth c 5 D A (wM ad cyI cyZ) Q (r, σ1) (fX5_loseNext v1 v2 σ) σ 0 [(0, .ref (ad 0)), (1, .int v1), (2, .int v2)] []
  unfold fX5_loseNext
  refine J_aload_n C 0 rfl rfl dX5_loseNext_0 ?_
  refine J_iload_n C 1 rfl rfl dX5_loseNext_1 ?_
  refine J_iload_n C 2 rfl rfl dX5_loseNext_2 ?_
  refine J_callP_V C [.int v1, .int v2] 0 5 rfl rfl (fun zr zh => tX5_isPort v1 v2 σ zr zh) (cwV 2 C.1.2.2.2.2 gX5_loseNext_X5_isPort rfl rfl rfl (by decide +kernel) ⟨Nat.le_of_ble_eq_true rfl, Nat.le_of_ble_eq_true rfl⟩) rfl rfl (Nat.le_of_ble_eq_true rfl) dX5_loseNext_3 (fun r1 => ?_)
  refine J_if_ne (tgt := 11) C dX5_loseNext_6 (by decide) ?_ ?_
  · refine J_iconst (v := (4 : Int32)) C dX5_loseNext_11 (by decide) ?_
    refine J_iload_n C 1 rfl rfl dX5_loseNext_12 ?_
    refine J_imul C dX5_loseNext_13 ?_
    refine J_iload_n C 2 rfl rfl dX5_loseNext_14 ?_
    refine J_iadd C dX5_loseNext_15 ?_
    refine J_istore_n C rfl dX5_loseNext_16 (by decide) rfl ?_
    refine J_aload_n C 1 rfl rfl dX5_loseNext_17 ?_
    refine J_iload_n C 0 rfl rfl dX5_loseNext_18 ?_
    refine J_callP_V C [.int (((4 : Int32) * v1) + v2)] 0 5 rfl rfl (fun zr zh => tX5_isLinked (((4 : Int32) * v1) + v2) σ zr zh) (cwV 1 C.1.2.2.2.2 gX5_loseNext_X5_isLinked rfl rfl rfl (by decide +kernel) ⟨Nat.le_of_ble_eq_true rfl, Nat.le_of_ble_eq_true rfl⟩) rfl rfl (Nat.le_of_ble_eq_true rfl) dX5_loseNext_19 (fun r2 => ?_)
    refine J_if_ne (tgt := 28) C dX5_loseNext_22 (by decide) ?_ ?_
    · refine J_aload_n C 1 rfl rfl dX5_loseNext_28 ?_
      refine J_get C 0 14 5 (C0 := RX5) (T := TX5) (N := 23) (by decide +kernel) rfl rfl (by decide) (by decide +kernel) rfl dX5_loseNext_29 ?_
      refine J_iload_n C 0 rfl rfl dX5_loseNext_32 ?_
      refine J_zald C 9 1 rfl rfl dX5_loseNext_33 ?_
      refine J_if_eq (tgt := 41) C dX5_loseNext_34 (by decide) ?_ ?_
      · refine J_iconst (v := (1 : Int32)) C dX5_loseNext_41 (by decide) ?_
        refine J_lv [1, 2, 3, 0] rfl ?_
        exact jX5_loseNext_b42 C hRet σ v1 v2 (((4 : Int32) * v1) + v2) (1 : Int32)
      · refine J_iconst (v := (0 : Int32)) C dX5_loseNext_37 (by decide) ?_
        refine J_goto (tgt := 42) C dX5_loseNext_38 (by decide) ?_
        refine J_lv [1, 2, 3, 0] rfl ?_
        exact jX5_loseNext_b42 C hRet σ v1 v2 (((4 : Int32) * v1) + v2) (0 : Int32)
    · refine J_bipush (v := (-7 : Int32)) C dX5_loseNext_25 (by decide) ?_
      exact hRet (-7 : Int32) σ _ _ dX5_loseNext_27
  · refine J_iconst (v := (-1 : Int32)) C dX5_loseNext_9 (by decide) ?_
    exact hRet (-1 : Int32) σ _ _ dX5_loseNext_10
-- X5_ages
set_option maxHeartbeats 4000000 in
set_option maxRecDepth 100000 in
theorem jX5_ages_b66  {o0 : St} (C : Cxt p s m args c cX5_ages 3 wsX5_ages RX5 D [(cyI, .int), (cyZ, .boolean)] A) (hRet : ∀ (σ2 : St) (pc : Nat) (lv : List (Nat × Value)), decode cX5_ages pc = .ok (.return_, 1) → J p l e ({ frames := 0, cells := 0, slots := 0, locals := 0 } : Room) s m args below meth c 3 D A (wM ad cyI cyZ) Q o0 (some σ2) σ2 pc lv []) (σ : St) (v1 v2 : Int32) : J p l e ({ frames := 0, cells := 0, slots := 0, locals := 0 } : Room) s m args below meth c 3 D A (wM ad cyI cyZ) Q o0 (fX5_ages_b66 v1 v2 σ) σ 66 [(0, .ref (ad 0)), (1, .int v1), (2, .int v2)] [] := by
  unfold fX5_ages_b66
  refine J_aload_n C 0 rfl rfl dX5_ages_66 ?_
  refine J_get C 0 13 5 (C0 := RX5) (T := TX5) (N := 23) (by decide +kernel) rfl rfl (by decide) (by decide +kernel) rfl dX5_ages_67 ?_
  refine J_iload_n C 1 rfl rfl dX5_ages_70 ?_
  refine J_iald C 8 0 rfl rfl dX5_ages_71 ?_
  refine J_if_le (tgt := 111) C dX5_ages_72 (by decide) ?_ ?_
  · exact hRet σ _ _ dX5_ages_111
  · refine J_aload_n C 0 rfl rfl dX5_ages_75 ?_
    refine J_get C 0 13 5 (C0 := RX5) (T := TX5) (N := 23) (by decide +kernel) rfl rfl (by decide) (by decide +kernel) rfl dX5_ages_76 ?_
    refine J_iload_n C 1 rfl rfl dX5_ages_79 ?_
    refine J_dup2 C rfl rfl dX5_ages_80 ?_
    refine J_iald C 8 0 rfl rfl dX5_ages_81 ?_
    refine J_iconst (v := (1 : Int32)) C dX5_ages_82 (by decide) ?_
    refine J_isub C dX5_ages_83 ?_
    refine J_iast (σ' := up2 σ 8 v1.toNatClampNeg ((σ 8 v1.toNatClampNeg) - (1 : Int32))) C 8 0 rfl rfl (wM_s8 _ _ _ _ _ _) dX5_ages_84 ?_
    refine J_aload_n C 0 rfl rfl dX5_ages_85 ?_
    refine J_get C 0 13 5 (C0 := RX5) (T := TX5) (N := 23) (by decide +kernel) rfl rfl (by decide) (by decide +kernel) rfl dX5_ages_86 ?_
    refine J_iload_n C 1 rfl rfl dX5_ages_89 ?_
    refine J_iald C 8 0 rfl rfl dX5_ages_90 ?_
    refine J_if_ne (tgt := 111) C dX5_ages_91 (by decide) ?_ ?_
    · exact hRet (up2 σ 8 v1.toNatClampNeg ((σ 8 v1.toNatClampNeg) - (1 : Int32))) _ _ dX5_ages_111
    · refine J_aload_n C 0 rfl rfl dX5_ages_94 ?_
      refine J_get C 0 17 5 (C0 := RX5) (T := TX5) (N := 23) (by decide +kernel) rfl rfl (by decide) (by decide +kernel) rfl dX5_ages_95 ?_
      refine J_iload_n C 1 rfl rfl dX5_ages_98 ?_
      refine J_iconst (v := (1 : Int32)) C dX5_ages_99 (by decide) ?_
      refine J_zast (σ' := up2 (up2 σ 8 v1.toNatClampNeg ((σ 8 v1.toNatClampNeg) - (1 : Int32))) 12 v1.toNatClampNeg (vp_nar .boolean (1 : Int32))) C 12 1 rfl rfl (wM_s12 _ _ _ _ _ _) dX5_ages_100 ?_
      refine J_aload_n C 0 rfl rfl dX5_ages_101 ?_
      refine J_get C 0 13 5 (C0 := RX5) (T := TX5) (N := 23) (by decide +kernel) rfl rfl (by decide) (by decide +kernel) rfl dX5_ages_102 ?_
      refine J_iload_n C 1 rfl rfl dX5_ages_105 ?_
      refine J_aload_n C 0 rfl rfl dX5_ages_106 ?_
      refine J_get C 0 7 5 (C0 := RX5) (T := TX5) (N := 23) (by decide +kernel) rfl rfl (by decide) (by decide +kernel) rfl dX5_ages_107 ?_
      refine J_iast (σ' := up2 (up2 (up2 σ 8 v1.toNatClampNeg ((σ 8 v1.toNatClampNeg) - (1 : Int32))) 12 v1.toNatClampNeg (vp_nar .boolean (1 : Int32))) 8 v1.toNatClampNeg ((up2 (up2 σ 8 v1.toNatClampNeg ((σ 8 v1.toNatClampNeg) - (1 : Int32))) 12 v1.toNatClampNeg (vp_nar .boolean (1 : Int32))) 0 7)) C 8 0 rfl rfl (wM_s8 _ _ _ _ _ _) dX5_ages_110 ?_
      exact hRet (up2 (up2 (up2 σ 8 v1.toNatClampNeg ((σ 8 v1.toNatClampNeg) - (1 : Int32))) 12 v1.toNatClampNeg (vp_nar .boolean (1 : Int32))) 8 v1.toNatClampNeg ((up2 (up2 σ 8 v1.toNatClampNeg ((σ 8 v1.toNatClampNeg) - (1 : Int32))) 12 v1.toNatClampNeg (vp_nar .boolean (1 : Int32))) 0 7)) _ _ dX5_ages_111
set_option maxHeartbeats 4000000 in
set_option maxRecDepth 100000 in
theorem jX5_ages_b60 {K11 : Int32 → St → Option (St)} {o0 : St} (C : Cxt p s m args c cX5_ages 3 wsX5_ages RX5 D [(cyI, .int), (cyZ, .boolean)] A) (hRet : ∀ (σ2 : St) (pc : Nat) (lv : List (Nat × Value)), decode cX5_ages pc = .ok (.return_, 1) → J p l e ({ frames := 0, cells := 0, slots := 0, locals := 0 } : Room) s m args below meth c 3 D A (wM ad cyI cyZ) Q o0 (some σ2) σ2 pc lv []) (σ : St) (v1 v2 : Int32) (hK11 : ∀ (v2 : Int32) (σ : St), J p l e ({ frames := 0, cells := 0, slots := 0, locals := 0 } : Room) s m args below meth c 3 D A (wM ad cyI cyZ) Q o0 (K11 v2 σ) σ 11 [(0, .ref (ad 0)), (1, .int v1), (2, .int v2)] []) : J p l e ({ frames := 0, cells := 0, slots := 0, locals := 0 } : Room) s m args below meth c 3 D A (wM ad cyI cyZ) Q o0 (fX5_ages_b60 K11 v1 v2 σ) σ 60 [(0, .ref (ad 0)), (1, .int v1), (2, .int v2)] [] := by
  unfold fX5_ages_b60
  refine J_iinc (d := (1 : Int32)) C 2 rfl dX5_ages_60 (by decide) (by decide) rfl ?_
  refine J_goto (tgt := 11) C dX5_ages_63 (by decide) ?_
  refine J_lv [1, 2, 0] rfl ?_
  exact hK11 (v2 + (1 : Int32)) σ
set_option maxHeartbeats 4000000 in
set_option maxRecDepth 100000 in
theorem jX5_ages_b59 {K11 : Int32 → St → Option (St)} {o0 : St} (C : Cxt p s m args c cX5_ages 3 wsX5_ages RX5 D [(cyI, .int), (cyZ, .boolean)] A) (hRet : ∀ (σ2 : St) (pc : Nat) (lv : List (Nat × Value)), decode cX5_ages pc = .ok (.return_, 1) → J p l e ({ frames := 0, cells := 0, slots := 0, locals := 0 } : Room) s m args below meth c 3 D A (wM ad cyI cyZ) Q o0 (some σ2) σ2 pc lv []) (σ : St) (v1 v2 t0 t1 : Int32) (hK11 : ∀ (v2 : Int32) (σ : St), J p l e ({ frames := 0, cells := 0, slots := 0, locals := 0 } : Room) s m args below meth c 3 D A (wM ad cyI cyZ) Q o0 (K11 v2 σ) σ 11 [(0, .ref (ad 0)), (1, .int v1), (2, .int v2)] []) : J p l e ({ frames := 0, cells := 0, slots := 0, locals := 0 } : Room) s m args below meth c 3 D A (wM ad cyI cyZ) Q o0 (fX5_ages_b59 K11 v1 v2 t0 t1 σ) σ 59 [(0, .ref (ad 0)), (1, .int v1), (2, .int v2)] [.int t0, .int t1, .ref (ad 4)] := by
  unfold fX5_ages_b59
  refine J_iast (σ' := up2 σ 4 t1.toNatClampNeg t0) C 4 0 rfl rfl (wM_s4 _ _ _ _ _ _) dX5_ages_59 ?_
  exact jX5_ages_b60 C hRet (up2 σ 4 t1.toNatClampNeg t0) v1 v2 hK11
set_option maxHeartbeats 4000000 in
set_option maxRecDepth 100000 in
theorem jX5_ages_L11  {o0 : St} (C : Cxt p s m args c cX5_ages 3 wsX5_ages RX5 D [(cyI, .int), (cyZ, .boolean)] A) (hRet : ∀ (σ2 : St) (pc : Nat) (lv : List (Nat × Value)), decode cX5_ages pc = .ok (.return_, 1) → J p l e ({ frames := 0, cells := 0, slots := 0, locals := 0 } : Room) s m args below meth c 3 D A (wM ad cyI cyZ) Q o0 (some σ2) σ2 pc lv []) (v1 : Int32) (n : Nat) (v2 : Int32) (σ : St) : J p l e ({ frames := 0, cells := 0, slots := 0, locals := 0 } : Room) s m args below meth c 3 D A (wM ad cyI cyZ) Q o0 (loop1s (fX5_ages_b11 v1) n v2 σ) σ 11 [(0, .ref (ad 0)), (1, .int v1), (2, .int v2)] [] := by
  refine J_loop1s (pc := 11) (fun v2 => [(0, .ref (ad 0)), (1, .int v1), (2, .int v2)]) (fX5_ages_b11 v1) ?_ n v2 σ
  intro K11 hK11 v2 σ
  unfold fX5_ages_b11
  refine J_iload_n C 2 rfl rfl dX5_ages_11 ?_
  refine J_iconst (v := (4 : Int32)) C dX5_ages_12 (by decide) ?_
  refine J_iload_n C 1 rfl rfl dX5_ages_13 ?_
  refine J_imul C dX5_ages_14 ?_
  refine J_iconst (v := (4 : Int32)) C dX5_ages_15 (by decide) ?_
  refine J_iadd C dX5_ages_16 ?_
  refine J_icmp_ge (tgt := 66) C dX5_ages_17 (by decide) ?_ ?_
  · exact jX5_ages_b66 C hRet σ v1 v2
  · refine J_aload_n C 0 rfl rfl dX5_ages_20 ?_
    refine J_get C 0 9 5 (C0 := RX5) (T := TX5) (N := 23) (by decide +kernel) rfl rfl (by decide) (by decide +kernel) rfl dX5_ages_21 ?_
    refine J_iload_n C 2 rfl rfl dX5_ages_24 ?_
    refine J_iald C 4 0 rfl rfl dX5_ages_25 ?_
    refine J_iconst (v := (2 : Int32)) C dX5_ages_26 (by decide) ?_
    refine J_icmp_ne (tgt := 60) C dX5_ages_27 (by decide) ?_ ?_
    · exact jX5_ages_b60 C hRet σ v1 v2 hK11
    · refine J_aload_n C 0 rfl rfl dX5_ages_30 ?_
      refine J_get C 0 10 5 (C0 := RX5) (T := TX5) (N := 23) (by decide +kernel) rfl rfl (by decide) (by decide +kernel) rfl dX5_ages_31 ?_
      refine J_iload_n C 2 rfl rfl dX5_ages_34 ?_
      refine J_dup2 C rfl rfl dX5_ages_35 ?_
      refine J_iald C 5 0 rfl rfl dX5_ages_36 ?_
      refine J_iconst (v := (1 : Int32)) C dX5_ages_37 (by decide) ?_
      refine J_isub C dX5_ages_38 ?_
      refine J_iast (σ' := up2 σ 5 v2.toNatClampNeg ((σ 5 v2.toNatClampNeg) - (1 : Int32))) C 5 0 rfl rfl (wM_s5 _ _ _ _ _ _) dX5_ages_39 ?_
      refine J_aload_n C 0 rfl rfl dX5_ages_40 ?_
      refine J_get C 0 9 5 (C0 := RX5) (T := TX5) (N := 23) (by decide +kernel) rfl rfl (by decide) (by decide +kernel) rfl dX5_ages_41 ?_
      refine J_iload_n C 2 rfl rfl dX5_ages_44 ?_
      refine J_aload_n C 0 rfl rfl dX5_ages_45 ?_
      refine J_get C 0 10 5 (C0 := RX5) (T := TX5) (N := 23) (by decide +kernel) rfl rfl (by decide) (by decide +kernel) rfl dX5_ages_46 ?_
      refine J_iload_n C 2 rfl rfl dX5_ages_49 ?_
      refine J_iald C 5 0 rfl rfl dX5_ages_50 ?_
      refine J_if_ne (tgt := 58) C dX5_ages_51 (by decide) ?_ ?_
      · refine J_iconst (v := (2 : Int32)) C dX5_ages_58 (by decide) ?_
        exact jX5_ages_b59 C hRet (up2 σ 5 v2.toNatClampNeg ((σ 5 v2.toNatClampNeg) - (1 : Int32))) v1 v2 (2 : Int32) v2 hK11
      · refine J_iconst (v := (0 : Int32)) C dX5_ages_54 (by decide) ?_
        refine J_goto (tgt := 59) C dX5_ages_55 (by decide) ?_
        exact jX5_ages_b59 C hRet (up2 σ 5 v2.toNatClampNeg ((σ 5 v2.toNatClampNeg) - (1 : Int32))) v1 v2 (0 : Int32) v2 hK11
set_option maxHeartbeats 4000000 in
set_option maxRecDepth 100000 in
theorem tX5_ages {l : Launch} {D : va_G} {ad : Nat → Nat} {cyI cyZ : ClassId} (v1 : Int32) (σ : St) (σ1 : St) (h : fX5_ages v1 σ = some σ1) : MV l D [(cyI, .int), (cyZ, .boolean)] (wM ad cyI cyZ) yX5_ages wsX5_ages ({ frames := 0, cells := 0, slots := 0, locals := 0 } : Room) [.ref (ad 0), .int v1] σ σ1 := by
  refine entryV (own := RX5) σ1 (by decide +kernel) rfl rfl (Nat.le_of_ble_eq_true rfl) (fX5_ages v1 σ) h ?_
  intro p e s m below meth c Q A C hRet
  generalize ([.ref (ad 0), .int v1] : List Value).toArray = args at *
  show J p l e ({ frames := 0, cells := 0, slots := 0, locals := 0 } : Room) s m args below meth c 3 D A (wM ad cyI cyZ) Q σ1 (fX5_ages v1 σ) σ 0 [(0, .ref (ad 0)), (1, .int v1)] []
  unfold fX5_ages
  refine J_aload_n C 0 rfl rfl dX5_ages_0 ?_
  refine J_get C 0 17 5 (C0 := RX5) (T := TX5) (N := 23) (by decide +kernel) rfl rfl (by decide) (by decide +kernel) rfl dX5_ages_1 ?_
  refine J_iload_n C 1 rfl rfl dX5_ages_4 ?_
  refine J_iconst (v := (0 : Int32)) C dX5_ages_5 (by decide) ?_
  refine J_zast (σ' := up2 σ 12 v1.toNatClampNeg (vp_nar .boolean (0 : Int32))) C 12 1 rfl rfl (wM_s12 _ _ _ _ _ _) dX5_ages_6 ?_
  refine J_iconst (v := (4 : Int32)) C dX5_ages_7 (by decide) ?_
  refine J_iload_n C 1 rfl rfl dX5_ages_8 ?_
  refine J_imul C dX5_ages_9 ?_
  refine J_istore_n C rfl dX5_ages_10 (by decide) rfl ?_
  refine J_lv [1, 2, 0] rfl ?_
  exact jX5_ages_L11 C hRet v1 fuel ((4 : Int32) * v1) (up2 σ 12 v1.toNatClampNeg (vp_nar .boolean (0 : Int32)))
-- X5_isWanted
set_option maxHeartbeats 4000000 in
set_option maxRecDepth 100000 in
theorem jX5_isWanted_b45 {K6 : Int32 → Option (Int32)} {o0 : Int32} {σ : St} (C : Cxt p s m args c cX5_isWanted 4 wsX5_isWanted RX5 D [(cyI, .int), (cyZ, .boolean)] A) (hRet : ∀ (v : Int32) (pc : Nat) (lv : List (Nat × Value)), narrow .boolean (.int v) = .int v → decode cX5_isWanted pc = .ok (.ireturn, 1) → J p l e ({ frames := 1, cells := 0, slots := 0, locals := 21 } : Room) s m args below meth c 4 D A (wM ad cyI cyZ) Q o0 (some v) σ pc lv [.int v]) (v1 v2 v3 : Int32) (hK6 : ∀ (v3 : Int32), J p l e ({ frames := 1, cells := 0, slots := 0, locals := 21 } : Room) s m args below meth c 4 D A (wM ad cyI cyZ) Q o0 (K6 v3) σ 6 [(0, .ref (ad 0)), (1, .int v1), (2, .int v2), (3, .int v3)] []) : J p l e ({ frames := 1, cells := 0, slots := 0, locals := 21 } : Room) s m args below meth c 4 D A (wM ad cyI cyZ) Q o0 (fX5_isWanted_b45 K6 v1 v2 v3 σ) σ 45 [(0, .ref (ad 0)), (1, .int v1), (2, .int v2), (3, .int v3)] [] := by
  unfold fX5_isWanted_b45
  refine J_iinc (d := (1 : Int32)) C 3 rfl dX5_isWanted_45 (by decide) (by decide) rfl ?_
  refine J_goto (tgt := 6) C dX5_isWanted_48 (by decide) ?_
  refine J_lv [1, 2, 3, 0] rfl ?_
  exact hK6 (v3 + (1 : Int32))
set_option maxHeartbeats 4000000 in
set_option maxRecDepth 100000 in
theorem jX5_isWanted_L6  {o0 : Int32} {σ : St} (C : Cxt p s m args c cX5_isWanted 4 wsX5_isWanted RX5 D [(cyI, .int), (cyZ, .boolean)] A) (hRet : ∀ (v : Int32) (pc : Nat) (lv : List (Nat × Value)), narrow .boolean (.int v) = .int v → decode cX5_isWanted pc = .ok (.ireturn, 1) → J p l e ({ frames := 1, cells := 0, slots := 0, locals := 21 } : Room) s m args below meth c 4 D A (wM ad cyI cyZ) Q o0 (some v) σ pc lv [.int v]) (v1 v2 : Int32) (n : Nat) (v3 : Int32) : J p l e ({ frames := 1, cells := 0, slots := 0, locals := 21 } : Room) s m args below meth c 4 D A (wM ad cyI cyZ) Q o0 (loop1 (fX5_isWanted_b6 v1 v2 σ) n v3) σ 6 [(0, .ref (ad 0)), (1, .int v1), (2, .int v2), (3, .int v3)] [] := by
  refine J_loop1 (pc := 6) (fun v3 => [(0, .ref (ad 0)), (1, .int v1), (2, .int v2), (3, .int v3)]) (fX5_isWanted_b6 v1 v2 σ) ?_ n v3
  intro K6 hK6 v3
  unfold fX5_isWanted_b6
  refine J_iload_n C 3 rfl rfl dX5_isWanted_6 ?_
  refine J_iload_n C 1 rfl rfl dX5_isWanted_7 ?_
  refine J_iconst (v := (4 : Int32)) C dX5_isWanted_8 (by decide) ?_
  refine J_idiv C (by decide) dX5_isWanted_9 ?_
  refine J_iconst (v := (4 : Int32)) C dX5_isWanted_10 (by decide) ?_
  refine J_imul C dX5_isWanted_11 ?_
  refine J_iconst (v := (4 : Int32)) C dX5_isWanted_12 (by decide) ?_
  refine J_iadd C dX5_isWanted_13 ?_
  refine J_icmp_ge (tgt := 51) C dX5_isWanted_14 (by decide) ?_ ?_
  · refine J_iconst (v := (0 : Int32)) C dX5_isWanted_51 (by decide) ?_
    exact hRet (0 : Int32) _ _ (by decide) dX5_isWanted_52
  · refine J_iload_n C 3 rfl rfl dX5_isWanted_17 ?_
    refine J_iload_n C 1 rfl rfl dX5_isWanted_18 ?_
    refine J_icmp_eq (tgt := 45) C dX5_isWanted_19 (by decide) ?_ ?_
    · exact jX5_isWanted_b45 C hRet v1 v2 v3 hK6
    · refine J_aload_n C 0 rfl rfl dX5_isWanted_22 ?_
      refine J_iload_n C 3 rfl rfl dX5_isWanted_23 ?_
      refine J_callP_V C [.int v3] 0 5 rfl rfl (fun zr zh => tX5_isConnected v3 σ zr zh) (cwV 1 C.1.2.2.2.2 gX5_isWanted_X5_isConnected rfl rfl rfl (by decide +kernel) ⟨Nat.le_of_ble_eq_true rfl, Nat.le_of_ble_eq_true rfl⟩) rfl rfl (Nat.le_of_ble_eq_true rfl) dX5_isWanted_24 (fun r1 => ?_)
      refine J_if_eq (tgt := 45) C dX5_isWanted_27 (by decide) ?_ ?_
      · exact jX5_isWanted_b45 C hRet v1 v2 v3 hK6
      · refine J_aload_n C 0 rfl rfl dX5_isWanted_30 ?_
        refine J_get C 0 9 5 (C0 := RX5) (T := TX5) (N := 23) (by decide +kernel) rfl rfl (by decide) (by decide +kernel) rfl dX5_isWanted_31 ?_
        refine J_iconst (v := (4 : Int32)) C dX5_isWanted_34 (by decide) ?_
        refine J_iload_n C 3 rfl rfl dX5_isWanted_35 ?_
        refine J_imul C dX5_isWanted_36 ?_
        refine J_iload_n C 2 rfl rfl dX5_isWanted_37 ?_
        refine J_iadd C dX5_isWanted_38 ?_
        refine J_iald C 4 0 rfl rfl dX5_isWanted_39 ?_
        refine J_if_eq (tgt := 45) C dX5_isWanted_40 (by decide) ?_ ?_
        · exact jX5_isWanted_b45 C hRet v1 v2 v3 hK6
        · refine J_iconst (v := (1 : Int32)) C dX5_isWanted_43 (by decide) ?_
          exact hRet (1 : Int32) _ _ (by decide) dX5_isWanted_44
set_option maxHeartbeats 4000000 in
set_option maxRecDepth 100000 in
theorem tX5_isWanted {l : Launch} {D : va_G} {ad : Nat → Nat} {cyI cyZ : ClassId} (v1 v2 : Int32) (σ : St) (r : Int32) (h : fX5_isWanted v1 v2 σ = some r) : MI l D [(cyI, .int), (cyZ, .boolean)] (wM ad cyI cyZ) yX5_isWanted wsX5_isWanted ({ frames := 1, cells := 0, slots := 0, locals := 21 } : Room) [.ref (ad 0), .int v1, .int v2] σ r σ := by
  refine entryPZ (own := RX5) r (by decide +kernel) rfl rfl (Nat.le_of_ble_eq_true rfl) (fX5_isWanted v1 v2 σ) h ?_
  intro p e s m below meth c Q A C hRet
  generalize ([.ref (ad 0), .int v1, .int v2] : List Value).toArray = args at *
  show J p l e ({ frames := 1, cells := 0, slots := 0, locals := 21 } : Room) s m args below meth c 4 D A (wM ad cyI cyZ) Q r (fX5_isWanted v1 v2 σ) σ 0 [(0, .ref (ad 0)), (1, .int v1), (2, .int v2)] []
  unfold fX5_isWanted
  refine J_iload_n C 1 rfl rfl dX5_isWanted_0 ?_
  refine J_iconst (v := (4 : Int32)) C dX5_isWanted_1 (by decide) ?_
  refine J_idiv C (by decide) dX5_isWanted_2 ?_
  refine J_iconst (v := (4 : Int32)) C dX5_isWanted_3 (by decide) ?_
  refine J_imul C dX5_isWanted_4 ?_
  refine J_istore_n C rfl dX5_isWanted_5 (by decide) rfl ?_
  refine J_lv [1, 2, 3, 0] rfl ?_
  exact jX5_isWanted_L6 C hRet v1 v2 fuel ((v1 / (4 : Int32)) * (4 : Int32))
-- X5_propagates
set_option maxHeartbeats 4000000 in
set_option maxRecDepth 100000 in
theorem jX5_propagates_b79 {K2 : Int32 → St → Option (St)} {o0 : St} (C : Cxt p s m args c cX5_propagates 5 wsX5_propagates RX5 D [(cyI, .int), (cyZ, .boolean)] A) (hRet : ∀ (σ2 : St) (pc : Nat) (lv : List (Nat × Value)), decode cX5_propagates pc = .ok (.return_, 1) → J p l e ({ frames := 2, cells := 0, slots := 0, locals := 44 } : Room) s m args below meth c 5 D A (wM ad cyI cyZ) Q o0 (some σ2) σ2 pc lv []) (σ : St) (v1 v2 v3 v4 : Int32) (hK2 : ∀ (v2 : Int32) (σ : St), J p l e ({ frames := 2, cells := 0, slots := 0, locals := 44 } : Room) s m args below meth c 5 D A (wM ad cyI cyZ) Q o0 (K2 v2 σ) σ 2 [(0, .ref (ad 0)), (1, .int v1), (2, .int v2)] []) : J p l e ({ frames := 2, cells := 0, slots := 0, locals := 44 } : Room) s m args below meth c 5 D A (wM ad cyI cyZ) Q o0 (fX5_propagates_b79 K2 v1 v2 v3 v4 σ) σ 79 [(0, .ref (ad 0)), (1, .int v1), (2, .int v2), (3, .int v3), (4, .int v4)] [] := by
  unfold fX5_propagates_b79
  refine J_iinc (d := (1 : Int32)) C 2 rfl dX5_propagates_79 (by decide) (by decide) rfl ?_
  refine J_goto (tgt := 2) C dX5_propagates_82 (by decide) ?_
  refine J_lv [1, 2, 0] rfl ?_
  exact hK2 (v2 + (1 : Int32)) σ
set_option maxHeartbeats 4000000 in
set_option maxRecDepth 100000 in
theorem jX5_propagates_b55 {K2 : Int32 → St → Option (St)} {o0 : St} (C : Cxt p s m args c cX5_propagates 5 wsX5_propagates RX5 D [(cyI, .int), (cyZ, .boolean)] A) (hRet : ∀ (σ2 : St) (pc : Nat) (lv : List (Nat × Value)), decode cX5_propagates pc = .ok (.return_, 1) → J p l e ({ frames := 2, cells := 0, slots := 0, locals := 44 } : Room) s m args below meth c 5 D A (wM ad cyI cyZ) Q o0 (some σ2) σ2 pc lv []) (σ : St) (v1 v2 v3 v4 : Int32) (hK2 : ∀ (v2 : Int32) (σ : St), J p l e ({ frames := 2, cells := 0, slots := 0, locals := 44 } : Room) s m args below meth c 5 D A (wM ad cyI cyZ) Q o0 (K2 v2 σ) σ 2 [(0, .ref (ad 0)), (1, .int v1), (2, .int v2)] []) : J p l e ({ frames := 2, cells := 0, slots := 0, locals := 44 } : Room) s m args below meth c 5 D A (wM ad cyI cyZ) Q o0 (fX5_propagates_b55 K2 v1 v2 v3 v4 σ) σ 55 [(0, .ref (ad 0)), (1, .int v1), (2, .int v2), (3, .int v3), (4, .int v4)] [] := by
  unfold fX5_propagates_b55
  refine J_iload C 4 rfl dX5_propagates_55 ?_
  refine J_if_ne (tgt := 79) C dX5_propagates_57 (by decide) ?_ ?_
  · exact jX5_propagates_b79 C hRet σ v1 v2 v3 v4 hK2
  · refine J_aload_n C 0 rfl rfl dX5_propagates_60 ?_
    refine J_get C 0 11 5 (C0 := RX5) (T := TX5) (N := 23) (by decide +kernel) rfl rfl (by decide) (by decide +kernel) rfl dX5_propagates_61 ?_
    refine J_iload_n C 3 rfl rfl dX5_propagates_64 ?_
    refine J_iald C 6 0 rfl rfl dX5_propagates_65 ?_
    refine J_callP_S C [.int (σ 6 v3.toNatClampNeg)] (fun zr zh => tX5_declares (σ 6 v3.toNatClampNeg) σ zr zh) (va_cwS 1 C.1.2.2.2.2 gX5_propagates_X5_declares rfl rfl rfl (by decide +kernel) ⟨Nat.le_of_ble_eq_true rfl, Nat.le_of_ble_eq_true rfl⟩) rfl rfl (Nat.le_of_ble_eq_true rfl) dX5_propagates_66 (fun r1 => ?_)
    refine J_if_eq (tgt := 79) C dX5_propagates_69 (by decide) ?_ ?_
    · exact jX5_propagates_b79 C hRet σ v1 v2 v3 v4 hK2
    · refine J_aload_n C 0 rfl rfl dX5_propagates_72 ?_
      refine J_get C 0 11 5 (C0 := RX5) (T := TX5) (N := 23) (by decide +kernel) rfl rfl (by decide) (by decide +kernel) rfl dX5_propagates_73 ?_
      refine J_iload_n C 3 rfl rfl dX5_propagates_76 ?_
      refine J_iconst (v := (3 : Int32)) C dX5_propagates_77 (by decide) ?_
      refine J_iast (σ' := up2 σ 6 v3.toNatClampNeg (3 : Int32)) C 6 0 rfl rfl (wM_s6 _ _ _ _ _ _) dX5_propagates_78 ?_
      exact jX5_propagates_b79 C hRet (up2 σ 6 v3.toNatClampNeg (3 : Int32)) v1 v2 v3 v4 hK2
set_option maxHeartbeats 4000000 in
set_option maxRecDepth 100000 in
theorem jX5_propagates_L2  {o0 : St} (C : Cxt p s m args c cX5_propagates 5 wsX5_propagates RX5 D [(cyI, .int), (cyZ, .boolean)] A) (hRet : ∀ (σ2 : St) (pc : Nat) (lv : List (Nat × Value)), decode cX5_propagates pc = .ok (.return_, 1) → J p l e ({ frames := 2, cells := 0, slots := 0, locals := 44 } : Room) s m args below meth c 5 D A (wM ad cyI cyZ) Q o0 (some σ2) σ2 pc lv []) (v1 : Int32) (n : Nat) (v2 : Int32) (σ : St) : J p l e ({ frames := 2, cells := 0, slots := 0, locals := 44 } : Room) s m args below meth c 5 D A (wM ad cyI cyZ) Q o0 (loop1s (fX5_propagates_b2 v1) n v2 σ) σ 2 [(0, .ref (ad 0)), (1, .int v1), (2, .int v2)] [] := by
  refine J_loop1s (pc := 2) (fun v2 => [(0, .ref (ad 0)), (1, .int v1), (2, .int v2)]) (fX5_propagates_b2 v1) ?_ n v2 σ
  intro K2 hK2 v2 σ
  unfold fX5_propagates_b2
  refine J_iload_n C 2 rfl rfl dX5_propagates_2 ?_
  refine J_iconst (v := (4 : Int32)) C dX5_propagates_3 (by decide) ?_
  refine J_icmp_ge (tgt := 85) C dX5_propagates_4 (by decide) ?_ ?_
  · exact hRet σ _ _ dX5_propagates_85
  · refine J_iconst (v := (4 : Int32)) C dX5_propagates_7 (by decide) ?_
    refine J_iload_n C 1 rfl rfl dX5_propagates_8 ?_
    refine J_imul C dX5_propagates_9 ?_
    refine J_iload_n C 2 rfl rfl dX5_propagates_10 ?_
    refine J_iadd C dX5_propagates_11 ?_
    refine J_istore_n C rfl dX5_propagates_12 (by decide) rfl ?_
    refine J_aload_n C 1 rfl rfl dX5_propagates_13 ?_
    refine J_iload_n C 2 rfl rfl dX5_propagates_14 ?_
    refine J_iload_n C 3 rfl rfl dX5_propagates_15 ?_
    refine J_callP_V C [.int v1, .int v2] 0 5 rfl rfl (fun zr zh => tX5_isWanted v1 v2 σ zr zh) (cwV 2 C.1.2.2.2.2 gX5_propagates_X5_isWanted rfl rfl rfl (by decide +kernel) ⟨Nat.le_of_ble_eq_true rfl, Nat.le_of_ble_eq_true rfl⟩) rfl rfl (Nat.le_of_ble_eq_true rfl) dX5_propagates_16 (fun r1 => ?_)
    refine J_istore C dX5_propagates_19 (by decide) rfl ?_
    refine J_iload C 0 rfl dX5_propagates_21 ?_
    refine J_if_eq (tgt := 55) C dX5_propagates_23 (by decide) ?_ ?_
    · refine J_lv [2, 3, 4, 1, 0] rfl ?_
      exact jX5_propagates_b55 C hRet σ v1 v2 (((4 : Int32) * v1) + v2) r1 hK2
    · refine J_aload_n C 2 rfl rfl dX5_propagates_26 ?_
      refine J_get C 0 11 5 (C0 := RX5) (T := TX5) (N := 23) (by decide +kernel) rfl rfl (by decide) (by decide +kernel) rfl dX5_propagates_27 ?_
      refine J_iload_n C 1 rfl rfl dX5_propagates_30 ?_
      refine J_iald C 6 0 rfl rfl dX5_propagates_31 ?_
      refine J_callP_S C [.int (σ 6 (((4 : Int32) * v1) + v2).toNatClampNeg)] (fun zr zh => tX5_declares (σ 6 (((4 : Int32) * v1) + v2).toNatClampNeg) σ zr zh) (va_cwS 1 C.1.2.2.2.2 gX5_propagates_X5_declares rfl rfl rfl (by decide +kernel) ⟨Nat.le_of_ble_eq_true rfl, Nat.le_of_ble_eq_true rfl⟩) rfl rfl (Nat.le_of_ble_eq_true rfl) dX5_propagates_32 (fun r2 => ?_)
      refine J_if_ne (tgt := 55) C dX5_propagates_35 (by decide) ?_ ?_
      · refine J_lv [2, 3, 4, 1, 0] rfl ?_
        exact jX5_propagates_b55 C hRet σ v1 v2 (((4 : Int32) * v1) + v2) r1 hK2
      · refine J_aload_n C 2 rfl rfl dX5_propagates_38 ?_
        refine J_get C 0 11 5 (C0 := RX5) (T := TX5) (N := 23) (by decide +kernel) rfl rfl (by decide) (by decide +kernel) rfl dX5_propagates_39 ?_
        refine J_iload_n C 1 rfl rfl dX5_propagates_42 ?_
        refine J_iconst (v := (1 : Int32)) C dX5_propagates_43 (by decide) ?_
        refine J_iast (σ' := up2 σ 6 (((4 : Int32) * v1) + v2).toNatClampNeg (1 : Int32)) C 6 0 rfl rfl (wM_s6 _ _ _ _ _ _) dX5_propagates_44 ?_
        refine J_aload_n C 2 rfl rfl dX5_propagates_45 ?_
        refine J_get C 0 12 5 (C0 := RX5) (T := TX5) (N := 23) (by decide +kernel) rfl rfl (by decide) (by decide +kernel) rfl dX5_propagates_46 ?_
        refine J_iload_n C 1 rfl rfl dX5_propagates_49 ?_
        refine J_iconst (v := (2 : Int32)) C dX5_propagates_50 (by decide) ?_
        refine J_iast (σ' := up2 (up2 σ 6 (((4 : Int32) * v1) + v2).toNatClampNeg (1 : Int32)) 7 (((4 : Int32) * v1) + v2).toNatClampNeg (2 : Int32)) C 7 0 rfl rfl (wM_s7 _ _ _ _ _ _) dX5_propagates_51 ?_
        refine J_goto (tgt := 79) C dX5_propagates_52 (by decide) ?_
        refine J_lv [2, 3, 4, 1, 0] rfl ?_
        exact jX5_propagates_b79 C hRet (up2 (up2 σ 6 (((4 : Int32) * v1) + v2).toNatClampNeg (1 : Int32)) 7 (((4 : Int32) * v1) + v2).toNatClampNeg (2 : Int32)) v1 v2 (((4 : Int32) * v1) + v2) r1 hK2
set_option maxHeartbeats 4000000 in
set_option maxRecDepth 100000 in
theorem tX5_propagates {l : Launch} {D : va_G} {ad : Nat → Nat} {cyI cyZ : ClassId} (v1 : Int32) (σ : St) (σ1 : St) (h : fX5_propagates v1 σ = some σ1) : MV l D [(cyI, .int), (cyZ, .boolean)] (wM ad cyI cyZ) yX5_propagates wsX5_propagates ({ frames := 2, cells := 0, slots := 0, locals := 44 } : Room) [.ref (ad 0), .int v1] σ σ1 := by
  refine entryV (own := RX5) σ1 (by decide +kernel) rfl rfl (Nat.le_of_ble_eq_true rfl) (fX5_propagates v1 σ) h ?_
  intro p e s m below meth c Q A C hRet
  generalize ([.ref (ad 0), .int v1] : List Value).toArray = args at *
  show J p l e ({ frames := 2, cells := 0, slots := 0, locals := 44 } : Room) s m args below meth c 5 D A (wM ad cyI cyZ) Q σ1 (fX5_propagates v1 σ) σ 0 [(0, .ref (ad 0)), (1, .int v1)] []
  unfold fX5_propagates
  refine J_iconst (v := (0 : Int32)) C dX5_propagates_0 (by decide) ?_
  refine J_istore_n C rfl dX5_propagates_1 (by decide) rfl ?_
  refine J_lv [1, 2, 0] rfl ?_
  exact jX5_propagates_L2 C hRet v1 fuel (0 : Int32) σ
-- X5_leavesAll
set_option maxHeartbeats 4000000 in
set_option maxRecDepth 100000 in
theorem jX5_leavesAll_b64 {K4 : Int32 → St → Option (St)} {o0 : St} (C : Cxt p s m args c cX5_leavesAll 3 wsX5_leavesAll RX5 D [(cyI, .int), (cyZ, .boolean)] A) (hRet : ∀ (σ2 : St) (pc : Nat) (lv : List (Nat × Value)), decode cX5_leavesAll pc = .ok (.return_, 1) → J p l e ({ frames := 0, cells := 0, slots := 0, locals := 0 } : Room) s m args below meth c 3 D A (wM ad cyI cyZ) Q o0 (some σ2) σ2 pc lv []) (σ : St) (v1 v2 : Int32) (hK4 : ∀ (v2 : Int32) (σ : St), J p l e ({ frames := 0, cells := 0, slots := 0, locals := 0 } : Room) s m args below meth c 3 D A (wM ad cyI cyZ) Q o0 (K4 v2 σ) σ 4 [(0, .ref (ad 0)), (1, .int v1), (2, .int v2)] []) : J p l e ({ frames := 0, cells := 0, slots := 0, locals := 0 } : Room) s m args below meth c 3 D A (wM ad cyI cyZ) Q o0 (fX5_leavesAll_b64 K4 v1 v2 σ) σ 64 [(0, .ref (ad 0)), (1, .int v1), (2, .int v2)] [] := by
  unfold fX5_leavesAll_b64
  refine J_iinc (d := (1 : Int32)) C 2 rfl dX5_leavesAll_64 (by decide) (by decide) rfl ?_
  refine J_goto (tgt := 4) C dX5_leavesAll_67 (by decide) ?_
  refine J_lv [1, 2, 0] rfl ?_
  exact hK4 (v2 + (1 : Int32)) σ
set_option maxHeartbeats 4000000 in
set_option maxRecDepth 100000 in
theorem jX5_leavesAll_b40 {K4 : Int32 → St → Option (St)} {o0 : St} (C : Cxt p s m args c cX5_leavesAll 3 wsX5_leavesAll RX5 D [(cyI, .int), (cyZ, .boolean)] A) (hRet : ∀ (σ2 : St) (pc : Nat) (lv : List (Nat × Value)), decode cX5_leavesAll pc = .ok (.return_, 1) → J p l e ({ frames := 0, cells := 0, slots := 0, locals := 0 } : Room) s m args below meth c 3 D A (wM ad cyI cyZ) Q o0 (some σ2) σ2 pc lv []) (σ : St) (v1 v2 : Int32) (hK4 : ∀ (v2 : Int32) (σ : St), J p l e ({ frames := 0, cells := 0, slots := 0, locals := 0 } : Room) s m args below meth c 3 D A (wM ad cyI cyZ) Q o0 (K4 v2 σ) σ 4 [(0, .ref (ad 0)), (1, .int v1), (2, .int v2)] []) : J p l e ({ frames := 0, cells := 0, slots := 0, locals := 0 } : Room) s m args below meth c 3 D A (wM ad cyI cyZ) Q o0 (fX5_leavesAll_b40 K4 v1 v2 σ) σ 40 [(0, .ref (ad 0)), (1, .int v1), (2, .int v2)] [] := by
  unfold fX5_leavesAll_b40
  refine J_aload_n C 0 rfl rfl dX5_leavesAll_40 ?_
  refine J_get C 0 11 5 (C0 := RX5) (T := TX5) (N := 23) (by decide +kernel) rfl rfl (by decide) (by decide +kernel) rfl dX5_leavesAll_41 ?_
  refine J_iload_n C 2 rfl rfl dX5_leavesAll_44 ?_
  refine J_iald C 6 0 rfl rfl dX5_leavesAll_45 ?_
  refine J_iconst (v := (2 : Int32)) C dX5_leavesAll_46 (by decide) ?_
  refine J_icmp_ne (tgt := 64) C dX5_leavesAll_47 (by decide) ?_ ?_
  · exact jX5_leavesAll_b64 C hRet σ v1 v2 hK4
  · refine J_aload_n C 0 rfl rfl dX5_leavesAll_50 ?_
    refine J_get C 0 11 5 (C0 := RX5) (T := TX5) (N := 23) (by decide +kernel) rfl rfl (by decide) (by decide +kernel) rfl dX5_leavesAll_51 ?_
    refine J_iload_n C 2 rfl rfl dX5_leavesAll_54 ?_
    refine J_iconst (v := (1 : Int32)) C dX5_leavesAll_55 (by decide) ?_
    refine J_iast (σ' := up2 σ 6 v2.toNatClampNeg (1 : Int32)) C 6 0 rfl rfl (wM_s6 _ _ _ _ _ _) dX5_leavesAll_56 ?_
    refine J_aload_n C 0 rfl rfl dX5_leavesAll_57 ?_
    refine J_get C 0 12 5 (C0 := RX5) (T := TX5) (N := 23) (by decide +kernel) rfl rfl (by decide) (by decide +kernel) rfl dX5_leavesAll_58 ?_
    refine J_iload_n C 2 rfl rfl dX5_leavesAll_61 ?_
    refine J_iconst (v := (1 : Int32)) C dX5_leavesAll_62 (by decide) ?_
    refine J_iast (σ' := up2 (up2 σ 6 v2.toNatClampNeg (1 : Int32)) 7 v2.toNatClampNeg (1 : Int32)) C 7 0 rfl rfl (wM_s7 _ _ _ _ _ _) dX5_leavesAll_63 ?_
    exact jX5_leavesAll_b64 C hRet (up2 (up2 σ 6 v2.toNatClampNeg (1 : Int32)) 7 v2.toNatClampNeg (1 : Int32)) v1 v2 hK4
set_option maxHeartbeats 4000000 in
set_option maxRecDepth 100000 in
theorem jX5_leavesAll_L4  {o0 : St} (C : Cxt p s m args c cX5_leavesAll 3 wsX5_leavesAll RX5 D [(cyI, .int), (cyZ, .boolean)] A) (hRet : ∀ (σ2 : St) (pc : Nat) (lv : List (Nat × Value)), decode cX5_leavesAll pc = .ok (.return_, 1) → J p l e ({ frames := 0, cells := 0, slots := 0, locals := 0 } : Room) s m args below meth c 3 D A (wM ad cyI cyZ) Q o0 (some σ2) σ2 pc lv []) (v1 : Int32) (n : Nat) (v2 : Int32) (σ : St) : J p l e ({ frames := 0, cells := 0, slots := 0, locals := 0 } : Room) s m args below meth c 3 D A (wM ad cyI cyZ) Q o0 (loop1s (fX5_leavesAll_b4 v1) n v2 σ) σ 4 [(0, .ref (ad 0)), (1, .int v1), (2, .int v2)] [] := by
  refine J_loop1s (pc := 4) (fun v2 => [(0, .ref (ad 0)), (1, .int v1), (2, .int v2)]) (fX5_leavesAll_b4 v1) ?_ n v2 σ
  intro K4 hK4 v2 σ
  unfold fX5_leavesAll_b4
  refine J_iload_n C 2 rfl rfl dX5_leavesAll_4 ?_
  refine J_iconst (v := (4 : Int32)) C dX5_leavesAll_5 (by decide) ?_
  refine J_iload_n C 1 rfl rfl dX5_leavesAll_6 ?_
  refine J_imul C dX5_leavesAll_7 ?_
  refine J_iconst (v := (4 : Int32)) C dX5_leavesAll_8 (by decide) ?_
  refine J_iadd C dX5_leavesAll_9 ?_
  refine J_icmp_ge (tgt := 70) C dX5_leavesAll_10 (by decide) ?_ ?_
  · exact hRet σ _ _ dX5_leavesAll_70
  · refine J_aload_n C 0 rfl rfl dX5_leavesAll_13 ?_
    refine J_get C 0 9 5 (C0 := RX5) (T := TX5) (N := 23) (by decide +kernel) rfl rfl (by decide) (by decide +kernel) rfl dX5_leavesAll_14 ?_
    refine J_iload_n C 2 rfl rfl dX5_leavesAll_17 ?_
    refine J_iald C 4 0 rfl rfl dX5_leavesAll_18 ?_
    refine J_iconst (v := (1 : Int32)) C dX5_leavesAll_19 (by decide) ?_
    refine J_icmp_ne (tgt := 40) C dX5_leavesAll_20 (by decide) ?_ ?_
    · exact jX5_leavesAll_b40 C hRet σ v1 v2 hK4
    · refine J_aload_n C 0 rfl rfl dX5_leavesAll_23 ?_
      refine J_get C 0 9 5 (C0 := RX5) (T := TX5) (N := 23) (by decide +kernel) rfl rfl (by decide) (by decide +kernel) rfl dX5_leavesAll_24 ?_
      refine J_iload_n C 2 rfl rfl dX5_leavesAll_27 ?_
      refine J_iconst (v := (2 : Int32)) C dX5_leavesAll_28 (by decide) ?_
      refine J_iast (σ' := up2 σ 4 v2.toNatClampNeg (2 : Int32)) C 4 0 rfl rfl (wM_s4 _ _ _ _ _ _) dX5_leavesAll_29 ?_
      refine J_aload_n C 0 rfl rfl dX5_leavesAll_30 ?_
      refine J_get C 0 10 5 (C0 := RX5) (T := TX5) (N := 23) (by decide +kernel) rfl rfl (by decide) (by decide +kernel) rfl dX5_leavesAll_31 ?_
      refine J_iload_n C 2 rfl rfl dX5_leavesAll_34 ?_
      refine J_aload_n C 0 rfl rfl dX5_leavesAll_35 ?_
      refine J_get C 0 6 5 (C0 := RX5) (T := TX5) (N := 23) (by decide +kernel) rfl rfl (by decide) (by decide +kernel) rfl dX5_leavesAll_36 ?_
      refine J_iast (σ' := up2 (up2 σ 4 v2.toNatClampNeg (2 : Int32)) 5 v2.toNatClampNeg ((up2 σ 4 v2.toNatClampNeg (2 : Int32)) 0 6)) C 5 0 rfl rfl (wM_s5 _ _ _ _ _ _) dX5_leavesAll_39 ?_
      exact jX5_leavesAll_b40 C hRet (up2 (up2 σ 4 v2.toNatClampNeg (2 : Int32)) 5 v2.toNatClampNeg ((up2 σ 4 v2.toNatClampNeg (2 : Int32)) 0 6)) v1 v2 hK4
set_option maxHeartbeats 4000000 in
set_option maxRecDepth 100000 in
theorem tX5_leavesAll {l : Launch} {D : va_G} {ad : Nat → Nat} {cyI cyZ : ClassId} (v1 : Int32) (σ : St) (σ1 : St) (h : fX5_leavesAll v1 σ = some σ1) : MV l D [(cyI, .int), (cyZ, .boolean)] (wM ad cyI cyZ) yX5_leavesAll wsX5_leavesAll ({ frames := 0, cells := 0, slots := 0, locals := 0 } : Room) [.ref (ad 0), .int v1] σ σ1 := by
  refine entryV (own := RX5) σ1 (by decide +kernel) rfl rfl (Nat.le_of_ble_eq_true rfl) (fX5_leavesAll v1 σ) h ?_
  intro p e s m below meth c Q A C hRet
  generalize ([.ref (ad 0), .int v1] : List Value).toArray = args at *
  show J p l e ({ frames := 0, cells := 0, slots := 0, locals := 0 } : Room) s m args below meth c 3 D A (wM ad cyI cyZ) Q σ1 (fX5_leavesAll v1 σ) σ 0 [(0, .ref (ad 0)), (1, .int v1)] []
  unfold fX5_leavesAll
  refine J_iconst (v := (4 : Int32)) C dX5_leavesAll_0 (by decide) ?_
  refine J_iload_n C 1 rfl rfl dX5_leavesAll_1 ?_
  refine J_imul C dX5_leavesAll_2 ?_
  refine J_istore_n C rfl dX5_leavesAll_3 (by decide) rfl ?_
  refine J_lv [1, 2, 0] rfl ?_
  exact jX5_leavesAll_L4 C hRet v1 fuel ((4 : Int32) * v1) σ
-- X5_sendsOf
set_option maxHeartbeats 4000000 in
set_option maxRecDepth 100000 in
theorem jX5_sendsOf_b156 {K35 : Int32 → Int32 → St → Option (Int32 × St)} {o0 : Int32 × St} (C : Cxt p s m args c cX5_sendsOf 4 wsX5_sendsOf RX5 D [(cyI, .int), (cyZ, .boolean)] A) (hRet : ∀ (v : Int32) (σ2 : St) (pc : Nat) (lv : List (Nat × Value)), decode cX5_sendsOf pc = .ok (.ireturn, 1) → J p l e ({ frames := 1, cells := 0, slots := 0, locals := 22 } : Room) s m args below meth c 4 D A (wM ad cyI cyZ) Q o0 (some (v, σ2)) σ2 pc lv [.int v]) (σ : St) (v1 v2 v3 : Int32) (hK35 : ∀ (v2 v3 : Int32) (σ : St), J p l e ({ frames := 1, cells := 0, slots := 0, locals := 22 } : Room) s m args below meth c 4 D A (wM ad cyI cyZ) Q o0 (K35 v2 v3 σ) σ 35 [(0, .ref (ad 0)), (1, .int v1), (2, .int v2), (3, .int v3)] []) : J p l e ({ frames := 1, cells := 0, slots := 0, locals := 22 } : Room) s m args below meth c 4 D A (wM ad cyI cyZ) Q o0 (fX5_sendsOf_b156 K35 v1 v2 v3 σ) σ 156 [(0, .ref (ad 0)), (1, .int v1), (2, .int v2), (3, .int v3)] [] := by
  unfold fX5_sendsOf_b156
  refine J_iinc (d := (1 : Int32)) C 3 rfl dX5_sendsOf_156 (by decide) (by decide) rfl ?_
  refine J_goto (tgt := 35) C dX5_sendsOf_159 (by decide) ?_
  refine J_lv [1, 2, 3, 0] rfl ?_
  exact hK35 v2 (v3 + (1 : Int32)) σ
set_option maxHeartbeats 4000000 in
set_option maxRecDepth 100000 in
theorem jX5_sendsOf_b135 {K35 : Int32 → Int32 → St → Option (Int32 × St)} {o0 : Int32 × St} (C : Cxt p s m args c cX5_sendsOf 4 wsX5_sendsOf RX5 D [(cyI, .int), (cyZ, .boolean)] A) (hRet : ∀ (v : Int32) (σ2 : St) (pc : Nat) (lv : List (Nat × Value)), decode cX5_sendsOf pc = .ok (.ireturn, 1) → J p l e ({ frames := 1, cells := 0, slots := 0, locals := 22 } : Room) s m args below meth c 4 D A (wM ad cyI cyZ) Q o0 (some (v, σ2)) σ2 pc lv [.int v]) (σ : St) (v1 v2 v3 t0 t1 : Int32) (hK35 : ∀ (v2 v3 : Int32) (σ : St), J p l e ({ frames := 1, cells := 0, slots := 0, locals := 22 } : Room) s m args below meth c 4 D A (wM ad cyI cyZ) Q o0 (K35 v2 v3 σ) σ 35 [(0, .ref (ad 0)), (1, .int v1), (2, .int v2), (3, .int v3)] []) : J p l e ({ frames := 1, cells := 0, slots := 0, locals := 22 } : Room) s m args below meth c 4 D A (wM ad cyI cyZ) Q o0 (fX5_sendsOf_b135 K35 v1 v2 v3 t0 t1 σ) σ 135 [(0, .ref (ad 0)), (1, .int v1), (2, .int v2), (3, .int v3)] [.int t0, .int t1, .ref (ad 6)] := by
  unfold fX5_sendsOf_b135
  refine J_iast (σ' := up2 σ 6 t1.toNatClampNeg t0) C 6 0 rfl rfl (wM_s6 _ _ _ _ _ _) dX5_sendsOf_135 ?_
  refine J_goto (tgt := 156) C dX5_sendsOf_136 (by decide) ?_
  exact jX5_sendsOf_b156 C hRet (up2 σ 6 t1.toNatClampNeg t0) v1 v2 v3 hK35
set_option maxHeartbeats 4000000 in
set_option maxRecDepth 100000 in
theorem jX5_sendsOf_b94 {K35 : Int32 → Int32 → St → Option (Int32 × St)} {o0 : Int32 × St} (C : Cxt p s m args c cX5_sendsOf 4 wsX5_sendsOf RX5 D [(cyI, .int), (cyZ, .boolean)] A) (hRet : ∀ (v : Int32) (σ2 : St) (pc : Nat) (lv : List (Nat × Value)), decode cX5_sendsOf pc = .ok (.ireturn, 1) → J p l e ({ frames := 1, cells := 0, slots := 0, locals := 22 } : Room) s m args below meth c 4 D A (wM ad cyI cyZ) Q o0 (some (v, σ2)) σ2 pc lv [.int v]) (σ : St) (v1 v2 v3 t0 t1 : Int32) (hK35 : ∀ (v2 v3 : Int32) (σ : St), J p l e ({ frames := 1, cells := 0, slots := 0, locals := 22 } : Room) s m args below meth c 4 D A (wM ad cyI cyZ) Q o0 (K35 v2 v3 σ) σ 35 [(0, .ref (ad 0)), (1, .int v1), (2, .int v2), (3, .int v3)] []) : J p l e ({ frames := 1, cells := 0, slots := 0, locals := 22 } : Room) s m args below meth c 4 D A (wM ad cyI cyZ) Q o0 (fX5_sendsOf_b94 K35 v1 v2 v3 t0 t1 σ) σ 94 [(0, .ref (ad 0)), (1, .int v1), (2, .int v2), (3, .int v3)] [.int t0, .int t1] := by
  unfold fX5_sendsOf_b94
  refine J_iadd C dX5_sendsOf_94 ?_
  refine J_istore_n C rfl dX5_sendsOf_95 (by decide) rfl ?_
  refine J_aload_n C 1 rfl rfl dX5_sendsOf_96 ?_
  refine J_get C 0 19 5 (C0 := RX5) (T := TX5) (N := 23) (by decide +kernel) rfl rfl (by decide) (by decide +kernel) rfl dX5_sendsOf_97 ?_
  refine J_iload_n C 3 rfl rfl dX5_sendsOf_100 ?_
  refine J_iald C 14 0 rfl rfl dX5_sendsOf_101 ?_
  refine J_iconst (v := (1 : Int32)) C dX5_sendsOf_102 (by decide) ?_
  refine J_icmp_ne (tgt := 139) C dX5_sendsOf_103 (by decide) ?_ ?_
  · refine J_aload_n C 1 rfl rfl dX5_sendsOf_139 ?_
    refine J_get C 0 19 5 (C0 := RX5) (T := TX5) (N := 23) (by decide +kernel) rfl rfl (by decide) (by decide +kernel) rfl dX5_sendsOf_140 ?_
    refine J_iload_n C 3 rfl rfl dX5_sendsOf_143 ?_
    refine J_iald C 14 0 rfl rfl dX5_sendsOf_144 ?_
    refine J_iconst (v := (2 : Int32)) C dX5_sendsOf_145 (by decide) ?_
    refine J_icmp_ne (tgt := 156) C dX5_sendsOf_146 (by decide) ?_ ?_
    · refine J_lv [1, 2, 0, 3] rfl ?_
      exact jX5_sendsOf_b156 C hRet σ v1 (t1 + t0) v3 hK35
    · refine J_aload_n C 1 rfl rfl dX5_sendsOf_149 ?_
      refine J_get C 0 11 5 (C0 := RX5) (T := TX5) (N := 23) (by decide +kernel) rfl rfl (by decide) (by decide +kernel) rfl dX5_sendsOf_150 ?_
      refine J_iload_n C 3 rfl rfl dX5_sendsOf_153 ?_
      refine J_iconst (v := (0 : Int32)) C dX5_sendsOf_154 (by decide) ?_
      refine J_iast (σ' := up2 σ 6 v3.toNatClampNeg (0 : Int32)) C 6 0 rfl rfl (wM_s6 _ _ _ _ _ _) dX5_sendsOf_155 ?_
      refine J_lv [1, 2, 0, 3] rfl ?_
      exact jX5_sendsOf_b156 C hRet (up2 σ 6 v3.toNatClampNeg (0 : Int32)) v1 (t1 + t0) v3 hK35
  · refine J_aload_n C 1 rfl rfl dX5_sendsOf_106 ?_
    refine J_get C 0 12 5 (C0 := RX5) (T := TX5) (N := 23) (by decide +kernel) rfl rfl (by decide) (by decide +kernel) rfl dX5_sendsOf_107 ?_
    refine J_iload_n C 3 rfl rfl dX5_sendsOf_110 ?_
    refine J_dup2 C rfl rfl dX5_sendsOf_111 ?_
    refine J_iald C 7 0 rfl rfl dX5_sendsOf_112 ?_
    refine J_iconst (v := (1 : Int32)) C dX5_sendsOf_113 (by decide) ?_
    refine J_isub C dX5_sendsOf_114 ?_
    refine J_iast (σ' := up2 σ 7 v3.toNatClampNeg ((σ 7 v3.toNatClampNeg) - (1 : Int32))) C 7 0 rfl rfl (wM_s7 _ _ _ _ _ _) dX5_sendsOf_115 ?_
    refine J_aload_n C 1 rfl rfl dX5_sendsOf_116 ?_
    refine J_get C 0 11 5 (C0 := RX5) (T := TX5) (N := 23) (by decide +kernel) rfl rfl (by decide) (by decide +kernel) rfl dX5_sendsOf_117 ?_
    refine J_iload_n C 3 rfl rfl dX5_sendsOf_120 ?_
    refine J_aload_n C 1 rfl rfl dX5_sendsOf_121 ?_
    refine J_get C 0 12 5 (C0 := RX5) (T := TX5) (N := 23) (by decide +kernel) rfl rfl (by decide) (by decide +kernel) rfl dX5_sendsOf_122 ?_
    refine J_iload_n C 3 rfl rfl dX5_sendsOf_125 ?_
    refine J_iald C 7 0 rfl rfl dX5_sendsOf_126 ?_
    refine J_if_ne (tgt := 134) C dX5_sendsOf_127 (by decide) ?_ ?_
    · refine J_iconst (v := (1 : Int32)) C dX5_sendsOf_134 (by decide) ?_
      refine J_lv [1, 2, 0, 3] rfl ?_
      exact jX5_sendsOf_b135 C hRet (up2 σ 7 v3.toNatClampNeg ((σ 7 v3.toNatClampNeg) - (1 : Int32))) v1 (t1 + t0) v3 (1 : Int32) v3 hK35
    · refine J_iconst (v := (2 : Int32)) C dX5_sendsOf_130 (by decide) ?_
      refine J_goto (tgt := 135) C dX5_sendsOf_131 (by decide) ?_
      refine J_lv [1, 2, 0, 3] rfl ?_
      exact jX5_sendsOf_b135 C hRet (up2 σ 7 v3.toNatClampNeg ((σ 7 v3.toNatClampNeg) - (1 : Int32))) v1 (t1 + t0) v3 (2 : Int32) v3 hK35
set_option maxHeartbeats 4000000 in
set_option maxRecDepth 100000 in
theorem jX5_sendsOf_b78 {K35 : Int32 → Int32 → St → Option (Int32 × St)} {o0 : Int32 × St} (C : Cxt p s m args c cX5_sendsOf 4 wsX5_sendsOf RX5 D [(cyI, .int), (cyZ, .boolean)] A) (hRet : ∀ (v : Int32) (σ2 : St) (pc : Nat) (lv : List (Nat × Value)), decode cX5_sendsOf pc = .ok (.ireturn, 1) → J p l e ({ frames := 1, cells := 0, slots := 0, locals := 22 } : Room) s m args below meth c 4 D A (wM ad cyI cyZ) Q o0 (some (v, σ2)) σ2 pc lv [.int v]) (σ : St) (v1 v2 v3 t0 t1 : Int32) (hK35 : ∀ (v2 v3 : Int32) (σ : St), J p l e ({ frames := 1, cells := 0, slots := 0, locals := 22 } : Room) s m args below meth c 4 D A (wM ad cyI cyZ) Q o0 (K35 v2 v3 σ) σ 35 [(0, .ref (ad 0)), (1, .int v1), (2, .int v2), (3, .int v3)] []) : J p l e ({ frames := 1, cells := 0, slots := 0, locals := 22 } : Room) s m args below meth c 4 D A (wM ad cyI cyZ) Q o0 (fX5_sendsOf_b78 K35 v1 v2 v3 t0 t1 σ) σ 78 [(0, .ref (ad 0)), (1, .int v1), (2, .int v2), (3, .int v3)] [.int t0, .int t1, .ref (ad 14)] := by
  unfold fX5_sendsOf_b78
  refine J_iast (σ' := up2 σ 14 t1.toNatClampNeg t0) C 14 0 rfl rfl (wM_s14 _ _ _ _ _ _) dX5_sendsOf_78 ?_
  refine J_iload_n C 2 rfl rfl dX5_sendsOf_79 ?_
  refine J_aload_n C 0 rfl rfl dX5_sendsOf_80 ?_
  refine J_get C 0 19 5 (C0 := RX5) (T := TX5) (N := 23) (by decide +kernel) rfl rfl (by decide) (by decide +kernel) rfl dX5_sendsOf_81 ?_
  refine J_iload_n C 3 rfl rfl dX5_sendsOf_84 ?_
  refine J_iald C 14 0 rfl rfl dX5_sendsOf_85 ?_
  refine J_if_ne (tgt := 93) C dX5_sendsOf_86 (by decide) ?_ ?_
  · refine J_iconst (v := (1 : Int32)) C dX5_sendsOf_93 (by decide) ?_
    exact jX5_sendsOf_b94 C hRet (up2 σ 14 t1.toNatClampNeg t0) v1 v2 v3 (1 : Int32) v2 hK35
  · refine J_iconst (v := (0 : Int32)) C dX5_sendsOf_89 (by decide) ?_
    refine J_goto (tgt := 94) C dX5_sendsOf_90 (by decide) ?_
    exact jX5_sendsOf_b94 C hRet (up2 σ 14 t1.toNatClampNeg t0) v1 v2 v3 (0 : Int32) v2 hK35
set_option maxHeartbeats 4000000 in
set_option maxRecDepth 100000 in
theorem jX5_sendsOf_L35  {o0 : Int32 × St} (C : Cxt p s m args c cX5_sendsOf 4 wsX5_sendsOf RX5 D [(cyI, .int), (cyZ, .boolean)] A) (hRet : ∀ (v : Int32) (σ2 : St) (pc : Nat) (lv : List (Nat × Value)), decode cX5_sendsOf pc = .ok (.ireturn, 1) → J p l e ({ frames := 1, cells := 0, slots := 0, locals := 22 } : Room) s m args below meth c 4 D A (wM ad cyI cyZ) Q o0 (some (v, σ2)) σ2 pc lv [.int v]) (v1 : Int32) (n : Nat) (v2 v3 : Int32) (σ : St) : J p l e ({ frames := 1, cells := 0, slots := 0, locals := 22 } : Room) s m args below meth c 4 D A (wM ad cyI cyZ) Q o0 (loop2s (fX5_sendsOf_b35 v1) n v2 v3 σ) σ 35 [(0, .ref (ad 0)), (1, .int v1), (2, .int v2), (3, .int v3)] [] := by
  refine J_loop2s (pc := 35) (fun v2 v3 => [(0, .ref (ad 0)), (1, .int v1), (2, .int v2), (3, .int v3)]) (fX5_sendsOf_b35 v1) ?_ n v2 v3 σ
  intro K35 hK35 v2 v3 σ
  unfold fX5_sendsOf_b35
  refine J_iload_n C 3 rfl rfl dX5_sendsOf_35 ?_
  refine J_iconst (v := (4 : Int32)) C dX5_sendsOf_36 (by decide) ?_
  refine J_iload_n C 1 rfl rfl dX5_sendsOf_37 ?_
  refine J_imul C dX5_sendsOf_38 ?_
  refine J_iconst (v := (4 : Int32)) C dX5_sendsOf_39 (by decide) ?_
  refine J_iadd C dX5_sendsOf_40 ?_
  refine J_icmp_ge (tgt := 162) C dX5_sendsOf_41 (by decide) ?_ ?_
  · refine J_iload_n C 2 rfl rfl dX5_sendsOf_162 ?_
    exact hRet v2 σ _ _ dX5_sendsOf_163
  · refine J_aload_n C 0 rfl rfl dX5_sendsOf_44 ?_
    refine J_get C 0 19 5 (C0 := RX5) (T := TX5) (N := 23) (by decide +kernel) rfl rfl (by decide) (by decide +kernel) rfl dX5_sendsOf_45 ?_
    refine J_iload_n C 3 rfl rfl dX5_sendsOf_48 ?_
    refine J_aload_n C 0 rfl rfl dX5_sendsOf_49 ?_
    refine J_get C 0 11 5 (C0 := RX5) (T := TX5) (N := 23) (by decide +kernel) rfl rfl (by decide) (by decide +kernel) rfl dX5_sendsOf_50 ?_
    refine J_iload_n C 3 rfl rfl dX5_sendsOf_53 ?_
    refine J_iald C 6 0 rfl rfl dX5_sendsOf_54 ?_
    refine J_iconst (v := (1 : Int32)) C dX5_sendsOf_55 (by decide) ?_
    refine J_icmp_ne (tgt := 63) C dX5_sendsOf_56 (by decide) ?_ ?_
    · refine J_aload_n C 0 rfl rfl dX5_sendsOf_63 ?_
      refine J_get C 0 11 5 (C0 := RX5) (T := TX5) (N := 23) (by decide +kernel) rfl rfl (by decide) (by decide +kernel) rfl dX5_sendsOf_64 ?_
      refine J_iload_n C 3 rfl rfl dX5_sendsOf_67 ?_
      refine J_iald C 6 0 rfl rfl dX5_sendsOf_68 ?_
      refine J_iconst (v := (3 : Int32)) C dX5_sendsOf_69 (by decide) ?_
      refine J_icmp_ne (tgt := 77) C dX5_sendsOf_70 (by decide) ?_ ?_
      · refine J_iconst (v := (0 : Int32)) C dX5_sendsOf_77 (by decide) ?_
        exact jX5_sendsOf_b78 C hRet σ v1 v2 v3 (0 : Int32) v3 hK35
      · refine J_iconst (v := (2 : Int32)) C dX5_sendsOf_73 (by decide) ?_
        refine J_goto (tgt := 78) C dX5_sendsOf_74 (by decide) ?_
        exact jX5_sendsOf_b78 C hRet σ v1 v2 v3 (2 : Int32) v3 hK35
    · refine J_iconst (v := (1 : Int32)) C dX5_sendsOf_59 (by decide) ?_
      refine J_goto (tgt := 78) C dX5_sendsOf_60 (by decide) ?_
      exact jX5_sendsOf_b78 C hRet σ v1 v2 v3 (1 : Int32) v3 hK35
set_option maxHeartbeats 4000000 in
set_option maxRecDepth 100000 in
theorem jX5_sendsOf_b31  {o0 : Int32 × St} (C : Cxt p s m args c cX5_sendsOf 4 wsX5_sendsOf RX5 D [(cyI, .int), (cyZ, .boolean)] A) (hRet : ∀ (v : Int32) (σ2 : St) (pc : Nat) (lv : List (Nat × Value)), decode cX5_sendsOf pc = .ok (.ireturn, 1) → J p l e ({ frames := 1, cells := 0, slots := 0, locals := 22 } : Room) s m args below meth c 4 D A (wM ad cyI cyZ) Q o0 (some (v, σ2)) σ2 pc lv [.int v]) (σ : St) (v1 v2 : Int32) : J p l e ({ frames := 1, cells := 0, slots := 0, locals := 22 } : Room) s m args below meth c 4 D A (wM ad cyI cyZ) Q o0 (fX5_sendsOf_b31 v1 v2 σ) σ 31 [(0, .ref (ad 0)), (1, .int v1), (2, .int v2)] [] := by
  unfold fX5_sendsOf_b31
  refine J_iconst (v := (4 : Int32)) C dX5_sendsOf_31 (by decide) ?_
  refine J_iload_n C 1 rfl rfl dX5_sendsOf_32 ?_
  refine J_imul C dX5_sendsOf_33 ?_
  refine J_istore_n C rfl dX5_sendsOf_34 (by decide) rfl ?_
  refine J_lv [1, 2, 3, 0] rfl ?_
  exact jX5_sendsOf_L35 C hRet v1 fuel v2 ((4 : Int32) * v1) σ
set_option maxHeartbeats 4000000 in
set_option maxRecDepth 100000 in
theorem tX5_sendsOf {l : Launch} {D : va_G} {ad : Nat → Nat} {cyI cyZ : ClassId} (v1 : Int32) (σ : St) (r : Int32) (σ1 : St) (h : fX5_sendsOf v1 σ = some (r, σ1)) : MI l D [(cyI, .int), (cyZ, .boolean)] (wM ad cyI cyZ) yX5_sendsOf wsX5_sendsOf ({ frames := 1, cells := 0, slots := 0, locals := 22 } : Room) [.ref (ad 0), .int v1] σ r σ1 := by
  refine entryI (own := RX5) r σ1 (by decide +kernel) rfl rfl (Nat.le_of_ble_eq_true rfl) (fX5_sendsOf v1 σ) h ?_
  intro p e s m below meth c Q A C hRet
  generalize ([.ref (ad 0), .int v1] : List Value).toArray = args at *
  show J p l e ({ frames := 1, cells := 0, slots := 0, locals := 22 } : Room) s m args below meth c 4 D A (wM ad cyI cyZ) Q (r, σ1) (fX5_sendsOf v1 σ) σ 0 [(0, .ref (ad 0)), (1, .int v1)] []
  unfold fX5_sendsOf
  refine J_iconst (v := (0 : Int32)) C dX5_sendsOf_0 (by decide) ?_
  refine J_istore_n C rfl dX5_sendsOf_1 (by decide) rfl ?_
  refine J_aload_n C 1 rfl rfl dX5_sendsOf_2 ?_
  refine J_get C 0 18 5 (C0 := RX5) (T := TX5) (N := 23) (by decide +kernel) rfl rfl (by decide) (by decide +kernel) rfl dX5_sendsOf_3 ?_
  refine J_iload_n C 2 rfl rfl dX5_sendsOf_6 ?_
  refine J_aload_n C 1 rfl rfl dX5_sendsOf_7 ?_
  refine J_get C 0 17 5 (C0 := RX5) (T := TX5) (N := 23) (by decide +kernel) rfl rfl (by decide) (by decide +kernel) rfl dX5_sendsOf_8 ?_
  refine J_iload_n C 2 rfl rfl dX5_sendsOf_11 ?_
  refine J_zald C 12 1 rfl rfl dX5_sendsOf_12 ?_
  refine J_zast (σ' := up2 σ 13 v1.toNatClampNeg (vp_nar .boolean (σ 12 v1.toNatClampNeg))) C 13 1 rfl rfl (wM_s13 _ _ _ _ _ _) dX5_sendsOf_13 ?_
  refine J_aload_n C 1 rfl rfl dX5_sendsOf_14 ?_
  refine J_get C 0 17 5 (C0 := RX5) (T := TX5) (N := 23) (by decide +kernel) rfl rfl (by decide) (by decide +kernel) rfl dX5_sendsOf_15 ?_
  refine J_iload_n C 2 rfl rfl dX5_sendsOf_18 ?_
  refine J_zald C 12 1 rfl rfl dX5_sendsOf_19 ?_
  refine J_if_eq (tgt := 31) C dX5_sendsOf_20 (by decide) ?_ ?_
  · refine J_lv [1, 2, 0] rfl ?_
    exact jX5_sendsOf_b31 C hRet (up2 σ 13 v1.toNatClampNeg (vp_nar .boolean (σ 12 v1.toNatClampNeg))) v1 (0 : Int32)
  · refine J_aload_n C 1 rfl rfl dX5_sendsOf_23 ?_
    refine J_iload_n C 2 rfl rfl dX5_sendsOf_24 ?_
    refine J_callV_V C [.int v1] 0 5 rfl rfl (fun zs zh => tX5_leavesAll v1 (up2 σ 13 v1.toNatClampNeg (vp_nar .boolean (σ 12 v1.toNatClampNeg))) zs zh) (cwV 1 C.1.2.2.2.2 gX5_sendsOf_X5_leavesAll rfl rfl rfl (by decide +kernel) ⟨Nat.le_of_ble_eq_true rfl, Nat.le_of_ble_eq_true rfl⟩) rfl rfl (Nat.le_of_ble_eq_true rfl) dX5_sendsOf_25 (fun σ1 => ?_)
    refine J_iinc (d := (1 : Int32)) C 0 rfl dX5_sendsOf_28 (by decide) (by decide) rfl ?_
    refine J_lv [1, 2, 0] rfl ?_
    exact jX5_sendsOf_b31 C hRet σ1 v1 ((0 : Int32) + (1 : Int32))
-- X5_sendsOfHost
set_option maxHeartbeats 4000000 in
set_option maxRecDepth 100000 in
theorem jX5_sendsOfHost_b140 {K6 : Int32 → Int32 → St → Option (Int32 × St)} {o0 : Int32 × St} (C : Cxt p s m args c cX5_sendsOfHost 4 wsX5_sendsOfHost RX5 D [(cyI, .int), (cyZ, .boolean)] A) (hRet : ∀ (v : Int32) (σ2 : St) (pc : Nat) (lv : List (Nat × Value)), decode cX5_sendsOfHost pc = .ok (.ireturn, 1) → J p l e ({ frames := 0, cells := 0, slots := 0, locals := 0 } : Room) s m args below meth c 4 D A (wM ad cyI cyZ) Q o0 (some (v, σ2)) σ2 pc lv [.int v]) (σ : St) (v1 v2 v3 : Int32) (hK6 : ∀ (v2 v3 : Int32) (σ : St), J p l e ({ frames := 0, cells := 0, slots := 0, locals := 0 } : Room) s m args below meth c 4 D A (wM ad cyI cyZ) Q o0 (K6 v2 v3 σ) σ 6 [(0, .ref (ad 0)), (1, .int v1), (2, .int v2), (3, .int v3)] []) : J p l e ({ frames := 0, cells := 0, slots := 0, locals := 0 } : Room) s m args below meth c 4 D A (wM ad cyI cyZ) Q o0 (fX5_sendsOfHost_b140 K6 v1 v2 v3 σ) σ 140 [(0, .ref (ad 0)), (1, .int v1), (2, .int v2), (3, .int v3)] [] := by
  unfold fX5_sendsOfHost_b140
  refine J_iinc (d := (1 : Int32)) C 3 rfl dX5_sendsOfHost_140 (by decide) (by decide) rfl ?_
  refine J_goto (tgt := 6) C dX5_sendsOfHost_143 (by decide) ?_
  refine J_lv [1, 2, 3, 0] rfl ?_
  exact hK6 v2 (v3 + (1 : Int32)) σ
set_option maxHeartbeats 4000000 in
set_option maxRecDepth 100000 in
theorem jX5_sendsOfHost_b119 {K6 : Int32 → Int32 → St → Option (Int32 × St)} {o0 : Int32 × St} (C : Cxt p s m args c cX5_sendsOfHost 4 wsX5_sendsOfHost RX5 D [(cyI, .int), (cyZ, .boolean)] A) (hRet : ∀ (v : Int32) (σ2 : St) (pc : Nat) (lv : List (Nat × Value)), decode cX5_sendsOfHost pc = .ok (.ireturn, 1) → J p l e ({ frames := 0, cells := 0, slots := 0, locals := 0 } : Room) s m args below meth c 4 D A (wM ad cyI cyZ) Q o0 (some (v, σ2)) σ2 pc lv [.int v]) (σ : St) (v1 v2 v3 t0 t1 : Int32) (hK6 : ∀ (v2 v3 : Int32) (σ : St), J p l e ({ frames := 0, cells := 0, slots := 0, locals := 0 } : Room) s m args below meth c 4 D A (wM ad cyI cyZ) Q o0 (K6 v2 v3 σ) σ 6 [(0, .ref (ad 0)), (1, .int v1), (2, .int v2), (3, .int v3)] []) : J p l e ({ frames := 0, cells := 0, slots := 0, locals := 0 } : Room) s m args below meth c 4 D A (wM ad cyI cyZ) Q o0 (fX5_sendsOfHost_b119 K6 v1 v2 v3 t0 t1 σ) σ 119 [(0, .ref (ad 0)), (1, .int v1), (2, .int v2), (3, .int v3)] [.int t0, .int t1, .ref (ad 10)] := by
  unfold fX5_sendsOfHost_b119
  refine J_iast (σ' := up2 σ 10 t1.toNatClampNeg t0) C 10 0 rfl rfl (wM_s10 _ _ _ _ _ _) dX5_sendsOfHost_119 ?_
  refine J_goto (tgt := 140) C dX5_sendsOfHost_120 (by decide) ?_
  exact jX5_sendsOfHost_b140 C hRet (up2 σ 10 t1.toNatClampNeg t0) v1 v2 v3 hK6
set_option maxHeartbeats 4000000 in
set_option maxRecDepth 100000 in
theorem jX5_sendsOfHost_b78 {K6 : Int32 → Int32 → St → Option (Int32 × St)} {o0 : Int32 × St} (C : Cxt p s m args c cX5_sendsOfHost 4 wsX5_sendsOfHost RX5 D [(cyI, .int), (cyZ, .boolean)] A) (hRet : ∀ (v : Int32) (σ2 : St) (pc : Nat) (lv : List (Nat × Value)), decode cX5_sendsOfHost pc = .ok (.ireturn, 1) → J p l e ({ frames := 0, cells := 0, slots := 0, locals := 0 } : Room) s m args below meth c 4 D A (wM ad cyI cyZ) Q o0 (some (v, σ2)) σ2 pc lv [.int v]) (σ : St) (v1 v2 v3 t0 t1 : Int32) (hK6 : ∀ (v2 v3 : Int32) (σ : St), J p l e ({ frames := 0, cells := 0, slots := 0, locals := 0 } : Room) s m args below meth c 4 D A (wM ad cyI cyZ) Q o0 (K6 v2 v3 σ) σ 6 [(0, .ref (ad 0)), (1, .int v1), (2, .int v2), (3, .int v3)] []) : J p l e ({ frames := 0, cells := 0, slots := 0, locals := 0 } : Room) s m args below meth c 4 D A (wM ad cyI cyZ) Q o0 (fX5_sendsOfHost_b78 K6 v1 v2 v3 t0 t1 σ) σ 78 [(0, .ref (ad 0)), (1, .int v1), (2, .int v2), (3, .int v3)] [.int t0, .int t1] := by
  unfold fX5_sendsOfHost_b78
  refine J_iadd C dX5_sendsOfHost_78 ?_
  refine J_istore_n C rfl dX5_sendsOfHost_79 (by decide) rfl ?_
  refine J_aload_n C 1 rfl rfl dX5_sendsOfHost_80 ?_
  refine J_get C 0 20 5 (C0 := RX5) (T := TX5) (N := 23) (by decide +kernel) rfl rfl (by decide) (by decide +kernel) rfl dX5_sendsOfHost_81 ?_
  refine J_iload_n C 3 rfl rfl dX5_sendsOfHost_84 ?_
  refine J_iald C 15 0 rfl rfl dX5_sendsOfHost_85 ?_
  refine J_iconst (v := (1 : Int32)) C dX5_sendsOfHost_86 (by decide) ?_
  refine J_icmp_ne (tgt := 123) C dX5_sendsOfHost_87 (by decide) ?_ ?_
  · refine J_aload_n C 1 rfl rfl dX5_sendsOfHost_123 ?_
    refine J_get C 0 20 5 (C0 := RX5) (T := TX5) (N := 23) (by decide +kernel) rfl rfl (by decide) (by decide +kernel) rfl dX5_sendsOfHost_124 ?_
    refine J_iload_n C 3 rfl rfl dX5_sendsOfHost_127 ?_
    refine J_iald C 15 0 rfl rfl dX5_sendsOfHost_128 ?_
    refine J_iconst (v := (2 : Int32)) C dX5_sendsOfHost_129 (by decide) ?_
    refine J_icmp_ne (tgt := 140) C dX5_sendsOfHost_130 (by decide) ?_ ?_
    · refine J_lv [1, 2, 0, 3] rfl ?_
      exact jX5_sendsOfHost_b140 C hRet σ v1 (t1 + t0) v3 hK6
    · refine J_aload_n C 1 rfl rfl dX5_sendsOfHost_133 ?_
      refine J_get C 0 15 5 (C0 := RX5) (T := TX5) (N := 23) (by decide +kernel) rfl rfl (by decide) (by decide +kernel) rfl dX5_sendsOfHost_134 ?_
      refine J_iload_n C 3 rfl rfl dX5_sendsOfHost_137 ?_
      refine J_iconst (v := (0 : Int32)) C dX5_sendsOfHost_138 (by decide) ?_
      refine J_iast (σ' := up2 σ 10 v3.toNatClampNeg (0 : Int32)) C 10 0 rfl rfl (wM_s10 _ _ _ _ _ _) dX5_sendsOfHost_139 ?_
      refine J_lv [1, 2, 0, 3] rfl ?_
      exact jX5_sendsOfHost_b140 C hRet (up2 σ 10 v3.toNatClampNeg (0 : Int32)) v1 (t1 + t0) v3 hK6
  · refine J_aload_n C 1 rfl rfl dX5_sendsOfHost_90 ?_
    refine J_get C 0 16 5 (C0 := RX5) (T := TX5) (N := 23) (by decide +kernel) rfl rfl (by decide) (by decide +kernel) rfl dX5_sendsOfHost_91 ?_
    refine J_iload_n C 3 rfl rfl dX5_sendsOfHost_94 ?_
    refine J_dup2 C rfl rfl dX5_sendsOfHost_95 ?_
    refine J_iald C 11 0 rfl rfl dX5_sendsOfHost_96 ?_
    refine J_iconst (v := (1 : Int32)) C dX5_sendsOfHost_97 (by decide) ?_
    refine J_isub C dX5_sendsOfHost_98 ?_
    refine J_iast (σ' := up2 σ 11 v3.toNatClampNeg ((σ 11 v3.toNatClampNeg) - (1 : Int32))) C 11 0 rfl rfl (wM_s11 _ _ _ _ _ _) dX5_sendsOfHost_99 ?_
    refine J_aload_n C 1 rfl rfl dX5_sendsOfHost_100 ?_
    refine J_get C 0 15 5 (C0 := RX5) (T := TX5) (N := 23) (by decide +kernel) rfl rfl (by decide) (by decide +kernel) rfl dX5_sendsOfHost_101 ?_
    refine J_iload_n C 3 rfl rfl dX5_sendsOfHost_104 ?_
    refine J_aload_n C 1 rfl rfl dX5_sendsOfHost_105 ?_
    refine J_get C 0 16 5 (C0 := RX5) (T := TX5) (N := 23) (by decide +kernel) rfl rfl (by decide) (by decide +kernel) rfl dX5_sendsOfHost_106 ?_
    refine J_iload_n C 3 rfl rfl dX5_sendsOfHost_109 ?_
    refine J_iald C 11 0 rfl rfl dX5_sendsOfHost_110 ?_
    refine J_if_ne (tgt := 118) C dX5_sendsOfHost_111 (by decide) ?_ ?_
    · refine J_iconst (v := (1 : Int32)) C dX5_sendsOfHost_118 (by decide) ?_
      refine J_lv [1, 2, 0, 3] rfl ?_
      exact jX5_sendsOfHost_b119 C hRet (up2 σ 11 v3.toNatClampNeg ((σ 11 v3.toNatClampNeg) - (1 : Int32))) v1 (t1 + t0) v3 (1 : Int32) v3 hK6
    · refine J_iconst (v := (2 : Int32)) C dX5_sendsOfHost_114 (by decide) ?_
      refine J_goto (tgt := 119) C dX5_sendsOfHost_115 (by decide) ?_
      refine J_lv [1, 2, 0, 3] rfl ?_
      exact jX5_sendsOfHost_b119 C hRet (up2 σ 11 v3.toNatClampNeg ((σ 11 v3.toNatClampNeg) - (1 : Int32))) v1 (t1 + t0) v3 (2 : Int32) v3 hK6
set_option maxHeartbeats 4000000 in
set_option maxRecDepth 100000 in
theorem jX5_sendsOfHost_b62 {K6 : Int32 → Int32 → St → Option (Int32 × St)} {o0 : Int32 × St} (C : Cxt p s m args c cX5_sendsOfHost 4 wsX5_sendsOfHost RX5 D [(cyI, .int), (cyZ, .boolean)] A) (hRet : ∀ (v : Int32) (σ2 : St) (pc : Nat) (lv : List (Nat × Value)), decode cX5_sendsOfHost pc = .ok (.ireturn, 1) → J p l e ({ frames := 0, cells := 0, slots := 0, locals := 0 } : Room) s m args below meth c 4 D A (wM ad cyI cyZ) Q o0 (some (v, σ2)) σ2 pc lv [.int v]) (σ : St) (v1 v2 v3 t0 t1 : Int32) (hK6 : ∀ (v2 v3 : Int32) (σ : St), J p l e ({ frames := 0, cells := 0, slots := 0, locals := 0 } : Room) s m args below meth c 4 D A (wM ad cyI cyZ) Q o0 (K6 v2 v3 σ) σ 6 [(0, .ref (ad 0)), (1, .int v1), (2, .int v2), (3, .int v3)] []) : J p l e ({ frames := 0, cells := 0, slots := 0, locals := 0 } : Room) s m args below meth c 4 D A (wM ad cyI cyZ) Q o0 (fX5_sendsOfHost_b62 K6 v1 v2 v3 t0 t1 σ) σ 62 [(0, .ref (ad 0)), (1, .int v1), (2, .int v2), (3, .int v3)] [.int t0, .int t1, .ref (ad 15)] := by
  unfold fX5_sendsOfHost_b62
  refine J_iast (σ' := up2 σ 15 t1.toNatClampNeg t0) C 15 0 rfl rfl (wM_s15 _ _ _ _ _ _) dX5_sendsOfHost_62 ?_
  refine J_iload_n C 2 rfl rfl dX5_sendsOfHost_63 ?_
  refine J_aload_n C 0 rfl rfl dX5_sendsOfHost_64 ?_
  refine J_get C 0 20 5 (C0 := RX5) (T := TX5) (N := 23) (by decide +kernel) rfl rfl (by decide) (by decide +kernel) rfl dX5_sendsOfHost_65 ?_
  refine J_iload_n C 3 rfl rfl dX5_sendsOfHost_68 ?_
  refine J_iald C 15 0 rfl rfl dX5_sendsOfHost_69 ?_
  refine J_if_ne (tgt := 77) C dX5_sendsOfHost_70 (by decide) ?_ ?_
  · refine J_iconst (v := (1 : Int32)) C dX5_sendsOfHost_77 (by decide) ?_
    exact jX5_sendsOfHost_b78 C hRet (up2 σ 15 t1.toNatClampNeg t0) v1 v2 v3 (1 : Int32) v2 hK6
  · refine J_iconst (v := (0 : Int32)) C dX5_sendsOfHost_73 (by decide) ?_
    refine J_goto (tgt := 78) C dX5_sendsOfHost_74 (by decide) ?_
    exact jX5_sendsOfHost_b78 C hRet (up2 σ 15 t1.toNatClampNeg t0) v1 v2 v3 (0 : Int32) v2 hK6
set_option maxHeartbeats 4000000 in
set_option maxRecDepth 100000 in
theorem jX5_sendsOfHost_L6  {o0 : Int32 × St} (C : Cxt p s m args c cX5_sendsOfHost 4 wsX5_sendsOfHost RX5 D [(cyI, .int), (cyZ, .boolean)] A) (hRet : ∀ (v : Int32) (σ2 : St) (pc : Nat) (lv : List (Nat × Value)), decode cX5_sendsOfHost pc = .ok (.ireturn, 1) → J p l e ({ frames := 0, cells := 0, slots := 0, locals := 0 } : Room) s m args below meth c 4 D A (wM ad cyI cyZ) Q o0 (some (v, σ2)) σ2 pc lv [.int v]) (v1 : Int32) (n : Nat) (v2 v3 : Int32) (σ : St) : J p l e ({ frames := 0, cells := 0, slots := 0, locals := 0 } : Room) s m args below meth c 4 D A (wM ad cyI cyZ) Q o0 (loop2s (fX5_sendsOfHost_b6 v1) n v2 v3 σ) σ 6 [(0, .ref (ad 0)), (1, .int v1), (2, .int v2), (3, .int v3)] [] := by
  refine J_loop2s (pc := 6) (fun v2 v3 => [(0, .ref (ad 0)), (1, .int v1), (2, .int v2), (3, .int v3)]) (fX5_sendsOfHost_b6 v1) ?_ n v2 v3 σ
  intro K6 hK6 v2 v3 σ
  unfold fX5_sendsOfHost_b6
  refine J_iload_n C 3 rfl rfl dX5_sendsOfHost_6 ?_
  refine J_iconst (v := (4 : Int32)) C dX5_sendsOfHost_7 (by decide) ?_
  refine J_iload_n C 1 rfl rfl dX5_sendsOfHost_8 ?_
  refine J_imul C dX5_sendsOfHost_9 ?_
  refine J_iconst (v := (4 : Int32)) C dX5_sendsOfHost_10 (by decide) ?_
  refine J_iadd C dX5_sendsOfHost_11 ?_
  refine J_icmp_ge (tgt := 146) C dX5_sendsOfHost_12 (by decide) ?_ ?_
  · refine J_iload_n C 2 rfl rfl dX5_sendsOfHost_146 ?_
    exact hRet v2 σ _ _ dX5_sendsOfHost_147
  · refine J_aload_n C 0 rfl rfl dX5_sendsOfHost_15 ?_
    refine J_get C 0 20 5 (C0 := RX5) (T := TX5) (N := 23) (by decide +kernel) rfl rfl (by decide) (by decide +kernel) rfl dX5_sendsOfHost_16 ?_
    refine J_iload_n C 3 rfl rfl dX5_sendsOfHost_19 ?_
    refine J_aload_n C 0 rfl rfl dX5_sendsOfHost_20 ?_
    refine J_get C 0 5 5 (C0 := RX5) (T := TX5) (N := 23) (by decide +kernel) rfl rfl (by decide) (by decide +kernel) rfl dX5_sendsOfHost_21 ?_
    refine J_iload_n C 1 rfl rfl dX5_sendsOfHost_24 ?_
    refine J_zald C 3 1 rfl rfl dX5_sendsOfHost_25 ?_
    refine J_if_eq (tgt := 33) C dX5_sendsOfHost_26 (by decide) ?_ ?_
    · refine J_aload_n C 0 rfl rfl dX5_sendsOfHost_33 ?_
      refine J_get C 0 15 5 (C0 := RX5) (T := TX5) (N := 23) (by decide +kernel) rfl rfl (by decide) (by decide +kernel) rfl dX5_sendsOfHost_34 ?_
      refine J_iload_n C 3 rfl rfl dX5_sendsOfHost_37 ?_
      refine J_iald C 10 0 rfl rfl dX5_sendsOfHost_38 ?_
      refine J_iconst (v := (1 : Int32)) C dX5_sendsOfHost_39 (by decide) ?_
      refine J_icmp_ne (tgt := 47) C dX5_sendsOfHost_40 (by decide) ?_ ?_
      · refine J_aload_n C 0 rfl rfl dX5_sendsOfHost_47 ?_
        refine J_get C 0 15 5 (C0 := RX5) (T := TX5) (N := 23) (by decide +kernel) rfl rfl (by decide) (by decide +kernel) rfl dX5_sendsOfHost_48 ?_
        refine J_iload_n C 3 rfl rfl dX5_sendsOfHost_51 ?_
        refine J_iald C 10 0 rfl rfl dX5_sendsOfHost_52 ?_
        refine J_iconst (v := (3 : Int32)) C dX5_sendsOfHost_53 (by decide) ?_
        refine J_icmp_ne (tgt := 61) C dX5_sendsOfHost_54 (by decide) ?_ ?_
        · refine J_iconst (v := (0 : Int32)) C dX5_sendsOfHost_61 (by decide) ?_
          exact jX5_sendsOfHost_b62 C hRet σ v1 v2 v3 (0 : Int32) v3 hK6
        · refine J_iconst (v := (2 : Int32)) C dX5_sendsOfHost_57 (by decide) ?_
          refine J_goto (tgt := 62) C dX5_sendsOfHost_58 (by decide) ?_
          exact jX5_sendsOfHost_b62 C hRet σ v1 v2 v3 (2 : Int32) v3 hK6
      · refine J_iconst (v := (1 : Int32)) C dX5_sendsOfHost_43 (by decide) ?_
        refine J_goto (tgt := 62) C dX5_sendsOfHost_44 (by decide) ?_
        exact jX5_sendsOfHost_b62 C hRet σ v1 v2 v3 (1 : Int32) v3 hK6
    · refine J_iconst (v := (0 : Int32)) C dX5_sendsOfHost_29 (by decide) ?_
      refine J_goto (tgt := 62) C dX5_sendsOfHost_30 (by decide) ?_
      exact jX5_sendsOfHost_b62 C hRet σ v1 v2 v3 (0 : Int32) v3 hK6
set_option maxHeartbeats 4000000 in
set_option maxRecDepth 100000 in
theorem tX5_sendsOfHost {l : Launch} {D : va_G} {ad : Nat → Nat} {cyI cyZ : ClassId} (v1 : Int32) (σ : St) (r : Int32) (σ1 : St) (h : fX5_sendsOfHost v1 σ = some (r, σ1)) : MI l D [(cyI, .int), (cyZ, .boolean)] (wM ad cyI cyZ) yX5_sendsOfHost wsX5_sendsOfHost ({ frames := 0, cells := 0, slots := 0, locals := 0 } : Room) [.ref (ad 0), .int v1] σ r σ1 := by
  refine entryI (own := RX5) r σ1 (by decide +kernel) rfl rfl (Nat.le_of_ble_eq_true rfl) (fX5_sendsOfHost v1 σ) h ?_
  intro p e s m below meth c Q A C hRet
  generalize ([.ref (ad 0), .int v1] : List Value).toArray = args at *
  show J p l e ({ frames := 0, cells := 0, slots := 0, locals := 0 } : Room) s m args below meth c 4 D A (wM ad cyI cyZ) Q (r, σ1) (fX5_sendsOfHost v1 σ) σ 0 [(0, .ref (ad 0)), (1, .int v1)] []
  unfold fX5_sendsOfHost
  refine J_iconst (v := (0 : Int32)) C dX5_sendsOfHost_0 (by decide) ?_
  refine J_istore_n C rfl dX5_sendsOfHost_1 (by decide) rfl ?_
  refine J_iconst (v := (4 : Int32)) C dX5_sendsOfHost_2 (by decide) ?_
  refine J_iload_n C 2 rfl rfl dX5_sendsOfHost_3 ?_
  refine J_imul C dX5_sendsOfHost_4 ?_
  refine J_istore_n C rfl dX5_sendsOfHost_5 (by decide) rfl ?_
  refine J_lv [2, 3, 1, 0] rfl ?_
  exact jX5_sendsOfHost_L6 C hRet v1 fuel (0 : Int32) ((4 : Int32) * v1) σ
end
