-- printed by wip/whole/ctor.py
set_option maxHeartbeats 4000000 in
set_option maxRecDepth 100000 in
theorem kX1_init (l : Launch) (D : va_G) (cyI cyZ : ClassId) (h0 sz : Nat) : Met l yX1_init wsX1_init ({ frames := 1, cells := 1, slots := 28, locals := 23 } : Room) (PreK D cyI cyZ [(h0, .inr (1, [.null, .int 0, .int 0, .int 0]))] sz [.ref h0]) (va_Qv (fun (u : Nat × (Nat → Int32)) => ∀ j, j < 28 → u.2 j = -1) (fun (u : Nat × (Nat → Int32)) (t : State) => va_P D vwCl [(h0, .inr (1, [.ref u.1, .int (0 : Int32), .int (0 : Int32), .int (0 : Int32)])), (u.1, .inl (cyI, 28, .inl u.2))] t.heap ∧ va_K D vwCl (tysU cyI cyZ) t ∧ va_D (va_A [(h0, .inr (1, [.null, .int 0, .int 0, .int 0]))] sz) [(h0, .inr (1, [.ref u.1, .int (0 : Int32), .int (0 : Int32), .int (0 : Int32)])), (u.1, .inl (cyI, 28, .inl u.2))]) (va_A [(h0, .inr (1, [.null, .int 0, .int 0, .int 0]))] sz)) 1 28 (va_A [(h0, .inr (1, [.null, .int 0, .int 0, .int 0]))] sz) := by
  refine Met.ofW (cc := cX1_init) (maxL := 1) (ret := none) (by decide) rfl ?_
  intro p e s m args below meth c s₁ B hml hv
  obtain ⟨rfl, hsz, hP, hK, hD0, hN⟩ := hv
  have hx := B.exec
  have hb := B.bytes
  have hr := B.returns
  have hts := atoms_spec (ws := wsX1_init) B.pre
  have hown : s.vm.findClass RX1 = some m.cls := findClass_of_methodNamed B.named
  have hlocks := B.notSynchronized
  have hin : meth.name = "<init>" := (name_of_methodNamed B.named B.method).1
  subst hsz
  have hD := hD0.self (sz := s.heap.size)
  generalize hAe : va_A [(h0, .inr (1, [.null, .int 0, .int 0, .int 0]))] s.heap.size = A at hD ⊢
  have hA : ∀ q : Nat, s.heap.size ≤ q → A q := fun q h => by rw [← hAe]; exact Or.inr h
  have hS : va_S A s.heap s.heap [] := va_S.rf
  have hP : va_P D vwCl [(h0, .inr (1, [.null, .int 0, .int 0, .int 0]))] s.heap := hP
  have hl := lv_entry ([.ref h0]) (n := 1) (Nat.le_of_ble_eq_true rfl)
  rw [lg_entry_eq]
  generalize (lg_sl ([.ref h0]) ++ List.replicate (1 - (lg_sl ([.ref h0])).length) Slot.unset).toArray = ls at hl ⊢
  have hl : lv_has ls 1 [(0, .ref h0)] := hl
  refine lv_aload_n hx hb dX1_init_0 rfl (lv_at hl 0 rfl) ?_
  refine W.objInit hx hb hown (hts (.methodLink RX1 3 objectInit) (List.mem_of_getElem? (i := 1) rfl)) (hts (.instanceMethod objectInit) (List.mem_of_getElem? (i := 2) rfl)) (hts _ (List.mem_of_getElem? (i := 3) rfl)) rfl (by rw [hml]; exact hl.1) rfl dX1_init_1 (Nat.le_of_ble_eq_true rfl) (Nat.le_of_ble_eq_true rfl) ?_
  refine W.eq (g2 := F0 m 4 ls []) rfl ?_
  refine lv_aload_n hx hb dX1_init_4 rfl (lv_at hl 0 rfl) ?_
  refine lv_bipush (v := (28 : Int32)) hx hb dX1_init_5 (by decide) ?_
  refine nwI (N := 28) hx hb (hts (.arrayClass .int) (by decide +kernel)) hK hP hD hS hA (by decide) (by decide) (by omega) (Nat.le_of_ble_eq_true rfl) (Nat.le_of_ble_eq_true rfl) dX1_init_7 (fun q7 H hP hD hS => ?_)
  have hP : va_P D vwCl [(h0, .inr (1, [.null, .int 0, .int 0, .int 0])), (q7, .inl (cyI, 28, .inl (fun _ => 0)))] H := hP
  have hD : va_D A [(h0, .inr (1, [.null, .int 0, .int 0, .int 0])), (q7, .inl (cyI, 28, .inl (fun _ => 0)))] := hD
  refine va_putF (D := D) (ci := 1) (v := .ref q7) (ty := .array .int) (C := RX1) (T := TX1) (N := 4) hx hb hts (by decide +kernel) tyX1 tyX1_ok nmX1 hown hK hP hD hS 0 rfl rfl 0 (by decide) (hts (.fieldLink RX1 9 "GroupRegistration$Network" "otherEnd" "[I") (by decide +kernel)) (fun _ h9 => h9) rfl hin rfl (by decide +kernel) rfl rfl (Nat.le_of_ble_eq_true rfl) dX1_init_9 (fun H locs hP hD hS => ?_)
  have hP : va_P D vwCl [(h0, .inr (1, [.ref q7, .int 0, .int 0, .int 0])), (q7, .inl (cyI, 28, .inl (fun _ => 0)))] H := hP
  have hD : va_D A [(h0, .inr (1, [.ref q7, .int 0, .int 0, .int 0])), (q7, .inl (cyI, 28, .inl (fun _ => 0)))] := hD
  refine lv_aload_n hx hb dX1_init_12 rfl (lv_at hl 0 rfl) ?_
  refine lv_iconst (v := (0 : Int32)) hx hb dX1_init_13 (by decide) ?_
  refine va_put (D := D) (ci := 1) (v := .int (0 : Int32)) (ty := .int) (C := RX1) (T := TX1) (N := 4) hx hb hts (by decide +kernel) tyX1 tyX1_ok nmX1 hown hK hP hD hS 0 rfl rfl 1 (by decide) (hts (.fieldLink RX1 15 "GroupRegistration$Network" "bridgeCount" "I") (by decide +kernel)) (fun _ h9 => h9) rfl (by decide +kernel) rfl rfl (Nat.le_of_ble_eq_true rfl) dX1_init_14 (fun H locs hP hD hS => ?_)
  have hP : va_P D vwCl [(h0, .inr (1, [.ref q7, .int (0 : Int32), .int 0, .int 0])), (q7, .inl (cyI, 28, .inl (fun _ => 0)))] H := hP
  have hD : va_D A [(h0, .inr (1, [.ref q7, .int (0 : Int32), .int 0, .int 0])), (q7, .inl (cyI, 28, .inl (fun _ => 0)))] := hD
  refine lv_aload_n hx hb dX1_init_17 rfl (lv_at hl 0 rfl) ?_
  refine lv_iconst (v := (0 : Int32)) hx hb dX1_init_18 (by decide) ?_
  refine va_put (D := D) (ci := 1) (v := .int (0 : Int32)) (ty := .int) (C := RX1) (T := TX1) (N := 4) hx hb hts (by decide +kernel) tyX1 tyX1_ok nmX1 hown hK hP hD hS 0 rfl rfl 2 (by decide) (hts (.fieldLink RX1 19 "GroupRegistration$Network" "hostCount" "I") (by decide +kernel)) (fun _ h9 => h9) rfl (by decide +kernel) rfl rfl (Nat.le_of_ble_eq_true rfl) dX1_init_19 (fun H locs hP hD hS => ?_)
  have hP : va_P D vwCl [(h0, .inr (1, [.ref q7, .int (0 : Int32), .int (0 : Int32), .int 0])), (q7, .inl (cyI, 28, .inl (fun _ => 0)))] H := hP
  have hD : va_D A [(h0, .inr (1, [.ref q7, .int (0 : Int32), .int (0 : Int32), .int 0])), (q7, .inl (cyI, 28, .inl (fun _ => 0)))] := hD
  refine lv_aload_n hx hb dX1_init_22 rfl (lv_at hl 0 rfl) ?_
  refine lv_iconst (v := (0 : Int32)) hx hb dX1_init_23 (by decide) ?_
  refine va_put (D := D) (ci := 1) (v := .int (0 : Int32)) (ty := .int) (C := RX1) (T := TX1) (N := 4) hx hb hts (by decide +kernel) tyX1 tyX1_ok nmX1 hown hK hP hD hS 0 rfl rfl 3 (by decide) (hts (.fieldLink RX1 22 "GroupRegistration$Network" "linkCount" "I") (by decide +kernel)) (fun _ h9 => h9) rfl (by decide +kernel) rfl rfl (Nat.le_of_ble_eq_true rfl) dX1_init_24 (fun H locs hP hD hS => ?_)
  have hP : va_P D vwCl [(h0, .inr (1, [.ref q7, .int (0 : Int32), .int (0 : Int32), .int (0 : Int32)])), (q7, .inl (cyI, 28, .inl (fun _ => 0)))] H := hP
  have hD : va_D A [(h0, .inr (1, [.ref q7, .int (0 : Int32), .int (0 : Int32), .int (0 : Int32)])), (q7, .inl (cyI, 28, .inl (fun _ => 0)))] := hD
  refine lv_aload_n hx hb dX1_init_27 rfl (lv_at hl 0 rfl) ?_
  refine va_get (D := D) (ci := 1) (v := .ref q7) (C := RX1) (T := TX1) (N := 4) hx hb hts (by decide +kernel) hown hK hP 0 rfl rfl 0 (by decide) (hts (.fieldLink RX1 9 "GroupRegistration$Network" "otherEnd" "[I") (by decide +kernel)) (fun _ h9 => h9) rfl dX1_init_28 ?_
  refine lv_iconst (v := (-1 : Int32)) hx hb dX1_init_31 (by decide) ?_
  obtain ⟨σf, ef, vf⟩ := fF_ev (n := 28) (by omega) (-1 : Int32) (fun _ _ => 0)
  have hPc := hP.sub (ws' := (wF q7 cyI 28 (fun _ _ => 0))) [1] rfl
  have hDc := hD.sub (ws' := (wF q7 cyI 28 (fun _ _ => 0))) [1] (by decide) rfl
  have hFc := va_free (wc := (wF q7 cyI 28 (fun _ _ => 0))) hD hS hA [1] rfl
  refine va_callv (va_runS (As := [.ref q7, .int (-1 : Int32)]) (rest := []) ⟨hx, hb, hml, hown, hts⟩ (tF (l := l) (D := D) (a := q7) (n := 28) (cyI := cyI) (cyZ := cyZ) (-1 : Int32) (fun _ _ => 0) σf ef H.size) (va_cwS 2 hts gX1_init_J7_fill_53178 rfl rfl rfl (by decide +kernel) ⟨Nat.le_of_ble_eq_true rfl, Nat.le_of_ble_eq_true rfl⟩) ⟨PreC.blind, fun U hU hW => ⟨rfl, by rw [hU], by rw [hU]; exact hPc, va_K.moved hW.alike hK, hDc.weaken (fun _ _ _ _ => trivial), NW.warm hW hN⟩⟩ rfl rfl hl.1 rfl (lv_room (Nat.le_of_ble_eq_true rfl)) dX1_init_32 ⟨Nat.le_of_ble_eq_true rfl, Nat.le_of_ble_eq_true rfl⟩) hS (fun q _ h => hFc q h) hFc (fun u t H1 locs ht hvm hw hB hz1 hk1 hS => ?_)
  subst hw
  obtain ⟨hP1, hK1, hD1⟩ := hB
  rw [ht] at hP1
  obtain ⟨hP, hD⟩ := va_join (wr := [(h0, .inr (1, [.ref q7, .int (0 : Int32), .int (0 : Int32), .int (0 : Int32)]))]) (w1 := [(q7, .inl (cyI, 28, .inl (u 0)))]) hP hD [1] [0] rfl rfl (by decide) (by decide) hk1 hFc hP1 hD1
  generalize H1 = H at hP hS ⊢
  have hP : va_P D vwCl [(h0, .inr (1, [.ref q7, .int (0 : Int32), .int (0 : Int32), .int (0 : Int32)])), (q7, .inl (cyI, 28, .inl (u 0)))] H := hP
  have hD : va_D A [(h0, .inr (1, [.ref q7, .int (0 : Int32), .int (0 : Int32), .int (0 : Int32)])), (q7, .inl (cyI, 28, .inl (u 0)))] := hD
  have hP9 := hP.sub (ws' := [(h0, .inr (1, [.ref q7, .int (0 : Int32), .int (0 : Int32), .int (0 : Int32)])), (q7, .inl (cyI, 28, .inl (u 0)))]) [0, 1] rfl
  have hD9 := hD.sub (ws' := [(h0, .inr (1, [.ref q7, .int (0 : Int32), .int (0 : Int32), .int (0 : Int32)])), (q7, .inl (cyI, 28, .inl (u 0)))]) [0, 1] (by decide) rfl
  exact W.vret hx hb hr (fun t ht hW => ⟨⟨(q7, u 0), rfl, vf, by rw [ht]; exact hP9, va_K.moved hW.alike hK, hD9⟩, hS.F ht⟩) hS.2.2 dX1_init_35
set_option maxHeartbeats 4000000 in
set_option maxRecDepth 100000 in
theorem kX3_init (l : Launch) (D : va_G) (cyI cyZ : ClassId) (h0 sz : Nat) : Met l yX3_init wsX3_init ({ frames := 1, cells := 2, slots := 160, locals := 23 } : Room) (PreK D cyI cyZ [(h0, .inr (3, [.null, .null]))] sz [.ref h0]) (va_Qv (fun (u : Nat × Nat × (Nat → Int32)) => ∀ j, j < 80 → u.2.2 j = 0) (fun (u : Nat × Nat × (Nat → Int32)) (t : State) => va_P D vwCl [(h0, .inr (3, [.ref u.1, .ref u.2.1])), (u.1, .inl (cyI, 80, .inl u.2.2)), (u.2.1, .inl (cyI, 80, .inl (fun _ => 0)))] t.heap ∧ va_K D vwCl (tysU cyI cyZ) t ∧ va_D (va_A [(h0, .inr (3, [.null, .null]))] sz) [(h0, .inr (3, [.ref u.1, .ref u.2.1])), (u.1, .inl (cyI, 80, .inl u.2.2)), (u.2.1, .inl (cyI, 80, .inl (fun _ => 0)))]) (va_A [(h0, .inr (3, [.null, .null]))] sz)) 2 160 (va_A [(h0, .inr (3, [.null, .null]))] sz) := by
  refine Met.ofW (cc := cX3_init) (maxL := 1) (ret := none) (by decide) rfl ?_
  intro p e s m args below meth c s₁ B hml hv
  obtain ⟨rfl, hsz, hP, hK, hD0, hN⟩ := hv
  have hx := B.exec
  have hb := B.bytes
  have hr := B.returns
  have hts := atoms_spec (ws := wsX3_init) B.pre
  have hown : s.vm.findClass RX3 = some m.cls := findClass_of_methodNamed B.named
  have hlocks := B.notSynchronized
  have hin : meth.name = "<init>" := (name_of_methodNamed B.named B.method).1
  subst hsz
  have hD := hD0.self (sz := s.heap.size)
  generalize hAe : va_A [(h0, .inr (3, [.null, .null]))] s.heap.size = A at hD ⊢
  have hA : ∀ q : Nat, s.heap.size ≤ q → A q := fun q h => by rw [← hAe]; exact Or.inr h
  have hS : va_S A s.heap s.heap [] := va_S.rf
  have hP : va_P D vwCl [(h0, .inr (3, [.null, .null]))] s.heap := hP
  have hl := lv_entry ([.ref h0]) (n := 1) (Nat.le_of_ble_eq_true rfl)
  rw [lg_entry_eq]
  generalize (lg_sl ([.ref h0]) ++ List.replicate (1 - (lg_sl ([.ref h0])).length) Slot.unset).toArray = ls at hl ⊢
  have hl : lv_has ls 1 [(0, .ref h0)] := hl
  refine lv_aload_n hx hb dX3_init_0 rfl (lv_at hl 0 rfl) ?_
  refine W.objInit hx hb hown (hts (.methodLink RX3 3 objectInit) (List.mem_of_getElem? (i := 1) rfl)) (hts (.instanceMethod objectInit) (List.mem_of_getElem? (i := 2) rfl)) (hts _ (List.mem_of_getElem? (i := 3) rfl)) rfl (by rw [hml]; exact hl.1) rfl dX3_init_1 (Nat.le_of_ble_eq_true rfl) (Nat.le_of_ble_eq_true rfl) ?_
  refine W.eq (g2 := F0 m 4 ls []) rfl ?_
  refine lv_aload_n hx hb dX3_init_4 rfl (lv_at hl 0 rfl) ?_
  refine lv_bipush (v := (80 : Int32)) hx hb dX3_init_5 (by decide) ?_
  refine nwI (N := 80) hx hb (hts (.arrayClass .int) (by decide +kernel)) hK hP hD hS hA (by decide) (by decide) (by omega) (Nat.le_of_ble_eq_true rfl) (Nat.le_of_ble_eq_true rfl) dX3_init_7 (fun q7 H hP hD hS => ?_)
  have hP : va_P D vwCl [(h0, .inr (3, [.null, .null])), (q7, .inl (cyI, 80, .inl (fun _ => 0)))] H := hP
  have hD : va_D A [(h0, .inr (3, [.null, .null])), (q7, .inl (cyI, 80, .inl (fun _ => 0)))] := hD
  refine va_putF (D := D) (ci := 3) (v := .ref q7) (ty := .array .int) (C := RX3) (T := TX3) (N := 2) hx hb hts (by decide +kernel) tyX3 tyX3_ok nmX3 hown hK hP hD hS 0 rfl rfl 0 (by decide) (hts (.fieldLink RX3 9 "GroupRegistration$Registrars" "state" "[I") (by decide +kernel)) (fun _ h9 => h9) rfl hin rfl (by decide +kernel) rfl rfl (Nat.le_of_ble_eq_true rfl) dX3_init_9 (fun H locs hP hD hS => ?_)
  have hP : va_P D vwCl [(h0, .inr (3, [.ref q7, .null])), (q7, .inl (cyI, 80, .inl (fun _ => 0)))] H := hP
  have hD : va_D A [(h0, .inr (3, [.ref q7, .null])), (q7, .inl (cyI, 80, .inl (fun _ => 0)))] := hD
  refine lv_aload_n hx hb dX3_init_12 rfl (lv_at hl 0 rfl) ?_
  refine lv_bipush (v := (80 : Int32)) hx hb dX3_init_13 (by decide) ?_
  refine nwI (N := 80) hx hb (hts (.arrayClass .int) (by decide +kernel)) hK hP hD hS hA (by decide) (by decide) (by omega) (Nat.le_of_ble_eq_true rfl) (Nat.le_of_ble_eq_true rfl) dX3_init_15 (fun q15 H hP hD hS => ?_)
  have hP : va_P D vwCl [(h0, .inr (3, [.ref q7, .null])), (q7, .inl (cyI, 80, .inl (fun _ => 0))), (q15, .inl (cyI, 80, .inl (fun _ => 0)))] H := hP
  have hD : va_D A [(h0, .inr (3, [.ref q7, .null])), (q7, .inl (cyI, 80, .inl (fun _ => 0))), (q15, .inl (cyI, 80, .inl (fun _ => 0)))] := hD
  refine va_putF (D := D) (ci := 3) (v := .ref q15) (ty := .array .int) (C := RX3) (T := TX3) (N := 2) hx hb hts (by decide +kernel) tyX3 tyX3_ok nmX3 hown hK hP hD hS 0 rfl rfl 1 (by decide) (hts (.fieldLink RX3 15 "GroupRegistration$Registrars" "timer" "[I") (by decide +kernel)) (fun _ h9 => h9) rfl hin rfl (by decide +kernel) rfl rfl (Nat.le_of_ble_eq_true rfl) dX3_init_17 (fun H locs hP hD hS => ?_)
  have hP : va_P D vwCl [(h0, .inr (3, [.ref q7, .ref q15])), (q7, .inl (cyI, 80, .inl (fun _ => 0))), (q15, .inl (cyI, 80, .inl (fun _ => 0)))] H := hP
  have hD : va_D A [(h0, .inr (3, [.ref q7, .ref q15])), (q7, .inl (cyI, 80, .inl (fun _ => 0))), (q15, .inl (cyI, 80, .inl (fun _ => 0)))] := hD
  refine lv_aload_n hx hb dX3_init_20 rfl (lv_at hl 0 rfl) ?_
  refine va_get (D := D) (ci := 3) (v := .ref q7) (C := RX3) (T := TX3) (N := 2) hx hb hts (by decide +kernel) hown hK hP 0 rfl rfl 0 (by decide) (hts (.fieldLink RX3 9 "GroupRegistration$Registrars" "state" "[I") (by decide +kernel)) (fun _ h9 => h9) rfl dX3_init_21 ?_
  refine lv_iconst (v := (0 : Int32)) hx hb dX3_init_24 (by decide) ?_
  obtain ⟨σf, ef, vf⟩ := fF_ev (n := 80) (by omega) (0 : Int32) (fun _ _ => 0)
  have hPc := hP.sub (ws' := (wF q7 cyI 80 (fun _ _ => 0))) [1] rfl
  have hDc := hD.sub (ws' := (wF q7 cyI 80 (fun _ _ => 0))) [1] (by decide) rfl
  have hFc := va_free (wc := (wF q7 cyI 80 (fun _ _ => 0))) hD hS hA [1] rfl
  refine va_callv (va_runS (As := [.ref q7, .int (0 : Int32)]) (rest := []) ⟨hx, hb, hml, hown, hts⟩ (tF (l := l) (D := D) (a := q7) (n := 80) (cyI := cyI) (cyZ := cyZ) (0 : Int32) (fun _ _ => 0) σf ef H.size) (va_cwS 2 hts gX3_init_J7_fill_53178 rfl rfl rfl (by decide +kernel) ⟨Nat.le_of_ble_eq_true rfl, Nat.le_of_ble_eq_true rfl⟩) ⟨PreC.blind, fun U hU hW => ⟨rfl, by rw [hU], by rw [hU]; exact hPc, va_K.moved hW.alike hK, hDc.weaken (fun _ _ _ _ => trivial), NW.warm hW hN⟩⟩ rfl rfl hl.1 rfl (lv_room (Nat.le_of_ble_eq_true rfl)) dX3_init_25 ⟨Nat.le_of_ble_eq_true rfl, Nat.le_of_ble_eq_true rfl⟩) hS (fun q _ h => hFc q h) hFc (fun u t H1 locs ht hvm hw hB hz1 hk1 hS => ?_)
  subst hw
  obtain ⟨hP1, hK1, hD1⟩ := hB
  rw [ht] at hP1
  obtain ⟨hP, hD⟩ := va_join (wr := [(h0, .inr (3, [.ref q7, .ref q15])), (q15, .inl (cyI, 80, .inl (fun _ => 0)))]) (w1 := [(q7, .inl (cyI, 80, .inl (u 0)))]) hP hD [1] [0, 2] rfl rfl (by decide) (by decide) hk1 hFc hP1 hD1
  generalize H1 = H at hP hS ⊢
  have hP : va_P D vwCl [(h0, .inr (3, [.ref q7, .ref q15])), (q15, .inl (cyI, 80, .inl (fun _ => 0))), (q7, .inl (cyI, 80, .inl (u 0)))] H := hP
  have hD : va_D A [(h0, .inr (3, [.ref q7, .ref q15])), (q15, .inl (cyI, 80, .inl (fun _ => 0))), (q7, .inl (cyI, 80, .inl (u 0)))] := hD
  have hP9 := hP.sub (ws' := [(h0, .inr (3, [.ref q7, .ref q15])), (q7, .inl (cyI, 80, .inl (u 0))), (q15, .inl (cyI, 80, .inl (fun _ => 0)))]) [0, 2, 1] rfl
  have hD9 := hD.sub (ws' := [(h0, .inr (3, [.ref q7, .ref q15])), (q7, .inl (cyI, 80, .inl (u 0))), (q15, .inl (cyI, 80, .inl (fun _ => 0)))]) [0, 2, 1] (by decide) rfl
  exact W.vret hx hb hr (fun t ht hW => ⟨⟨(q7, q15, u 0), rfl, vf, by rw [ht]; exact hP9, va_K.moved hW.alike hK, hD9⟩, hS.F ht⟩) hS.2.2 dX3_init_28
set_option maxHeartbeats 4000000 in
set_option maxRecDepth 100000 in
theorem kX0_init (l : Launch) (D : va_G) (cyI cyZ : ClassId) (h0 sz : Nat) : Met l yX0_init wsX0_init ({ frames := 1, cells := 2, slots := 224, locals := 23 } : Room) (PreK D cyI cyZ [(h0, .inr (0, [.null, .null]))] sz [.ref h0]) (va_Qv (fun (u : Nat × Nat × (Nat → Int32)) => ∀ j, j < 112 → u.2.2 j = 0) (fun (u : Nat × Nat × (Nat → Int32)) (t : State) => va_P D vwCl [(h0, .inr (0, [.ref u.1, .ref u.2.1])), (u.1, .inl (cyI, 112, .inl u.2.2)), (u.2.1, .inl (cyI, 112, .inl (fun _ => 0)))] t.heap ∧ va_K D vwCl (tysU cyI cyZ) t ∧ va_D (va_A [(h0, .inr (0, [.null, .null]))] sz) [(h0, .inr (0, [.ref u.1, .ref u.2.1])), (u.1, .inl (cyI, 112, .inl u.2.2)), (u.2.1, .inl (cyI, 112, .inl (fun _ => 0)))]) (va_A [(h0, .inr (0, [.null, .null]))] sz)) 2 224 (va_A [(h0, .inr (0, [.null, .null]))] sz) := by
  refine Met.ofW (cc := cX0_init) (maxL := 1) (ret := none) (by decide) rfl ?_
  intro p e s m args below meth c s₁ B hml hv
  obtain ⟨rfl, hsz, hP, hK, hD0, hN⟩ := hv
  have hx := B.exec
  have hb := B.bytes
  have hr := B.returns
  have hts := atoms_spec (ws := wsX0_init) B.pre
  have hown : s.vm.findClass RX0 = some m.cls := findClass_of_methodNamed B.named
  have hlocks := B.notSynchronized
  have hin : meth.name = "<init>" := (name_of_methodNamed B.named B.method).1
  subst hsz
  have hD := hD0.self (sz := s.heap.size)
  generalize hAe : va_A [(h0, .inr (0, [.null, .null]))] s.heap.size = A at hD ⊢
  have hA : ∀ q : Nat, s.heap.size ≤ q → A q := fun q h => by rw [← hAe]; exact Or.inr h
  have hS : va_S A s.heap s.heap [] := va_S.rf
  have hP : va_P D vwCl [(h0, .inr (0, [.null, .null]))] s.heap := hP
  have hl := lv_entry ([.ref h0]) (n := 1) (Nat.le_of_ble_eq_true rfl)
  rw [lg_entry_eq]
  generalize (lg_sl ([.ref h0]) ++ List.replicate (1 - (lg_sl ([.ref h0])).length) Slot.unset).toArray = ls at hl ⊢
  have hl : lv_has ls 1 [(0, .ref h0)] := hl
  refine lv_aload_n hx hb dX0_init_0 rfl (lv_at hl 0 rfl) ?_
  refine W.objInit hx hb hown (hts (.methodLink RX0 3 objectInit) (List.mem_of_getElem? (i := 1) rfl)) (hts (.instanceMethod objectInit) (List.mem_of_getElem? (i := 2) rfl)) (hts _ (List.mem_of_getElem? (i := 3) rfl)) rfl (by rw [hml]; exact hl.1) rfl dX0_init_1 (Nat.le_of_ble_eq_true rfl) (Nat.le_of_ble_eq_true rfl) ?_
  refine W.eq (g2 := F0 m 4 ls []) rfl ?_
  refine lv_aload_n hx hb dX0_init_4 rfl (lv_at hl 0 rfl) ?_
  refine lv_bipush (v := (112 : Int32)) hx hb dX0_init_5 (by decide) ?_
  refine nwI (N := 112) hx hb (hts (.arrayClass .int) (by decide +kernel)) hK hP hD hS hA (by decide) (by decide) (by omega) (Nat.le_of_ble_eq_true rfl) (Nat.le_of_ble_eq_true rfl) dX0_init_7 (fun q7 H hP hD hS => ?_)
  have hP : va_P D vwCl [(h0, .inr (0, [.null, .null])), (q7, .inl (cyI, 112, .inl (fun _ => 0)))] H := hP
  have hD : va_D A [(h0, .inr (0, [.null, .null])), (q7, .inl (cyI, 112, .inl (fun _ => 0)))] := hD
  refine va_putF (D := D) (ci := 0) (v := .ref q7) (ty := .array .int) (C := RX0) (T := TX0) (N := 2) hx hb hts (by decide +kernel) tyX0 tyX0_ok nmX0 hown hK hP hD hS 0 rfl rfl 0 (by decide) (hts (.fieldLink RX0 9 "GroupRegistration$Applicants" "state" "[I") (by decide +kernel)) (fun _ h9 => h9) rfl hin rfl (by decide +kernel) rfl rfl (Nat.le_of_ble_eq_true rfl) dX0_init_9 (fun H locs hP hD hS => ?_)
  have hP : va_P D vwCl [(h0, .inr (0, [.ref q7, .null])), (q7, .inl (cyI, 112, .inl (fun _ => 0)))] H := hP
  have hD : va_D A [(h0, .inr (0, [.ref q7, .null])), (q7, .inl (cyI, 112, .inl (fun _ => 0)))] := hD
  refine lv_aload_n hx hb dX0_init_12 rfl (lv_at hl 0 rfl) ?_
  refine lv_bipush (v := (112 : Int32)) hx hb dX0_init_13 (by decide) ?_
  refine nwI (N := 112) hx hb (hts (.arrayClass .int) (by decide +kernel)) hK hP hD hS hA (by decide) (by decide) (by omega) (Nat.le_of_ble_eq_true rfl) (Nat.le_of_ble_eq_true rfl) dX0_init_15 (fun q15 H hP hD hS => ?_)
  have hP : va_P D vwCl [(h0, .inr (0, [.ref q7, .null])), (q7, .inl (cyI, 112, .inl (fun _ => 0))), (q15, .inl (cyI, 112, .inl (fun _ => 0)))] H := hP
  have hD : va_D A [(h0, .inr (0, [.ref q7, .null])), (q7, .inl (cyI, 112, .inl (fun _ => 0))), (q15, .inl (cyI, 112, .inl (fun _ => 0)))] := hD
  refine va_putF (D := D) (ci := 0) (v := .ref q15) (ty := .array .int) (C := RX0) (T := TX0) (N := 2) hx hb hts (by decide +kernel) tyX0 tyX0_ok nmX0 hown hK hP hD hS 0 rfl rfl 1 (by decide) (hts (.fieldLink RX0 15 "GroupRegistration$Applicants" "joinsToSend" "[I") (by decide +kernel)) (fun _ h9 => h9) rfl hin rfl (by decide +kernel) rfl rfl (Nat.le_of_ble_eq_true rfl) dX0_init_17 (fun H locs hP hD hS => ?_)
  have hP : va_P D vwCl [(h0, .inr (0, [.ref q7, .ref q15])), (q7, .inl (cyI, 112, .inl (fun _ => 0))), (q15, .inl (cyI, 112, .inl (fun _ => 0)))] H := hP
  have hD : va_D A [(h0, .inr (0, [.ref q7, .ref q15])), (q7, .inl (cyI, 112, .inl (fun _ => 0))), (q15, .inl (cyI, 112, .inl (fun _ => 0)))] := hD
  refine lv_aload_n hx hb dX0_init_20 rfl (lv_at hl 0 rfl) ?_
  refine va_get (D := D) (ci := 0) (v := .ref q7) (C := RX0) (T := TX0) (N := 2) hx hb hts (by decide +kernel) hown hK hP 0 rfl rfl 0 (by decide) (hts (.fieldLink RX0 9 "GroupRegistration$Applicants" "state" "[I") (by decide +kernel)) (fun _ h9 => h9) rfl dX0_init_21 ?_
  refine lv_iconst (v := (0 : Int32)) hx hb dX0_init_24 (by decide) ?_
  obtain ⟨σf, ef, vf⟩ := fF_ev (n := 112) (by omega) (0 : Int32) (fun _ _ => 0)
  have hPc := hP.sub (ws' := (wF q7 cyI 112 (fun _ _ => 0))) [1] rfl
  have hDc := hD.sub (ws' := (wF q7 cyI 112 (fun _ _ => 0))) [1] (by decide) rfl
  have hFc := va_free (wc := (wF q7 cyI 112 (fun _ _ => 0))) hD hS hA [1] rfl
  refine va_callv (va_runS (As := [.ref q7, .int (0 : Int32)]) (rest := []) ⟨hx, hb, hml, hown, hts⟩ (tF (l := l) (D := D) (a := q7) (n := 112) (cyI := cyI) (cyZ := cyZ) (0 : Int32) (fun _ _ => 0) σf ef H.size) (va_cwS 2 hts gX0_init_J7_fill_53178 rfl rfl rfl (by decide +kernel) ⟨Nat.le_of_ble_eq_true rfl, Nat.le_of_ble_eq_true rfl⟩) ⟨PreC.blind, fun U hU hW => ⟨rfl, by rw [hU], by rw [hU]; exact hPc, va_K.moved hW.alike hK, hDc.weaken (fun _ _ _ _ => trivial), NW.warm hW hN⟩⟩ rfl rfl hl.1 rfl (lv_room (Nat.le_of_ble_eq_true rfl)) dX0_init_25 ⟨Nat.le_of_ble_eq_true rfl, Nat.le_of_ble_eq_true rfl⟩) hS (fun q _ h => hFc q h) hFc (fun u t H1 locs ht hvm hw hB hz1 hk1 hS => ?_)
  subst hw
  obtain ⟨hP1, hK1, hD1⟩ := hB
  rw [ht] at hP1
  obtain ⟨hP, hD⟩ := va_join (wr := [(h0, .inr (0, [.ref q7, .ref q15])), (q15, .inl (cyI, 112, .inl (fun _ => 0)))]) (w1 := [(q7, .inl (cyI, 112, .inl (u 0)))]) hP hD [1] [0, 2] rfl rfl (by decide) (by decide) hk1 hFc hP1 hD1
  generalize H1 = H at hP hS ⊢
  have hP : va_P D vwCl [(h0, .inr (0, [.ref q7, .ref q15])), (q15, .inl (cyI, 112, .inl (fun _ => 0))), (q7, .inl (cyI, 112, .inl (u 0)))] H := hP
  have hD : va_D A [(h0, .inr (0, [.ref q7, .ref q15])), (q15, .inl (cyI, 112, .inl (fun _ => 0))), (q7, .inl (cyI, 112, .inl (u 0)))] := hD
  have hP9 := hP.sub (ws' := [(h0, .inr (0, [.ref q7, .ref q15])), (q7, .inl (cyI, 112, .inl (u 0))), (q15, .inl (cyI, 112, .inl (fun _ => 0)))]) [0, 2, 1] rfl
  have hD9 := hD.sub (ws' := [(h0, .inr (0, [.ref q7, .ref q15])), (q7, .inl (cyI, 112, .inl (u 0))), (q15, .inl (cyI, 112, .inl (fun _ => 0)))]) [0, 2, 1] (by decide) rfl
  exact W.vret hx hb hr (fun t ht hW => ⟨⟨(q7, q15, u 0), rfl, vf, by rw [ht]; exact hP9, va_K.moved hW.alike hK, hD9⟩, hS.F ht⟩) hS.2.2 dX0_init_28
set_option maxHeartbeats 4000000 in
set_option maxRecDepth 100000 in
theorem kX2_init (l : Launch) (D : va_G) (cyI cyZ : ClassId) (h0 sz : Nat) : Met l yX2_init wsX2_init ({ frames := 1, cells := 2, slots := 140, locals := 12 } : Room) (PreK D cyI cyZ [(h0, .inr (2, [.null, .null]))] sz [.ref h0]) (va_Qv (fun (u : Nat × Nat) => True) (fun (u : Nat × Nat) (t : State) => va_P D vwCl [(h0, .inr (2, [.ref u.1, .ref u.2])), (u.1, .inl (cyZ, 28, .inl (fun _ => 0))), (u.2, .inl (cyI, 112, .inl (fun _ => 0)))] t.heap ∧ va_K D vwCl (tysU cyI cyZ) t ∧ va_D (va_A [(h0, .inr (2, [.null, .null]))] sz) [(h0, .inr (2, [.ref u.1, .ref u.2])), (u.1, .inl (cyZ, 28, .inl (fun _ => 0))), (u.2, .inl (cyI, 112, .inl (fun _ => 0)))]) (va_A [(h0, .inr (2, [.null, .null]))] sz)) 2 140 (va_A [(h0, .inr (2, [.null, .null]))] sz) := by
  refine Met.ofW (cc := cX2_init) (maxL := 1) (ret := none) (by decide) rfl ?_
  intro p e s m args below meth c s₁ B hml hv
  obtain ⟨rfl, hsz, hP, hK, hD0, hN⟩ := hv
  have hx := B.exec
  have hb := B.bytes
  have hr := B.returns
  have hts := atoms_spec (ws := wsX2_init) B.pre
  have hown : s.vm.findClass RX2 = some m.cls := findClass_of_methodNamed B.named
  have hlocks := B.notSynchronized
  have hin : meth.name = "<init>" := (name_of_methodNamed B.named B.method).1
  subst hsz
  have hD := hD0.self (sz := s.heap.size)
  generalize hAe : va_A [(h0, .inr (2, [.null, .null]))] s.heap.size = A at hD ⊢
  have hA : ∀ q : Nat, s.heap.size ≤ q → A q := fun q h => by rw [← hAe]; exact Or.inr h
  have hS : va_S A s.heap s.heap [] := va_S.rf
  have hP : va_P D vwCl [(h0, .inr (2, [.null, .null]))] s.heap := hP
  have hl := lv_entry ([.ref h0]) (n := 1) (Nat.le_of_ble_eq_true rfl)
  rw [lg_entry_eq]
  generalize (lg_sl ([.ref h0]) ++ List.replicate (1 - (lg_sl ([.ref h0])).length) Slot.unset).toArray = ls at hl ⊢
  have hl : lv_has ls 1 [(0, .ref h0)] := hl
  refine lv_aload_n hx hb dX2_init_0 rfl (lv_at hl 0 rfl) ?_
  refine W.objInit hx hb hown (hts (.methodLink RX2 3 objectInit) (List.mem_of_getElem? (i := 1) rfl)) (hts (.instanceMethod objectInit) (List.mem_of_getElem? (i := 2) rfl)) (hts _ (List.mem_of_getElem? (i := 3) rfl)) rfl (by rw [hml]; exact hl.1) rfl dX2_init_1 (Nat.le_of_ble_eq_true rfl) (Nat.le_of_ble_eq_true rfl) ?_
  refine W.eq (g2 := F0 m 4 ls []) rfl ?_
  refine lv_aload_n hx hb dX2_init_4 rfl (lv_at hl 0 rfl) ?_
  refine lv_bipush (v := (28 : Int32)) hx hb dX2_init_5 (by decide) ?_
  refine nwZ (N := 28) hx hb (hts (.arrayClass .boolean) (by decide +kernel)) hK hP hD hS hA (by decide) (by decide) (by omega) (Nat.le_of_ble_eq_true rfl) (Nat.le_of_ble_eq_true rfl) dX2_init_7 (fun q7 H hP hD hS => ?_)
  have hP : va_P D vwCl [(h0, .inr (2, [.null, .null])), (q7, .inl (cyZ, 28, .inl (fun _ => 0)))] H := hP
  have hD : va_D A [(h0, .inr (2, [.null, .null])), (q7, .inl (cyZ, 28, .inl (fun _ => 0)))] := hD
  refine va_putF (D := D) (ci := 2) (v := .ref q7) (ty := .array .boolean) (C := RX2) (T := TX2) (N := 2) hx hb hts (by decide +kernel) tyX2 tyX2_ok nmX2 hown hK hP hD hS 0 rfl rfl 0 (by decide) (hts (.fieldLink RX2 9 "GroupRegistration$Outbox" "leaveAll" "[Z") (by decide +kernel)) (fun _ h9 => h9) rfl hin rfl (by decide +kernel) rfl rfl (Nat.le_of_ble_eq_true rfl) dX2_init_9 (fun H locs hP hD hS => ?_)
  have hP : va_P D vwCl [(h0, .inr (2, [.ref q7, .null])), (q7, .inl (cyZ, 28, .inl (fun _ => 0)))] H := hP
  have hD : va_D A [(h0, .inr (2, [.ref q7, .null])), (q7, .inl (cyZ, 28, .inl (fun _ => 0)))] := hD
  refine lv_aload_n hx hb dX2_init_12 rfl (lv_at hl 0 rfl) ?_
  refine lv_bipush (v := (112 : Int32)) hx hb dX2_init_13 (by decide) ?_
  refine nwI (N := 112) hx hb (hts (.arrayClass .int) (by decide +kernel)) hK hP hD hS hA (by decide) (by decide) (by omega) (Nat.le_of_ble_eq_true rfl) (Nat.le_of_ble_eq_true rfl) dX2_init_15 (fun q15 H hP hD hS => ?_)
  have hP : va_P D vwCl [(h0, .inr (2, [.ref q7, .null])), (q7, .inl (cyZ, 28, .inl (fun _ => 0))), (q15, .inl (cyI, 112, .inl (fun _ => 0)))] H := hP
  have hD : va_D A [(h0, .inr (2, [.ref q7, .null])), (q7, .inl (cyZ, 28, .inl (fun _ => 0))), (q15, .inl (cyI, 112, .inl (fun _ => 0)))] := hD
  refine va_putF (D := D) (ci := 2) (v := .ref q15) (ty := .array .int) (C := RX2) (T := TX2) (N := 2) hx hb hts (by decide +kernel) tyX2 tyX2_ok nmX2 hown hK hP hD hS 0 rfl rfl 1 (by decide) (hts (.fieldLink RX2 15 "GroupRegistration$Outbox" "message" "[I") (by decide +kernel)) (fun _ h9 => h9) rfl hin rfl (by decide +kernel) rfl rfl (Nat.le_of_ble_eq_true rfl) dX2_init_17 (fun H locs hP hD hS => ?_)
  have hP : va_P D vwCl [(h0, .inr (2, [.ref q7, .ref q15])), (q7, .inl (cyZ, 28, .inl (fun _ => 0))), (q15, .inl (cyI, 112, .inl (fun _ => 0)))] H := hP
  have hD : va_D A [(h0, .inr (2, [.ref q7, .ref q15])), (q7, .inl (cyZ, 28, .inl (fun _ => 0))), (q15, .inl (cyI, 112, .inl (fun _ => 0)))] := hD
  have hP9 := hP.sub (ws' := [(h0, .inr (2, [.ref q7, .ref q15])), (q7, .inl (cyZ, 28, .inl (fun _ => 0))), (q15, .inl (cyI, 112, .inl (fun _ => 0)))]) [0, 1, 2] rfl
  have hD9 := hD.sub (ws' := [(h0, .inr (2, [.ref q7, .ref q15])), (q7, .inl (cyZ, 28, .inl (fun _ => 0))), (q15, .inl (cyI, 112, .inl (fun _ => 0)))]) [0, 1, 2] (by decide) rfl
  exact W.vret hx hb hr (fun t ht hW => ⟨⟨(q7, q15), rfl, trivial, by rw [ht]; exact hP9, va_K.moved hW.alike hK, hD9⟩, hS.F ht⟩) hS.2.2 dX2_init_20
