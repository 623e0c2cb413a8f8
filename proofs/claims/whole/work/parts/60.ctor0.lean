/-! ===== constructors: Arrays.fill on one array; new arrays ===== -/
abbrev tysU (cyI cyZ : ClassId) : List (ClassId × FieldType) := [(cyI, .int), (cyZ, .boolean)]
abbrev wF (a : Nat) (cyI : ClassId) (n : Nat) (σ : St) : va_W := [(a, .inl (cyI, n, .inl (σ 0)))]
theorem wF_s (a : Nat) (cyI : ClassId) (n : Nat) (σ : St) (i : Nat) (v : Int32) : (wF a cyI n σ).set 0 (a, .inl (cyI, n, .inl (upd (σ 0) i v))) = wF a cyI n (up2 σ 0 i v) := rfl
def fF_b (n : Nat) (v1 : Int32) (K5 : Int32 → St → Option St) (v2 : Int32) (σ : St) : Option St := if Int32.ofNat n ≤ v2 then some σ else (if inb v2 n = true then K5 (v2 + (1 : Int32)) (up2 σ 0 v2.toNatClampNeg v1) else none)
def fF (n : Nat) (v1 : Int32) (σ : St) : Option St := loop1s (fF_b n v1) fuel (0 : Int32) σ
section
variable {p : Program} {l : Launch} {e : Env} {s : State} {m : MethodId} {args : Array Value} {below : List Frame} {meth : Method} {c : Code} {D : va_G} {A : Nat → Prop} {Q : State → Prop} {cyI cyZ : ClassId}
set_option maxHeartbeats 4000000 in
theorem jF_L5 {o0 : St} {a n : Nat} (C : Cxt p s m args c cJ7_fill_53178 4 wsJ7_fill_53178 RJ7 D (tysU cyI cyZ) A) (hRet : ∀ (σ2 : St) (pc : Nat) (lv : List (Nat × Value)), decode cJ7_fill_53178 pc = .ok (.return_, 1) → J p l e ({ frames := 0, cells := 0, slots := 0, locals := 0 } : Room) s m args below meth c 4 D A (wF a cyI n) Q o0 (some σ2) σ2 pc lv []) (v1 : Int32) (N : Nat) (v2 : Int32) (σ : St) : J p l e ({ frames := 0, cells := 0, slots := 0, locals := 0 } : Room) s m args below meth c 4 D A (wF a cyI n) Q o0 (loop1s (fF_b n v1) N v2 σ) σ 5 [(0, .ref a), (1, .int v1), (2, .int v2), (3, .int (Int32.ofNat n))] [] := by
  refine J_loop1s (pc := 5) (fun v2 => [(0, .ref a), (1, .int v1), (2, .int v2), (3, .int (Int32.ofNat n))]) (fF_b n v1) ?_ N v2 σ
  intro K5 hK5 v2 σ
  unfold fF_b
  refine J_iload_n C 2 rfl rfl dJ7_fill_53178_5 ?_
  refine J_iload_n C 3 rfl rfl dJ7_fill_53178_6 ?_
  refine J_icmp_ge (tgt := 20) C dJ7_fill_53178_7 (by decide) ?_ ?_
  · exact hRet σ _ _ dJ7_fill_53178_20
  · refine J_aload_n C 0 rfl rfl dJ7_fill_53178_10 ?_
    refine J_iload_n C 2 rfl rfl dJ7_fill_53178_11 ?_
    refine J_iload_n C 1 rfl rfl dJ7_fill_53178_12 ?_
    refine J_iast (σ' := up2 σ 0 v2.toNatClampNeg v1) C 0 0 rfl rfl (wF_s _ _ _ _ _ _) dJ7_fill_53178_13 ?_
    refine J_iinc (d := (1 : Int32)) C 2 rfl dJ7_fill_53178_14 (by decide) (by decide) rfl ?_
    refine J_goto (tgt := 5) C dJ7_fill_53178_17 (by decide) ?_
    refine J_lv [1, 2, 0, 3] rfl ?_
    exact hK5 (v2 + (1 : Int32)) (up2 σ 0 v2.toNatClampNeg v1)
set_option maxHeartbeats 4000000 in
theorem tF {l : Launch} {D : va_G} {a n : Nat} {cyI cyZ : ClassId} (v1 : Int32) (σ : St) (σ1 : St) (h : fF n v1 σ = some σ1) : MV l D (tysU cyI cyZ) (wF a cyI n) yJ7_fill_53178 wsJ7_fill_53178 ({ frames := 0, cells := 0, slots := 0, locals := 0 } : Room) [.ref a, .int v1] σ σ1 := by
  refine entryV (own := RJ7) σ1 (by decide +kernel) rfl rfl (Nat.le_of_ble_eq_true rfl) (fF n v1 σ) h ?_
  intro p e s m below meth c Q A C hRet
  generalize ([.ref a, .int v1] : List Value).toArray = args at *
  show J p l e ({ frames := 0, cells := 0, slots := 0, locals := 0 } : Room) s m args below meth c 4 D A (wF a cyI n) Q σ1 (fF n v1 σ) σ 0 [(0, .ref a), (1, .int v1)] []
  unfold fF
  refine J_iconst (v := (0 : Int32)) C dJ7_fill_53178_0 (by decide) ?_
  refine J_istore_n C rfl dJ7_fill_53178_1 (by decide) rfl ?_
  refine J_aload_n C 1 rfl rfl dJ7_fill_53178_2 ?_
  refine J_alen (v := Int32.ofNat n) C 0 0 rfl rfl rfl dJ7_fill_53178_3 ?_
  refine J_istore_n C rfl dJ7_fill_53178_4 (by decide) rfl ?_
  refine J_lv [2, 3, 1, 0] rfl ?_
  exact jF_L5 C hRet v1 fuel (0 : Int32) σ
end
theorem fF_ev {n : Nat} (hn : n ≤ 200) (v : Int32) (σ : St) : ∃ σ1, fF n v σ = some σ1 ∧ ∀ j, j < n → σ1 0 j = v := by
  obtain ⟨x1, e1, i1⟩ := loop1s_go (fF_b n v) n 0 (fun i σ => up2 σ 0 i v) (fun i σ => ∀ q, q < i → σ 0 q = v) (by
    intro K i σ hi hI
    refine ⟨?_, ?_⟩
    · unfold fF_b
      rw [show Int32.ofNat n = nI n from rfl, if_neg (by rw [leN (by omega) (by omega)]; omega), if_pos (inb_nI (by omega) (by omega)), clN (by omega), ea1, Nat.zero_add, Nat.zero_add]
    · intro q hq
      show up2 σ 0 i v 0 q = v
      by_cases e : q = i
      · subst e; exact up2_hit _ _ _ _
      · rw [up2_j e]; exact hI q (by omega)) n 0 σ (1999 - n + 1) (by omega) (fun q hq => absurd hq (Nat.not_lt_zero q))
  refine ⟨x1, ?_, i1⟩
  unfold fF
  rw [show 1999 - n + 1 + n = fuel by unfold fuel; omega, Nat.add_zero, nI_0] at e1
  rw [e1, loop1s_S]
  unfold fF_b
  rw [show Int32.ofNat n = nI n from rfl, Nat.zero_add, if_pos (by rw [leN (by omega) (by omega)]; omega)]
section
variable {p : Program} {l : Launch} {e : Env} {R : Room} {s : State} {m : MethodId} {args : Array Value} {below : List Frame} {meth : Method} {c : Code} {H : Heap} {locs : List Loc} {cells slots : Nat} {Q : State → Prop} {cc : ByteArray} {pc : Nat} {ls : Array Slot} {rest : List Value} {D : va_G} {A : Nat → Prop} {ws : va_W} {H0 : Heap} {cyI cyZ : ClassId}
theorem nwI (hx : p.tables.exec = Jvm.exec) (hb : c.code = cc) (harr : (Cond.arrayClass .int).before args s = true) (hK : va_K D vwCl (tysU cyI cyZ) s) (hP : va_P D vwCl ws H) (hD : va_D A ws) (hS : va_S A H0 H locs) (hA : ∀ q, H0.size ≤ q → A q) {n : Int32} (N : Nat) (hn : ¬ n < 0) (hN : n.toNatClampNeg = N) (hb2 : N ≤ 1000) (hcells : cells + 1 ≤ R.cells) (hslots : slots + N ≤ R.slots) (hdg : decode cc pc = .ok (.newarray .int, 2))
    (kk : ∀ (q : Nat) (H1 : Heap), va_P D vwCl (ws ++ [(q, .inl (cyI, N, .inl (fun _ => 0)))]) H1 → va_D A (ws ++ [(q, .inl (cyI, N, .inl (fun _ => 0)))]) → va_S A H0 H1 locs → W p l e R s m args below meth c H1 locs (cells + 1) (slots + N) Q (F0 m (pc + 2) ls (.ref q :: rest))) : W p l e R s m args below meth c H locs cells slots Q (F0 m pc ls (.int n :: rest)) := by
  refine va_newa (atype := .int) (ty := .int) (a0 := (N, .inl (fun _ => 0))) hx hb harr rfl hK hP hD hS hA (fun _ => rfl) hn hN (by show N * 4 ≤ 536870912; omega) hcells hslots hdg (fun q cA H1 hK1 hP1 hD1 hS1 => ?_)
  have e1 : s.vm.findClass ("[" ++ FieldType.int.toString) = some cA := (hK1.2 2 (cA, .int) rfl).2
  have e2 : s.vm.findClass ("[" ++ FieldType.int.toString) = some cyI := (hK1.2 0 (cyI, .int) rfl).2
  have e3 : cA = cyI := Option.some.inj (e1.symm.trans e2)
  subst e3
  exact kk q H1 hP1 hD1 hS1
theorem nwZ (hx : p.tables.exec = Jvm.exec) (hb : c.code = cc) (harr : (Cond.arrayClass .boolean).before args s = true) (hK : va_K D vwCl (tysU cyI cyZ) s) (hP : va_P D vwCl ws H) (hD : va_D A ws) (hS : va_S A H0 H locs) (hA : ∀ q, H0.size ≤ q → A q) {n : Int32} (N : Nat) (hn : ¬ n < 0) (hN : n.toNatClampNeg = N) (hb2 : N ≤ 1000) (hcells : cells + 1 ≤ R.cells) (hslots : slots + N ≤ R.slots) (hdg : decode cc pc = .ok (.newarray .boolean, 2))
    (kk : ∀ (q : Nat) (H1 : Heap), va_P D vwCl (ws ++ [(q, .inl (cyZ, N, .inl (fun _ => 0)))]) H1 → va_D A (ws ++ [(q, .inl (cyZ, N, .inl (fun _ => 0)))]) → va_S A H0 H1 locs → W p l e R s m args below meth c H1 locs (cells + 1) (slots + N) Q (F0 m (pc + 2) ls (.ref q :: rest))) : W p l e R s m args below meth c H locs cells slots Q (F0 m pc ls (.int n :: rest)) := by
  refine va_newa (atype := .boolean) (ty := .boolean) (a0 := (N, .inl (fun _ => 0))) hx hb harr rfl hK hP hD hS hA (fun _ => rfl) hn hN (by show N * 1 ≤ 536870912; omega) hcells hslots hdg (fun q cA H1 hK1 hP1 hD1 hS1 => ?_)
  have e1 : s.vm.findClass ("[" ++ FieldType.boolean.toString) = some cA := (hK1.2 2 (cA, .boolean) rfl).2
  have e2 : s.vm.findClass ("[" ++ FieldType.boolean.toString) = some cyZ := (hK1.2 1 (cyZ, .boolean) rfl).2
  have e3 : cA = cyZ := Option.some.inj (e1.symm.trans e2)
  subst e3
  exact kk q H1 hP1 hD1 hS1
end
def adl (q : List Nat) : Nat → Nat := fun k => q.getD k 0
def sig (f : List (Nat → Int32)) : St := fun c => f.getD c (fun _ => 0)
/-- what a constructor may take as given -/
def PreK (D : va_G) (cyI cyZ : ClassId) (w0 : va_W) (sz : Nat) (argv : List Value) : Array Value → State → Prop := va_Pc argv (fun U => U.heap.size = sz ∧ va_P D vwCl w0 U.heap ∧ va_K D vwCl (tysU cyI cyZ) U ∧ va_D (fun _ => True) w0 ∧ NW U)
theorem PreK.blind {D : va_G} {cyI cyZ : ClassId} {w0 : va_W} {sz : Nat} {argv : List Value} : FrameBlind (PreK D cyI cyZ w0 sz argv) := fun a U g mk q => by
  obtain ⟨q0, q1, qP, qK, qD, qN⟩ := q
  exact ⟨q0, q1, qP, va_K.moved (u := U) (U := U.calling g mk a) (Vm.Alike.refl U.vm) qK, qD, NW.same (u := U) (U := U.calling g mk a) rfl qN⟩
