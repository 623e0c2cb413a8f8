/-! ===== the law: both worlds ===== -/
set_option maxRecDepth 20000 in
theorem nest_in : ∀ w ∈ nestL, w ∈ lw_tbl := by
  unfold nestL
  exact List.forall_mem_cons.mpr ⟨lw_mem 85 rfl, List.forall_mem_cons.mpr ⟨lw_mem 87 rfl, List.forall_mem_cons.mpr ⟨lw_mem 89 rfl, List.forall_mem_cons.mpr ⟨lw_mem 91 rfl, List.forall_mem_cons.mpr ⟨lw_mem 110 rfl, List.forall_mem_cons.mpr ⟨lw_mem 112 rfl, List.forall_mem_cons.mpr ⟨lw_mem 126 rfl, List.forall_mem_cons.mpr ⟨lw_mem 140 rfl, List.forall_mem_cons.mpr ⟨lw_mem 142 rfl, List.forall_mem_cons.mpr ⟨lw_mem 77 rfl, List.forall_mem_cons.mpr ⟨lw_mem 104 rfl, List.forall_mem_cons.mpr ⟨lw_mem 120 rfl, List.forall_mem_cons.mpr ⟨lw_mem 135 rfl, List.forall_mem_cons.mpr ⟨lw_mem 191 rfl, List.forall_mem_cons.mpr ⟨lw_mem 195 rfl, List.forall_mem_cons.mpr ⟨lw_mem 199 rfl, List.forall_mem_cons.mpr ⟨lw_mem 202 rfl, List.forall_mem_cons.mpr ⟨lw_mem 206 rfl, List.forall_mem_cons.mpr ⟨lw_mem 213 rfl, List.forall_mem_cons.mpr ⟨lw_mem 216 rfl, List.forall_mem_cons.mpr ⟨lw_mem 219 rfl, List.forall_mem_cons.mpr ⟨lw_mem 232 rfl, List.forall_mem_cons.mpr ⟨lw_mem 243 rfl, List.forall_mem_cons.mpr ⟨lw_mem 247 rfl, List.forall_mem_cons.mpr ⟨lw_mem 267 rfl, List.forall_mem_cons.mpr ⟨lw_mem 274 rfl, List.forall_mem_cons.mpr ⟨lw_mem 287 rfl, List.forall_mem_cons.mpr ⟨lw_mem 311 rfl, List.forall_mem_cons.mpr ⟨lw_mem 340 rfl, List.forall_mem_cons.mpr ⟨lw_mem 353 rfl, List.forall_mem_cons.mpr ⟨lw_mem 358 rfl, List.forall_mem_cons.mpr ⟨lw_mem 362 rfl, List.forall_mem_cons.mpr ⟨lw_mem 375 rfl, List.forall_mem_cons.mpr ⟨lw_mem 444 rfl, fun _ h => absurd h List.not_mem_nil⟩⟩⟩⟩⟩⟩⟩⟩⟩⟩⟩⟩⟩⟩⟩⟩⟩⟩⟩⟩⟩⟩⟩⟩⟩⟩⟩⟩⟩⟩⟩⟩⟩⟩
theorem GR0 : GR (fun _ => 99) 0 := by
  refine ⟨by omega, by decide +kernel, fun a b ha hb => ⟨fun h => ?_, fun ⟨p, _, _, h, _⟩ => absurd (show (99 : Nat) < 20 from h) (by decide)⟩⟩
  have hz : ∀ a, a < 5 → ∀ b, b < 5 → adjm 0 a b = false := by decide +kernel
  rw [hz a ha b hb] at h
  cases h
def Sim (x m : St) : Prop := ∃ pe nb nh, PE pe nb nh ∧ Fo pe ∧ SD pe nb nh x m
theorem Sim0 {x m : St} (hx : (∀ j, j < 28 → x 5 j = -1) ∧ (∀ j, j < 80 → x 6 j = 0) ∧ (∀ j, j < 112 → x 8 j = 0) ∧ (x 0 8 = 6 ∧ x 0 9 = 0 ∧ x 0 10 = 0 ∧ x 1 1 = 0 ∧ x 1 2 = 0 ∧ x 1 3 = 0 ∧ (∀ j, x 7 j = 0) ∧ (∀ j, x 12 j = 0) ∧ (∀ j, x 14 j = 0) ∧ (∀ j, x 15 j = 0))) (hm : IMk 20 m) : Sim x m := by
  obtain ⟨x5, x6, x8, x08, x09, x010, x11, x12, x13, x7, x12', x14, x15⟩ := hx
  obtain ⟨m1, m00, m01, m02, m06, m07, m08, mz⟩ := hm
  refine ⟨fun _ => 99, 0, 0, ⟨by omega, by omega, fun q _ h => absurd (show (99 : Nat) < 28 from h) (by decide), fun h _ => ⟨fun q => absurd (show (99 : Nat) < 28 from q) (by decide), fun q => absurd q (Nat.not_lt_zero h)⟩, fun h _ q => absurd (show (99 : Nat) < 28 from q) (by decide)⟩, ⟨fun p q _ _ h => absurd (show (99 : Nat) < 20 from h) (by decide), 0, GR0⟩, ⟨?_, ?_, ?_, ?_, ?_, ?_, ?_, ?_⟩, ⟨?_, ?_, ?_⟩, ?_, ?_, ?_, ?_, ?_, ?_, ?_, ?_, ?_, ?_, ?_, ?_, ?_⟩
  · rw [x11]; rfl
  · rw [m00]; rfl
  · rw [x12]; rfl
  · rw [m01]; rfl
  · rw [x13, m02]
  · intro q hq; rw [x5 q hq]; rfl
  · intro p hp; rw [m1 p hp]; rfl
  · intro h hh; exact absurd hh (Nat.not_lt_zero h)
  · rw [x08, m06]
  · rw [x09, m07]
  · rw [x010, m08]
  · intro k hk; rw [x6 k hk, mz 4 k (by omega)]
  · intro k hk; rw [x7 k, mz 5 k (by omega)]
  · intro k hk; rw [x8 k (by omega), mz 6 k (by omega)]
  · intro k hk h; rw [mz 6 k (by omega)] at h; exact absurd h (by decide)
  · intro k hk; rw [x8 _ (by omega), mz 10 k (by omega)]
  · intro k hk h; rw [mz 10 k (by omega)] at h; exact absurd h (by decide)
  · intro p hp; rw [x12' p, mz 8 p (by omega)]
  · intro p hp; rw [x14 p, mz 9 p (by omega)]
  · intro h hh; rw [x15, mz 3 h (by omega)]
  · intro p hp; exact x15 p
  · intro q hq _; exact x14 q
  · intro k hk _; exact ⟨x6 k hk, x7 k, x8 k (by omega)⟩
  · intro k hk _; exact x8 _ (by omega)
section
variable {p : Program} {l : Launch} {e : Env} {s : State} {m : MethodId} {below : List Frame} {meth : Method} {c : Code} {D : va_G} {cyI cyZ : ClassId} {aX aM : Nat → Nat} {b L : Nat} {xs : Nat → Int32} {x y x' y' : St} {pc : Nat} {lv : List (Nat × Value)} {st : List Value}
def CL (p : Program) (s : State) (m : MethodId) (c : Code) (D : va_G) (cyI cyZ : ClassId) (b L : Nat) (xs : Nat → Int32) : Prop :=
  CallFix p m c cL_law 4 s #[Value.ref b] wsL_law RL ∧ va_K D vwCl (tysU cyI cyZ) s ∧ NW s ∧ va_X b L xs s s.heap ∧ b < s.heap.size
abbrev wL (aX aM : Nat → Nat) (cyI cyZ : ClassId) (x y : St) : va_W := wX aX cyI cyZ x ++ wM aM cyI cyZ y
def JL (p : Program) (l : Launch) (e : Env) (s : State) (m : MethodId) (below : List Frame) (meth : Method) (c : Code) (D : va_G) (cyI cyZ : ClassId) (aX aM : Nat → Nat) (b : Nat) (x y : St) (pc : Nat) (lv : List (Nat × Value)) (st : List Value) : Prop :=
  ∀ (H : Heap) (locs : List Loc) (ls : Array Slot), va_P D vwCl (wL aX aM cyI cyZ x y) H → va_D (fun q : Nat => s.heap.size ≤ q) (wL aX aM cyI cyZ x y) → va_S (fun q : Nat => s.heap.size ≤ q) s.heap H locs → lv_has ls 4 lv → W p l e room_1 s m #[Value.ref b] below meth c H locs 34 1329 (lw_Z below #[Value.ref b] s) (F0 m pc ls st)
theorem L_arg (C : CL p s m c D cyI cyZ b L xs) {v3 : Int32} {n : Int} {t : Int32} (h0 : lv[0]? = some (0, .ref b)) (h3 : lv[3]? = some (3, .int v3)) (hv : Int32.ofInt n = t) (hin : vp_in (v3 + t) L) (d0 : decode cL_law pc = .ok (.aload_n 0, 1)) (d1 : decode cL_law (pc + 1) = .ok (.iload_n 3, 1)) (d2 : decode cL_law (pc + 2) = .ok (.iconst n, 1)) (d3 : decode cL_law (pc + 3) = .ok (.iadd, 1)) (d4 : decode cL_law (pc + 4) = .ok (.iaload, 1))
    (k : JL p l e s m below meth c D cyI cyZ aX aM b x y (pc + 5) lv (.int (xs (v3 + t).toNatClampNeg) :: st)) : JL p l e s m below meth c D cyI cyZ aX aM b x y pc lv st := by
  intro H locs ls hP hD hS hl
  refine lv_aload_n C.1.1 C.1.2.1 d0 rfl (lv_at hl 0 h0) ?_
  refine lv_iload_n C.1.1 C.1.2.1 d1 rfl (lv_at hl 3 h3) ?_
  refine lv_iconst (v := t) C.1.1 C.1.2.1 d2 hv ?_
  refine lv_iadd C.1.1 C.1.2.1 d3 ?_
  refine va_sld C.1.1 C.1.2.1 C.2.2.2.1 C.2.2.2.2 (Nat.not_le.mpr C.2.2.2.2) hS hin d4 ?_
  exact k H locs ls hP hD hS hl
theorem L_ald (C : CL p s m c D cyI cyZ b L xs) (j : Nat) {n : Fin 4} {i q : Nat} (hk : lv[j]? = some (i, .ref q)) (hi : (n : Nat) = i) (hdg : decode cL_law pc = .ok (.aload_n n, 1)) (k : JL p l e s m below meth c D cyI cyZ aX aM b x y (pc + 1) lv (.ref q :: st)) : JL p l e s m below meth c D cyI cyZ aX aM b x y pc lv st :=
  fun H locs ls hP hD hS hl => lv_aload_n C.1.1 C.1.2.1 hdg hi (lv_at hl j hk) (k H locs ls hP hD hS hl)
theorem L_ic (C : CL p s m c D cyI cyZ b L xs) {n : Int} {v : Int32} (hv : Int32.ofInt n = v) (hdg : decode cL_law pc = .ok (.iconst n, 1)) (k : JL p l e s m below meth c D cyI cyZ aX aM b x y (pc + 1) lv (.int v :: st)) : JL p l e s m below meth c D cyI cyZ aX aM b x y pc lv st :=
  fun H locs ls hP hD hS hl => lv_iconst (v := v) C.1.1 C.1.2.1 hdg hv (k H locs ls hP hD hS hl)
theorem L_goto (C : CL p s m c D cyI cyZ b L xs) {off : Int} {tgt : Nat} (hdg : decode cL_law pc = .ok (.goto off, 3)) (ht : (pc : Int) + off = (tgt : Int)) (k : JL p l e s m below meth c D cyI cyZ aX aM b x y tgt lv st) : JL p l e s m below meth c D cyI cyZ aX aM b x y pc lv st :=
  fun H locs ls hP hD hS hl => lv_goto C.1.1 C.1.2.1 hdg ht (k H locs ls hP hD hS hl)
theorem L_ifeq (C : CL p s m c D cyI cyZ b L xs) {v : Int32} {off : Int} {tgt : Nat} (hdg : decode cL_law pc = .ok (.ifCond .eq off, 3)) (ht : (pc : Int) + off = (tgt : Int)) (ka : v = 0 → JL p l e s m below meth c D cyI cyZ aX aM b x y tgt lv st) (kb : ¬ v = 0 → JL p l e s m below meth c D cyI cyZ aX aM b x y (pc + 3) lv st) : JL p l e s m below meth c D cyI cyZ aX aM b x y pc lv (.int v :: st) :=
  fun H locs ls hP hD hS hl => lv_if_eq C.1.1 C.1.2.1 hdg ht (fun h => ka h H locs ls hP hD hS hl) (fun h => kb h H locs ls hP hD hS hl)
theorem L_eq (C : CL p s m c D cyI cyZ b L xs) {v : Int32} {off : Int} {tgt : Nat} (hdg : decode cL_law pc = .ok (.if_icmp .eq off, 3)) (ht : (pc : Int) + off = (tgt : Int)) (ka : JL p l e s m below meth c D cyI cyZ aX aM b x y tgt lv st) : JL p l e s m below meth c D cyI cyZ aX aM b x y pc lv (.int v :: .int v :: st) :=
  fun H locs ls hP hD hS hl => lv_icmp_eq C.1.1 C.1.2.1 hdg ht (fun _ => ka H locs ls hP hD hS hl) (fun h => absurd rfl h)
set_option maxRecDepth 20000 in
theorem L_X (C : CL p s m c D cyI cyZ b L xs) {st0 : List Value} {yn : MethodName} {bytes : ByteArray} {maxL n index : Nat} {ret0 : Option FieldType} {ws : List Cond} {rm : Room} {r : Int32} (As : List Value) (hM : MI l D (tysU cyI cyZ) (wX aX cyI cyZ) yn ws rm (.ref (aX 0) :: As) x r x') (cw : CallW room_1 s #[Value.ref b] RL RX4 index yn bytes maxL ret0 ws rm 0 0 n) (hn : As.length = n) (hst : st0 = As.reverse ++ .ref (aX 0) :: st) (hroom : (st.map fun v => v.category).sum ≤ 8) (hdg : decode cL_law pc = .ok (.invokevirtual index, 3)) (k : JL p l e s m below meth c D cyI cyZ aX aM b x' y (pc + 3) lv (.int r :: st)) : JL p l e s m below meth c D cyI cyZ aX aM b x y pc lv st0 := by
  intro H locs ls hP hD hS hl
  have hPc := hP.sub (ws' := wX aX cyI cyZ x) [0, 1, 2, 3, 4, 5, 6, 7, 8, 9, 10, 11, 12, 13, 14, 15] rfl
  have hDc := hD.sub (ws' := wX aX cyI cyZ x) [0, 1, 2, 3, 4, 5, 6, 7, 8, 9, 10, 11, 12, 13, 14, 15] (by decide) rfl
  have hFc := va_free (wc := wX aX cyI cyZ x) hD hS (fun _ h => h) [0, 1, 2, 3, 4, 5, 6, 7, 8, 9, 10, 11, 12, 13, 14, 15] rfl
  refine va_calli (va_runV (As := As) (rest := st) C.1 (hM H.size) cw ⟨PreC.blind, va_recv C.2.1 hPc (ci := 4) (q0 := 0) rfl rfl, fun U hU hW => ⟨rfl, by rw [hU], by rw [hU]; exact hPc, va_K.moved hW.alike C.2.1, hDc.weaken (fun _ _ _ _ => trivial), NW.warm hW C.2.2.1⟩⟩ rfl hn hl.1 hst (lv_room hroom) hdg ⟨Nat.le_of_ble_eq_true rfl, Nat.le_of_ble_eq_true rfl⟩) hS (fun q _ h => hFc q h) hFc (fun r2 u t H1 locs1 ht hvm hw hB hz1 hk1 hS1 => ?_)
  obtain ⟨hw1, hw2⟩ := hw
  subst hw1
  subst hw2
  obtain ⟨hP1, hK1, hD1⟩ := hB
  rw [ht] at hP1
  obtain ⟨hP2, hD2⟩ := va_join (wr := wM aM cyI cyZ y) (w1 := wX aX cyI cyZ u) hP hD [0, 1, 2, 3, 4, 5, 6, 7, 8, 9, 10, 11, 12, 13, 14, 15] [16, 17, 18, 19, 20, 21, 22, 23, 24, 25, 26, 27, 28, 29, 30, 31, 32, 33] rfl rfl (by decide) (by decide) hk1 hFc hP1 hD1
  exact k H1 locs1 ls (hP2.sub (ws' := wL aX aM cyI cyZ u y) [18, 19, 20, 21, 22, 23, 24, 25, 26, 27, 28, 29, 30, 31, 32, 33, 0, 1, 2, 3, 4, 5, 6, 7, 8, 9, 10, 11, 12, 13, 14, 15, 16, 17] rfl) (hD2.sub (ws' := wL aX aM cyI cyZ u y) [18, 19, 20, 21, 22, 23, 24, 25, 26, 27, 28, 29, 30, 31, 32, 33, 0, 1, 2, 3, 4, 5, 6, 7, 8, 9, 10, 11, 12, 13, 14, 15, 16, 17] (by decide) rfl) hS1 hl
set_option maxRecDepth 20000 in
theorem L_M (C : CL p s m c D cyI cyZ b L xs) {st0 : List Value} {yn : MethodName} {bytes : ByteArray} {maxL n index : Nat} {ret0 : Option FieldType} {ws : List Cond} {rm : Room} {r : Int32} (As : List Value) (hM : MI l D (tysU cyI cyZ) (wM aM cyI cyZ) yn ws rm (.ref (aM 0) :: As) y r y') (cw : CallW room_1 s #[Value.ref b] RL RX5 index yn bytes maxL ret0 ws rm 0 0 n) (hn : As.length = n) (hst : st0 = As.reverse ++ .ref (aM 0) :: st) (hroom : (st.map fun v => v.category).sum ≤ 8) (hdg : decode cL_law pc = .ok (.invokevirtual index, 3)) (k : JL p l e s m below meth c D cyI cyZ aX aM b x y' (pc + 3) lv (.int r :: st)) : JL p l e s m below meth c D cyI cyZ aX aM b x y pc lv st0 := by
  intro H locs ls hP hD hS hl
  have hPc := hP.sub (ws' := wM aM cyI cyZ y) [16, 17, 18, 19, 20, 21, 22, 23, 24, 25, 26, 27, 28, 29, 30, 31, 32, 33] rfl
  have hDc := hD.sub (ws' := wM aM cyI cyZ y) [16, 17, 18, 19, 20, 21, 22, 23, 24, 25, 26, 27, 28, 29, 30, 31, 32, 33] (by decide) rfl
  have hFc := va_free (wc := wM aM cyI cyZ y) hD hS (fun _ h => h) [16, 17, 18, 19, 20, 21, 22, 23, 24, 25, 26, 27, 28, 29, 30, 31, 32, 33] rfl
  refine va_calli (va_runV (As := As) (rest := st) C.1 (hM H.size) cw ⟨PreC.blind, va_recv C.2.1 hPc (ci := 5) (q0 := 0) rfl rfl, fun U hU hW => ⟨rfl, by rw [hU], by rw [hU]; exact hPc, va_K.moved hW.alike C.2.1, hDc.weaken (fun _ _ _ _ => trivial), NW.warm hW C.2.2.1⟩⟩ rfl hn hl.1 hst (lv_room hroom) hdg ⟨Nat.le_of_ble_eq_true rfl, Nat.le_of_ble_eq_true rfl⟩) hS (fun q _ h => hFc q h) hFc (fun r2 u t H1 locs1 ht hvm hw hB hz1 hk1 hS1 => ?_)
  obtain ⟨hw1, hw2⟩ := hw
  subst hw1
  subst hw2
  obtain ⟨hP1, hK1, hD1⟩ := hB
  rw [ht] at hP1
  obtain ⟨hP2, hD2⟩ := va_join (wr := wX aX cyI cyZ x) (w1 := wM aM cyI cyZ u) hP hD [16, 17, 18, 19, 20, 21, 22, 23, 24, 25, 26, 27, 28, 29, 30, 31, 32, 33] [0, 1, 2, 3, 4, 5, 6, 7, 8, 9, 10, 11, 12, 13, 14, 15] rfl rfl (by decide) (by decide) hk1 hFc hP1 hD1
  exact k H1 locs1 ls hP2 hD2 hS1 hl
end
