-- printed by wip/whole/walk.py: worlds and functions
abbrev wX (ad : Nat → Nat) (cyI cyZ : ClassId) (σ : St) : va_W := [(ad 0, .inr (4, [.ref (ad 1), .ref (ad 2), .ref (ad 3), .ref (ad 4), .ref (ad 12), .ref (ad 13), .ref (ad 14), .ref (ad 15), .int (σ 0 8), .int (σ 0 9), .int (σ 0 10)])), (ad 1, .inr (1, [.ref (ad 5), .int (σ 1 1), .int (σ 1 2), .int (σ 1 3)])), (ad 2, .inr (3, [.ref (ad 6), .ref (ad 7)])), (ad 3, .inr (0, [.ref (ad 8), .ref (ad 9)])), (ad 4, .inr (2, [.ref (ad 10), .ref (ad 11)])), (ad 5, .inl (cyI, 28, .inl (σ 5))), (ad 6, .inl (cyI, 80, .inl (σ 6))), (ad 7, .inl (cyI, 80, .inl (σ 7))), (ad 8, .inl (cyI, 112, .inl (σ 8))), (ad 9, .inl (cyI, 112, .inl (σ 9))), (ad 10, .inl (cyZ, 28, .inl (σ 10))), (ad 11, .inl (cyI, 112, .inl (σ 11))), (ad 12, .inl (cyI, 20, .inl (σ 12))), (ad 13, .inl (cyZ, 20, .inl (σ 13))), (ad 14, .inl (cyZ, 28, .inl (σ 14))), (ad 15, .inl (cyZ, 28, .inl (σ 15)))]
abbrev wM (ad : Nat → Nat) (cyI cyZ : ClassId) (σ : St) : va_W := [(ad 0, .inr (5, [.int (σ 0 0), .int (σ 0 1), .int (σ 0 2), .ref (ad 1), .ref (ad 2), .ref (ad 3), .int (σ 0 6), .int (σ 0 7), .int (σ 0 8), .ref (ad 4), .ref (ad 5), .ref (ad 6), .ref (ad 7), .ref (ad 8), .ref (ad 9), .ref (ad 10), .ref (ad 11), .ref (ad 12), .ref (ad 13), .ref (ad 14), .ref (ad 15), .ref (ad 16), .ref (ad 17)])), (ad 1, .inl (cyI, 20, .inl (σ 1))), (ad 2, .inl (cyI, 8, .inl (σ 2))), (ad 3, .inl (cyZ, 8, .inl (σ 3))), (ad 4, .inl (cyI, 80, .inl (σ 4))), (ad 5, .inl (cyI, 80, .inl (σ 5))), (ad 6, .inl (cyI, 80, .inl (σ 6))), (ad 7, .inl (cyI, 80, .inl (σ 7))), (ad 8, .inl (cyI, 20, .inl (σ 8))), (ad 9, .inl (cyZ, 20, .inl (σ 9))), (ad 10, .inl (cyI, 32, .inl (σ 10))), (ad 11, .inl (cyI, 32, .inl (σ 11))), (ad 12, .inl (cyZ, 20, .inl (σ 12))), (ad 13, .inl (cyZ, 20, .inl (σ 13))), (ad 14, .inl (cyI, 80, .inl (σ 14))), (ad 15, .inl (cyI, 32, .inl (σ 15))), (ad 16, .inl (cyI, 20, .inl (σ 16))), (ad 17, .inl (cyI, 5, .inl (σ 17)))]
theorem wX_p0_8 (ad : Nat → Nat) (cyI cyZ : ClassId) (σ : St) (v : Int32) : (wX ad cyI cyZ σ).set 0 (ad 0, .inr (4, ([.ref (ad 1), .ref (ad 2), .ref (ad 3), .ref (ad 4), .ref (ad 12), .ref (ad 13), .ref (ad 14), .ref (ad 15), .int (σ 0 8), .int (σ 0 9), .int (σ 0 10)] : List Value).set 8 (.int v))) = wX ad cyI cyZ (up2 σ 0 8 v) := rfl
theorem wX_p0_9 (ad : Nat → Nat) (cyI cyZ : ClassId) (σ : St) (v : Int32) : (wX ad cyI cyZ σ).set 0 (ad 0, .inr (4, ([.ref (ad 1), .ref (ad 2), .ref (ad 3), .ref (ad 4), .ref (ad 12), .ref (ad 13), .ref (ad 14), .ref (ad 15), .int (σ 0 8), .int (σ 0 9), .int (σ 0 10)] : List Value).set 9 (.int v))) = wX ad cyI cyZ (up2 σ 0 9 v) := rfl
theorem wX_p0_10 (ad : Nat → Nat) (cyI cyZ : ClassId) (σ : St) (v : Int32) : (wX ad cyI cyZ σ).set 0 (ad 0, .inr (4, ([.ref (ad 1), .ref (ad 2), .ref (ad 3), .ref (ad 4), .ref (ad 12), .ref (ad 13), .ref (ad 14), .ref (ad 15), .int (σ 0 8), .int (σ 0 9), .int (σ 0 10)] : List Value).set 10 (.int v))) = wX ad cyI cyZ (up2 σ 0 10 v) := rfl
theorem wX_p1_1 (ad : Nat → Nat) (cyI cyZ : ClassId) (σ : St) (v : Int32) : (wX ad cyI cyZ σ).set 1 (ad 1, .inr (1, ([.ref (ad 5), .int (σ 1 1), .int (σ 1 2), .int (σ 1 3)] : List Value).set 1 (.int v))) = wX ad cyI cyZ (up2 σ 1 1 v) := rfl
theorem wX_p1_2 (ad : Nat → Nat) (cyI cyZ : ClassId) (σ : St) (v : Int32) : (wX ad cyI cyZ σ).set 1 (ad 1, .inr (1, ([.ref (ad 5), .int (σ 1 1), .int (σ 1 2), .int (σ 1 3)] : List Value).set 2 (.int v))) = wX ad cyI cyZ (up2 σ 1 2 v) := rfl
theorem wX_p1_3 (ad : Nat → Nat) (cyI cyZ : ClassId) (σ : St) (v : Int32) : (wX ad cyI cyZ σ).set 1 (ad 1, .inr (1, ([.ref (ad 5), .int (σ 1 1), .int (σ 1 2), .int (σ 1 3)] : List Value).set 3 (.int v))) = wX ad cyI cyZ (up2 σ 1 3 v) := rfl
theorem wX_s5 (ad : Nat → Nat) (cyI cyZ : ClassId) (σ : St) (i : Nat) (v : Int32) : (wX ad cyI cyZ σ).set 5 (ad 5, .inl (cyI, 28, .inl (upd (σ 5) i v))) = wX ad cyI cyZ (up2 σ 5 i v) := rfl
theorem wX_s6 (ad : Nat → Nat) (cyI cyZ : ClassId) (σ : St) (i : Nat) (v : Int32) : (wX ad cyI cyZ σ).set 6 (ad 6, .inl (cyI, 80, .inl (upd (σ 6) i v))) = wX ad cyI cyZ (up2 σ 6 i v) := rfl
theorem wX_s7 (ad : Nat → Nat) (cyI cyZ : ClassId) (σ : St) (i : Nat) (v : Int32) : (wX ad cyI cyZ σ).set 7 (ad 7, .inl (cyI, 80, .inl (upd (σ 7) i v))) = wX ad cyI cyZ (up2 σ 7 i v) := rfl
theorem wX_s8 (ad : Nat → Nat) (cyI cyZ : ClassId) (σ : St) (i : Nat) (v : Int32) : (wX ad cyI cyZ σ).set 8 (ad 8, .inl (cyI, 112, .inl (upd (σ 8) i v))) = wX ad cyI cyZ (up2 σ 8 i v) := rfl
theorem wX_s9 (ad : Nat → Nat) (cyI cyZ : ClassId) (σ : St) (i : Nat) (v : Int32) : (wX ad cyI cyZ σ).set 9 (ad 9, .inl (cyI, 112, .inl (upd (σ 9) i v))) = wX ad cyI cyZ (up2 σ 9 i v) := rfl
theorem wX_s10 (ad : Nat → Nat) (cyI cyZ : ClassId) (σ : St) (i : Nat) (v : Int32) : (wX ad cyI cyZ σ).set 10 (ad 10, .inl (cyZ, 28, .inl (upd (σ 10) i v))) = wX ad cyI cyZ (up2 σ 10 i v) := rfl
theorem wX_s11 (ad : Nat → Nat) (cyI cyZ : ClassId) (σ : St) (i : Nat) (v : Int32) : (wX ad cyI cyZ σ).set 11 (ad 11, .inl (cyI, 112, .inl (upd (σ 11) i v))) = wX ad cyI cyZ (up2 σ 11 i v) := rfl
theorem wX_s12 (ad : Nat → Nat) (cyI cyZ : ClassId) (σ : St) (i : Nat) (v : Int32) : (wX ad cyI cyZ σ).set 12 (ad 12, .inl (cyI, 20, .inl (upd (σ 12) i v))) = wX ad cyI cyZ (up2 σ 12 i v) := rfl
theorem wX_s13 (ad : Nat → Nat) (cyI cyZ : ClassId) (σ : St) (i : Nat) (v : Int32) : (wX ad cyI cyZ σ).set 13 (ad 13, .inl (cyZ, 20, .inl (upd (σ 13) i v))) = wX ad cyI cyZ (up2 σ 13 i v) := rfl
theorem wX_s14 (ad : Nat → Nat) (cyI cyZ : ClassId) (σ : St) (i : Nat) (v : Int32) : (wX ad cyI cyZ σ).set 14 (ad 14, .inl (cyZ, 28, .inl (upd (σ 14) i v))) = wX ad cyI cyZ (up2 σ 14 i v) := rfl
theorem wX_s15 (ad : Nat → Nat) (cyI cyZ : ClassId) (σ : St) (i : Nat) (v : Int32) : (wX ad cyI cyZ σ).set 15 (ad 15, .inl (cyZ, 28, .inl (upd (σ 15) i v))) = wX ad cyI cyZ (up2 σ 15 i v) := rfl
theorem wM_p0_0 (ad : Nat → Nat) (cyI cyZ : ClassId) (σ : St) (v : Int32) : (wM ad cyI cyZ σ).set 0 (ad 0, .inr (5, ([.int (σ 0 0), .int (σ 0 1), .int (σ 0 2), .ref (ad 1), .ref (ad 2), .ref (ad 3), .int (σ 0 6), .int (σ 0 7), .int (σ 0 8), .ref (ad 4), .ref (ad 5), .ref (ad 6), .ref (ad 7), .ref (ad 8), .ref (ad 9), .ref (ad 10), .ref (ad 11), .ref (ad 12), .ref (ad 13), .ref (ad 14), .ref (ad 15), .ref (ad 16), .ref (ad 17)] : List Value).set 0 (.int v))) = wM ad cyI cyZ (up2 σ 0 0 v) := rfl
theorem wM_p0_1 (ad : Nat → Nat) (cyI cyZ : ClassId) (σ : St) (v : Int32) : (wM ad cyI cyZ σ).set 0 (ad 0, .inr (5, ([.int (σ 0 0), .int (σ 0 1), .int (σ 0 2), .ref (ad 1), .ref (ad 2), .ref (ad 3), .int (σ 0 6), .int (σ 0 7), .int (σ 0 8), .ref (ad 4), .ref (ad 5), .ref (ad 6), .ref (ad 7), .ref (ad 8), .ref (ad 9), .ref (ad 10), .ref (ad 11), .ref (ad 12), .ref (ad 13), .ref (ad 14), .ref (ad 15), .ref (ad 16), .ref (ad 17)] : List Value).set 1 (.int v))) = wM ad cyI cyZ (up2 σ 0 1 v) := rfl
theorem wM_p0_2 (ad : Nat → Nat) (cyI cyZ : ClassId) (σ : St) (v : Int32) : (wM ad cyI cyZ σ).set 0 (ad 0, .inr (5, ([.int (σ 0 0), .int (σ 0 1), .int (σ 0 2), .ref (ad 1), .ref (ad 2), .ref (ad 3), .int (σ 0 6), .int (σ 0 7), .int (σ 0 8), .ref (ad 4), .ref (ad 5), .ref (ad 6), .ref (ad 7), .ref (ad 8), .ref (ad 9), .ref (ad 10), .ref (ad 11), .ref (ad 12), .ref (ad 13), .ref (ad 14), .ref (ad 15), .ref (ad 16), .ref (ad 17)] : List Value).set 2 (.int v))) = wM ad cyI cyZ (up2 σ 0 2 v) := rfl
theorem wM_p0_6 (ad : Nat → Nat) (cyI cyZ : ClassId) (σ : St) (v : Int32) : (wM ad cyI cyZ σ).set 0 (ad 0, .inr (5, ([.int (σ 0 0), .int (σ 0 1), .int (σ 0 2), .ref (ad 1), .ref (ad 2), .ref (ad 3), .int (σ 0 6), .int (σ 0 7), .int (σ 0 8), .ref (ad 4), .ref (ad 5), .ref (ad 6), .ref (ad 7), .ref (ad 8), .ref (ad 9), .ref (ad 10), .ref (ad 11), .ref (ad 12), .ref (ad 13), .ref (ad 14), .ref (ad 15), .ref (ad 16), .ref (ad 17)] : List Value).set 6 (.int v))) = wM ad cyI cyZ (up2 σ 0 6 v) := rfl
theorem wM_p0_7 (ad : Nat → Nat) (cyI cyZ : ClassId) (σ : St) (v : Int32) : (wM ad cyI cyZ σ).set 0 (ad 0, .inr (5, ([.int (σ 0 0), .int (σ 0 1), .int (σ 0 2), .ref (ad 1), .ref (ad 2), .ref (ad 3), .int (σ 0 6), .int (σ 0 7), .int (σ 0 8), .ref (ad 4), .ref (ad 5), .ref (ad 6), .ref (ad 7), .ref (ad 8), .ref (ad 9), .ref (ad 10), .ref (ad 11), .ref (ad 12), .ref (ad 13), .ref (ad 14), .ref (ad 15), .ref (ad 16), .ref (ad 17)] : List Value).set 7 (.int v))) = wM ad cyI cyZ (up2 σ 0 7 v) := rfl
theorem wM_p0_8 (ad : Nat → Nat) (cyI cyZ : ClassId) (σ : St) (v : Int32) : (wM ad cyI cyZ σ).set 0 (ad 0, .inr (5, ([.int (σ 0 0), .int (σ 0 1), .int (σ 0 2), .ref (ad 1), .ref (ad 2), .ref (ad 3), .int (σ 0 6), .int (σ 0 7), .int (σ 0 8), .ref (ad 4), .ref (ad 5), .ref (ad 6), .ref (ad 7), .ref (ad 8), .ref (ad 9), .ref (ad 10), .ref (ad 11), .ref (ad 12), .ref (ad 13), .ref (ad 14), .ref (ad 15), .ref (ad 16), .ref (ad 17)] : List Value).set 8 (.int v))) = wM ad cyI cyZ (up2 σ 0 8 v) := rfl
theorem wM_s1 (ad : Nat → Nat) (cyI cyZ : ClassId) (σ : St) (i : Nat) (v : Int32) : (wM ad cyI cyZ σ).set 1 (ad 1, .inl (cyI, 20, .inl (upd (σ 1) i v))) = wM ad cyI cyZ (up2 σ 1 i v) := rfl
theorem wM_s2 (ad : Nat → Nat) (cyI cyZ : ClassId) (σ : St) (i : Nat) (v : Int32) : (wM ad cyI cyZ σ).set 2 (ad 2, .inl (cyI, 8, .inl (upd (σ 2) i v))) = wM ad cyI cyZ (up2 σ 2 i v) := rfl
theorem wM_s3 (ad : Nat → Nat) (cyI cyZ : ClassId) (σ : St) (i : Nat) (v : Int32) : (wM ad cyI cyZ σ).set 3 (ad 3, .inl (cyZ, 8, .inl (upd (σ 3) i v))) = wM ad cyI cyZ (up2 σ 3 i v) := rfl
theorem wM_s4 (ad : Nat → Nat) (cyI cyZ : ClassId) (σ : St) (i : Nat) (v : Int32) : (wM ad cyI cyZ σ).set 4 (ad 4, .inl (cyI, 80, .inl (upd (σ 4) i v))) = wM ad cyI cyZ (up2 σ 4 i v) := rfl
theorem wM_s5 (ad : Nat → Nat) (cyI cyZ : ClassId) (σ : St) (i : Nat) (v : Int32) : (wM ad cyI cyZ σ).set 5 (ad 5, .inl (cyI, 80, .inl (upd (σ 5) i v))) = wM ad cyI cyZ (up2 σ 5 i v) := rfl
theorem wM_s6 (ad : Nat → Nat) (cyI cyZ : ClassId) (σ : St) (i : Nat) (v : Int32) : (wM ad cyI cyZ σ).set 6 (ad 6, .inl (cyI, 80, .inl (upd (σ 6) i v))) = wM ad cyI cyZ (up2 σ 6 i v) := rfl
theorem wM_s7 (ad : Nat → Nat) (cyI cyZ : ClassId) (σ : St) (i : Nat) (v : Int32) : (wM ad cyI cyZ σ).set 7 (ad 7, .inl (cyI, 80, .inl (upd (σ 7) i v))) = wM ad cyI cyZ (up2 σ 7 i v) := rfl
theorem wM_s8 (ad : Nat → Nat) (cyI cyZ : ClassId) (σ : St) (i : Nat) (v : Int32) : (wM ad cyI cyZ σ).set 8 (ad 8, .inl (cyI, 20, .inl (upd (σ 8) i v))) = wM ad cyI cyZ (up2 σ 8 i v) := rfl
theorem wM_s9 (ad : Nat → Nat) (cyI cyZ : ClassId) (σ : St) (i : Nat) (v : Int32) : (wM ad cyI cyZ σ).set 9 (ad 9, .inl (cyZ, 20, .inl (upd (σ 9) i v))) = wM ad cyI cyZ (up2 σ 9 i v) := rfl
theorem wM_s10 (ad : Nat → Nat) (cyI cyZ : ClassId) (σ : St) (i : Nat) (v : Int32) : (wM ad cyI cyZ σ).set 10 (ad 10, .inl (cyI, 32, .inl (upd (σ 10) i v))) = wM ad cyI cyZ (up2 σ 10 i v) := rfl
theorem wM_s11 (ad : Nat → Nat) (cyI cyZ : ClassId) (σ : St) (i : Nat) (v : Int32) : (wM ad cyI cyZ σ).set 11 (ad 11, .inl (cyI, 32, .inl (upd (σ 11) i v))) = wM ad cyI cyZ (up2 σ 11 i v) := rfl
theorem wM_s12 (ad : Nat → Nat) (cyI cyZ : ClassId) (σ : St) (i : Nat) (v : Int32) : (wM ad cyI cyZ σ).set 12 (ad 12, .inl (cyZ, 20, .inl (upd (σ 12) i v))) = wM ad cyI cyZ (up2 σ 12 i v) := rfl
theorem wM_s13 (ad : Nat → Nat) (cyI cyZ : ClassId) (σ : St) (i : Nat) (v : Int32) : (wM ad cyI cyZ σ).set 13 (ad 13, .inl (cyZ, 20, .inl (upd (σ 13) i v))) = wM ad cyI cyZ (up2 σ 13 i v) := rfl
theorem wM_s14 (ad : Nat → Nat) (cyI cyZ : ClassId) (σ : St) (i : Nat) (v : Int32) : (wM ad cyI cyZ σ).set 14 (ad 14, .inl (cyI, 80, .inl (upd (σ 14) i v))) = wM ad cyI cyZ (up2 σ 14 i v) := rfl
theorem wM_s15 (ad : Nat → Nat) (cyI cyZ : ClassId) (σ : St) (i : Nat) (v : Int32) : (wM ad cyI cyZ σ).set 15 (ad 15, .inl (cyI, 32, .inl (upd (σ 15) i v))) = wM ad cyI cyZ (up2 σ 15 i v) := rfl
theorem wM_s16 (ad : Nat → Nat) (cyI cyZ : ClassId) (σ : St) (i : Nat) (v : Int32) : (wM ad cyI cyZ σ).set 16 (ad 16, .inl (cyI, 20, .inl (upd (σ 16) i v))) = wM ad cyI cyZ (up2 σ 16 i v) := rfl
theorem wM_s17 (ad : Nat → Nat) (cyI cyZ : ClassId) (σ : St) (i : Nat) (v : Int32) : (wM ad cyI cyZ σ).set 17 (ad 17, .inl (cyI, 5, .inl (upd (σ 17) i v))) = wM ad cyI cyZ (up2 σ 17 i v) := rfl
def fX5_within (v0 v1 v2 : Int32) (σ : St) : Option (Int32) :=
  (if v0 < v1 then some (0 : Int32) else (if v2 < v0 then some (0 : Int32) else some (1 : Int32)))
def fX5_isPort (v1 v2 : Int32) (σ : St) : Option (Int32) :=
  ((fX5_within v1 (0 : Int32) ((σ 0 0) - (1 : Int32)) σ).bind fun (r1 : Int32) => (if r1 = 0 then some (0 : Int32) else ((fX5_within v2 (0 : Int32) (3 : Int32) σ).bind fun (r2 : Int32) => (if r2 = 0 then some (0 : Int32) else some (1 : Int32)))))
def fX5_isHost (v1 : Int32) (σ : St) : Option (Int32) :=
  ((fX5_within v1 (0 : Int32) ((σ 0 1) - (1 : Int32)) σ).bind fun (r1 : Int32) => (if r1 = 0 then some 0 else if r1 = 1 then some 1 else none))
def fX5_isGroup (v0 : Int32) (σ : St) : Option (Int32) :=
  ((fX5_within v0 (0 : Int32) (3 : Int32) σ).bind fun (r1 : Int32) => (if r1 = 0 then some 0 else if r1 = 1 then some 1 else none))
def fX5_isConnected (v1 : Int32) (σ : St) : Option (Int32) :=
  (if inb v1 20 = true then (if (σ 1 v1.toNatClampNeg) = (-1 : Int32) then some (0 : Int32) else some (1 : Int32)) else none)
def fX5_isLinked (v1 : Int32) (σ : St) : Option (Int32) :=
  (if inb v1 20 = true then ((fX5_within (σ 1 v1.toNatClampNeg) (0 : Int32) (19 : Int32) σ).bind fun (r1 : Int32) => (if r1 = 0 then some 0 else if r1 = 1 then some 1 else none)) else none)
def fX5_addBridge (σ : St) : Option (Int32 × St) :=
  (if (σ 0 0) = (5 : Int32) then some ((-5 : Int32), σ) else some ((((up2 σ 0 0 ((σ 0 0) + (1 : Int32))) 0 0) - (1 : Int32)), up2 σ 0 0 ((σ 0 0) + (1 : Int32))))
def fX5_partOf_b62 (K6 : Int32 → Int32 → Option (Int32)) (v1 v2 v3 v4 : Int32) (σ : St) : Option (Int32) :=
  K6 v2 (v3 + (1 : Int32))
def fX5_partOf_b56 (K6 : Int32 → Int32 → Option (Int32)) (K14 : Int32 → Int32 → Option (Int32)) (v1 v2 v3 v4 : Int32) (σ : St) : Option (Int32) :=
  K14 v2 (v4 + (1 : Int32))
def fX5_partOf_b14 (K6 : Int32 → Int32 → Option (Int32)) (v1 v3 : Int32) (σ : St) (K14 : Int32 → Int32 → Option (Int32)) (v2 v4 : Int32) : Option (Int32) :=
  (if (20 : Int32) ≤ v4 then fX5_partOf_b62 K6 v1 v2 v3 v4 σ else ((fX5_isLinked v4 σ).bind fun (r1 : Int32) => (if r1 = 0 then fX5_partOf_b56 K6 K14 v1 v2 v3 v4 σ else (if ((v2 >>> ((v4 / (4 : Int32)) &&& 31)) &&& (1 : Int32)) = (1 : Int32) then (if inb v4 20 = true then fX5_partOf_b56 K6 K14 v1 (v2 ||| ((1 : Int32) <<< (((σ 1 v4.toNatClampNeg) / (4 : Int32)) &&& 31))) v3 v4 σ else none) else fX5_partOf_b56 K6 K14 v1 v2 v3 v4 σ))))
def fX5_partOf_b6 (v1 : Int32) (σ : St) (K6 : Int32 → Int32 → Option (Int32)) (v2 v3 : Int32) : Option (Int32) :=
  (if (5 : Int32) ≤ v3 then some v2 else loop2 (fX5_partOf_b14 K6 v1 v3 σ) fuel v2 (0 : Int32))
def fX5_partOf (v1 : Int32) (σ : St) : Option (Int32) :=
  loop2 (fX5_partOf_b6 v1 σ) fuel ((1 : Int32) <<< (v1 &&& 31)) (0 : Int32)
def fX5_resets_b37 (v1 v2 : Int32) (K37 : Int32 → St → Option (St)) (v3 : Int32) (σ : St) : Option (St) :=
  (if (((4 : Int32) * v1) + (4 : Int32)) ≤ v3 then some σ else (if inb v3 80 = true then (if inb v3 80 = true then (if inb v3 80 = true then (if inb v3 80 = true then K37 (v3 + (1 : Int32)) (up2 (up2 (up2 (up2 σ 4 v3.toNatClampNeg (0 : Int32)) 5 v3.toNatClampNeg (0 : Int32)) 6 v3.toNatClampNeg (0 : Int32)) 7 v3.toNatClampNeg (0 : Int32)) else none) else none) else none) else none))
def fX5_resets_b32 (v1 v2 t0 t1 : Int32) (σ : St) : Option (St) :=
  (if inb t1 20 = true then loop1s (fX5_resets_b37 v1 v2) fuel ((4 : Int32) * v1) (up2 σ 8 t1.toNatClampNeg t0) else none)
def fX5_resets (v1 v2 : Int32) (σ : St) : Option (St) :=
  (if inb v1 20 = true then (if inb v1 20 = true then (if v2 = (-1 : Int32) then fX5_resets_b32 v1 v2 (0 : Int32) v1 (up2 (up2 σ 1 v1.toNatClampNeg v2) 9 v1.toNatClampNeg (vp_nar .boolean (0 : Int32))) else fX5_resets_b32 v1 v2 ((up2 (up2 σ 1 v1.toNatClampNeg v2) 9 v1.toNatClampNeg (vp_nar .boolean (0 : Int32))) 0 7) v1 (up2 (up2 σ 1 v1.toNatClampNeg v2) 9 v1.toNatClampNeg (vp_nar .boolean (0 : Int32)))) else none) else none)
def fX5_connect (v1 v2 v3 v4 : Int32) (σ : St) : Option (Int32 × St) :=
  ((fX5_isPort v1 v2 σ).bind fun (r1 : Int32) => (if r1 = 0 then some ((-1 : Int32), σ) else ((fX5_isPort v3 v4 σ).bind fun (r2 : Int32) => (if r2 = 0 then some ((-1 : Int32), σ) else ((fX5_isConnected (((4 : Int32) * v1) + v2) σ).bind fun (r3 : Int32) => (if r3 = 0 then ((fX5_isConnected (((4 : Int32) * v3) + v4) σ).bind fun (r4 : Int32) => (if r4 = 0 then ((fX5_partOf v1 σ).bind fun (r5 : Int32) => (if ((r5 >>> (v3 &&& 31)) &&& (1 : Int32)) = (1 : Int32) then some ((-8 : Int32), σ) else ((fX5_resets (((4 : Int32) * v1) + v2) (((4 : Int32) * v3) + v4) σ).bind fun (σ6 : St) => ((fX5_resets (((4 : Int32) * v3) + v4) (((4 : Int32) * v1) + v2) σ6).bind fun (σ7 : St) => some (((up2 σ7 0 2 ((σ7 0 2) + (1 : Int32))) 0 2), up2 σ7 0 2 ((σ7 0 2) + (1 : Int32))))))) else some ((-6 : Int32), σ))) else some ((-6 : Int32), σ)))))))
def fX5_cut (v1 v2 : Int32) (σ : St) : Option (Int32 × St) :=
  ((fX5_isPort v1 v2 σ).bind fun (r1 : Int32) => (if r1 = 0 then some ((-1 : Int32), σ) else ((fX5_isLinked (((4 : Int32) * v1) + v2) σ).bind fun (r2 : Int32) => (if r2 = 0 then some ((-7 : Int32), σ) else (if inb (((4 : Int32) * v1) + v2) 20 = true then ((fX5_resets (σ 1 (((4 : Int32) * v1) + v2).toNatClampNeg) (-1 : Int32) σ).bind fun (σ3 : St) => ((fX5_resets (((4 : Int32) * v1) + v2) (-1 : Int32) σ3).bind fun (σ4 : St) => some (((up2 σ4 0 2 ((σ4 0 2) - (1 : Int32))) 0 2), up2 σ4 0 2 ((σ4 0 2) - (1 : Int32))))) else none)))))
def fX5_addHost (v1 v2 : Int32) (σ : St) : Option (Int32 × St) :=
  ((fX5_isPort v1 v2 σ).bind fun (r1 : Int32) => (if r1 = 0 then some ((-1 : Int32), σ) else ((fX5_isConnected (((4 : Int32) * v1) + v2) σ).bind fun (r2 : Int32) => (if r2 = 0 then (if (σ 0 1) = (8 : Int32) then some ((-5 : Int32), σ) else ((fX5_resets (((4 : Int32) * v1) + v2) ((100 : Int32) + (σ 0 1)) σ).bind fun (σ3 : St) => (if inb (σ3 0 1) 8 = true then some ((((up2 (up2 σ3 2 (σ3 0 1).toNatClampNeg (((4 : Int32) * v1) + v2)) 0 1 (((up2 σ3 2 (σ3 0 1).toNatClampNeg (((4 : Int32) * v1) + v2)) 0 1) + (1 : Int32))) 0 1) - (1 : Int32)), up2 (up2 σ3 2 (σ3 0 1).toNatClampNeg (((4 : Int32) * v1) + v2)) 0 1 (((up2 σ3 2 (σ3 0 1).toNatClampNeg (((4 : Int32) * v1) + v2)) 0 1) + (1 : Int32))) else none))) else some ((-6 : Int32), σ)))))
def fX5_setTimes_b66 (K39 : Int32 → Int32 → St → Option (Int32 × St)) (v1 v2 v3 v4 : Int32) (σ : St) : Option (Int32 × St) :=
  K39 v3 (v4 + (1 : Int32)) σ
def fX5_setTimes_b39 (v1 v2 : Int32) (K39 : Int32 → Int32 → St → Option (Int32 × St)) (v3 v4 : Int32) (σ : St) : Option (Int32 × St) :=
  (if (20 : Int32) ≤ v4 then some (v3, σ) else ((fX5_isConnected v4 σ).bind fun (r1 : Int32) => (if r1 = 0 then fX5_setTimes_b66 K39 v1 v2 v3 v4 σ else (if inb v4 20 = true then fX5_setTimes_b66 K39 v1 v2 (v3 + (1 : Int32)) v4 (up2 σ 8 v4.toNatClampNeg v2) else none))))
def fX5_setTimes (v1 v2 : Int32) (σ : St) : Option (Int32 × St) :=
  ((fX5_within v1 (1 : Int32) (50 : Int32) σ).bind fun (r1 : Int32) => (if r1 = 0 then some ((-4 : Int32), σ) else ((fX5_within v2 (0 : Int32) (200 : Int32) σ).bind fun (r2 : Int32) => (if r2 = 0 then some ((-4 : Int32), σ) else loop2s (fX5_setTimes_b39 v1 v2) fuel (0 : Int32) (0 : Int32) (up2 (up2 σ 0 6 v1) 0 7 v2)))))
def fX5_declares_b10 (v0 : Int32) (σ : St) : Option (Int32) :=
  some (1 : Int32)
def fX5_declares (v0 : Int32) (σ : St) : Option (Int32) :=
  (if v0 = (1 : Int32) then fX5_declares_b10 v0 σ else (if v0 = (2 : Int32) then fX5_declares_b10 v0 σ else some (0 : Int32)))
def fX5_refusedHost (v1 v2 : Int32) (σ : St) : Option (Int32) :=
  ((fX5_isHost v1 σ).bind fun (r1 : Int32) => (if r1 = 0 then some (-2 : Int32) else ((fX5_isGroup v2 σ).bind fun (r2 : Int32) => (if r2 = 0 then some (-3 : Int32) else some (0 : Int32)))))
def fX5_join (v1 v2 : Int32) (σ : St) : Option (Int32 × St) :=
  ((fX5_refusedHost v1 v2 σ).bind fun (r1 : Int32) => (if r1 = 0 then (if inb (((4 : Int32) * v1) + v2) 32 = true then ((fX5_declares (σ 10 (((4 : Int32) * v1) + v2).toNatClampNeg) σ).bind fun (r2 : Int32) => (if r2 = 0 then (if inb (((4 : Int32) * v1) + v2) 32 = true then (if inb (((4 : Int32) * v1) + v2) 32 = true then some ((1 : Int32), up2 (up2 σ 10 (((4 : Int32) * v1) + v2).toNatClampNeg (1 : Int32)) 11 (((4 : Int32) * v1) + v2).toNatClampNeg (2 : Int32)) else none) else none) else some ((0 : Int32), σ))) else none) else some (r1, σ)))
def fX5_leave (v1 v2 : Int32) (σ : St) : Option (Int32 × St) :=
  ((fX5_refusedHost v1 v2 σ).bind fun (r1 : Int32) => (if r1 = 0 then (if inb (((4 : Int32) * v1) + v2) 32 = true then ((fX5_declares (σ 10 (((4 : Int32) * v1) + v2).toNatClampNeg) σ).bind fun (r2 : Int32) => (if r2 = 0 then some ((0 : Int32), σ) else (if inb (((4 : Int32) * v1) + v2) 32 = true then some ((1 : Int32), up2 σ 10 (((4 : Int32) * v1) + v2).toNatClampNeg (3 : Int32)) else none))) else none) else some (r1, σ)))
def fX5_setSilent_b26 (v1 v2 t0 : Int32) (σ : St) : Option (Int32 × St) :=
  (if inb v1 8 = true then some (t0, up2 σ 3 v1.toNatClampNeg (vp_nar .boolean v2)) else none)
def fX5_setSilent (v1 v2 : Int32) (σ : St) : Option (Int32 × St) :=
  ((fX5_isHost v1 σ).bind fun (r1 : Int32) => (if r1 = 0 then some ((-2 : Int32), σ) else (if inb v1 8 = true then (if (σ 3 v1.toNatClampNeg) = v2 then fX5_setSilent_b26 v1 v2 (0 : Int32) σ else fX5_setSilent_b26 v1 v2 (1 : Int32) σ) else none)))
def fX5_loseNext_b42 (v1 v2 v3 t0 : Int32) (σ : St) : Option (Int32 × St) :=
  (if inb v3 20 = true then some (t0, up2 σ 9 v3.toNatClampNeg (vp_nar .boolean (1 : Int32))) else none)
def fX5_loseNext (v1 v2 : Int32) (σ : St) : Option (Int32 × St) :=
  ((fX5_isPort v1 v2 σ).bind fun (r1 : Int32) => (if r1 = 0 then some ((-1 : Int32), σ) else ((fX5_isLinked (((4 : Int32) * v1) + v2) σ).bind fun (r2 : Int32) => (if r2 = 0 then some ((-7 : Int32), σ) else (if inb (((4 : Int32) * v1) + v2) 20 = true then (if (σ 9 (((4 : Int32) * v1) + v2).toNatClampNeg) = 0 then fX5_loseNext_b42 v1 v2 (((4 : Int32) * v1) + v2) (1 : Int32) σ else fX5_loseNext_b42 v1 v2 (((4 : Int32) * v1) + v2) (0 : Int32) σ) else none)))))
def fX5_ages_b66 (v1 v2 : Int32) (σ : St) : Option (St) :=
  (if inb v1 20 = true then (if (σ 8 v1.toNatClampNeg) ≤ 0 then some σ else (if inb v1 20 = true then (if inb v1 20 = true then (if inb v1 20 = true then (if ((up2 σ 8 v1.toNatClampNeg ((σ 8 v1.toNatClampNeg) - (1 : Int32))) 8 v1.toNatClampNeg) = 0 then (if inb v1 20 = true then (if inb v1 20 = true then some (up2 (up2 (up2 σ 8 v1.toNatClampNeg ((σ 8 v1.toNatClampNeg) - (1 : Int32))) 12 v1.toNatClampNeg (vp_nar .boolean (1 : Int32))) 8 v1.toNatClampNeg ((up2 (up2 σ 8 v1.toNatClampNeg ((σ 8 v1.toNatClampNeg) - (1 : Int32))) 12 v1.toNatClampNeg (vp_nar .boolean (1 : Int32))) 0 7)) else none) else none) else some (up2 σ 8 v1.toNatClampNeg ((σ 8 v1.toNatClampNeg) - (1 : Int32)))) else none) else none) else none)) else none)
def fX5_ages_b60 (K11 : Int32 → St → Option (St)) (v1 v2 : Int32) (σ : St) : Option (St) :=
  K11 (v2 + (1 : Int32)) σ
def fX5_ages_b59 (K11 : Int32 → St → Option (St)) (v1 v2 t0 t1 : Int32) (σ : St) : Option (St) :=
  (if inb t1 80 = true then fX5_ages_b60 K11 v1 v2 (up2 σ 4 t1.toNatClampNeg t0) else none)
def fX5_ages_b11 (v1 : Int32) (K11 : Int32 → St → Option (St)) (v2 : Int32) (σ : St) : Option (St) :=
  (if (((4 : Int32) * v1) + (4 : Int32)) ≤ v2 then fX5_ages_b66 v1 v2 σ else (if inb v2 80 = true then (if (σ 4 v2.toNatClampNeg) = (2 : Int32) then (if inb v2 80 = true then (if inb v2 80 = true then (if inb v2 80 = true then (if ((up2 σ 5 v2.toNatClampNeg ((σ 5 v2.toNatClampNeg) - (1 : Int32))) 5 v2.toNatClampNeg) = 0 then fX5_ages_b59 K11 v1 v2 (0 : Int32) v2 (up2 σ 5 v2.toNatClampNeg ((σ 5 v2.toNatClampNeg) - (1 : Int32))) else fX5_ages_b59 K11 v1 v2 (2 : Int32) v2 (up2 σ 5 v2.toNatClampNeg ((σ 5 v2.toNatClampNeg) - (1 : Int32)))) else none) else none) else none) else fX5_ages_b60 K11 v1 v2 σ) else none))
def fX5_ages (v1 : Int32) (σ : St) : Option (St) :=
  (if inb v1 20 = true then loop1s (fX5_ages_b11 v1) fuel ((4 : Int32) * v1) (up2 σ 12 v1.toNatClampNeg (vp_nar .boolean (0 : Int32))) else none)
def fX5_isWanted_b45 (K6 : Int32 → Option (Int32)) (v1 v2 v3 : Int32) (σ : St) : Option (Int32) :=
  K6 (v3 + (1 : Int32))
def fX5_isWanted_b6 (v1 v2 : Int32) (σ : St) (K6 : Int32 → Option (Int32)) (v3 : Int32) : Option (Int32) :=
  (if (((v1 / (4 : Int32)) * (4 : Int32)) + (4 : Int32)) ≤ v3 then some (0 : Int32) else (if v3 = v1 then fX5_isWanted_b45 K6 v1 v2 v3 σ else ((fX5_isConnected v3 σ).bind fun (r1 : Int32) => (if r1 = 0 then fX5_isWanted_b45 K6 v1 v2 v3 σ else (if inb (((4 : Int32) * v3) + v2) 80 = true then (if (σ 4 (((4 : Int32) * v3) + v2).toNatClampNeg) = 0 then fX5_isWanted_b45 K6 v1 v2 v3 σ else some (1 : Int32)) else none)))))
def fX5_isWanted (v1 v2 : Int32) (σ : St) : Option (Int32) :=
  loop1 (fX5_isWanted_b6 v1 v2 σ) fuel ((v1 / (4 : Int32)) * (4 : Int32))
def fX5_propagates_b79 (K2 : Int32 → St → Option (St)) (v1 v2 v3 v4 : Int32) (σ : St) : Option (St) :=
  K2 (v2 + (1 : Int32)) σ
def fX5_propagates_b55 (K2 : Int32 → St → Option (St)) (v1 v2 v3 v4 : Int32) (σ : St) : Option (St) :=
  (if v4 = 0 then (if inb v3 80 = true then ((fX5_declares (σ 6 v3.toNatClampNeg) σ).bind fun (r1 : Int32) => (if r1 = 0 then fX5_propagates_b79 K2 v1 v2 v3 v4 σ else (if inb v3 80 = true then fX5_propagates_b79 K2 v1 v2 v3 v4 (up2 σ 6 v3.toNatClampNeg (3 : Int32)) else none))) else none) else fX5_propagates_b79 K2 v1 v2 v3 v4 σ)
def fX5_propagates_b2 (v1 : Int32) (K2 : Int32 → St → Option (St)) (v2 : Int32) (σ : St) : Option (St) :=
  (if (4 : Int32) ≤ v2 then some σ else ((fX5_isWanted v1 v2 σ).bind fun (r1 : Int32) => (if r1 = 0 then fX5_propagates_b55 K2 v1 v2 (((4 : Int32) * v1) + v2) r1 σ else (if inb (((4 : Int32) * v1) + v2) 80 = true then ((fX5_declares (σ 6 (((4 : Int32) * v1) + v2).toNatClampNeg) σ).bind fun (r2 : Int32) => (if r2 = 0 then (if inb (((4 : Int32) * v1) + v2) 80 = true then (if inb (((4 : Int32) * v1) + v2) 80 = true then fX5_propagates_b79 K2 v1 v2 (((4 : Int32) * v1) + v2) r1 (up2 (up2 σ 6 (((4 : Int32) * v1) + v2).toNatClampNeg (1 : Int32)) 7 (((4 : Int32) * v1) + v2).toNatClampNeg (2 : Int32)) else none) else none) else fX5_propagates_b55 K2 v1 v2 (((4 : Int32) * v1) + v2) r1 σ)) else none))))
def fX5_propagates (v1 : Int32) (σ : St) : Option (St) :=
  loop1s (fX5_propagates_b2 v1) fuel (0 : Int32) σ
def fX5_leavesAll_b64 (K4 : Int32 → St → Option (St)) (v1 v2 : Int32) (σ : St) : Option (St) :=
  K4 (v2 + (1 : Int32)) σ
def fX5_leavesAll_b40 (K4 : Int32 → St → Option (St)) (v1 v2 : Int32) (σ : St) : Option (St) :=
  (if inb v2 80 = true then (if (σ 6 v2.toNatClampNeg) = (2 : Int32) then (if inb v2 80 = true then (if inb v2 80 = true then fX5_leavesAll_b64 K4 v1 v2 (up2 (up2 σ 6 v2.toNatClampNeg (1 : Int32)) 7 v2.toNatClampNeg (1 : Int32)) else none) else none) else fX5_leavesAll_b64 K4 v1 v2 σ) else none)
def fX5_leavesAll_b4 (v1 : Int32) (K4 : Int32 → St → Option (St)) (v2 : Int32) (σ : St) : Option (St) :=
  (if (((4 : Int32) * v1) + (4 : Int32)) ≤ v2 then some σ else (if inb v2 80 = true then (if (σ 4 v2.toNatClampNeg) = (1 : Int32) then (if inb v2 80 = true then (if inb v2 80 = true then fX5_leavesAll_b40 K4 v1 v2 (up2 (up2 σ 4 v2.toNatClampNeg (2 : Int32)) 5 v2.toNatClampNeg ((up2 σ 4 v2.toNatClampNeg (2 : Int32)) 0 6)) else none) else none) else fX5_leavesAll_b40 K4 v1 v2 σ) else none))
def fX5_leavesAll (v1 : Int32) (σ : St) : Option (St) :=
  loop1s (fX5_leavesAll_b4 v1) fuel ((4 : Int32) * v1) σ
def fX5_sendsOf_b156 (K35 : Int32 → Int32 → St → Option (Int32 × St)) (v1 v2 v3 : Int32) (σ : St) : Option (Int32 × St) :=
  K35 v2 (v3 + (1 : Int32)) σ
def fX5_sendsOf_b135 (K35 : Int32 → Int32 → St → Option (Int32 × St)) (v1 v2 v3 t0 t1 : Int32) (σ : St) : Option (Int32 × St) :=
  (if inb t1 80 = true then fX5_sendsOf_b156 K35 v1 v2 v3 (up2 σ 6 t1.toNatClampNeg t0) else none)
def fX5_sendsOf_b94 (K35 : Int32 → Int32 → St → Option (Int32 × St)) (v1 v2 v3 t0 t1 : Int32) (σ : St) : Option (Int32 × St) :=
  (if inb v3 80 = true then (if (σ 14 v3.toNatClampNeg) = (1 : Int32) then (if inb v3 80 = true then (if inb v3 80 = true then (if inb v3 80 = true then (if ((up2 σ 7 v3.toNatClampNeg ((σ 7 v3.toNatClampNeg) - (1 : Int32))) 7 v3.toNatClampNeg) = 0 then fX5_sendsOf_b135 K35 v1 (t1 + t0) v3 (2 : Int32) v3 (up2 σ 7 v3.toNatClampNeg ((σ 7 v3.toNatClampNeg) - (1 : Int32))) else fX5_sendsOf_b135 K35 v1 (t1 + t0) v3 (1 : Int32) v3 (up2 σ 7 v3.toNatClampNeg ((σ 7 v3.toNatClampNeg) - (1 : Int32)))) else none) else none) else none) else (if inb v3 80 = true then (if (σ 14 v3.toNatClampNeg) = (2 : Int32) then (if inb v3 80 = true then fX5_sendsOf_b156 K35 v1 (t1 + t0) v3 (up2 σ 6 v3.toNatClampNeg (0 : Int32)) else none) else fX5_sendsOf_b156 K35 v1 (t1 + t0) v3 σ) else none)) else none)
def fX5_sendsOf_b78 (K35 : Int32 → Int32 → St → Option (Int32 × St)) (v1 v2 v3 t0 t1 : Int32) (σ : St) : Option (Int32 × St) :=
  (if inb t1 80 = true then (if inb v3 80 = true then (if ((up2 σ 14 t1.toNatClampNeg t0) 14 v3.toNatClampNeg) = 0 then fX5_sendsOf_b94 K35 v1 v2 v3 (0 : Int32) v2 (up2 σ 14 t1.toNatClampNeg t0) else fX5_sendsOf_b94 K35 v1 v2 v3 (1 : Int32) v2 (up2 σ 14 t1.toNatClampNeg t0)) else none) else none)
def fX5_sendsOf_b35 (v1 : Int32) (K35 : Int32 → Int32 → St → Option (Int32 × St)) (v2 v3 : Int32) (σ : St) : Option (Int32 × St) :=
  (if (((4 : Int32) * v1) + (4 : Int32)) ≤ v3 then some (v2, σ) else (if inb v3 80 = true then (if (σ 6 v3.toNatClampNeg) = (1 : Int32) then fX5_sendsOf_b78 K35 v1 v2 v3 (1 : Int32) v3 σ else (if inb v3 80 = true then (if (σ 6 v3.toNatClampNeg) = (3 : Int32) then fX5_sendsOf_b78 K35 v1 v2 v3 (2 : Int32) v3 σ else fX5_sendsOf_b78 K35 v1 v2 v3 (0 : Int32) v3 σ) else none)) else none))
def fX5_sendsOf_b31 (v1 v2 : Int32) (σ : St) : Option (Int32 × St) :=
  loop2s (fX5_sendsOf_b35 v1) fuel v2 ((4 : Int32) * v1) σ
def fX5_sendsOf (v1 : Int32) (σ : St) : Option (Int32 × St) :=
  (if inb v1 20 = true then (if inb v1 20 = true then (if inb v1 20 = true then (if ((up2 σ 13 v1.toNatClampNeg (vp_nar .boolean (σ 12 v1.toNatClampNeg))) 12 v1.toNatClampNeg) = 0 then fX5_sendsOf_b31 v1 (0 : Int32) (up2 σ 13 v1.toNatClampNeg (vp_nar .boolean (σ 12 v1.toNatClampNeg))) else ((fX5_leavesAll v1 (up2 σ 13 v1.toNatClampNeg (vp_nar .boolean (σ 12 v1.toNatClampNeg)))).bind fun (σ1 : St) => fX5_sendsOf_b31 v1 ((0 : Int32) + (1 : Int32)) σ1)) else none) else none) else none)
def fX5_sendsOfHost_b140 (K6 : Int32 → Int32 → St → Option (Int32 × St)) (v1 v2 v3 : Int32) (σ : St) : Option (Int32 × St) :=
  K6 v2 (v3 + (1 : Int32)) σ
def fX5_sendsOfHost_b119 (K6 : Int32 → Int32 → St → Option (Int32 × St)) (v1 v2 v3 t0 t1 : Int32) (σ : St) : Option (Int32 × St) :=
  (if inb t1 32 = true then fX5_sendsOfHost_b140 K6 v1 v2 v3 (up2 σ 10 t1.toNatClampNeg t0) else none)
def fX5_sendsOfHost_b78 (K6 : Int32 → Int32 → St → Option (Int32 × St)) (v1 v2 v3 t0 t1 : Int32) (σ : St) : Option (Int32 × St) :=
  (if inb v3 32 = true then (if (σ 15 v3.toNatClampNeg) = (1 : Int32) then (if inb v3 32 = true then (if inb v3 32 = true then (if inb v3 32 = true then (if ((up2 σ 11 v3.toNatClampNeg ((σ 11 v3.toNatClampNeg) - (1 : Int32))) 11 v3.toNatClampNeg) = 0 then fX5_sendsOfHost_b119 K6 v1 (t1 + t0) v3 (2 : Int32) v3 (up2 σ 11 v3.toNatClampNeg ((σ 11 v3.toNatClampNeg) - (1 : Int32))) else fX5_sendsOfHost_b119 K6 v1 (t1 + t0) v3 (1 : Int32) v3 (up2 σ 11 v3.toNatClampNeg ((σ 11 v3.toNatClampNeg) - (1 : Int32)))) else none) else none) else none) else (if inb v3 32 = true then (if (σ 15 v3.toNatClampNeg) = (2 : Int32) then (if inb v3 32 = true then fX5_sendsOfHost_b140 K6 v1 (t1 + t0) v3 (up2 σ 10 v3.toNatClampNeg (0 : Int32)) else none) else fX5_sendsOfHost_b140 K6 v1 (t1 + t0) v3 σ) else none)) else none)
def fX5_sendsOfHost_b62 (K6 : Int32 → Int32 → St → Option (Int32 × St)) (v1 v2 v3 t0 t1 : Int32) (σ : St) : Option (Int32 × St) :=
  (if inb t1 32 = true then (if inb v3 32 = true then (if ((up2 σ 15 t1.toNatClampNeg t0) 15 v3.toNatClampNeg) = 0 then fX5_sendsOfHost_b78 K6 v1 v2 v3 (0 : Int32) v2 (up2 σ 15 t1.toNatClampNeg t0) else fX5_sendsOfHost_b78 K6 v1 v2 v3 (1 : Int32) v2 (up2 σ 15 t1.toNatClampNeg t0)) else none) else none)
def fX5_sendsOfHost_b6 (v1 : Int32) (K6 : Int32 → Int32 → St → Option (Int32 × St)) (v2 v3 : Int32) (σ : St) : Option (Int32 × St) :=
  (if (((4 : Int32) * v1) + (4 : Int32)) ≤ v3 then some (v2, σ) else (if inb v1 8 = true then (if (σ 3 v1.toNatClampNeg) = 0 then (if inb v3 32 = true then (if (σ 10 v3.toNatClampNeg) = (1 : Int32) then fX5_sendsOfHost_b62 K6 v1 v2 v3 (1 : Int32) v3 σ else (if inb v3 32 = true then (if (σ 10 v3.toNatClampNeg) = (3 : Int32) then fX5_sendsOfHost_b62 K6 v1 v2 v3 (2 : Int32) v3 σ else fX5_sendsOfHost_b62 K6 v1 v2 v3 (0 : Int32) v3 σ) else none)) else none) else fX5_sendsOfHost_b62 K6 v1 v2 v3 (0 : Int32) v3 σ) else none))
def fX5_sendsOfHost (v1 : Int32) (σ : St) : Option (Int32 × St) :=
  loop2s (fX5_sendsOfHost_b6 v1) fuel (0 : Int32) ((4 : Int32) * v1) σ
def fX5_gets (v1 v2 : Int32) (σ : St) : Option (St) :=
  (if v2 = (1 : Int32) then (if inb v1 80 = true then (if inb v1 80 = true then some (up2 (up2 σ 4 v1.toNatClampNeg (1 : Int32)) 5 v1.toNatClampNeg (0 : Int32)) else none) else none) else (if v2 = (2 : Int32) then (if inb v1 80 = true then (if (σ 4 v1.toNatClampNeg) = (1 : Int32) then (if inb v1 80 = true then (if inb v1 80 = true then some (up2 (up2 σ 4 v1.toNatClampNeg (2 : Int32)) 5 v1.toNatClampNeg ((up2 σ 4 v1.toNatClampNeg (2 : Int32)) 0 6)) else none) else none) else some σ) else none) else some σ))
def fX5_hostLeavesAll_b37 (K4 : Int32 → St → Option (St)) (v1 v2 : Int32) (σ : St) : Option (St) :=
  K4 (v2 + (1 : Int32)) σ
def fX5_hostLeavesAll_b4 (v1 : Int32) (K4 : Int32 → St → Option (St)) (v2 : Int32) (σ : St) : Option (St) :=
  (if (((4 : Int32) * v1) + (4 : Int32)) ≤ v2 then some σ else (if inb v2 32 = true then (if (σ 10 v2.toNatClampNeg) = (2 : Int32) then (if inb v2 32 = true then (if inb v2 32 = true then fX5_hostLeavesAll_b37 K4 v1 v2 (up2 (up2 σ 10 v2.toNatClampNeg (1 : Int32)) 11 v2.toNatClampNeg (1 : Int32)) else none) else none) else fX5_hostLeavesAll_b37 K4 v1 v2 σ) else none))
def fX5_hostLeavesAll (v1 : Int32) (σ : St) : Option (St) :=
  loop1s (fX5_hostLeavesAll_b4 v1) fuel ((4 : Int32) * v1) σ
def fX5_delivers_b71 (v1 v2 : Int32) (K71 : Int32 → St → Option (St)) (v3 : Int32) (σ : St) : Option (St) :=
  (if (4 : Int32) ≤ v3 then some σ else (if inb v1 20 = true then (if inb (((4 : Int32) * v1) + v3) 80 = true then ((fX5_gets (((4 : Int32) * (σ 1 v1.toNatClampNeg)) + v3) (σ 14 (((4 : Int32) * v1) + v3).toNatClampNeg) σ).bind fun (σ1 : St) => K71 (v3 + (1 : Int32)) σ1) else none) else none))
def fX5_delivers_b69 (v1 v2 : Int32) (σ : St) : Option (St) :=
  loop1s (fX5_delivers_b71 v1 v2) fuel (0 : Int32) σ
def fX5_delivers (v1 : Int32) (σ : St) : Option (St) :=
  ((fX5_isLinked v1 σ).bind fun (r1 : Int32) => (if r1 = 0 then (if inb v1 20 = true then (if (σ 13 v1.toNatClampNeg) = 0 then some σ else (if inb v1 20 = true then ((fX5_hostLeavesAll ((σ 1 v1.toNatClampNeg) - (100 : Int32)) σ).bind fun (σ3 : St) => some σ3) else none)) else none) else (if inb v1 20 = true then (if inb v1 20 = true then (if (σ 9 v1.toNatClampNeg) = 0 then (if inb v1 20 = true then (if ((up2 σ 9 v1.toNatClampNeg (vp_nar .boolean (0 : Int32))) 13 v1.toNatClampNeg) = 0 then fX5_delivers_b69 v1 (σ 9 v1.toNatClampNeg) (up2 σ 9 v1.toNatClampNeg (vp_nar .boolean (0 : Int32))) else (if inb v1 20 = true then ((fX5_leavesAll ((up2 σ 9 v1.toNatClampNeg (vp_nar .boolean (0 : Int32))) 1 v1.toNatClampNeg) (up2 σ 9 v1.toNatClampNeg (vp_nar .boolean (0 : Int32)))).bind fun (σ2 : St) => fX5_delivers_b69 v1 (σ 9 v1.toNatClampNeg) σ2) else none)) else none) else some (up2 σ 9 v1.toNatClampNeg (vp_nar .boolean (0 : Int32)))) else none) else none)))
def fX5_passes_b183 (v1 v2 : Int32) (σ : St) : Option (Int32 × St) :=
  some (v1, up2 σ 0 8 ((σ 0 8) + (1 : Int32)))
def fX5_passes_b143 (v1 : Int32) (K143 : Int32 → St → Option (Int32 × St)) (v2 : Int32) (σ : St) : Option (Int32 × St) :=
  (if ((4 : Int32) * (σ 0 1)) ≤ v2 then fX5_passes_b183 v1 v2 σ else (if inb (v2 / (4 : Int32)) 8 = true then (if inb v2 32 = true then ((fX5_gets (((4 : Int32) * (σ 2 (v2 / (4 : Int32)).toNatClampNeg)) + (v2 - v2 / (4 : Int32) * (4 : Int32))) (σ 15 v2.toNatClampNeg) σ).bind fun (σ1 : St) => K143 (v2 + (1 : Int32)) σ1) else none) else none))
def fX5_passes_b141 (v1 v2 : Int32) (σ : St) : Option (Int32 × St) :=
  loop1s (fX5_passes_b143 v1) fuel (0 : Int32) σ
def fX5_passes_b135 (K116 : Int32 → St → Option (Int32 × St)) (v1 v2 : Int32) (σ : St) : Option (Int32 × St) :=
  K116 (v2 + (1 : Int32)) σ
def fX5_passes_b116 (v1 : Int32) (K116 : Int32 → St → Option (Int32 × St)) (v2 : Int32) (σ : St) : Option (Int32 × St) :=
  (if (20 : Int32) ≤ v2 then fX5_passes_b141 v1 v2 σ else ((fX5_isConnected v2 σ).bind fun (r1 : Int32) => (if r1 = 0 then fX5_passes_b135 K116 v1 v2 σ else ((fX5_delivers v2 σ).bind fun (σ2 : St) => fX5_passes_b135 K116 v1 v2 σ2))))
def fX5_passes_b114 (v1 v2 : Int32) (σ : St) : Option (Int32 × St) :=
  loop1s (fX5_passes_b116 v1) fuel (0 : Int32) σ
def fX5_passes_b92 (K92 : Int32 → Int32 → St → Option (Int32 × St)) (v1 v2 : Int32) (σ : St) : Option (Int32 × St) :=
  (if (σ 0 1) ≤ v2 then fX5_passes_b114 v1 v2 σ else (bind2 (fX5_sendsOfHost v2 σ) fun (r1 : Int32) (σ1 : St) => K92 (v1 + r1) (v2 + (1 : Int32)) σ1))
def fX5_passes_b90 (v1 v2 : Int32) (σ : St) : Option (Int32 × St) :=
  loop2s (fX5_passes_b92) fuel v1 (0 : Int32) σ
def fX5_passes_b82 (K58 : Int32 → Int32 → St → Option (Int32 × St)) (v1 v2 t0 t1 : Int32) (σ : St) : Option (Int32 × St) :=
  K58 (t1 + t0) (v2 + (1 : Int32)) σ
def fX5_passes_b58 (K58 : Int32 → Int32 → St → Option (Int32 × St)) (v1 v2 : Int32) (σ : St) : Option (Int32 × St) :=
  (if (20 : Int32) ≤ v2 then fX5_passes_b90 v1 v2 σ else ((fX5_isConnected v2 σ).bind fun (r1 : Int32) => (if r1 = 0 then fX5_passes_b82 K58 v1 v2 (0 : Int32) v1 σ else (bind2 (fX5_sendsOf v2 σ) fun (r2 : Int32) (σ2 : St) => fX5_passes_b82 K58 v1 v2 r2 v1 σ2))))
def fX5_passes_b56 (v1 v2 : Int32) (σ : St) : Option (Int32 × St) :=
  loop2s (fX5_passes_b58) fuel v1 (0 : Int32) σ
def fX5_passes_b50 (K31 : Int32 → St → Option (Int32 × St)) (v1 v2 : Int32) (σ : St) : Option (Int32 × St) :=
  K31 (v2 + (1 : Int32)) σ
def fX5_passes_b31 (v1 : Int32) (K31 : Int32 → St → Option (Int32 × St)) (v2 : Int32) (σ : St) : Option (Int32 × St) :=
  (if (20 : Int32) ≤ v2 then fX5_passes_b56 v1 v2 σ else ((fX5_isConnected v2 σ).bind fun (r1 : Int32) => (if r1 = 0 then fX5_passes_b50 K31 v1 v2 σ else ((fX5_propagates v2 σ).bind fun (σ2 : St) => fX5_passes_b50 K31 v1 v2 σ2))))
def fX5_passes_b29 (v1 v2 : Int32) (σ : St) : Option (Int32 × St) :=
  loop1s (fX5_passes_b31 v1) fuel (0 : Int32) σ
def fX5_passes_b23 (K4 : Int32 → St → Option (Int32 × St)) (v1 v2 : Int32) (σ : St) : Option (Int32 × St) :=
  K4 (v2 + (1 : Int32)) σ
def fX5_passes_b4 (v1 : Int32) (K4 : Int32 → St → Option (Int32 × St)) (v2 : Int32) (σ : St) : Option (Int32 × St) :=
  (if (20 : Int32) ≤ v2 then fX5_passes_b29 v1 v2 σ else ((fX5_isConnected v2 σ).bind fun (r1 : Int32) => (if r1 = 0 then fX5_passes_b23 K4 v1 v2 σ else ((fX5_ages v2 σ).bind fun (σ2 : St) => fX5_passes_b23 K4 v1 v2 σ2))))
def fX5_passes (σ : St) : Option (Int32 × St) :=
  loop1s (fX5_passes_b4 (0 : Int32)) fuel (0 : Int32) σ
def fX5_tick_b17 (v1 : Int32) (K17 : Int32 → Int32 → St → Option (Int32 × St)) (v2 v3 : Int32) (σ : St) : Option (Int32 × St) :=
  (if v1 ≤ v3 then some (v2, σ) else (bind2 (fX5_passes σ) fun (r1 : Int32) (σ1 : St) => K17 (v2 + r1) (v3 + (1 : Int32)) σ1))
def fX5_tick (v1 : Int32) (σ : St) : Option (Int32 × St) :=
  ((fX5_within v1 (1 : Int32) (100 : Int32) σ).bind fun (r1 : Int32) => (if r1 = 0 then some ((-4 : Int32), σ) else loop2s (fX5_tick_b17 v1) fuel (0 : Int32) (0 : Int32) σ))
def fX5_time (σ : St) : Option (Int32) :=
  some (σ 0 8)
def fX5_refusedPort (v1 v2 v3 : Int32) (σ : St) : Option (Int32) :=
  ((fX5_isPort v1 v2 σ).bind fun (r1 : Int32) => (if r1 = 0 then some (-1 : Int32) else ((fX5_isGroup v3 σ).bind fun (r2 : Int32) => (if r2 = 0 then some (-3 : Int32) else some (0 : Int32)))))
def fX5_registrar (v1 v2 v3 : Int32) (σ : St) : Option (Int32) :=
  ((fX5_refusedPort v1 v2 v3 σ).bind fun (r1 : Int32) => (if r1 = 0 then (if inb ((((16 : Int32) * v1) + ((4 : Int32) * v2)) + v3) 80 = true then some (σ 4 ((((16 : Int32) * v1) + ((4 : Int32) * v2)) + v3).toNatClampNeg) else none) else some r1))
def fX5_registrarTimer (v1 v2 v3 : Int32) (σ : St) : Option (Int32) :=
  ((fX5_refusedPort v1 v2 v3 σ).bind fun (r1 : Int32) => (if r1 = 0 then (if inb ((((16 : Int32) * v1) + ((4 : Int32) * v2)) + v3) 80 = true then some (σ 5 ((((16 : Int32) * v1) + ((4 : Int32) * v2)) + v3).toNatClampNeg) else none) else some r1))
def fX5_applicant (v1 v2 v3 : Int32) (σ : St) : Option (Int32) :=
  ((fX5_refusedPort v1 v2 v3 σ).bind fun (r1 : Int32) => (if r1 = 0 then (if inb ((((16 : Int32) * v1) + ((4 : Int32) * v2)) + v3) 80 = true then some (σ 6 ((((16 : Int32) * v1) + ((4 : Int32) * v2)) + v3).toNatClampNeg) else none) else some r1))
def fX5_hostApplicant (v1 v2 : Int32) (σ : St) : Option (Int32) :=
  ((fX5_refusedHost v1 v2 σ).bind fun (r1 : Int32) => (if r1 = 0 then (if inb (((4 : Int32) * v1) + v2) 32 = true then some (σ 10 (((4 : Int32) * v1) + v2).toNatClampNeg) else none) else some r1))
def fX5_leaveAllTimer (v1 v2 : Int32) (σ : St) : Option (Int32) :=
  ((fX5_isPort v1 v2 σ).bind fun (r1 : Int32) => (if r1 = 0 then some (-1 : Int32) else (if inb (((4 : Int32) * v1) + v2) 20 = true then some (σ 8 (((4 : Int32) * v1) + v2).toNatClampNeg) else none)))
def fX5_isBusy_b10 (v0 : Int32) (σ : St) : Option (Int32) :=
  some (1 : Int32)
def fX5_isBusy (v0 : Int32) (σ : St) : Option (Int32) :=
  (if v0 = (1 : Int32) then fX5_isBusy_b10 v0 σ else (if v0 = (3 : Int32) then fX5_isBusy_b10 v0 σ else some (0 : Int32)))
def fX5_isPortSettled_b50 (K2 : Int32 → Option (Int32)) (v1 v2 v3 t0 : Int32) (σ : St) : Option (Int32) :=
  ((fX5_isWanted v1 v2 σ).bind fun (r1 : Int32) => (if t0 = r1 then K2 (v2 + (1 : Int32)) else some (0 : Int32)))
def fX5_isPortSettled_b2 (v1 : Int32) (σ : St) (K2 : Int32 → Option (Int32)) (v2 : Int32) : Option (Int32) :=
  (if (4 : Int32) ≤ v2 then some (1 : Int32) else (if inb (((4 : Int32) * v1) + v2) 80 = true then ((fX5_isBusy (σ 6 (((4 : Int32) * v1) + v2).toNatClampNeg) σ).bind fun (r1 : Int32) => (if r1 = 0 then (if inb (((4 : Int32) * v1) + v2) 80 = true then (if (σ 4 (((4 : Int32) * v1) + v2).toNatClampNeg) = (2 : Int32) then some (0 : Int32) else (if inb (((4 : Int32) * v1) + v2) 80 = true then (if (σ 6 (((4 : Int32) * v1) + v2).toNatClampNeg) = (2 : Int32) then fX5_isPortSettled_b50 K2 v1 v2 (((4 : Int32) * v1) + v2) (1 : Int32) σ else fX5_isPortSettled_b50 K2 v1 v2 (((4 : Int32) * v1) + v2) (0 : Int32) σ) else none)) else none) else some (0 : Int32))) else none))
def fX5_isPortSettled (v1 : Int32) (σ : St) : Option (Int32) :=
  loop1 (fX5_isPortSettled_b2 v1 σ) fuel (0 : Int32)
def fX5_isSettled_b69 (K34 : Int32 → Option (Int32)) (v1 : Int32) (σ : St) : Option (Int32) :=
  K34 (v1 + (1 : Int32))
def fX5_isSettled_b34 (σ : St) (K34 : Int32 → Option (Int32)) (v1 : Int32) : Option (Int32) :=
  (if ((4 : Int32) * (σ 0 1)) ≤ v1 then some (1 : Int32) else (if inb (v1 / (4 : Int32)) 8 = true then (if (σ 3 (v1 / (4 : Int32)).toNatClampNeg) = 0 then (if inb v1 32 = true then ((fX5_isBusy (σ 10 v1.toNatClampNeg) σ).bind fun (r1 : Int32) => (if r1 = 0 then fX5_isSettled_b69 K34 v1 σ else some (0 : Int32))) else none) else fX5_isSettled_b69 K34 v1 σ) else none))
def fX5_isSettled_b32 (v1 : Int32) (σ : St) : Option (Int32) :=
  loop1 (fX5_isSettled_b34 σ) fuel (0 : Int32)
def fX5_isSettled_b26 (K2 : Int32 → Option (Int32)) (v1 : Int32) (σ : St) : Option (Int32) :=
  K2 (v1 + (1 : Int32))
def fX5_isSettled_b2 (σ : St) (K2 : Int32 → Option (Int32)) (v1 : Int32) : Option (Int32) :=
  (if (20 : Int32) ≤ v1 then fX5_isSettled_b32 v1 σ else ((fX5_isConnected v1 σ).bind fun (r1 : Int32) => (if r1 = 0 then fX5_isSettled_b26 K2 v1 σ else ((fX5_isPortSettled v1 σ).bind fun (r2 : Int32) => (if r2 = 0 then some (0 : Int32) else fX5_isSettled_b26 K2 v1 σ)))))
def fX5_isSettled (σ : St) : Option (Int32) :=
  loop1 (fX5_isSettled_b2 σ) fuel (0 : Int32)
def fX5_reached_b143 (K20 : Int32 → Int32 → Int32 → St → Option (Int32 × St)) (v1 v2 v3 v4 v5 v6 v7 : Int32) (σ : St) : Option (Int32 × St) :=
  K20 v3 v4 (v5 + (1 : Int32)) σ
def fX5_reached_b137 (K20 : Int32 → Int32 → Int32 → St → Option (Int32 × St)) (K44 : Int32 → Int32 → Int32 → St → Option (Int32 × St)) (v1 v2 v3 v4 v5 v6 v7 : Int32) (σ : St) : Option (Int32 × St) :=
  K44 v3 v4 (v7 + (1 : Int32)) σ
def fX5_reached_b44 (K20 : Int32 → Int32 → Int32 → St → Option (Int32 × St)) (v1 v2 v5 v6 : Int32) (K44 : Int32 → Int32 → Int32 → St → Option (Int32 × St)) (v3 v4 v7 : Int32) (σ : St) : Option (Int32 × St) :=
  (if (((4 : Int32) * v6) + (4 : Int32)) ≤ v7 then fX5_reached_b143 K20 v1 v2 v3 v4 v5 v6 v7 σ else (if inb v5 20 = true then (if v7 = (σ 16 v5.toNatClampNeg) then fX5_reached_b137 K20 K44 v1 v2 v3 v4 v5 v6 v7 σ else ((fX5_isConnected v7 σ).bind fun (r1 : Int32) => (if r1 = 0 then fX5_reached_b137 K20 K44 v1 v2 v3 v4 v5 v6 v7 σ else (if inb (((4 : Int32) * v7) + v2) 80 = true then (if (σ 4 (((4 : Int32) * v7) + v2).toNatClampNeg) = 0 then fX5_reached_b137 K20 K44 v1 v2 v3 v4 v5 v6 v7 σ else ((fX5_isLinked v7 σ).bind fun (r2 : Int32) => (if r2 = 0 then (if inb v7 20 = true then fX5_reached_b137 K20 K44 v1 v2 (v3 ||| ((1 : Int32) <<< (((σ 1 v7.toNatClampNeg) - (100 : Int32)) &&& 31))) v4 v5 v6 v7 σ else none) else (if inb v7 20 = true then (if inb v4 20 = true then fX5_reached_b137 K20 K44 v1 v2 v3 (v4 + (1 : Int32)) v5 v6 v7 (up2 σ 16 v4.toNatClampNeg (σ 1 v7.toNatClampNeg)) else none) else none)))) else none)))) else none))
def fX5_reached_b20 (v1 v2 : Int32) (K20 : Int32 → Int32 → Int32 → St → Option (Int32 × St)) (v3 v4 v5 : Int32) (σ : St) : Option (Int32 × St) :=
  (if v4 ≤ v5 then some (v3, σ) else (if inb v5 20 = true then loop3s (fX5_reached_b44 K20 v1 v2 v5 ((σ 16 v5.toNatClampNeg) / (4 : Int32))) fuel v3 v4 ((4 : Int32) * ((σ 16 v5.toNatClampNeg) / (4 : Int32))) σ else none))
def fX5_reached (v1 v2 : Int32) (σ : St) : Option (Int32 × St) :=
  (if inb v1 8 = true then (if inb (0 : Int32) 20 = true then loop3s (fX5_reached_b20 v1 v2) fuel (0 : Int32) (1 : Int32) (0 : Int32) (up2 σ 16 (0 : Int32).toNatClampNeg (σ 2 v1.toNatClampNeg)) else none) else none)
def fX5_receivers (v1 v2 : Int32) (σ : St) : Option (Int32 × St) :=
  ((fX5_refusedHost v1 v2 σ).bind fun (r1 : Int32) => (if r1 = 0 then (bind2 (fX5_reached v1 v2 σ) fun (r2 : Int32) (σ2 : St) => some (r2, σ2)) else some (r1, σ)))
def fX5_missedCount_b120 (K41 : Int32 → Int32 → Option (Int32 × St)) (v1 v2 v3 v4 v5 v6 v7 v8 t0 t1 : Int32) (σ : St) : Option (Int32 × St) :=
  K41 (t1 + t0) (v7 + (1 : Int32))
def fX5_missedCount_b119 (K41 : Int32 → Int32 → Option (Int32 × St)) (v1 v2 v3 v4 v5 v6 v7 v8 t0 : Int32) (σ : St) : Option (Int32 × St) :=
  fX5_missedCount_b120 K41 v1 v2 v3 v4 v5 v6 v7 v8 (0 : Int32) t0 σ
def fX5_missedCount_b96 (K41 : Int32 → Int32 → Option (Int32 × St)) (v1 v2 v3 v4 v5 v6 v7 t0 : Int32) (σ : St) : Option (Int32 × St) :=
  (if t0 = 0 then fX5_missedCount_b119 K41 v1 v2 v3 v4 v5 v6 v7 t0 v6 σ else (if ((v4 >>> (v7 &&& 31)) &&& (1 : Int32)) = 0 then fX5_missedCount_b120 K41 v1 v2 v3 v4 v5 v6 v7 t0 (1 : Int32) v6 σ else fX5_missedCount_b119 K41 v1 v2 v3 v4 v5 v6 v7 t0 v6 σ))
def fX5_missedCount_b95 (K41 : Int32 → Int32 → Option (Int32 × St)) (v1 v2 v3 v4 v5 v6 v7 : Int32) (σ : St) : Option (Int32 × St) :=
  fX5_missedCount_b96 K41 v1 v2 v3 v4 v5 v6 v7 (0 : Int32) σ
def fX5_missedCount_b41 (v1 v2 v3 v4 v5 : Int32) (σ : St) (K41 : Int32 → Int32 → Option (Int32 × St)) (v6 v7 : Int32) : Option (Int32 × St) :=
  (if (σ 0 1) ≤ v7 then some (v6, σ) else (if v7 = v1 then fX5_missedCount_b95 K41 v1 v2 v3 v4 v5 v6 v7 σ else (if inb v7 8 = true then (if ((v5 >>> (((σ 2 v7.toNatClampNeg) / (4 : Int32)) &&& 31)) &&& (1 : Int32)) = (1 : Int32) then (if inb (((4 : Int32) * v7) + v2) 32 = true then ((fX5_declares (σ 10 (((4 : Int32) * v7) + v2).toNatClampNeg) σ).bind fun (r1 : Int32) => (if r1 = 0 then fX5_missedCount_b95 K41 v1 v2 v3 v4 v5 v6 v7 σ else fX5_missedCount_b96 K41 v1 v2 v3 v4 v5 v6 v7 (1 : Int32) σ)) else none) else fX5_missedCount_b95 K41 v1 v2 v3 v4 v5 v6 v7 σ) else none)))
def fX5_missedCount (v1 v2 : Int32) (σ : St) : Option (Int32 × St) :=
  ((fX5_refusedHost v1 v2 σ).bind fun (r1 : Int32) => (if r1 = 0 then (bind2 (fX5_reached v1 v2 σ) fun (r2 : Int32) (σ2 : St) => (if inb v1 8 = true then ((fX5_partOf ((σ2 2 v1.toNatClampNeg) / (4 : Int32)) σ2).bind fun (r3 : Int32) => loop2 (fX5_missedCount_b41 v1 v2 r1 r2 r3 σ2) fuel (0 : Int32) (0 : Int32)) else none)) else some (r1, σ)))
def fX5_needlessCount_b71 (K27 : Int32 → Int32 → Option (Int32 × St)) (v1 v2 v3 v4 v5 v6 t0 t1 : Int32) (σ : St) : Option (Int32 × St) :=
  K27 (t1 + t0) (v6 + (1 : Int32))
def fX5_needlessCount_b70 (K27 : Int32 → Int32 → Option (Int32 × St)) (v1 v2 v3 v4 v5 v6 t0 : Int32) (σ : St) : Option (Int32 × St) :=
  fX5_needlessCount_b71 K27 v1 v2 v3 v4 v5 v6 (0 : Int32) t0 σ
def fX5_needlessCount_b27 (v1 v2 v3 v4 : Int32) (σ : St) (K27 : Int32 → Int32 → Option (Int32 × St)) (v5 v6 : Int32) : Option (Int32 × St) :=
  (if (σ 0 1) ≤ v6 then some (v5, σ) else (if ((v4 >>> (v6 &&& 31)) &&& (1 : Int32)) = (1 : Int32) then (if inb (((4 : Int32) * v6) + v2) 32 = true then ((fX5_declares (σ 10 (((4 : Int32) * v6) + v2).toNatClampNeg) σ).bind fun (r1 : Int32) => (if r1 = 0 then fX5_needlessCount_b71 K27 v1 v2 v3 v4 v5 v6 (1 : Int32) v5 σ else fX5_needlessCount_b70 K27 v1 v2 v3 v4 v5 v6 v5 σ)) else none) else fX5_needlessCount_b70 K27 v1 v2 v3 v4 v5 v6 v5 σ))
def fX5_needlessCount (v1 v2 : Int32) (σ : St) : Option (Int32 × St) :=
  ((fX5_refusedHost v1 v2 σ).bind fun (r1 : Int32) => (if r1 = 0 then (bind2 (fX5_reached v1 v2 σ) fun (r2 : Int32) (σ2 : St) => loop2 (fX5_needlessCount_b27 v1 v2 r1 r2 σ2) fuel (0 : Int32) (0 : Int32)) else some (r1, σ)))
def fX5_distance_b145 (v1 v2 v3 : Int32) (σ : St) : Option (Int32 × St) :=
  (if inb v2 8 = true then (if inb ((σ 2 v2.toNatClampNeg) / (4 : Int32)) 5 = true then some ((σ 17 ((σ 2 v2.toNatClampNeg) / (4 : Int32)).toNatClampNeg), σ) else none) else none)
def fX5_distance_b139 (K55 : Int32 → St → Option (Int32 × St)) (v1 v2 v3 v4 : Int32) (σ : St) : Option (Int32 × St) :=
  K55 (v3 + (1 : Int32)) σ
def fX5_distance_b133 (K55 : Int32 → St → Option (Int32 × St)) (K63 : Int32 → St → Option (Int32 × St)) (v1 v2 v3 v4 : Int32) (σ : St) : Option (Int32 × St) :=
  K63 (v4 + (1 : Int32)) σ
def fX5_distance_b63 (K55 : Int32 → St → Option (Int32 × St)) (v1 v2 v3 : Int32) (K63 : Int32 → St → Option (Int32 × St)) (v4 : Int32) (σ : St) : Option (Int32 × St) :=
  (if (20 : Int32) ≤ v4 then fX5_distance_b139 K55 v1 v2 v3 v4 σ else ((fX5_isLinked v4 σ).bind fun (r1 : Int32) => (if r1 = 0 then fX5_distance_b133 K55 K63 v1 v2 v3 v4 σ else (if inb (v4 / (4 : Int32)) 5 = true then (if (σ 17 (v4 / (4 : Int32)).toNatClampNeg) ≤ 0 then fX5_distance_b133 K55 K63 v1 v2 v3 v4 σ else (if inb v4 20 = true then (if inb ((σ 1 v4.toNatClampNeg) / (4 : Int32)) 5 = true then (if (σ 17 ((σ 1 v4.toNatClampNeg) / (4 : Int32)).toNatClampNeg) = 0 then (if inb v4 20 = true then (if inb (v4 / (4 : Int32)) 5 = true then (if inb ((σ 1 v4.toNatClampNeg) / (4 : Int32)) 5 = true then fX5_distance_b133 K55 K63 v1 v2 v3 v4 (up2 σ 17 ((σ 1 v4.toNatClampNeg) / (4 : Int32)).toNatClampNeg ((σ 17 (v4 / (4 : Int32)).toNatClampNeg) + (1 : Int32))) else none) else none) else none) else fX5_distance_b133 K55 K63 v1 v2 v3 v4 σ) else none) else none)) else none))))
def fX5_distance_b55 (v1 v2 : Int32) (K55 : Int32 → St → Option (Int32 × St)) (v3 : Int32) (σ : St) : Option (Int32 × St) :=
  (if (5 : Int32) ≤ v3 then fX5_distance_b145 v1 v2 v3 σ else loop1s (fX5_distance_b63 K55 v1 v2 v3) fuel (0 : Int32) σ)
def fX5_distance_b39 (v1 v2 v3 : Int32) (σ : St) : Option (Int32 × St) :=
  (if inb v1 8 = true then (if inb ((σ 2 v1.toNatClampNeg) / (4 : Int32)) 5 = true then loop1s (fX5_distance_b55 v1 v2) fuel (0 : Int32) (up2 σ 17 ((σ 2 v1.toNatClampNeg) / (4 : Int32)).toNatClampNeg (1 : Int32)) else none) else none)
def fX5_distance_b21 (v1 v2 : Int32) (K21 : Int32 → St → Option (Int32 × St)) (v3 : Int32) (σ : St) : Option (Int32 × St) :=
  (if (5 : Int32) ≤ v3 then fX5_distance_b39 v1 v2 v3 σ else (if inb v3 5 = true then K21 (v3 + (1 : Int32)) (up2 σ 17 v3.toNatClampNeg (0 : Int32)) else none))
def fX5_distance (v1 v2 : Int32) (σ : St) : Option (Int32 × St) :=
  ((fX5_isHost v1 σ).bind fun (r1 : Int32) => (if r1 = 0 then some ((-2 : Int32), σ) else ((fX5_isHost v2 σ).bind fun (r2 : Int32) => (if r2 = 0 then some ((-2 : Int32), σ) else loop1s (fX5_distance_b21 v1 v2) fuel (0 : Int32) σ))))
def fJ7_fill_53178_b5 (v1 v3 : Int32) (K5 : Int32 → St → Option (St)) (v2 : Int32) (σ : St) : Option (St) :=
  (if v3 ≤ v2 then some σ else (if inb v2 112 = true then K5 (v2 + (1 : Int32)) (up2 σ 11 v2.toNatClampNeg v1) else none))
def fJ7_fill_53178 (v1 : Int32) (σ : St) : Option (St) :=
  loop1s (fJ7_fill_53178_b5 v1 (112 : Int32)) fuel (0 : Int32) σ
def fX0_change (v1 v2 v3 : Int32) (σ : St) : Option (St) :=
  (if inb v1 112 = true then (if inb v1 112 = true then some (up2 (up2 σ 8 v1.toNatClampNeg v2) 9 v1.toNatClampNeg v3) else none) else none)
def fX0_isDeclaring_b20 (v1 : Int32) (σ : St) : Option (Int32) :=
  some (1 : Int32)
def fX0_isDeclaring (v1 : Int32) (σ : St) : Option (Int32) :=
  (if inb v1 112 = true then (if (σ 8 v1.toNatClampNeg) = (1 : Int32) then fX0_isDeclaring_b20 v1 σ else (if inb v1 112 = true then (if (σ 8 v1.toNatClampNeg) = (2 : Int32) then fX0_isDeclaring_b20 v1 σ else some (0 : Int32)) else none)) else none)
def fX0_startDeclaring (v1 : Int32) (σ : St) : Option (Int32 × St) :=
  ((fX0_isDeclaring v1 σ).bind fun (r1 : Int32) => (if r1 = 0 then ((fX0_change v1 (1 : Int32) (2 : Int32) σ).bind fun (σ2 : St) => some ((1 : Int32), σ2)) else some ((0 : Int32), σ)))
def fX0_stopDeclaring (v1 : Int32) (σ : St) : Option (Int32 × St) :=
  ((fX0_isDeclaring v1 σ).bind fun (r1 : Int32) => (if r1 = 0 then some ((0 : Int32), σ) else ((fX0_change v1 (3 : Int32) (0 : Int32) σ).bind fun (σ2 : St) => some ((1 : Int32), σ2))))
def fX0_declareAgain (v1 : Int32) (σ : St) : Option (St) :=
  (if inb v1 112 = true then (if (σ 8 v1.toNatClampNeg) = (2 : Int32) then ((fX0_change v1 (1 : Int32) (1 : Int32) σ).bind fun (σ1 : St) => some σ1) else some σ) else none)
def fX0_nextMessage (v1 : Int32) (σ : St) : Option (Int32 × St) :=
  (if inb v1 112 = true then (if (σ 8 v1.toNatClampNeg) = (1 : Int32) then (if inb v1 112 = true then (if inb v1 112 = true then (if inb v1 112 = true then (if ((up2 σ 9 v1.toNatClampNeg ((σ 9 v1.toNatClampNeg) - (1 : Int32))) 9 v1.toNatClampNeg) = 0 then (if inb v1 112 = true then some ((1 : Int32), up2 (up2 σ 9 v1.toNatClampNeg ((σ 9 v1.toNatClampNeg) - (1 : Int32))) 8 v1.toNatClampNeg (2 : Int32)) else none) else some ((1 : Int32), up2 σ 9 v1.toNatClampNeg ((σ 9 v1.toNatClampNeg) - (1 : Int32)))) else none) else none) else none) else (if inb v1 112 = true then (if (σ 8 v1.toNatClampNeg) = (3 : Int32) then (if inb v1 112 = true then some ((2 : Int32), up2 σ 8 v1.toNatClampNeg (0 : Int32)) else none) else some ((0 : Int32), σ)) else none)) else none)
def fX1_stationOfPort (v1 v2 : Int32) (σ : St) : Option (Int32) :=
  (if v1 < 0 then some (-1 : Int32) else (if (σ 1 1) ≤ v1 then some (-1 : Int32) else (if v2 < 0 then some (-1 : Int32) else (if v2 < (4 : Int32) then some ((v1 * (4 : Int32)) + v2) else some (-1 : Int32)))))
def fX1_stationOfHost (v1 : Int32) (σ : St) : Option (Int32) :=
  (if v1 < 0 then some (-2 : Int32) else (if v1 < (σ 1 2) then some ((20 : Int32) + v1) else some (-2 : Int32)))
def fX4_isStation (v0 : Int32) (σ : St) : Option (Int32) :=
  (if v0 < 0 then some (0 : Int32) else (if (28 : Int32) ≤ v0 then some (0 : Int32) else some (1 : Int32)))
def fX1_isConnected (v1 : Int32) (σ : St) : Option (Int32) :=
  (if inb v1 28 = true then ((fX4_isStation (σ 5 v1.toNatClampNeg) σ).bind fun (r1 : Int32) => (if r1 = 0 then some 0 else if r1 = 1 then some 1 else none)) else none)
def fX1_tie (v1 v2 : Int32) (σ : St) : Option (St) :=
  (if inb v1 28 = true then (if inb v2 28 = true then some (up2 (up2 σ 5 v1.toNatClampNeg v2) 5 v2.toNatClampNeg v1) else none) else none)
def fX1_untie (v1 v2 : Int32) (σ : St) : Option (St) :=
  (if inb v1 28 = true then (if inb v2 28 = true then some (up2 (up2 σ 5 v1.toNatClampNeg (-1 : Int32)) 5 v2.toNatClampNeg (-1 : Int32)) else none) else none)
def fX4_contains (v0 v1 : Int32) (σ : St) : Option (Int32) :=
  (if (v0 &&& ((1 : Int32) <<< (v1 &&& 31))) = 0 then some (0 : Int32) else some (1 : Int32))
def fX4_bridgeOf (v0 : Int32) (σ : St) : Option (Int32) :=
  some (v0 / (4 : Int32))
def fX4_isPort (v0 : Int32) (σ : St) : Option (Int32) :=
  (if v0 < 0 then some (0 : Int32) else (if (20 : Int32) ≤ v0 then some (0 : Int32) else some (1 : Int32)))
def fX1_neighboursOf_b47 (K4 : Int32 → Int32 → Option (Int32)) (v1 v2 v3 v4 : Int32) (σ : St) : Option (Int32) :=
  K4 v2 (v3 + (1 : Int32))
def fX1_neighboursOf_b4 (v1 : Int32) (σ : St) (K4 : Int32 → Int32 → Option (Int32)) (v2 v3 : Int32) : Option (Int32) :=
  (if (20 : Int32) ≤ v3 then some v2 else (if inb v3 28 = true then ((fX4_bridgeOf v3 σ).bind fun (r1 : Int32) => ((fX4_contains v1 r1 σ).bind fun (r2 : Int32) => (if r2 = 0 then fX1_neighboursOf_b47 K4 v1 v2 v3 (σ 5 v3.toNatClampNeg) σ else ((fX4_isPort (σ 5 v3.toNatClampNeg) σ).bind fun (r3 : Int32) => (if r3 = 0 then fX1_neighboursOf_b47 K4 v1 v2 v3 (σ 5 v3.toNatClampNeg) σ else ((fX4_bridgeOf (σ 5 v3.toNatClampNeg) σ).bind fun (r4 : Int32) => fX1_neighboursOf_b47 K4 v1 (v2 ||| ((1 : Int32) <<< (r4 &&& 31))) v3 (σ 5 v3.toNatClampNeg) σ)))))) else none))
def fX1_neighboursOf (v1 : Int32) (σ : St) : Option (Int32) :=
  loop2 (fX1_neighboursOf_b4 v1 σ) fuel (0 : Int32) (0 : Int32)
def fX1_bridgesOnWay_b7 (v1 v2 : Int32) (σ : St) (K7 : Int32 → Int32 → Option (Int32)) (v3 v4 : Int32) : Option (Int32) :=
  (if (5 : Int32) < v4 then some (0 : Int32) else ((fX4_contains v3 v2 σ).bind fun (r1 : Int32) => (if r1 = 0 then ((fX1_neighboursOf v3 σ).bind fun (r2 : Int32) => K7 (v3 ||| r2) (v4 + (1 : Int32))) else some v4)))
def fX1_bridgesOnWay (v1 v2 : Int32) (σ : St) : Option (Int32) :=
  loop2 (fX1_bridgesOnWay_b7 v1 v2 σ) fuel ((1 : Int32) <<< (v1 &&& 31)) (1 : Int32)
def fX2_clear_b21 (v1 : Int32) (σ : St) : Option (St) :=
  ((fJ7_fill_53178 (0 : Int32) σ).bind fun (σ1 : St) => some σ1)
def fX2_clear_b2 (K2 : Int32 → St → Option (St)) (v1 : Int32) (σ : St) : Option (St) :=
  (if (28 : Int32) ≤ v1 then fX2_clear_b21 v1 σ else (if inb v1 28 = true then K2 (v1 + (1 : Int32)) (up2 σ 10 v1.toNatClampNeg (vp_nar .boolean (0 : Int32))) else none))
def fX2_clear (σ : St) : Option (St) :=
  loop1s (fX2_clear_b2) fuel (0 : Int32) σ
def fX3_change (v1 v2 v3 : Int32) (σ : St) : Option (St) :=
  (if inb v1 80 = true then (if inb v1 80 = true then some (up2 (up2 σ 6 v1.toNatClampNeg v2) 7 v1.toNatClampNeg v3) else none) else none)
def fX3_startLeaving (v1 v2 : Int32) (σ : St) : Option (St) :=
  (if inb v1 80 = true then (if (σ 6 v1.toNatClampNeg) = (1 : Int32) then ((fX3_change v1 (2 : Int32) v2 σ).bind fun (σ1 : St) => some σ1) else some σ) else none)
def fX3_hear (v1 v2 v3 : Int32) (σ : St) : Option (St) :=
  (if v2 = (1 : Int32) then ((fX3_change v1 (1 : Int32) (0 : Int32) σ).bind fun (σ2 : St) => some σ2) else (if v2 = (2 : Int32) then ((fX3_startLeaving v1 v3 σ).bind fun (σ1 : St) => some σ1) else some σ))
def fX3_countDown (v1 : Int32) (σ : St) : Option (St) :=
  (if inb v1 80 = true then (if (σ 6 v1.toNatClampNeg) = (2 : Int32) then (if inb v1 80 = true then (if inb v1 80 = true then (if inb v1 80 = true then (if ((up2 σ 7 v1.toNatClampNeg ((σ 7 v1.toNatClampNeg) - (1 : Int32))) 7 v1.toNatClampNeg) = 0 then (if inb v1 80 = true then some (up2 (up2 σ 7 v1.toNatClampNeg ((σ 7 v1.toNatClampNeg) - (1 : Int32))) 6 v1.toNatClampNeg (0 : Int32)) else none) else some (up2 σ 7 v1.toNatClampNeg ((σ 7 v1.toNatClampNeg) - (1 : Int32)))) else none) else none) else none) else some σ) else none)
def fX4_addBridge (σ : St) : Option (Int32 × St) :=
  (if (σ 1 1) < (5 : Int32) then some ((σ 1 1), up2 σ 1 1 ((σ 1 1) + (1 : Int32))) else some ((-5 : Int32), σ))
def fX4_startPort (v1 : Int32) (σ : St) : Option (St) :=
  (if inb v1 20 = true then some (up2 σ 12 v1.toNatClampNeg (σ 0 9)) else none)
def fX4_connect (v1 v2 v3 v4 : Int32) (σ : St) : Option (Int32 × St) :=
  ((fX1_stationOfPort v1 v2 σ).bind fun (r1 : Int32) => ((fX1_stationOfPort v3 v4 σ).bind fun (r2 : Int32) => (if r1 < 0 then some ((-1 : Int32), σ) else (if 0 ≤ r2 then ((fX1_isConnected r1 σ).bind fun (r3 : Int32) => (if r3 = 0 then ((fX1_isConnected r2 σ).bind fun (r4 : Int32) => (if r4 = 0 then ((fX1_bridgesOnWay v1 v3 σ).bind fun (r5 : Int32) => (if r5 ≤ 0 then ((fX1_tie r1 r2 σ).bind fun (σ6 : St) => ((fX4_startPort r1 (up2 σ6 1 3 ((σ6 1 3) + (1 : Int32)))).bind fun (σ7 : St) => ((fX4_startPort r2 σ7).bind fun (σ8 : St) => some ((σ8 1 3), σ8)))) else some ((-8 : Int32), σ))) else some ((-6 : Int32), σ))) else some ((-6 : Int32), σ))) else some ((-1 : Int32), σ)))))
def fX4_cellOf (v0 v1 : Int32) (σ : St) : Option (Int32) :=
  some ((v0 * (4 : Int32)) + v1)
def fX4_clearPort_b41 (v1 v2 : Int32) (σ : St) : Option (St) :=
  (if inb v1 20 = true then (if inb v1 28 = true then some (up2 (up2 σ 12 v1.toNatClampNeg (0 : Int32)) 14 v1.toNatClampNeg (vp_nar .boolean (0 : Int32))) else none) else none)
def fX4_clearPort_b2 (v1 : Int32) (K2 : Int32 → St → Option (St)) (v2 : Int32) (σ : St) : Option (St) :=
  (if (4 : Int32) ≤ v2 then fX4_clearPort_b41 v1 v2 σ else ((fX4_cellOf v1 v2 σ).bind fun (r1 : Int32) => ((fX3_change r1 (0 : Int32) (0 : Int32) σ).bind fun (σ2 : St) => ((fX4_cellOf v1 v2 σ2).bind fun (r3 : Int32) => ((fX0_change r3 (0 : Int32) (0 : Int32) σ2).bind fun (σ4 : St) => K2 (v2 + (1 : Int32)) σ4)))))
def fX4_clearPort (v1 : Int32) (σ : St) : Option (St) :=
  loop1s (fX4_clearPort_b2 v1) fuel (0 : Int32) σ
def fX4_cut (v1 v2 : Int32) (σ : St) : Option (Int32 × St) :=
  ((fX1_stationOfPort v1 v2 σ).bind fun (r1 : Int32) => (if 0 ≤ r1 then (if inb r1 28 = true then ((fX4_isPort (σ 5 r1.toNatClampNeg) σ).bind fun (r2 : Int32) => (if r2 = 0 then some ((-7 : Int32), σ) else ((fX1_untie r1 (σ 5 r1.toNatClampNeg) σ).bind fun (σ3 : St) => ((fX4_clearPort r1 (up2 σ3 1 3 ((σ3 1 3) - (1 : Int32)))).bind fun (σ4 : St) => ((fX4_clearPort (σ 5 r1.toNatClampNeg) σ4).bind fun (σ5 : St) => some ((σ5 1 3), σ5)))))) else none) else some (r1, σ)))
def fX4_addHost (v1 v2 : Int32) (σ : St) : Option (Int32 × St) :=
  ((fX1_stationOfPort v1 v2 σ).bind fun (r1 : Int32) => (if 0 ≤ r1 then ((fX1_isConnected r1 σ).bind fun (r2 : Int32) => (if r2 = 0 then (if (σ 1 2) < (8 : Int32) then ((fX1_tie r1 ((20 : Int32) + (σ 1 2)) (up2 σ 1 2 ((σ 1 2) + (1 : Int32)))).bind fun (σ3 : St) => ((fX4_startPort r1 σ3).bind fun (σ4 : St) => some ((σ 1 2), σ4))) else some ((-5 : Int32), σ)) else some ((-6 : Int32), σ))) else some (r1, σ)))
def fX4_setTimes_b68 (K40 : Int32 → Int32 → St → Option (Int32 × St)) (v1 v2 v3 v4 : Int32) (σ : St) : Option (Int32 × St) :=
  K40 v3 (v4 + (1 : Int32)) σ
def fX4_setTimes_b40 (v1 v2 : Int32) (K40 : Int32 → Int32 → St → Option (Int32 × St)) (v3 v4 : Int32) (σ : St) : Option (Int32 × St) :=
  (if (20 : Int32) ≤ v4 then some (v3, σ) else ((fX1_isConnected v4 σ).bind fun (r1 : Int32) => (if r1 = 0 then fX4_setTimes_b68 K40 v1 v2 v3 v4 σ else ((fX4_startPort v4 σ).bind fun (σ2 : St) => fX4_setTimes_b68 K40 v1 v2 (v3 + (1 : Int32)) v4 σ2))))
def fX4_setTimes (v1 v2 : Int32) (σ : St) : Option (Int32 × St) :=
  (if v1 < (1 : Int32) then some ((-4 : Int32), σ) else (if (50 : Int32) < v1 then some ((-4 : Int32), σ) else (if v2 < 0 then some ((-4 : Int32), σ) else (if v2 ≤ (200 : Int32) then loop2s (fX4_setTimes_b40 v1 v2) fuel (0 : Int32) (0 : Int32) (up2 (up2 σ 0 8 v1) 0 9 v2) else some ((-4 : Int32), σ)))))
def fX4_isGroup (v0 : Int32) (σ : St) : Option (Int32) :=
  (if v0 < 0 then some (0 : Int32) else (if (4 : Int32) ≤ v0 then some (0 : Int32) else some (1 : Int32)))
def fX4_cellOfHost (v1 v2 : Int32) (σ : St) : Option (Int32) :=
  ((fX1_stationOfHost v1 σ).bind fun (r1 : Int32) => (if 0 ≤ r1 then ((fX4_isGroup v2 σ).bind fun (r2 : Int32) => (if r2 = 0 then some (-3 : Int32) else ((fX4_cellOf r1 v2 σ).bind fun (r3 : Int32) => some r3))) else some r1))
def fX4_join (v1 v2 : Int32) (σ : St) : Option (Int32 × St) :=
  ((fX4_cellOfHost v1 v2 σ).bind fun (r1 : Int32) => (if 0 ≤ r1 then (bind2 (fX0_startDeclaring r1 σ) fun (r2 : Int32) (σ2 : St) => (if r2 = 0 then some ((0 : Int32), σ2) else some ((1 : Int32), σ2))) else some (r1, σ)))
def fX4_leave (v1 v2 : Int32) (σ : St) : Option (Int32 × St) :=
  ((fX4_cellOfHost v1 v2 σ).bind fun (r1 : Int32) => (if 0 ≤ r1 then (bind2 (fX0_stopDeclaring r1 σ) fun (r2 : Int32) (σ2 : St) => (if r2 = 0 then some ((0 : Int32), σ2) else some ((1 : Int32), σ2))) else some (r1, σ)))
def fX4_setSilent_b30 (v1 v2 v3 t0 : Int32) (σ : St) : Option (Int32 × St) :=
  (if inb v3 28 = true then (if t0 = 0 then some ((0 : Int32), up2 σ 15 v3.toNatClampNeg (vp_nar .boolean v2)) else some ((1 : Int32), up2 σ 15 v3.toNatClampNeg (vp_nar .boolean v2))) else none)
def fX4_setSilent (v1 v2 : Int32) (σ : St) : Option (Int32 × St) :=
  ((fX1_stationOfHost v1 σ).bind fun (r1 : Int32) => (if 0 ≤ r1 then (if inb r1 28 = true then (if (σ 15 r1.toNatClampNeg) = v2 then fX4_setSilent_b30 v1 v2 r1 (0 : Int32) σ else fX4_setSilent_b30 v1 v2 r1 (1 : Int32) σ) else none) else some (r1, σ)))
def fX4_loseNext_b48 (v1 v2 v3 t0 : Int32) (σ : St) : Option (Int32 × St) :=
  (if inb v3 28 = true then (if t0 = 0 then some ((0 : Int32), up2 σ 14 v3.toNatClampNeg (vp_nar .boolean (1 : Int32))) else some ((1 : Int32), up2 σ 14 v3.toNatClampNeg (vp_nar .boolean (1 : Int32)))) else none)
def fX4_loseNext (v1 v2 : Int32) (σ : St) : Option (Int32 × St) :=
  ((fX1_stationOfPort v1 v2 σ).bind fun (r1 : Int32) => (if 0 ≤ r1 then (if inb r1 28 = true then ((fX4_isPort (σ 5 r1.toNatClampNeg) σ).bind fun (r2 : Int32) => (if r2 = 0 then some ((-7 : Int32), σ) else (if inb r1 28 = true then (if (σ 14 r1.toNatClampNeg) = 0 then fX4_loseNext_b48 v1 v2 r1 (1 : Int32) σ else fX4_loseNext_b48 v1 v2 r1 (0 : Int32) σ) else none))) else none) else some (r1, σ)))
def fX4_countDownRegistrars_b2 (v1 : Int32) (K2 : Int32 → St → Option (St)) (v2 : Int32) (σ : St) : Option (St) :=
  (if (4 : Int32) ≤ v2 then some σ else ((fX4_cellOf v1 v2 σ).bind fun (r1 : Int32) => ((fX3_countDown r1 σ).bind fun (σ2 : St) => K2 (v2 + (1 : Int32)) σ2)))
def fX4_countDownRegistrars (v1 : Int32) (σ : St) : Option (St) :=
  loop1s (fX4_countDownRegistrars_b2 v1) fuel (0 : Int32) σ
def fX4_countDownToLeaveAll (v1 : Int32) (σ : St) : Option (St) :=
  (if inb v1 20 = true then (if (σ 12 v1.toNatClampNeg) ≤ 0 then some σ else (if inb v1 20 = true then (if inb v1 20 = true then (if inb v1 20 = true then (if ((up2 σ 12 v1.toNatClampNeg ((σ 12 v1.toNatClampNeg) - (1 : Int32))) 12 v1.toNatClampNeg) = 0 then (if inb v1 20 = true then (if inb v1 20 = true then some (up2 (up2 (up2 σ 12 v1.toNatClampNeg ((σ 12 v1.toNatClampNeg) - (1 : Int32))) 13 v1.toNatClampNeg (vp_nar .boolean (1 : Int32))) 12 v1.toNatClampNeg ((up2 (up2 σ 12 v1.toNatClampNeg ((σ 12 v1.toNatClampNeg) - (1 : Int32))) 13 v1.toNatClampNeg (vp_nar .boolean (1 : Int32))) 0 9)) else none) else none) else some (up2 σ 12 v1.toNatClampNeg ((σ 12 v1.toNatClampNeg) - (1 : Int32)))) else none) else none) else none)) else none)
def fX4_runTimers_b36 (K2 : Int32 → St → Option (St)) (v1 : Int32) (σ : St) : Option (St) :=
  K2 (v1 + (1 : Int32)) σ
def fX4_runTimers_b2 (K2 : Int32 → St → Option (St)) (v1 : Int32) (σ : St) : Option (St) :=
  (if (20 : Int32) ≤ v1 then some σ else (if inb v1 20 = true then ((fX1_isConnected v1 (up2 σ 13 v1.toNatClampNeg (vp_nar .boolean (0 : Int32)))).bind fun (r1 : Int32) => (if r1 = 0 then fX4_runTimers_b36 K2 v1 (up2 σ 13 v1.toNatClampNeg (vp_nar .boolean (0 : Int32))) else ((fX4_countDownRegistrars v1 (up2 σ 13 v1.toNatClampNeg (vp_nar .boolean (0 : Int32)))).bind fun (σ2 : St) => ((fX4_countDownToLeaveAll v1 σ2).bind fun (σ3 : St) => fX4_runTimers_b36 K2 v1 σ3)))) else none))
def fX4_runTimers (σ : St) : Option (St) :=
  loop1s (fX4_runTimers_b2) fuel (0 : Int32) σ
def fX4_isRegisteredAt (v1 v2 : Int32) (σ : St) : Option (Int32) :=
  ((fX1_isConnected v1 σ).bind fun (r1 : Int32) => (if r1 = 0 then some (0 : Int32) else ((fX4_cellOf v1 v2 σ).bind fun (r2 : Int32) => (if inb r2 80 = true then (if (σ 6 r2.toNatClampNeg) = 0 then some (0 : Int32) else some (1 : Int32)) else none))))
def fX4_isWanted_b36 (K10 : Int32 → Option (Int32)) (v1 v2 v3 v4 : Int32) (σ : St) : Option (Int32) :=
  K10 (v4 + (1 : Int32))
def fX4_isWanted_b10 (v1 v2 v3 : Int32) (σ : St) (K10 : Int32 → Option (Int32)) (v4 : Int32) : Option (Int32) :=
  (if (v3 + (4 : Int32)) ≤ v4 then some (0 : Int32) else (if v4 = v1 then fX4_isWanted_b36 K10 v1 v2 v3 v4 σ else ((fX4_isRegisteredAt v4 v2 σ).bind fun (r1 : Int32) => (if r1 = 0 then fX4_isWanted_b36 K10 v1 v2 v3 v4 σ else some (1 : Int32)))))
def fX4_isWanted (v1 v2 : Int32) (σ : St) : Option (Int32) :=
  ((fX4_bridgeOf v1 σ).bind fun (r1 : Int32) => loop1 (fX4_isWanted_b10 v1 v2 (r1 * (4 : Int32)) σ) fuel (r1 * (4 : Int32)))
def fX4_propagateTo_b45 (K2 : Int32 → St → Option (St)) (v1 v2 : Int32) (σ : St) : Option (St) :=
  K2 (v2 + (1 : Int32)) σ
def fX4_propagateTo_b2 (v1 : Int32) (K2 : Int32 → St → Option (St)) (v2 : Int32) (σ : St) : Option (St) :=
  (if (4 : Int32) ≤ v2 then some σ else ((fX4_isWanted v1 v2 σ).bind fun (r1 : Int32) => (if r1 = 0 then ((fX4_cellOf v1 v2 σ).bind fun (r2 : Int32) => (bind2 (fX0_stopDeclaring r2 σ) fun (r3 : Int32) (σ3 : St) => fX4_propagateTo_b45 K2 v1 v2 σ3)) else ((fX4_cellOf v1 v2 σ).bind fun (r4 : Int32) => (bind2 (fX0_startDeclaring r4 σ) fun (r5 : Int32) (σ5 : St) => fX4_propagateTo_b45 K2 v1 v2 σ5)))))
def fX4_propagateTo (v1 : Int32) (σ : St) : Option (St) :=
  loop1s (fX4_propagateTo_b2 v1) fuel (0 : Int32) σ
def fX4_propagate_b24 (K2 : Int32 → St → Option (St)) (v1 : Int32) (σ : St) : Option (St) :=
  K2 (v1 + (1 : Int32)) σ
def fX4_propagate_b2 (K2 : Int32 → St → Option (St)) (v1 : Int32) (σ : St) : Option (St) :=
  (if (20 : Int32) ≤ v1 then some σ else ((fX1_isConnected v1 σ).bind fun (r1 : Int32) => (if r1 = 0 then fX4_propagate_b24 K2 v1 σ else ((fX4_propagateTo v1 σ).bind fun (σ2 : St) => fX4_propagate_b24 K2 v1 σ2))))
def fX4_propagate (σ : St) : Option (St) :=
  loop1s (fX4_propagate_b2) fuel (0 : Int32) σ
def fX4_obeyLeaveAll_b32 (K2 : Int32 → St → Option (St)) (v1 v2 v3 : Int32) (σ : St) : Option (St) :=
  ((fX0_declareAgain v3 σ).bind fun (σ1 : St) => K2 (v2 + (1 : Int32)) σ1)
def fX4_obeyLeaveAll_b2 (v1 : Int32) (K2 : Int32 → St → Option (St)) (v2 : Int32) (σ : St) : Option (St) :=
  (if (4 : Int32) ≤ v2 then some σ else ((fX4_cellOf v1 v2 σ).bind fun (r1 : Int32) => ((fX4_isPort v1 σ).bind fun (r2 : Int32) => (if r2 = 0 then fX4_obeyLeaveAll_b32 K2 v1 v2 r1 σ else ((fX3_startLeaving r1 (σ 0 8) σ).bind fun (σ3 : St) => fX4_obeyLeaveAll_b32 K2 v1 v2 r1 σ3)))))
def fX4_obeyLeaveAll (v1 : Int32) (σ : St) : Option (St) :=
  loop1s (fX4_obeyLeaveAll_b2 v1) fuel (0 : Int32) σ
def fX4_sendFrom_b85 (K38 : Int32 → Int32 → St → Option (Int32 × St)) (v1 v2 v3 v4 : Int32) (σ : St) : Option (Int32 × St) :=
  K38 v2 (v3 + (1 : Int32)) σ
def fX4_sendFrom_b38 (v1 : Int32) (K38 : Int32 → Int32 → St → Option (Int32 × St)) (v2 v3 : Int32) (σ : St) : Option (Int32 × St) :=
  (if (4 : Int32) ≤ v3 then some (v2, σ) else ((fX4_cellOf v1 v3 σ).bind fun (r1 : Int32) => (bind2 (fX0_nextMessage r1 σ) fun (r2 : Int32) (σ2 : St) => (if inb r1 112 = true then (if inb r1 112 = true then (if ((up2 σ2 11 r1.toNatClampNeg r2) 11 r1.toNatClampNeg) = 0 then fX4_sendFrom_b85 K38 v1 v2 v3 r1 (up2 σ2 11 r1.toNatClampNeg r2) else fX4_sendFrom_b85 K38 v1 (v2 + (1 : Int32)) v3 r1 (up2 σ2 11 r1.toNatClampNeg r2)) else none) else none))))
def fX4_sendFrom_b36 (v1 v2 : Int32) (σ : St) : Option (Int32 × St) :=
  loop2s (fX4_sendFrom_b38 v1) fuel v2 (0 : Int32) σ
def fX4_sendFrom (v1 : Int32) (σ : St) : Option (Int32 × St) :=
  ((fX4_isPort v1 σ).bind fun (r1 : Int32) => (if r1 = 0 then fX4_sendFrom_b36 v1 (0 : Int32) σ else (if inb v1 20 = true then (if (σ 13 v1.toNatClampNeg) = 0 then fX4_sendFrom_b36 v1 (0 : Int32) σ else (if inb v1 28 = true then ((fX4_obeyLeaveAll v1 (up2 σ 10 v1.toNatClampNeg (vp_nar .boolean (1 : Int32)))).bind fun (σ2 : St) => fX4_sendFrom_b36 v1 ((0 : Int32) + (1 : Int32)) σ2) else none)) else none)))
def fX4_sendAll_b45 (K11 : Int32 → Int32 → St → Option (Int32 × St)) (v1 v2 : Int32) (σ : St) : Option (Int32 × St) :=
  K11 v1 (v2 + (1 : Int32)) σ
def fX4_sendAll_b11 (K11 : Int32 → Int32 → St → Option (Int32 × St)) (v1 v2 : Int32) (σ : St) : Option (Int32 × St) :=
  (if (28 : Int32) ≤ v2 then some (v1, σ) else ((fX1_isConnected v2 σ).bind fun (r1 : Int32) => (if r1 = 0 then fX4_sendAll_b45 K11 v1 v2 σ else (if inb v2 28 = true then (if (σ 15 v2.toNatClampNeg) = 0 then (bind2 (fX4_sendFrom v2 σ) fun (r2 : Int32) (σ2 : St) => fX4_sendAll_b45 K11 (v1 + r2) v2 σ2) else fX4_sendAll_b45 K11 v1 v2 σ) else none))))
def fX4_sendAll (σ : St) : Option (Int32 × St) :=
  ((fX2_clear σ).bind fun (σ1 : St) => loop2s (fX4_sendAll_b11) fuel (0 : Int32) (0 : Int32) σ1)
def fX4_receiveFrom_b26 (v1 v2 : Int32) (K26 : Int32 → St → Option (St)) (v3 : Int32) (σ : St) : Option (St) :=
  (if (4 : Int32) ≤ v3 then some σ else ((fX4_cellOf v1 v3 σ).bind fun (r1 : Int32) => (if inb r1 112 = true then ((fX4_cellOf v2 v3 σ).bind fun (r2 : Int32) => ((fX3_hear r2 (σ 11 r1.toNatClampNeg) (σ 0 8) σ).bind fun (σ3 : St) => K26 (v3 + (1 : Int32)) σ3)) else none)))
def fX4_receiveFrom_b17 (v1 v2 : Int32) (σ : St) : Option (St) :=
  ((fX4_isPort v2 σ).bind fun (r1 : Int32) => (if r1 = 0 then some σ else loop1s (fX4_receiveFrom_b26 v1 v2) fuel (0 : Int32) σ))
def fX4_receiveFrom (v1 v2 : Int32) (σ : St) : Option (St) :=
  (if inb v1 28 = true then (if (σ 10 v1.toNatClampNeg) = 0 then fX4_receiveFrom_b17 v1 v2 σ else ((fX4_obeyLeaveAll v2 σ).bind fun (σ1 : St) => fX4_receiveFrom_b17 v1 v2 σ1)) else none)
def fX4_receiveAll_b40 (K2 : Int32 → St → Option (St)) (v1 v2 : Int32) (σ : St) : Option (St) :=
  (if inb v1 28 = true then K2 (v1 + (1 : Int32)) (up2 σ 14 v1.toNatClampNeg (vp_nar .boolean (0 : Int32))) else none)
def fX4_receiveAll_b2 (K2 : Int32 → St → Option (St)) (v1 : Int32) (σ : St) : Option (St) :=
  (if (28 : Int32) ≤ v1 then some σ else (if inb v1 28 = true then ((fX4_isStation (σ 5 v1.toNatClampNeg) σ).bind fun (r1 : Int32) => (if r1 = 0 then fX4_receiveAll_b40 K2 v1 (σ 5 v1.toNatClampNeg) σ else (if inb v1 28 = true then (if (σ 14 v1.toNatClampNeg) = 0 then ((fX4_receiveFrom v1 (σ 5 v1.toNatClampNeg) σ).bind fun (σ2 : St) => fX4_receiveAll_b40 K2 v1 (σ 5 v1.toNatClampNeg) σ2) else fX4_receiveAll_b40 K2 v1 (σ 5 v1.toNatClampNeg) σ) else none))) else none))
def fX4_receiveAll (σ : St) : Option (St) :=
  loop1s (fX4_receiveAll_b2) fuel (0 : Int32) σ
def fX4_tick_b18 (v1 : Int32) (K18 : Int32 → Int32 → St → Option (Int32 × St)) (v2 v3 : Int32) (σ : St) : Option (Int32 × St) :=
  (if v1 ≤ v3 then some (v2, σ) else ((fX4_runTimers σ).bind fun (σ1 : St) => ((fX4_propagate σ1).bind fun (σ2 : St) => (bind2 (fX4_sendAll σ2) fun (r3 : Int32) (σ3 : St) => ((fX4_receiveAll σ3).bind fun (σ4 : St) => K18 (v2 + r3) (v3 + (1 : Int32)) (up2 σ4 0 10 ((σ4 0 10) + (1 : Int32))))))))
def fX4_tick (v1 : Int32) (σ : St) : Option (Int32 × St) :=
  (if v1 < (1 : Int32) then some ((-4 : Int32), σ) else (if v1 ≤ (100 : Int32) then loop2s (fX4_tick_b18 v1) fuel (0 : Int32) (0 : Int32) σ else some ((-4 : Int32), σ)))
def fX4_time (σ : St) : Option (Int32) :=
  some (σ 0 10)
def fX4_cellOfPort (v1 v2 v3 : Int32) (σ : St) : Option (Int32) :=
  ((fX1_stationOfPort v1 v2 σ).bind fun (r1 : Int32) => (if 0 ≤ r1 then ((fX4_isGroup v3 σ).bind fun (r2 : Int32) => (if r2 = 0 then some (-3 : Int32) else ((fX4_cellOf r1 v3 σ).bind fun (r3 : Int32) => some r3))) else some r1))
def fX4_registrar (v1 v2 v3 : Int32) (σ : St) : Option (Int32) :=
  ((fX4_cellOfPort v1 v2 v3 σ).bind fun (r1 : Int32) => (if 0 ≤ r1 then (if inb r1 80 = true then some (σ 6 r1.toNatClampNeg) else none) else some r1))
def fX4_registrarTimer (v1 v2 v3 : Int32) (σ : St) : Option (Int32) :=
  ((fX4_cellOfPort v1 v2 v3 σ).bind fun (r1 : Int32) => (if 0 ≤ r1 then (if inb r1 80 = true then some (σ 7 r1.toNatClampNeg) else none) else some r1))
def fX4_applicant (v1 v2 v3 : Int32) (σ : St) : Option (Int32) :=
  ((fX4_cellOfPort v1 v2 v3 σ).bind fun (r1 : Int32) => (if 0 ≤ r1 then (if inb r1 112 = true then some (σ 8 r1.toNatClampNeg) else none) else some r1))
def fX4_hostApplicant (v1 v2 : Int32) (σ : St) : Option (Int32) :=
  ((fX4_cellOfHost v1 v2 σ).bind fun (r1 : Int32) => (if 0 ≤ r1 then (if inb r1 112 = true then some (σ 8 r1.toNatClampNeg) else none) else some r1))
def fX4_leaveAllTimer (v1 v2 : Int32) (σ : St) : Option (Int32) :=
  ((fX1_stationOfPort v1 v2 σ).bind fun (r1 : Int32) => (if 0 ≤ r1 then (if inb r1 20 = true then some (σ 12 r1.toNatClampNeg) else none) else some r1))
def fX4_hasToSend_b2 (v1 : Int32) (σ : St) (K2 : Int32 → Option (Int32)) (v2 : Int32) : Option (Int32) :=
  (if (4 : Int32) ≤ v2 then some (0 : Int32) else ((fX4_cellOf v1 v2 σ).bind fun (r1 : Int32) => (if inb r1 112 = true then (if (σ 8 r1.toNatClampNeg) = (1 : Int32) then some (1 : Int32) else (if (σ 8 r1.toNatClampNeg) = (3 : Int32) then some (1 : Int32) else K2 (v2 + (1 : Int32)))) else none)))
def fX4_hasToSend (v1 : Int32) (σ : St) : Option (Int32) :=
  loop1 (fX4_hasToSend_b2 v1 σ) fuel (0 : Int32)
def fX4_isPortSettled_b31 (K2 : Int32 → Option (Int32)) (v1 v2 v3 t0 : Int32) (σ : St) : Option (Int32) :=
  (if inb v3 80 = true then (if (σ 6 v3.toNatClampNeg) = (2 : Int32) then some (0 : Int32) else ((fX4_isWanted v1 v2 σ).bind fun (r1 : Int32) => (if t0 = r1 then K2 (v2 + (1 : Int32)) else some (0 : Int32)))) else none)
def fX4_isPortSettled_b2 (v1 : Int32) (σ : St) (K2 : Int32 → Option (Int32)) (v2 : Int32) : Option (Int32) :=
  (if (4 : Int32) ≤ v2 then some (1 : Int32) else ((fX4_cellOf v1 v2 σ).bind fun (r1 : Int32) => (if inb r1 112 = true then (if (σ 8 r1.toNatClampNeg) = (2 : Int32) then fX4_isPortSettled_b31 K2 v1 v2 r1 (1 : Int32) σ else fX4_isPortSettled_b31 K2 v1 v2 r1 (0 : Int32) σ) else none)))
def fX4_isPortSettled (v1 : Int32) (σ : St) : Option (Int32) :=
  loop1 (fX4_isPortSettled_b2 v1 σ) fuel (0 : Int32)
def fX4_isSettled_b62 (K35 : Int32 → Option (Int32)) (v1 : Int32) (σ : St) : Option (Int32) :=
  K35 (v1 + (1 : Int32))
def fX4_isSettled_b35 (σ : St) (K35 : Int32 → Option (Int32)) (v1 : Int32) : Option (Int32) :=
  (if (20 : Int32) ≤ v1 then some (1 : Int32) else ((fX1_isConnected v1 σ).bind fun (r1 : Int32) => (if r1 = 0 then fX4_isSettled_b62 K35 v1 σ else ((fX4_isPortSettled v1 σ).bind fun (r2 : Int32) => (if r2 = 0 then some (0 : Int32) else fX4_isSettled_b62 K35 v1 σ)))))
def fX4_isSettled_b33 (v1 : Int32) (σ : St) : Option (Int32) :=
  loop1 (fX4_isSettled_b35 σ) fuel (0 : Int32)
def fX4_isSettled_b27 (K2 : Int32 → Option (Int32)) (v1 : Int32) (σ : St) : Option (Int32) :=
  K2 (v1 + (1 : Int32))
def fX4_isSettled_b2 (σ : St) (K2 : Int32 → Option (Int32)) (v1 : Int32) : Option (Int32) :=
  (if (28 : Int32) ≤ v1 then fX4_isSettled_b33 v1 σ else (if inb v1 28 = true then (if (σ 15 v1.toNatClampNeg) = 0 then ((fX4_hasToSend v1 σ).bind fun (r1 : Int32) => (if r1 = 0 then fX4_isSettled_b27 K2 v1 σ else some (0 : Int32))) else fX4_isSettled_b27 K2 v1 σ) else none))
def fX4_isSettled (σ : St) : Option (Int32) :=
  loop1 (fX4_isSettled_b2 σ) fuel (0 : Int32)
def fX4_arrivesBeside_b31 (K9 : Int32 → Option (Int32)) (v0 v1 v2 v3 : Int32) (σ : St) : Option (Int32) :=
  K9 (v3 + (1 : Int32))
def fX4_arrivesBeside_b9 (v0 v1 v2 : Int32) (σ : St) (K9 : Int32 → Option (Int32)) (v3 : Int32) : Option (Int32) :=
  (if (v2 + (4 : Int32)) ≤ v3 then some (0 : Int32) else (if v3 = v0 then fX4_arrivesBeside_b31 K9 v0 v1 v2 v3 σ else ((fX4_contains v1 v3 σ).bind fun (r1 : Int32) => (if r1 = 0 then fX4_arrivesBeside_b31 K9 v0 v1 v2 v3 σ else some (1 : Int32)))))
def fX4_arrivesBeside (v0 v1 : Int32) (σ : St) : Option (Int32) :=
  ((fX4_bridgeOf v0 σ).bind fun (r1 : Int32) => loop1 (fX4_arrivesBeside_b9 v0 v1 (r1 * (4 : Int32)) σ) fuel (r1 * (4 : Int32)))
def fX4_nextArrivals_b46 (K5 : Int32 → Int32 → Option (Int32)) (v1 v2 v3 v4 : Int32) (σ : St) : Option (Int32) :=
  K5 v3 (v4 + (1 : Int32))
def fX4_nextArrivals_b5 (v1 v2 : Int32) (σ : St) (K5 : Int32 → Int32 → Option (Int32)) (v3 v4 : Int32) : Option (Int32) :=
  (if (20 : Int32) ≤ v4 then some v3 else ((fX4_isRegisteredAt v4 v2 σ).bind fun (r1 : Int32) => (if r1 = 0 then fX4_nextArrivals_b46 K5 v1 v2 v3 v4 σ else ((fX4_arrivesBeside v4 v1 σ).bind fun (r2 : Int32) => (if r2 = 0 then fX4_nextArrivals_b46 K5 v1 v2 v3 v4 σ else (if inb v4 28 = true then fX4_nextArrivals_b46 K5 v1 v2 (v3 ||| ((1 : Int32) <<< ((σ 5 v4.toNatClampNeg) &&& 31))) v4 σ else none))))))
def fX4_nextArrivals (v1 v2 : Int32) (σ : St) : Option (Int32) :=
  loop2 (fX4_nextArrivals_b5 v1 v2 σ) fuel (0 : Int32) (0 : Int32)
def fX4_hostsReached_b33 (v1 v2 v3 : Int32) (σ : St) (K33 : Int32 → Int32 → Int32 → Option (Int32)) (v4 v5 v6 : Int32) : Option (Int32) :=
  (if (5 : Int32) ≤ v6 then some v4 else ((fX4_nextArrivals v5 v2 σ).bind fun (r1 : Int32) => K33 (v4 ||| ((r1.toUInt32 >>> ((20 : Int32).toUInt32 &&& Int32.toUInt32 31)).toInt32)) r1 (v6 + (1 : Int32))))
def fX4_hostsReached (v1 v2 : Int32) (σ : St) : Option (Int32) :=
  (if inb ((20 : Int32) + v1) 28 = true then ((fX4_isPort (σ 5 ((20 : Int32) + v1).toNatClampNeg) σ).bind fun (r1 : Int32) => (if r1 = 0 then some (0 : Int32) else loop3 (fX4_hostsReached_b33 v1 v2 (σ 5 ((20 : Int32) + v1).toNatClampNeg) σ) fuel (0 : Int32) ((1 : Int32) <<< ((σ 5 ((20 : Int32) + v1).toNatClampNeg) &&& 31)) (0 : Int32))) else none)
def fX4_receivers (v1 v2 : Int32) (σ : St) : Option (Int32) :=
  ((fX4_cellOfHost v1 v2 σ).bind fun (r1 : Int32) => (if 0 ≤ r1 then ((fX4_hostsReached v1 v2 σ).bind fun (r2 : Int32) => some r2) else some r1))
def fX4_bridgesBetweenHosts (v1 v2 : Int32) (σ : St) : Option (Int32) :=
  (if inb ((20 : Int32) + v1) 28 = true then (if inb ((20 : Int32) + v2) 28 = true then ((fX4_isPort (σ 5 ((20 : Int32) + v1).toNatClampNeg) σ).bind fun (r1 : Int32) => (if r1 = 0 then some (0 : Int32) else ((fX4_isPort (σ 5 ((20 : Int32) + v2).toNatClampNeg) σ).bind fun (r2 : Int32) => (if r2 = 0 then some (0 : Int32) else ((fX4_bridgeOf (σ 5 ((20 : Int32) + v1).toNatClampNeg) σ).bind fun (r3 : Int32) => ((fX4_bridgeOf (σ 5 ((20 : Int32) + v2).toNatClampNeg) σ).bind fun (r4 : Int32) => ((fX1_bridgesOnWay r3 r4 σ).bind fun (r5 : Int32) => some r5))))))) else none) else none)
def fX4_missedCount_b99 (K27 : Int32 → Int32 → Option (Int32)) (v1 v2 v3 v4 v5 v6 v7 : Int32) (σ : St) : Option (Int32) :=
  K27 v5 (v6 + (1 : Int32))
def fX4_missedCount_b79 (K27 : Int32 → Int32 → Option (Int32)) (v1 v2 v3 v4 v5 v6 t0 : Int32) (σ : St) : Option (Int32) :=
  (if t0 = 0 then fX4_missedCount_b99 K27 v1 v2 v3 v4 v5 v6 t0 σ else ((fX4_contains v4 v6 σ).bind fun (r1 : Int32) => (if r1 = 0 then fX4_missedCount_b99 K27 v1 v2 v3 v4 (v5 + (1 : Int32)) v6 t0 σ else fX4_missedCount_b99 K27 v1 v2 v3 v4 v5 v6 t0 σ)))
def fX4_missedCount_b78 (K27 : Int32 → Int32 → Option (Int32)) (v1 v2 v3 v4 v5 v6 : Int32) (σ : St) : Option (Int32) :=
  fX4_missedCount_b79 K27 v1 v2 v3 v4 v5 v6 (0 : Int32) σ
def fX4_missedCount_b27 (v1 v2 v3 v4 : Int32) (σ : St) (K27 : Int32 → Int32 → Option (Int32)) (v5 v6 : Int32) : Option (Int32) :=
  (if (σ 1 2) ≤ v6 then some v5 else (if v6 = v1 then fX4_missedCount_b78 K27 v1 v2 v3 v4 v5 v6 σ else ((fX4_bridgesBetweenHosts v1 v6 σ).bind fun (r1 : Int32) => (if r1 ≤ 0 then fX4_missedCount_b78 K27 v1 v2 v3 v4 v5 v6 σ else ((fX4_cellOf ((20 : Int32) + v6) v2 σ).bind fun (r2 : Int32) => ((fX0_isDeclaring r2 σ).bind fun (r3 : Int32) => (if r3 = 0 then fX4_missedCount_b78 K27 v1 v2 v3 v4 v5 v6 σ else fX4_missedCount_b79 K27 v1 v2 v3 v4 v5 v6 (1 : Int32) σ)))))))
def fX4_missedCount (v1 v2 : Int32) (σ : St) : Option (Int32) :=
  ((fX4_cellOfHost v1 v2 σ).bind fun (r1 : Int32) => (if 0 ≤ r1 then ((fX4_hostsReached v1 v2 σ).bind fun (r2 : Int32) => loop2 (fX4_missedCount_b27 v1 v2 r1 r2 σ) fuel (0 : Int32) (0 : Int32)) else some r1))
def fX4_needlessCount_b75 (K27 : Int32 → Int32 → Option (Int32)) (v1 v2 v3 v4 v5 v6 v7 : Int32) (σ : St) : Option (Int32) :=
  K27 v5 (v6 + (1 : Int32))
def fX4_needlessCount_b27 (v1 v2 v3 v4 : Int32) (σ : St) (K27 : Int32 → Int32 → Option (Int32)) (v5 v6 : Int32) : Option (Int32) :=
  (if (σ 1 2) ≤ v6 then some v5 else ((fX4_cellOf ((20 : Int32) + v6) v2 σ).bind fun (r1 : Int32) => ((fX0_isDeclaring r1 σ).bind fun (r2 : Int32) => ((fX4_contains v4 v6 σ).bind fun (r3 : Int32) => (if r3 = 0 then fX4_needlessCount_b75 K27 v1 v2 v3 v4 v5 v6 r2 σ else (if r2 = 0 then fX4_needlessCount_b75 K27 v1 v2 v3 v4 (v5 + (1 : Int32)) v6 r2 σ else fX4_needlessCount_b75 K27 v1 v2 v3 v4 v5 v6 r2 σ))))))
def fX4_needlessCount (v1 v2 : Int32) (σ : St) : Option (Int32) :=
  ((fX4_cellOfHost v1 v2 σ).bind fun (r1 : Int32) => (if 0 ≤ r1 then ((fX4_hostsReached v1 v2 σ).bind fun (r2 : Int32) => loop2 (fX4_needlessCount_b27 v1 v2 r1 r2 σ) fuel (0 : Int32) (0 : Int32)) else some r1))
def fX4_distance (v1 v2 : Int32) (σ : St) : Option (Int32) :=
  ((fX1_stationOfHost v1 σ).bind fun (r1 : Int32) => (if r1 < 0 then some (-2 : Int32) else ((fX1_stationOfHost v2 σ).bind fun (r2 : Int32) => (if 0 ≤ r2 then ((fX4_bridgesBetweenHosts v1 v2 σ).bind fun (r3 : Int32) => some r3) else some (-2 : Int32)))))
