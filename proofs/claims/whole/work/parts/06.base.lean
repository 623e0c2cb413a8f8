/-! ===== the state as numbers: St, a cell's number, a place, what lies there ===== -/
abbrev St : Type := Nat → Nat → Int32
def up2 (σ : St) (c i : Nat) (v : Int32) : St := fun c' => cond (Nat.beq c' c) (upd (σ c) i v) (σ c')
def inb (i : Int32) (n : Nat) : Bool := !(decide (i < 0) || decide (n ≤ i.toNatClampNeg))
theorem inb_in {i : Int32} {n : Nat} (h : inb i n = true) : vp_in i n := by
  intro hc
  unfold inb at h
  rcases hc with hc | hc
  · simp [hc] at h
  · simp [hc] at h
def fuel : Nat := 2000
def bind2 {α : Type} (f : Option (Int32 × St)) (G : Int32 → St → Option α) : Option α := f.bind (fun q => G q.1 q.2)

def nestL : List Cond := [.fieldLinkNest "GroupRegistration" 86 "GroupRegistration$Network" "otherEnd" "[I" "GroupRegistration", .fieldLinkNest "GroupRegistration" 61 "GroupRegistration$Network" "bridgeCount" "I" "GroupRegistration", .fieldLinkNest "GroupRegistration" 98 "GroupRegistration$Network" "hostCount" "I" "GroupRegistration", .fieldLinkNest "GroupRegistration" 79 "GroupRegistration$Network" "linkCount" "I" "GroupRegistration", .fieldLinkNest "GroupRegistration" 131 "GroupRegistration$Registrars" "state" "[I" "GroupRegistration", .fieldLinkNest "GroupRegistration" 134 "GroupRegistration$Registrars" "timer" "[I" "GroupRegistration", .fieldLinkNest "GroupRegistration" 137 "GroupRegistration$Applicants" "state" "[I" "GroupRegistration", .fieldLinkNest "GroupRegistration" 195 "GroupRegistration$Outbox" "leaveAll" "[Z" "GroupRegistration", .fieldLinkNest "GroupRegistration" 201 "GroupRegistration$Outbox" "message" "[I" "GroupRegistration", .methodLinkNest "GroupRegistration" 11 ⟨"GroupRegistration$Network", "<init>", "()V"⟩ "GroupRegistration", .methodLinkNest "GroupRegistration" 18 ⟨"GroupRegistration$Registrars", "<init>", "()V"⟩ "GroupRegistration", .methodLinkNest "GroupRegistration" 25 ⟨"GroupRegistration$Applicants", "<init>", "()V"⟩ "GroupRegistration", .methodLinkNest "GroupRegistration" 32 ⟨"GroupRegistration$Outbox", "<init>", "()V"⟩ "GroupRegistration", .methodLinkNest "GroupRegistration" 64 ⟨"GroupRegistration$Network", "stationOfPort", "(II)I"⟩ "GroupRegistration", .methodLinkNest "GroupRegistration" 68 ⟨"GroupRegistration$Network", "isConnected", "(I)Z"⟩ "GroupRegistration", .methodLinkNest "GroupRegistration$Network" 31 ⟨"GroupRegistration", "isStation", "(I)Z"⟩ "GroupRegistration", .methodLinkNest "GroupRegistration" 72 ⟨"GroupRegistration$Network", "bridgesOnWay", "(II)I"⟩ "GroupRegistration", .methodLinkNest "GroupRegistration$Network" 35 ⟨"GroupRegistration", "contains", "(II)Z"⟩ "GroupRegistration", .methodLinkNest "GroupRegistration$Network" 43 ⟨"GroupRegistration", "bridgeOf", "(I)I"⟩ "GroupRegistration", .methodLinkNest "GroupRegistration$Network" 46 ⟨"GroupRegistration", "isPort", "(I)Z"⟩ "GroupRegistration", .methodLinkNest "GroupRegistration" 75 ⟨"GroupRegistration$Network", "tie", "(II)V"⟩ "GroupRegistration", .methodLinkNest "GroupRegistration" 92 ⟨"GroupRegistration$Network", "untie", "(II)V"⟩ "GroupRegistration", .methodLinkNest "GroupRegistration" 163 ⟨"GroupRegistration$Registrars", "change", "(III)V"⟩ "GroupRegistration", .methodLinkNest "GroupRegistration" 167 ⟨"GroupRegistration$Applicants", "change", "(III)V"⟩ "GroupRegistration", .methodLinkNest "GroupRegistration" 110 ⟨"GroupRegistration$Network", "stationOfHost", "(I)I"⟩ "GroupRegistration", .methodLinkNest "GroupRegistration" 104 ⟨"GroupRegistration$Applicants", "startDeclaring", "(I)Z"⟩ "GroupRegistration", .methodLinkNest "GroupRegistration" 107 ⟨"GroupRegistration$Applicants", "stopDeclaring", "(I)Z"⟩ "GroupRegistration", .methodLinkNest "GroupRegistration" 183 ⟨"GroupRegistration$Registrars", "countDown", "(I)V"⟩ "GroupRegistration", .methodLinkNest "GroupRegistration" 189 ⟨"GroupRegistration$Outbox", "clear", "()V"⟩ "GroupRegistration", .methodLinkNest "GroupRegistration" 207 ⟨"GroupRegistration$Registrars", "startLeaving", "(II)V"⟩ "GroupRegistration", .methodLinkNest "GroupRegistration" 210 ⟨"GroupRegistration$Applicants", "declareAgain", "(I)V"⟩ "GroupRegistration", .methodLinkNest "GroupRegistration" 204 ⟨"GroupRegistration$Applicants", "nextMessage", "(I)I"⟩ "GroupRegistration", .methodLinkNest "GroupRegistration" 219 ⟨"GroupRegistration$Registrars", "hear", "(III)V"⟩ "GroupRegistration", .methodLinkNest "GroupRegistration" 153 ⟨"GroupRegistration$Applicants", "isDeclaring", "(I)Z"⟩ "GroupRegistration"]
def NW (U : State) : Prop := ∀ w ∈ nestL, va_Nw w U
theorem nest_tab : ∀ w ∈ nestL, w.onTables = true := by decide +kernel
theorem NW.same {u U : State} (h : u.vm = U.vm) (hn : NW u) : NW U := fun w hw => va_Nw.same (nest_tab w hw) h (hn w hw)
theorem NW.warm {s U : State} (hW : s.WarmedH U.vm) (hn : NW s) : NW U := by
  have h : ∀ w ∈ nestL, va_Nw w s → va_Nw w U := by
    unfold nestL
    exact List.forall_mem_cons.mpr ⟨va_Nw.warmF hW, List.forall_mem_cons.mpr ⟨va_Nw.warmF hW, List.forall_mem_cons.mpr ⟨va_Nw.warmF hW, List.forall_mem_cons.mpr ⟨va_Nw.warmF hW, List.forall_mem_cons.mpr ⟨va_Nw.warmF hW, List.forall_mem_cons.mpr ⟨va_Nw.warmF hW, List.forall_mem_cons.mpr ⟨va_Nw.warmF hW, List.forall_mem_cons.mpr ⟨va_Nw.warmF hW, List.forall_mem_cons.mpr ⟨va_Nw.warmF hW, List.forall_mem_cons.mpr ⟨va_Nw.warmM hW, List.forall_mem_cons.mpr ⟨va_Nw.warmM hW, List.forall_mem_cons.mpr ⟨va_Nw.warmM hW, List.forall_mem_cons.mpr ⟨va_Nw.warmM hW, List.forall_mem_cons.mpr ⟨va_Nw.warmM hW, List.forall_mem_cons.mpr ⟨va_Nw.warmM hW, List.forall_mem_cons.mpr ⟨va_Nw.warmM hW, List.forall_mem_cons.mpr ⟨va_Nw.warmM hW, List.forall_mem_cons.mpr ⟨va_Nw.warmM hW, List.forall_mem_cons.mpr ⟨va_Nw.warmM hW, List.forall_mem_cons.mpr ⟨va_Nw.warmM hW, List.forall_mem_cons.mpr ⟨va_Nw.warmM hW, List.forall_mem_cons.mpr ⟨va_Nw.warmM hW, List.forall_mem_cons.mpr ⟨va_Nw.warmM hW, List.forall_mem_cons.mpr ⟨va_Nw.warmM hW, List.forall_mem_cons.mpr ⟨va_Nw.warmM hW, List.forall_mem_cons.mpr ⟨va_Nw.warmM hW, List.forall_mem_cons.mpr ⟨va_Nw.warmM hW, List.forall_mem_cons.mpr ⟨va_Nw.warmM hW, List.forall_mem_cons.mpr ⟨va_Nw.warmM hW, List.forall_mem_cons.mpr ⟨va_Nw.warmM hW, List.forall_mem_cons.mpr ⟨va_Nw.warmM hW, List.forall_mem_cons.mpr ⟨va_Nw.warmM hW, List.forall_mem_cons.mpr ⟨va_Nw.warmM hW, List.forall_mem_cons.mpr ⟨va_Nw.warmM hW, fun _ h => absurd h List.not_mem_nil⟩⟩⟩⟩⟩⟩⟩⟩⟩⟩⟩⟩⟩⟩⟩⟩⟩⟩⟩⟩⟩⟩⟩⟩⟩⟩⟩⟩⟩⟩⟩⟩⟩⟩
  exact fun w hw => h w hw (hn w hw)

section JJ
variable {p : Program} {l : Launch} {e : Env} {R : Room} {s : State} {m : MethodId} {args : Array Value} {below : List Frame} {meth : Method} {c : Code} {cc : ByteArray} {nL : Nat} {Ts : List Cond} {own : String} {D : va_G} {tys : List (ClassId × FieldType)} {A : Nat → Prop} {w : St → va_W} {Q : State → Prop} {α : Type} {o0 : α} {F : Option α} {σ σ' : St} {pc : Nat} {lv lv' : List (Nat × Value)} {st : List Value}
/-- what a method's walk holds throughout -/
def Cxt (p : Program) (s : State) (m : MethodId) (args : Array Value) (c : Code) (cc : ByteArray) (nL : Nat) (Ts : List Cond) (own : String) (D : va_G) (tys : List (ClassId × FieldType)) (A : Nat → Prop) : Prop :=
  CallFix p m c cc nL s args Ts own ∧ va_K D vwCl tys s ∧ (∀ q : Nat, s.heap.size ≤ q → A q) ∧ NW s
/-- if F answers o0, the machine comes from here to Q -/
def J (p : Program) (l : Launch) (e : Env) (R : Room) (s : State) (m : MethodId) (args : Array Value) (below : List Frame) (meth : Method) (c : Code) (nL : Nat) (D : va_G) (A : Nat → Prop) (w : St → va_W) (Q : State → Prop) {α : Type} (o0 : α) (F : Option α) (σ : St) (pc : Nat) (lv : List (Nat × Value)) (st : List Value) : Prop :=
  F = some o0 → ∀ (H : Heap) (locs : List Loc) (ls : Array Slot), va_P D vwCl (w σ) H → va_D A (w σ) → va_S A s.heap H locs → lv_has ls nL lv → W p l e R s m args below meth c H locs 0 0 Q (F0 m pc ls st)

theorem J_iconst (C : Cxt p s m args c cc nL Ts own D tys A) {n : Int} {v : Int32} (hdg : decode cc pc = .ok (.iconst n, 1)) (hv : Int32.ofInt n = v) (k : J p l e R s m args below meth c nL D A w Q o0 F σ (pc + 1) lv (.int v :: st)) : J p l e R s m args below meth c nL D A w Q o0 F σ pc lv st :=
  fun hF H locs ls hP hD hS hl => lv_iconst C.1.1 C.1.2.1 hdg hv (k hF H locs ls hP hD hS hl)
theorem J_bipush (C : Cxt p s m args c cc nL Ts own D tys A) {n : Int} {v : Int32} (hdg : decode cc pc = .ok (.bipush n, 2)) (hv : (Int8.ofInt n).toInt32 = v) (k : J p l e R s m args below meth c nL D A w Q o0 F σ (pc + 2) lv (.int v :: st)) : J p l e R s m args below meth c nL D A w Q o0 F σ pc lv st :=
  fun hF H locs ls hP hD hS hl => lv_bipush C.1.1 C.1.2.1 hdg hv (k hF H locs ls hP hD hS hl)
theorem J_sipush (C : Cxt p s m args c cc nL Ts own D tys A) {n : Int} {v : Int32} (hdg : decode cc pc = .ok (.sipush n, 3)) (hv : (Int16.ofInt n).toInt32 = v) (k : J p l e R s m args below meth c nL D A w Q o0 F σ (pc + 3) lv (.int v :: st)) : J p l e R s m args below meth c nL D A w Q o0 F σ pc lv st :=
  fun hF H locs ls hP hD hS hl => lv_sipush C.1.1 C.1.2.1 hdg hv (k hF H locs ls hP hD hS hl)
theorem J_iload_n (C : Cxt p s m args c cc nL Ts own D tys A) (j : Nat) {n : Fin 4} {i : Nat} {x : Int32} (hk : lv[j]? = some (i, .int x)) (hi : (n : Nat) = i) (hdg : decode cc pc = .ok (.iload_n n, 1)) (k : J p l e R s m args below meth c nL D A w Q o0 F σ (pc + 1) lv (.int x :: st)) : J p l e R s m args below meth c nL D A w Q o0 F σ pc lv st :=
  fun hF H locs ls hP hD hS hl => lv_iload_n C.1.1 C.1.2.1 hdg hi (lv_at hl j hk) (k hF H locs ls hP hD hS hl)
theorem J_iload (C : Cxt p s m args c cc nL Ts own D tys A) (j : Nat) {i : Nat} {x : Int32} (hk : lv[j]? = some (i, .int x)) (hdg : decode cc pc = .ok (.iload i, 2)) (k : J p l e R s m args below meth c nL D A w Q o0 F σ (pc + 2) lv (.int x :: st)) : J p l e R s m args below meth c nL D A w Q o0 F σ pc lv st :=
  fun hF H locs ls hP hD hS hl => lv_iload C.1.1 C.1.2.1 hdg (lv_at hl j hk) (k hF H locs ls hP hD hS hl)
theorem J_aload_n (C : Cxt p s m args c cc nL Ts own D tys A) (j : Nat) {n : Fin 4} {i x : Nat} (hk : lv[j]? = some (i, .ref x)) (hi : (n : Nat) = i) (hdg : decode cc pc = .ok (.aload_n n, 1)) (k : J p l e R s m args below meth c nL D A w Q o0 F σ (pc + 1) lv (.ref x :: st)) : J p l e R s m args below meth c nL D A w Q o0 F σ pc lv st :=
  fun hF H locs ls hP hD hS hl => lv_aload_n C.1.1 C.1.2.1 hdg hi (lv_at hl j hk) (k hF H locs ls hP hD hS hl)
theorem J_iadd (C : Cxt p s m args c cc nL Ts own D tys A) {x y : Int32} (hdg : decode cc pc = .ok (.iadd, 1)) (k : J p l e R s m args below meth c nL D A w Q o0 F σ (pc + 1) lv (.int (x + y) :: st)) : J p l e R s m args below meth c nL D A w Q o0 F σ pc lv (.int y :: .int x :: st) :=
  fun hF H locs ls hP hD hS hl => lv_iadd C.1.1 C.1.2.1 hdg (k hF H locs ls hP hD hS hl)
theorem J_isub (C : Cxt p s m args c cc nL Ts own D tys A) {x y : Int32} (hdg : decode cc pc = .ok (.isub, 1)) (k : J p l e R s m args below meth c nL D A w Q o0 F σ (pc + 1) lv (.int (x - y) :: st)) : J p l e R s m args below meth c nL D A w Q o0 F σ pc lv (.int y :: .int x :: st) :=
  fun hF H locs ls hP hD hS hl => lv_isub C.1.1 C.1.2.1 hdg (k hF H locs ls hP hD hS hl)
theorem J_imul (C : Cxt p s m args c cc nL Ts own D tys A) {x y : Int32} (hdg : decode cc pc = .ok (.imul, 1)) (k : J p l e R s m args below meth c nL D A w Q o0 F σ (pc + 1) lv (.int (x * y) :: st)) : J p l e R s m args below meth c nL D A w Q o0 F σ pc lv (.int y :: .int x :: st) :=
  fun hF H locs ls hP hD hS hl => lv_imul C.1.1 C.1.2.1 hdg (k hF H locs ls hP hD hS hl)
theorem J_ishl (C : Cxt p s m args c cc nL Ts own D tys A) {x y : Int32} (hdg : decode cc pc = .ok (.ishl, 1)) (k : J p l e R s m args below meth c nL D A w Q o0 F σ (pc + 1) lv (.int (x <<< (y &&& 31)) :: st)) : J p l e R s m args below meth c nL D A w Q o0 F σ pc lv (.int y :: .int x :: st) :=
  fun hF H locs ls hP hD hS hl => lv_ishl C.1.1 C.1.2.1 hdg (k hF H locs ls hP hD hS hl)
theorem J_ishr (C : Cxt p s m args c cc nL Ts own D tys A) {x y : Int32} (hdg : decode cc pc = .ok (.ishr, 1)) (k : J p l e R s m args below meth c nL D A w Q o0 F σ (pc + 1) lv (.int (x >>> (y &&& 31)) :: st)) : J p l e R s m args below meth c nL D A w Q o0 F σ pc lv (.int y :: .int x :: st) :=
  fun hF H locs ls hP hD hS hl => lv_ishr C.1.1 C.1.2.1 hdg (k hF H locs ls hP hD hS hl)
theorem J_iand (C : Cxt p s m args c cc nL Ts own D tys A) {x y : Int32} (hdg : decode cc pc = .ok (.iand, 1)) (k : J p l e R s m args below meth c nL D A w Q o0 F σ (pc + 1) lv (.int (x &&& y) :: st)) : J p l e R s m args below meth c nL D A w Q o0 F σ pc lv (.int y :: .int x :: st) :=
  fun hF H locs ls hP hD hS hl => lv_iand C.1.1 C.1.2.1 hdg (k hF H locs ls hP hD hS hl)
theorem J_ior (C : Cxt p s m args c cc nL Ts own D tys A) {x y : Int32} (hdg : decode cc pc = .ok (.ior, 1)) (k : J p l e R s m args below meth c nL D A w Q o0 F σ (pc + 1) lv (.int (x ||| y) :: st)) : J p l e R s m args below meth c nL D A w Q o0 F σ pc lv (.int y :: .int x :: st) :=
  fun hF H locs ls hP hD hS hl => lv_ior C.1.1 C.1.2.1 hdg (k hF H locs ls hP hD hS hl)
theorem J_idiv (C : Cxt p s m args c cc nL Ts own D tys A) {x y : Int32} (hne : ¬ y = 0) (hdg : decode cc pc = .ok (.idiv, 1)) (k : J p l e R s m args below meth c nL D A w Q o0 F σ (pc + 1) lv (.int (x / y) :: st)) : J p l e R s m args below meth c nL D A w Q o0 F σ pc lv (.int y :: .int x :: st) :=
  fun hF H locs ls hP hD hS hl => lv_idiv C.1.1 C.1.2.1 hdg hne (k hF H locs ls hP hD hS hl)
theorem J_irem (C : Cxt p s m args c cc nL Ts own D tys A) {x y : Int32} (hne : ¬ y = 0) (hdg : decode cc pc = .ok (.irem, 1)) (k : J p l e R s m args below meth c nL D A w Q o0 F σ (pc + 1) lv (.int (x - x / y * y) :: st)) : J p l e R s m args below meth c nL D A w Q o0 F σ pc lv (.int y :: .int x :: st) :=
  fun hF H locs ls hP hD hS hl => lv_irem C.1.1 C.1.2.1 hdg hne (k hF H locs ls hP hD hS hl)
theorem J_iushr (C : Cxt p s m args c cc nL Ts own D tys A) {x y : Int32} (hdg : decode cc pc = .ok (.iushr, 1)) (k : J p l e R s m args below meth c nL D A w Q o0 F σ (pc + 1) lv (.int ((x.toUInt32 >>> (y.toUInt32 &&& Int32.toUInt32 31)).toInt32) :: st)) : J p l e R s m args below meth c nL D A w Q o0 F σ pc lv (.int y :: .int x :: st) :=
  fun hF H locs ls hP hD hS hl => lv_iushr C.1.1 C.1.2.1 hdg rfl (k hF H locs ls hP hD hS hl)
theorem J_dup (C : Cxt p s m args c cc nL Ts own D tys A) {va : Value} (hva : va.category = 1) (hdg : decode cc pc = .ok (.dup, 1)) (k : J p l e R s m args below meth c nL D A w Q o0 F σ (pc + 1) lv (va :: va :: st)) : J p l e R s m args below meth c nL D A w Q o0 F σ pc lv (va :: st) :=
  fun hF H locs ls hP hD hS hl => lv_dup C.1.1 C.1.2.1 hdg hva (k hF H locs ls hP hD hS hl)
theorem J_dup2 (C : Cxt p s m args c cc nL Ts own D tys A) {va vb : Value} (hva : va.category = 1) (hvb : vb.category = 1) (hdg : decode cc pc = .ok (.dup2, 1)) (k : J p l e R s m args below meth c nL D A w Q o0 F σ (pc + 1) lv (va :: vb :: va :: vb :: st)) : J p l e R s m args below meth c nL D A w Q o0 F σ pc lv (va :: vb :: st) :=
  fun hF H locs ls hP hD hS hl => lv_dup2_11 C.1.1 C.1.2.1 hdg hva hvb (k hF H locs ls hP hD hS hl)
theorem J_pop (C : Cxt p s m args c cc nL Ts own D tys A) {va : Value} (hva : va.category = 1) (hdg : decode cc pc = .ok (.pop, 1)) (k : J p l e R s m args below meth c nL D A w Q o0 F σ (pc + 1) lv st) : J p l e R s m args below meth c nL D A w Q o0 F σ pc lv (va :: st) :=
  fun hF H locs ls hP hD hS hl => lv_pop C.1.1 C.1.2.1 hdg hva (k hF H locs ls hP hD hS hl)
theorem J_istore_n (C : Cxt p s m args c cc nL Ts own D tys A) {n : Fin 4} {i : Nat} {x : Int32} (hi : (n : Nat) = i) (hdg : decode cc pc = .ok (.istore_n n, 1)) (hn : i < nL) (hl : (i, Value.int x) :: lv.filter (fun q => !(q.1 == i) && !(q.1 + 1 == i && q.2.category == 2)) = lv') (k : J p l e R s m args below meth c nL D A w Q o0 F σ (pc + 1) lv' st) : J p l e R s m args below meth c nL D A w Q o0 F σ pc lv (.int x :: st) :=
  fun hF H locs ls hP hD hS hL => lv_istore_n C.1.1 C.1.2.1 hdg hi hL hn hl (fun ls2 h2 => k hF H locs ls2 hP hD hS h2)
theorem J_istore (C : Cxt p s m args c cc nL Ts own D tys A) {i : Nat} {x : Int32} (hdg : decode cc pc = .ok (.istore i, 2)) (hn : i < nL) (hl : (i, Value.int x) :: lv.filter (fun q => !(q.1 == i) && !(q.1 + 1 == i && q.2.category == 2)) = lv') (k : J p l e R s m args below meth c nL D A w Q o0 F σ (pc + 2) lv' st) : J p l e R s m args below meth c nL D A w Q o0 F σ pc lv (.int x :: st) :=
  fun hF H locs ls hP hD hS hL => lv_istore C.1.1 C.1.2.1 hdg hL hn hl (fun ls2 h2 => k hF H locs ls2 hP hD hS h2)
theorem J_iinc (C : Cxt p s m args c cc nL Ts own D tys A) (j : Nat) {i : Nat} {n : Int} {x d : Int32} (hk : lv[j]? = some (i, .int x)) (hdg : decode cc pc = .ok (.iinc i n, 3)) (hv : Int32.ofInt n = d) (hn : i < nL) (hl : (i, Value.int (x + d)) :: lv.filter (fun q => !(q.1 == i) && !(q.1 + 1 == i && q.2.category == 2)) = lv') (k : J p l e R s m args below meth c nL D A w Q o0 F σ (pc + 3) lv' st) : J p l e R s m args below meth c nL D A w Q o0 F σ pc lv st :=
  fun hF H locs ls hP hD hS hL => lv_iinc C.1.1 C.1.2.1 hdg hL hk (by rw [hv]) hn hl (fun ls2 h2 => k hF H locs ls2 hP hD hS h2)
theorem J_icmp_ge (C : Cxt p s m args c cc nL Ts own D tys A) {x y : Int32} {off : Int} {tgt : Nat} {Fa Fb : Option α} [Decidable (y ≤ x)] (hdg : decode cc pc = .ok (.if_icmp .ge off, 3)) (ht : (pc : Int) + off = (tgt : Int)) (ka : J p l e R s m args below meth c nL D A w Q o0 Fa σ tgt lv st) (kb : J p l e R s m args below meth c nL D A w Q o0 Fb σ (pc + 3) lv st) : J p l e R s m args below meth c nL D A w Q o0 (if y ≤ x then Fa else Fb) σ pc lv (.int y :: .int x :: st) :=
  fun hF H locs ls hP hD hS hl => lv_icmp_ge C.1.1 C.1.2.1 hdg ht (fun h => ka (by rw [if_pos h] at hF; exact hF) H locs ls hP hD hS hl) (fun h => kb (by rw [if_neg h] at hF; exact hF) H locs ls hP hD hS hl)
theorem J_icmp_lt (C : Cxt p s m args c cc nL Ts own D tys A) {x y : Int32} {off : Int} {tgt : Nat} {Fa Fb : Option α} [Decidable (x < y)] (hdg : decode cc pc = .ok (.if_icmp .lt off, 3)) (ht : (pc : Int) + off = (tgt : Int)) (ka : J p l e R s m args below meth c nL D A w Q o0 Fa σ tgt lv st) (kb : J p l e R s m args below meth c nL D A w Q o0 Fb σ (pc + 3) lv st) : J p l e R s m args below meth c nL D A w Q o0 (if x < y then Fa else Fb) σ pc lv (.int y :: .int x :: st) :=
  fun hF H locs ls hP hD hS hl => lv_icmp_lt C.1.1 C.1.2.1 hdg ht (fun h => ka (by rw [if_pos h] at hF; exact hF) H locs ls hP hD hS hl) (fun h => kb (by rw [if_neg h] at hF; exact hF) H locs ls hP hD hS hl)
theorem J_icmp_le (C : Cxt p s m args c cc nL Ts own D tys A) {x y : Int32} {off : Int} {tgt : Nat} {Fa Fb : Option α} [Decidable (x ≤ y)] (hdg : decode cc pc = .ok (.if_icmp .le off, 3)) (ht : (pc : Int) + off = (tgt : Int)) (ka : J p l e R s m args below meth c nL D A w Q o0 Fa σ tgt lv st) (kb : J p l e R s m args below meth c nL D A w Q o0 Fb σ (pc + 3) lv st) : J p l e R s m args below meth c nL D A w Q o0 (if x ≤ y then Fa else Fb) σ pc lv (.int y :: .int x :: st) :=
  fun hF H locs ls hP hD hS hl => lv_icmp_le C.1.1 C.1.2.1 hdg ht (fun h => ka (by rw [if_pos h] at hF; exact hF) H locs ls hP hD hS hl) (fun h => kb (by rw [if_neg h] at hF; exact hF) H locs ls hP hD hS hl)
theorem J_icmp_gt (C : Cxt p s m args c cc nL Ts own D tys A) {x y : Int32} {off : Int} {tgt : Nat} {Fa Fb : Option α} [Decidable (y < x)] (hdg : decode cc pc = .ok (.if_icmp .gt off, 3)) (ht : (pc : Int) + off = (tgt : Int)) (ka : J p l e R s m args below meth c nL D A w Q o0 Fa σ tgt lv st) (kb : J p l e R s m args below meth c nL D A w Q o0 Fb σ (pc + 3) lv st) : J p l e R s m args below meth c nL D A w Q o0 (if y < x then Fa else Fb) σ pc lv (.int y :: .int x :: st) :=
  fun hF H locs ls hP hD hS hl => lv_icmp_gt C.1.1 C.1.2.1 hdg ht (fun h => ka (by rw [if_pos h] at hF; exact hF) H locs ls hP hD hS hl) (fun h => kb (by rw [if_neg h] at hF; exact hF) H locs ls hP hD hS hl)
theorem J_icmp_eq (C : Cxt p s m args c cc nL Ts own D tys A) {x y : Int32} {off : Int} {tgt : Nat} {Fa Fb : Option α} [Decidable (x = y)] (hdg : decode cc pc = .ok (.if_icmp .eq off, 3)) (ht : (pc : Int) + off = (tgt : Int)) (ka : J p l e R s m args below meth c nL D A w Q o0 Fa σ tgt lv st) (kb : J p l e R s m args below meth c nL D A w Q o0 Fb σ (pc + 3) lv st) : J p l e R s m args below meth c nL D A w Q o0 (if x = y then Fa else Fb) σ pc lv (.int y :: .int x :: st) :=
  fun hF H locs ls hP hD hS hl => lv_icmp_eq C.1.1 C.1.2.1 hdg ht (fun h => ka (by rw [if_pos h] at hF; exact hF) H locs ls hP hD hS hl) (fun h => kb (by rw [if_neg h] at hF; exact hF) H locs ls hP hD hS hl)
theorem J_icmp_ne (C : Cxt p s m args c cc nL Ts own D tys A) {x y : Int32} {off : Int} {tgt : Nat} {Fa Fb : Option α} [Decidable (x = y)] (hdg : decode cc pc = .ok (.if_icmp .ne off, 3)) (ht : (pc : Int) + off = (tgt : Int)) (ka : J p l e R s m args below meth c nL D A w Q o0 Fa σ tgt lv st) (kb : J p l e R s m args below meth c nL D A w Q o0 Fb σ (pc + 3) lv st) : J p l e R s m args below meth c nL D A w Q o0 (if x = y then Fb else Fa) σ pc lv (.int y :: .int x :: st) :=
  fun hF H locs ls hP hD hS hl => lv_icmp_ne C.1.1 C.1.2.1 hdg ht (fun h => ka (by rw [if_neg h] at hF; exact hF) H locs ls hP hD hS hl) (fun h => kb (by rw [if_pos h] at hF; exact hF) H locs ls hP hD hS hl)
theorem J_if_eq (C : Cxt p s m args c cc nL Ts own D tys A) {x : Int32} {off : Int} {tgt : Nat} {Fa Fb : Option α} [Decidable (x = 0)] (hdg : decode cc pc = .ok (.ifCond .eq off, 3)) (ht : (pc : Int) + off = (tgt : Int)) (ka : J p l e R s m args below meth c nL D A w Q o0 Fa σ tgt lv st) (kb : J p l e R s m args below meth c nL D A w Q o0 Fb σ (pc + 3) lv st) : J p l e R s m args below meth c nL D A w Q o0 (if x = 0 then Fa else Fb) σ pc lv (.int x :: st) :=
  fun hF H locs ls hP hD hS hl => lv_if_eq C.1.1 C.1.2.1 hdg ht (fun h => ka (by rw [if_pos h] at hF; exact hF) H locs ls hP hD hS hl) (fun h => kb (by rw [if_neg h] at hF; exact hF) H locs ls hP hD hS hl)
theorem J_if_ne (C : Cxt p s m args c cc nL Ts own D tys A) {x : Int32} {off : Int} {tgt : Nat} {Fa Fb : Option α} [Decidable (x = 0)] (hdg : decode cc pc = .ok (.ifCond .ne off, 3)) (ht : (pc : Int) + off = (tgt : Int)) (ka : J p l e R s m args below meth c nL D A w Q o0 Fa σ tgt lv st) (kb : J p l e R s m args below meth c nL D A w Q o0 Fb σ (pc + 3) lv st) : J p l e R s m args below meth c nL D A w Q o0 (if x = 0 then Fb else Fa) σ pc lv (.int x :: st) :=
  fun hF H locs ls hP hD hS hl => lv_if_ne C.1.1 C.1.2.1 hdg ht (fun h => ka (by rw [if_neg h] at hF; exact hF) H locs ls hP hD hS hl) (fun h => kb (by rw [if_pos h] at hF; exact hF) H locs ls hP hD hS hl)
theorem J_if_lt (C : Cxt p s m args c cc nL Ts own D tys A) {x : Int32} {off : Int} {tgt : Nat} {Fa Fb : Option α} [Decidable (x < 0)] (hdg : decode cc pc = .ok (.ifCond .lt off, 3)) (ht : (pc : Int) + off = (tgt : Int)) (ka : J p l e R s m args below meth c nL D A w Q o0 Fa σ tgt lv st) (kb : J p l e R s m args below meth c nL D A w Q o0 Fb σ (pc + 3) lv st) : J p l e R s m args below meth c nL D A w Q o0 (if x < 0 then Fa else Fb) σ pc lv (.int x :: st) :=
  fun hF H locs ls hP hD hS hl => lv_if_lt C.1.1 C.1.2.1 hdg ht (fun h => ka (by rw [if_pos h] at hF; exact hF) H locs ls hP hD hS hl) (fun h => kb (by rw [if_neg h] at hF; exact hF) H locs ls hP hD hS hl)
theorem J_if_ge (C : Cxt p s m args c cc nL Ts own D tys A) {x : Int32} {off : Int} {tgt : Nat} {Fa Fb : Option α} [Decidable (0 ≤ x)] (hdg : decode cc pc = .ok (.ifCond .ge off, 3)) (ht : (pc : Int) + off = (tgt : Int)) (ka : J p l e R s m args below meth c nL D A w Q o0 Fa σ tgt lv st) (kb : J p l e R s m args below meth c nL D A w Q o0 Fb σ (pc + 3) lv st) : J p l e R s m args below meth c nL D A w Q o0 (if 0 ≤ x then Fa else Fb) σ pc lv (.int x :: st) :=
  fun hF H locs ls hP hD hS hl => lv_if_ge C.1.1 C.1.2.1 hdg ht (fun h => ka (by rw [if_pos h] at hF; exact hF) H locs ls hP hD hS hl) (fun h => kb (by rw [if_neg h] at hF; exact hF) H locs ls hP hD hS hl)
theorem J_if_le (C : Cxt p s m args c cc nL Ts own D tys A) {x : Int32} {off : Int} {tgt : Nat} {Fa Fb : Option α} [Decidable (x ≤ 0)] (hdg : decode cc pc = .ok (.ifCond .le off, 3)) (ht : (pc : Int) + off = (tgt : Int)) (ka : J p l e R s m args below meth c nL D A w Q o0 Fa σ tgt lv st) (kb : J p l e R s m args below meth c nL D A w Q o0 Fb σ (pc + 3) lv st) : J p l e R s m args below meth c nL D A w Q o0 (if x ≤ 0 then Fa else Fb) σ pc lv (.int x :: st) :=
  fun hF H locs ls hP hD hS hl => lv_if_le C.1.1 C.1.2.1 hdg ht (fun h => ka (by rw [if_pos h] at hF; exact hF) H locs ls hP hD hS hl) (fun h => kb (by rw [if_neg h] at hF; exact hF) H locs ls hP hD hS hl)
theorem J_if_gt (C : Cxt p s m args c cc nL Ts own D tys A) {x : Int32} {off : Int} {tgt : Nat} {Fa Fb : Option α} [Decidable (0 < x)] (hdg : decode cc pc = .ok (.ifCond .gt off, 3)) (ht : (pc : Int) + off = (tgt : Int)) (ka : J p l e R s m args below meth c nL D A w Q o0 Fa σ tgt lv st) (kb : J p l e R s m args below meth c nL D A w Q o0 Fb σ (pc + 3) lv st) : J p l e R s m args below meth c nL D A w Q o0 (if 0 < x then Fa else Fb) σ pc lv (.int x :: st) :=
  fun hF H locs ls hP hD hS hl => lv_if_gt C.1.1 C.1.2.1 hdg ht (fun h => ka (by rw [if_pos h] at hF; exact hF) H locs ls hP hD hS hl) (fun h => kb (by rw [if_neg h] at hF; exact hF) H locs ls hP hD hS hl)
theorem J_goto (C : Cxt p s m args c cc nL Ts own D tys A) {off : Int} {tgt : Nat} (hdg : decode cc pc = .ok (.goto off, 3)) (ht : (pc : Int) + off = (tgt : Int)) (k : J p l e R s m args below meth c nL D A w Q o0 F σ tgt lv st) : J p l e R s m args below meth c nL D A w Q o0 F σ pc lv st :=
  fun hF H locs ls hP hD hS hl => lv_goto C.1.1 C.1.2.1 hdg ht (k hF H locs ls hP hD hS hl)
theorem J_lv (ks : List Nat) (h : lv_pick lv ks = lv') (k : J p l e R s m args below meth c nL D A w Q o0 F σ pc lv' st) : J p l e R s m args below meth c nL D A w Q o0 F σ pc lv st :=
  fun hF H locs ls hP hD hS hl => k hF H locs ls hP hD hS (lv_sub hl ks h)
theorem J_eq {F' : Option α} (h : F = F') (k : J p l e R s m args below meth c nL D A w Q o0 F' σ pc lv st) : J p l e R s m args below meth c nL D A w Q o0 F σ pc lv st := h ▸ k
theorem J_retZ {Fa Fb : Option α} {x : Int32} (h0 : J p l e R s m args below meth c nL D A w Q o0 Fa σ pc lv (.int 0 :: st)) (h1 : J p l e R s m args below meth c nL D A w Q o0 Fb σ pc lv (.int 1 :: st)) : J p l e R s m args below meth c nL D A w Q o0 (if x = 0 then Fa else if x = 1 then Fb else none) σ pc lv (.int x :: st) := by
  intro hF H locs ls hP hD hS hl
  by_cases c0 : x = 0
  · subst c0
    exact h0 (by rw [if_pos rfl] at hF; exact hF) H locs ls hP hD hS hl
  · rw [if_neg c0] at hF
    by_cases c1 : x = 1
    · subst c1
      exact h1 (by rw [if_pos rfl] at hF; exact hF) H locs ls hP hD hS hl
    · rw [if_neg c1] at hF
      cases hF
theorem J_get (C : Cxt p s m args c cc nL Ts own D tys A) (q0 k0 ci : Nat) {C0 : String} {T : u_T} {N index a : Nat} {fs : List Value} {v : Value} (hin : ∀ x ∈ u_ws C0 T N, x ∈ Ts) (he : (w σ)[q0]? = some (a, .inr (ci, fs))) (hc : vwCl[ci]? = some (C0, T, N)) (hk : k0 < N) (hl0 : Cond.fieldLink own index (T k0).1 (T k0).2.1 (T k0).2.2.1 ∈ Ts) (hv : fs[k0]? = some v) (hdg : decode cc pc = .ok (.getfield index, 3)) (k : J p l e R s m args below meth c nL D A w Q o0 F σ (pc + 3) lv (v :: st)) : J p l e R s m args below meth c nL D A w Q o0 F σ pc lv (.ref a :: st) :=
  fun hF H locs ls hP hD hS hl => va_get C.1.1 C.1.2.1 C.1.2.2.2.2 hin C.1.2.2.2.1 C.2.1 hP q0 he hc k0 hk (C.1.2.2.2.2 _ hl0) (fun _ h => h) hv hdg (k hF H locs ls hP hD hS hl)
theorem J_getN (C : Cxt p s m args c cc nL Ts own D tys A) (q0 k0 ci : Nat) {C0 host : String} {T : u_T} {N index a : Nat} {fs : List Value} {v : Value} (hin : ∀ x ∈ u_ws C0 T N, x ∈ Ts) (he : (w σ)[q0]? = some (a, .inr (ci, fs))) (hc : vwCl[ci]? = some (C0, T, N)) (hk : k0 < N) (hl0 : Cond.fieldLinkNest own index (T k0).1 (T k0).2.1 (T k0).2.2.1 host ∈ nestL) (hv : fs[k0]? = some v) (hdg : decode cc pc = .ok (.getfield index, 3)) (k : J p l e R s m args below meth c nL D A w Q o0 F σ (pc + 3) lv (v :: st)) : J p l e R s m args below meth c nL D A w Q o0 F σ pc lv (.ref a :: st) :=
  fun hF H locs ls hP hD hS hl => va_getN C.1.1 C.1.2.1 C.1.2.2.2.2 hin C.1.2.2.2.1 C.2.1 hP q0 he hc k0 hk (va_Nw.use rfl (C.2.2.2 _ hl0)) (fun _ h => h) hv hdg (k hF H locs ls hP hD hS hl)
theorem J_put (C : Cxt p s m args c cc nL Ts own D tys A) (q0 k0 ci : Nat) {C0 : String} {T : u_T} {N index a : Nat} {fs : List Value} {v : Int32} (ty0 : Nat → FieldType) (hty : ∀ k, k < N → parseFieldDescriptor (T k).2.2.1 = some (ty0 k)) (hnm : ∀ a, a < N → ∀ b, b < N → a ≠ b → (T a).2.1 ≠ (T b).2.1) (hin : ∀ x ∈ u_ws C0 T N, x ∈ Ts) (he : (w σ)[q0]? = some (a, .inr (ci, fs))) (hc : vwCl[ci]? = some (C0, T, N)) (hk : k0 < N) (hl0 : Cond.fieldLink own index (T k0).1 (T k0).2.1 (T k0).2.2.1 ∈ Ts) (hfin : (T k0).2.2.2 = false) (hd : parseFieldDescriptor (T k0).2.2.1 = some .int) (hlen : k0 < fs.length) (hset : (w σ).set q0 (a, .inr (ci, fs.set k0 (.int v))) = w σ') (hdg : decode cc pc = .ok (.putfield index, 3)) (k : J p l e R s m args below meth c nL D A w Q o0 F σ' (pc + 3) lv st) : J p l e R s m args below meth c nL D A w Q o0 F σ pc lv (.int v :: .ref a :: st) :=
  fun hF H locs ls hP hD hS hl => va_put (v := .int v) (ty := .int) C.1.1 C.1.2.1 C.1.2.2.2.2 hin ty0 hty hnm C.1.2.2.2.1 C.2.1 hP hD hS q0 he hc k0 hk (C.1.2.2.2.2 _ hl0) (fun _ h => h) hfin hd rfl rfl hlen hdg (fun H1 locs1 hP1 hD1 hS1 => k hF H1 locs1 ls (hset ▸ hP1) (hset ▸ hD1) hS1 hl)
theorem J_putN (C : Cxt p s m args c cc nL Ts own D tys A) (q0 k0 ci : Nat) {C0 host : String} {T : u_T} {N index a : Nat} {fs : List Value} {v : Int32} (ty0 : Nat → FieldType) (hty : ∀ k, k < N → parseFieldDescriptor (T k).2.2.1 = some (ty0 k)) (hnm : ∀ a, a < N → ∀ b, b < N → a ≠ b → (T a).2.1 ≠ (T b).2.1) (hin : ∀ x ∈ u_ws C0 T N, x ∈ Ts) (he : (w σ)[q0]? = some (a, .inr (ci, fs))) (hc : vwCl[ci]? = some (C0, T, N)) (hk : k0 < N) (hl0 : Cond.fieldLinkNest own index (T k0).1 (T k0).2.1 (T k0).2.2.1 host ∈ nestL) (hfin : (T k0).2.2.2 = false) (hd : parseFieldDescriptor (T k0).2.2.1 = some .int) (hlen : k0 < fs.length) (hset : (w σ).set q0 (a, .inr (ci, fs.set k0 (.int v))) = w σ') (hdg : decode cc pc = .ok (.putfield index, 3)) (k : J p l e R s m args below meth c nL D A w Q o0 F σ' (pc + 3) lv st) : J p l e R s m args below meth c nL D A w Q o0 F σ pc lv (.int v :: .ref a :: st) :=
  fun hF H locs ls hP hD hS hl => va_putN (v := .int v) (ty := .int) C.1.1 C.1.2.1 C.1.2.2.2.2 hin ty0 hty hnm C.1.2.2.2.1 C.2.1 hP hD hS q0 he hc k0 hk (va_Nw.use rfl (C.2.2.2 _ hl0)) (fun _ h => h) hfin hd rfl rfl hlen hdg (fun H1 locs1 hP1 hD1 hS1 => k hF H1 locs1 ls (hset ▸ hP1) (hset ▸ hD1) hS1 hl)
theorem J_iald (C : Cxt p s m args c cc nL Ts own D tys A) (q0 t0 : Nat) {cA : ClassId} {n a : Nat} {f : Nat → Int32} {i : Int32} (ha : (w σ)[q0]? = some (a, .inl (cA, n, .inl f))) (ht : tys[t0]? = some (cA, .int)) (hdg : decode cc pc = .ok (.iaload, 1)) (k : J p l e R s m args below meth c nL D A w Q o0 F σ (pc + 1) lv (.int (f i.toNatClampNeg) :: st)) : J p l e R s m args below meth c nL D A w Q o0 (if inb i n = true then F else none) σ pc lv (.int i :: .ref a :: st) := by
  intro hF H locs ls hP hD hS hl
  by_cases hi : inb i n = true
  · rw [if_pos hi] at hF
    exact va_iald C.1.1 C.1.2.1 C.2.1 hP q0 t0 ha ht (inb_in hi) hdg (k hF H locs ls hP hD hS hl)
  · rw [if_neg hi] at hF
    cases hF
theorem J_zald (C : Cxt p s m args c cc nL Ts own D tys A) (q0 t0 : Nat) {cA : ClassId} {n a : Nat} {f : Nat → Int32} {i : Int32} (ha : (w σ)[q0]? = some (a, .inl (cA, n, .inl f))) (ht : tys[t0]? = some (cA, .boolean)) (hdg : decode cc pc = .ok (.baload, 1)) (k : J p l e R s m args below meth c nL D A w Q o0 F σ (pc + 1) lv (.int (f i.toNatClampNeg) :: st)) : J p l e R s m args below meth c nL D A w Q o0 (if inb i n = true then F else none) σ pc lv (.int i :: .ref a :: st) := by
  intro hF H locs ls hP hD hS hl
  by_cases hi : inb i n = true
  · rw [if_pos hi] at hF
    exact va_zald C.1.1 C.1.2.1 C.2.1 hP q0 t0 ha ht (inb_in hi) hdg (k hF H locs ls hP hD hS hl)
  · rw [if_neg hi] at hF
    cases hF
theorem J_iast (C : Cxt p s m args c cc nL Ts own D tys A) (q0 t0 : Nat) {cA : ClassId} {n a : Nat} {f : Nat → Int32} {i x : Int32} (ha : (w σ)[q0]? = some (a, .inl (cA, n, .inl f))) (ht : tys[t0]? = some (cA, .int)) (hset : (w σ).set q0 (a, .inl (cA, n, .inl (upd f i.toNatClampNeg x))) = w σ') (hdg : decode cc pc = .ok (.iastore, 1)) (k : J p l e R s m args below meth c nL D A w Q o0 F σ' (pc + 1) lv st) : J p l e R s m args below meth c nL D A w Q o0 (if inb i n = true then F else none) σ pc lv (.int x :: .int i :: .ref a :: st) := by
  intro hF H locs ls hP hD hS hl
  by_cases hi : inb i n = true
  · rw [if_pos hi] at hF
    exact va_iast C.1.1 C.1.2.1 C.2.1 hP hD hS q0 t0 ha ht (inb_in hi) hdg (fun H1 locs1 hP1 hD1 hS1 => k hF H1 locs1 ls (hset ▸ hP1) (hset ▸ hD1) hS1 hl)
  · rw [if_neg hi] at hF
    cases hF
theorem J_zast (C : Cxt p s m args c cc nL Ts own D tys A) (q0 t0 : Nat) {cA : ClassId} {n a : Nat} {f : Nat → Int32} {i x : Int32} (ha : (w σ)[q0]? = some (a, .inl (cA, n, .inl f))) (ht : tys[t0]? = some (cA, .boolean)) (hset : (w σ).set q0 (a, .inl (cA, n, .inl (upd f i.toNatClampNeg (vp_nar .boolean x)))) = w σ') (hdg : decode cc pc = .ok (.bastore, 1)) (k : J p l e R s m args below meth c nL D A w Q o0 F σ' (pc + 1) lv st) : J p l e R s m args below meth c nL D A w Q o0 (if inb i n = true then F else none) σ pc lv (.int x :: .int i :: .ref a :: st) := by
  intro hF H locs ls hP hD hS hl
  by_cases hi : inb i n = true
  · rw [if_pos hi] at hF
    exact va_zast C.1.1 C.1.2.1 C.2.1 hP hD hS q0 t0 ha ht (inb_in hi) hdg (fun H1 locs1 hP1 hD1 hS1 => k hF H1 locs1 ls (hset ▸ hP1) (hset ▸ hD1) hS1 hl)
  · rw [if_neg hi] at hF
    cases hF
theorem J_alen (C : Cxt p s m args c cc nL Ts own D tys A) (q0 t0 : Nat) {cA : ClassId} {n a : Nat} {ty : FieldType} {f : (Nat → Int32) ⊕ (Nat → Int64) ⊕ (Nat → UInt32) ⊕ (Nat → UInt64) ⊕ (Nat → Option Nat)} {v : Int32} (ha : (w σ)[q0]? = some (a, .inl (cA, n, f))) (ht : tys[t0]? = some (cA, ty)) (hv : Int32.ofNat n = v) (hdg : decode cc pc = .ok (.arraylength, 1)) (k : J p l e R s m args below meth c nL D A w Q o0 F σ (pc + 1) lv (.int v :: st)) : J p l e R s m args below meth c nL D A w Q o0 F σ pc lv (.ref a :: st) :=
  fun hF H locs ls hP hD hS hl => va_alen C.1.1 C.1.2.1 C.2.1 hP q0 t0 ha ht hv hdg (k hF H locs ls hP hD hS hl)
def PreC (D : va_G) (tys : List (ClassId × FieldType)) (w : St → va_W) (σ : St) (sz : Nat) (argv : List Value) : Array Value → State → Prop := va_Pc argv (fun U => U.heap.size = sz ∧ va_P D vwCl (w σ) U.heap ∧ va_K D vwCl tys U ∧ va_D (fun _ => True) (w σ) ∧ NW U)
def atW (D : va_G) (tys : List (ClassId × FieldType)) (w : St → va_W) (A : Nat → Prop) (u : St) (t : State) : Prop := va_P D vwCl (w u) t.heap ∧ va_K D vwCl tys t ∧ va_D A (w u)
/-- a method that answers an int, and leaves the state at σ1 -/
def MI (l : Launch) (D : va_G) (tys : List (ClassId × FieldType)) (w : St → va_W) (y : MethodName) (ws : List Cond) (rm : Room) (argv : List Value) (σ : St) (r : Int32) (σ1 : St) : Prop := ∀ sz : Nat, Met l y ws rm (PreC D tys w σ sz argv) (va_Qi (fun (r2 : Int32) (u : St) => r2 = r ∧ u = σ1) (atW D tys w (va_A (w σ) sz)) (va_A (w σ) sz)) 0 0 (va_A (w σ) sz)
/-- a method that answers nothing -/
def MV (l : Launch) (D : va_G) (tys : List (ClassId × FieldType)) (w : St → va_W) (y : MethodName) (ws : List Cond) (rm : Room) (argv : List Value) (σ : St) (σ1 : St) : Prop := ∀ sz : Nat, Met l y ws rm (PreC D tys w σ sz argv) (va_Qv (fun (u : St) => u = σ1) (atW D tys w (va_A (w σ) sz)) (va_A (w σ) sz)) 0 0 (va_A (w σ) sz)
theorem PreC.blind {sz : Nat} {argv : List Value} : FrameBlind (PreC D tys w σ sz argv) := fun a U g mk q => by
  obtain ⟨q0, q1, qP, qK, qD, qN⟩ := q
  exact ⟨q0, q1, qP, va_K.moved (u := U) (U := U.calling g mk a) (Vm.Alike.refl U.vm) qK, qD, NW.same (u := U) (U := U.calling g mk a) rfl qN⟩
theorem PreC.mk {H : Heap} {argv : List Value} (C : Cxt p s m args c cc nL Ts own D tys A) (hP : va_P D vwCl (w σ) H) (hD : va_D A (w σ)) : ∀ U : State, U.heap = H → s.WarmedH U.vm → PreC D tys w σ H.size argv argv.toArray U := fun U hU hW =>
  ⟨rfl, by rw [hU], by rw [hU]; exact hP, va_K.moved hW.alike C.2.1, hD.weaken (fun _ _ _ _ => trivial), NW.warm hW C.2.2.2⟩
theorem freeW {H : Heap} {locs : List Loc} (C : Cxt p s m args c cc nL Ts own D tys A) (hD : va_D A (w σ)) (hS : va_S A s.heap H locs) : ∀ q : Nat, va_A (w σ) H.size q → A q := by
  intro q h
  rcases h with ⟨k, e, hk⟩ | h
  · exact hD.2 k _ hk
  · exact C.2.2.1 q (Nat.le_trans hS.1 h)

theorem J_callI_V (C : Cxt p s m args c cc nL Ts own D tys A) {f : Option (Int32 × St)} {G : Int32 → St → Option α} {st0 : List Value} {y : MethodName} {bytes : ByteArray} {maxL n index : Nat} {ret : Option FieldType} {ws : List Cond} {rm : Room} (As : List Value) {C1 : String} (q0 ci : Nat) {fs : List Value} {b : Nat} {T : u_T} {N : Nat} (hc : vwCl[ci]? = some (C1, T, N)) (he : (w σ)[q0]? = some (b, .inr (ci, fs))) (hf : ∀ r σ1, f = some (r, σ1) → MI l D tys w y ws rm (.ref b :: As) σ r σ1) (cw : CallW R s args own C1 index y bytes maxL ret ws rm 0 0 n) (hn : As.length = n) (hst : st0 = As.reverse ++ .ref b :: st) (hroom : (st.map fun v => v.category).sum ≤ 8) (hdg : decode cc pc = .ok (.invokevirtual index, 3)) (k : ∀ r σ1, J p l e R s m args below meth c nL D A w Q o0 (G r σ1) σ1 (pc + 3) lv (.int r :: st)) : J p l e R s m args below meth c nL D A w Q o0 (bind2 f G) σ pc lv st0 := by
  intro hF H locs ls hP hD hS hl
  obtain ⟨⟨r1, σ1⟩, h1, h2⟩ := Option.bind_eq_some_iff.mp hF
  have hFr := freeW C hD hS
  refine va_calli (va_runV (As := As) (rest := st) C.1 (hf r1 σ1 h1 H.size) cw ⟨PreC.blind, va_recv C.2.1 hP (ci := ci) (q0 := q0) hc he, PreC.mk C hP hD⟩ rfl hn hl.1 hst (lv_room hroom) hdg ⟨Nat.zero_le _, Nat.zero_le _⟩) hS (fun q _ h => hFr q h) hFr (fun r2 u t H1 locs1 ht hvm hw hB hz1 hk1 hS1 => ?_)
  obtain ⟨hw1, hw2⟩ := hw
  subst hw1
  subst hw2
  obtain ⟨hP1, hK1, hD1⟩ := hB
  rw [ht] at hP1
  exact k r2 u h2 H1 locs1 ls hP1 (hD1.weaken (fun _ _ _ h => hFr _ h)) hS1 hl
theorem J_callI_S (C : Cxt p s m args c cc nL Ts own D tys A) {f : Option (Int32 × St)} {G : Int32 → St → Option α} {st0 : List Value} {y : MethodName} {bytes : ByteArray} {maxL n index : Nat} {ret : Option FieldType} {ws : List Cond} {rm : Room} (As : List Value) (hf : ∀ r σ1, f = some (r, σ1) → MI l D tys w y ws rm As σ r σ1) (cw : CallB R s args own index y bytes maxL ret ws rm 0 0 n ∧ (Cond.static y).before args s = true) (hn : As.length = n) (hst : st0 = As.reverse ++ st) (hroom : (st.map fun v => v.category).sum ≤ 8) (hdg : decode cc pc = .ok (.invokestatic index, 3)) (k : ∀ r σ1, J p l e R s m args below meth c nL D A w Q o0 (G r σ1) σ1 (pc + 3) lv (.int r :: st)) : J p l e R s m args below meth c nL D A w Q o0 (bind2 f G) σ pc lv st0 := by
  intro hF H locs ls hP hD hS hl
  obtain ⟨⟨r1, σ1⟩, h1, h2⟩ := Option.bind_eq_some_iff.mp hF
  have hFr := freeW C hD hS
  refine va_calli (va_runS (As := As) (rest := st) C.1 (hf r1 σ1 h1 H.size) cw ⟨PreC.blind, PreC.mk C hP hD⟩ rfl hn hl.1 hst (lv_room hroom) hdg ⟨Nat.zero_le _, Nat.zero_le _⟩) hS (fun q _ h => hFr q h) hFr (fun r2 u t H1 locs1 ht hvm hw hB hz1 hk1 hS1 => ?_)
  obtain ⟨hw1, hw2⟩ := hw
  subst hw1
  subst hw2
  obtain ⟨hP1, hK1, hD1⟩ := hB
  rw [ht] at hP1
  exact k r2 u h2 H1 locs1 ls hP1 (hD1.weaken (fun _ _ _ h => hFr _ h)) hS1 hl
theorem J_callI_VN (C : Cxt p s m args c cc nL Ts own D tys A) {f : Option (Int32 × St)} {G : Int32 → St → Option α} {st0 : List Value} {y : MethodName} {bytes : ByteArray} {maxL n index : Nat} {ret : Option FieldType} {ws : List Cond} {rm : Room} (As : List Value) {host : String} {C1 : String} (q0 ci : Nat) {fs : List Value} {b : Nat} {T : u_T} {N : Nat} (hc : vwCl[ci]? = some (C1, T, N)) (he : (w σ)[q0]? = some (b, .inr (ci, fs))) (hf : ∀ r σ1, f = some (r, σ1) → MI l D tys w y ws rm (.ref b :: As) σ r σ1) (cw : va_CN R s args own index y host bytes maxL ret ws rm 0 0 n ∧ (Cond.instanceMethod y).before args s = true ∧ (Cond.selects C1 y y).before args s = true) (hn : As.length = n) (hst : st0 = As.reverse ++ .ref b :: st) (hroom : (st.map fun v => v.category).sum ≤ 8) (hdg : decode cc pc = .ok (.invokevirtual index, 3)) (k : ∀ r σ1, J p l e R s m args below meth c nL D A w Q o0 (G r σ1) σ1 (pc + 3) lv (.int r :: st)) : J p l e R s m args below meth c nL D A w Q o0 (bind2 f G) σ pc lv st0 := by
  intro hF H locs ls hP hD hS hl
  obtain ⟨⟨r1, σ1⟩, h1, h2⟩ := Option.bind_eq_some_iff.mp hF
  have hFr := freeW C hD hS
  refine va_calli (va_runVN (As := As) (rest := st) C.1 (hf r1 σ1 h1 H.size) cw ⟨PreC.blind, va_recv C.2.1 hP (ci := ci) (q0 := q0) hc he, PreC.mk C hP hD⟩ rfl hn hl.1 hst (lv_room hroom) hdg ⟨Nat.zero_le _, Nat.zero_le _⟩) hS (fun q _ h => hFr q h) hFr (fun r2 u t H1 locs1 ht hvm hw hB hz1 hk1 hS1 => ?_)
  obtain ⟨hw1, hw2⟩ := hw
  subst hw1
  subst hw2
  obtain ⟨hP1, hK1, hD1⟩ := hB
  rw [ht] at hP1
  exact k r2 u h2 H1 locs1 ls hP1 (hD1.weaken (fun _ _ _ h => hFr _ h)) hS1 hl
theorem J_callI_SN (C : Cxt p s m args c cc nL Ts own D tys A) {f : Option (Int32 × St)} {G : Int32 → St → Option α} {st0 : List Value} {y : MethodName} {bytes : ByteArray} {maxL n index : Nat} {ret : Option FieldType} {ws : List Cond} {rm : Room} (As : List Value) {host : String} (hf : ∀ r σ1, f = some (r, σ1) → MI l D tys w y ws rm As σ r σ1) (cw : va_CN R s args own index y host bytes maxL ret ws rm 0 0 n ∧ (Cond.static y).before args s = true ∧ True) (hn : As.length = n) (hst : st0 = As.reverse ++ st) (hroom : (st.map fun v => v.category).sum ≤ 8) (hdg : decode cc pc = .ok (.invokestatic index, 3)) (k : ∀ r σ1, J p l e R s m args below meth c nL D A w Q o0 (G r σ1) σ1 (pc + 3) lv (.int r :: st)) : J p l e R s m args below meth c nL D A w Q o0 (bind2 f G) σ pc lv st0 := by
  intro hF H locs ls hP hD hS hl
  obtain ⟨⟨r1, σ1⟩, h1, h2⟩ := Option.bind_eq_some_iff.mp hF
  have hFr := freeW C hD hS
  refine va_calli (va_runSN (As := As) (rest := st) C.1 (hf r1 σ1 h1 H.size) cw ⟨PreC.blind, PreC.mk C hP hD⟩ rfl hn hl.1 hst (lv_room hroom) hdg ⟨Nat.zero_le _, Nat.zero_le _⟩) hS (fun q _ h => hFr q h) hFr (fun r2 u t H1 locs1 ht hvm hw hB hz1 hk1 hS1 => ?_)
  obtain ⟨hw1, hw2⟩ := hw
  subst hw1
  subst hw2
  obtain ⟨hP1, hK1, hD1⟩ := hB
  rw [ht] at hP1
  exact k r2 u h2 H1 locs1 ls hP1 (hD1.weaken (fun _ _ _ h => hFr _ h)) hS1 hl
theorem J_callV_V (C : Cxt p s m args c cc nL Ts own D tys A) {f : Option (St)} {G : St → Option α} {st0 : List Value} {y : MethodName} {bytes : ByteArray} {maxL n index : Nat} {ret : Option FieldType} {ws : List Cond} {rm : Room} (As : List Value) {C1 : String} (q0 ci : Nat) {fs : List Value} {b : Nat} {T : u_T} {N : Nat} (hc : vwCl[ci]? = some (C1, T, N)) (he : (w σ)[q0]? = some (b, .inr (ci, fs))) (hf : ∀ σ1, f = some σ1 → MV l D tys w y ws rm (.ref b :: As) σ σ1) (cw : CallW R s args own C1 index y bytes maxL ret ws rm 0 0 n) (hn : As.length = n) (hst : st0 = As.reverse ++ .ref b :: st) (hroom : (st.map fun v => v.category).sum ≤ 8) (hdg : decode cc pc = .ok (.invokevirtual index, 3)) (k : ∀ σ1, J p l e R s m args below meth c nL D A w Q o0 (G σ1) σ1 (pc + 3) lv st) : J p l e R s m args below meth c nL D A w Q o0 (f.bind G) σ pc lv st0 := by
  intro hF H locs ls hP hD hS hl
  obtain ⟨σ1, h1, h2⟩ := Option.bind_eq_some_iff.mp hF
  have hFr := freeW C hD hS
  refine va_callv (va_runV (As := As) (rest := st) C.1 (hf σ1 h1 H.size) cw ⟨PreC.blind, va_recv C.2.1 hP (ci := ci) (q0 := q0) hc he, PreC.mk C hP hD⟩ rfl hn hl.1 hst (lv_room hroom) hdg ⟨Nat.zero_le _, Nat.zero_le _⟩) hS (fun q _ h => hFr q h) hFr (fun u t H1 locs1 ht hvm hw hB hz1 hk1 hS1 => ?_)
  subst hw
  obtain ⟨hP1, hK1, hD1⟩ := hB
  rw [ht] at hP1
  exact k u h2 H1 locs1 ls hP1 (hD1.weaken (fun _ _ _ h => hFr _ h)) hS1 hl
theorem J_callV_S (C : Cxt p s m args c cc nL Ts own D tys A) {f : Option (St)} {G : St → Option α} {st0 : List Value} {y : MethodName} {bytes : ByteArray} {maxL n index : Nat} {ret : Option FieldType} {ws : List Cond} {rm : Room} (As : List Value) (hf : ∀ σ1, f = some σ1 → MV l D tys w y ws rm As σ σ1) (cw : CallB R s args own index y bytes maxL ret ws rm 0 0 n ∧ (Cond.static y).before args s = true) (hn : As.length = n) (hst : st0 = As.reverse ++ st) (hroom : (st.map fun v => v.category).sum ≤ 8) (hdg : decode cc pc = .ok (.invokestatic index, 3)) (k : ∀ σ1, J p l e R s m args below meth c nL D A w Q o0 (G σ1) σ1 (pc + 3) lv st) : J p l e R s m args below meth c nL D A w Q o0 (f.bind G) σ pc lv st0 := by
  intro hF H locs ls hP hD hS hl
  obtain ⟨σ1, h1, h2⟩ := Option.bind_eq_some_iff.mp hF
  have hFr := freeW C hD hS
  refine va_callv (va_runS (As := As) (rest := st) C.1 (hf σ1 h1 H.size) cw ⟨PreC.blind, PreC.mk C hP hD⟩ rfl hn hl.1 hst (lv_room hroom) hdg ⟨Nat.zero_le _, Nat.zero_le _⟩) hS (fun q _ h => hFr q h) hFr (fun u t H1 locs1 ht hvm hw hB hz1 hk1 hS1 => ?_)
  subst hw
  obtain ⟨hP1, hK1, hD1⟩ := hB
  rw [ht] at hP1
  exact k u h2 H1 locs1 ls hP1 (hD1.weaken (fun _ _ _ h => hFr _ h)) hS1 hl
theorem J_callV_VN (C : Cxt p s m args c cc nL Ts own D tys A) {f : Option (St)} {G : St → Option α} {st0 : List Value} {y : MethodName} {bytes : ByteArray} {maxL n index : Nat} {ret : Option FieldType} {ws : List Cond} {rm : Room} (As : List Value) {host : String} {C1 : String} (q0 ci : Nat) {fs : List Value} {b : Nat} {T : u_T} {N : Nat} (hc : vwCl[ci]? = some (C1, T, N)) (he : (w σ)[q0]? = some (b, .inr (ci, fs))) (hf : ∀ σ1, f = some σ1 → MV l D tys w y ws rm (.ref b :: As) σ σ1) (cw : va_CN R s args own index y host bytes maxL ret ws rm 0 0 n ∧ (Cond.instanceMethod y).before args s = true ∧ (Cond.selects C1 y y).before args s = true) (hn : As.length = n) (hst : st0 = As.reverse ++ .ref b :: st) (hroom : (st.map fun v => v.category).sum ≤ 8) (hdg : decode cc pc = .ok (.invokevirtual index, 3)) (k : ∀ σ1, J p l e R s m args below meth c nL D A w Q o0 (G σ1) σ1 (pc + 3) lv st) : J p l e R s m args below meth c nL D A w Q o0 (f.bind G) σ pc lv st0 := by
  intro hF H locs ls hP hD hS hl
  obtain ⟨σ1, h1, h2⟩ := Option.bind_eq_some_iff.mp hF
  have hFr := freeW C hD hS
  refine va_callv (va_runVN (As := As) (rest := st) C.1 (hf σ1 h1 H.size) cw ⟨PreC.blind, va_recv C.2.1 hP (ci := ci) (q0 := q0) hc he, PreC.mk C hP hD⟩ rfl hn hl.1 hst (lv_room hroom) hdg ⟨Nat.zero_le _, Nat.zero_le _⟩) hS (fun q _ h => hFr q h) hFr (fun u t H1 locs1 ht hvm hw hB hz1 hk1 hS1 => ?_)
  subst hw
  obtain ⟨hP1, hK1, hD1⟩ := hB
  rw [ht] at hP1
  exact k u h2 H1 locs1 ls hP1 (hD1.weaken (fun _ _ _ h => hFr _ h)) hS1 hl
theorem J_callV_SN (C : Cxt p s m args c cc nL Ts own D tys A) {f : Option (St)} {G : St → Option α} {st0 : List Value} {y : MethodName} {bytes : ByteArray} {maxL n index : Nat} {ret : Option FieldType} {ws : List Cond} {rm : Room} (As : List Value) {host : String} (hf : ∀ σ1, f = some σ1 → MV l D tys w y ws rm As σ σ1) (cw : va_CN R s args own index y host bytes maxL ret ws rm 0 0 n ∧ (Cond.static y).before args s = true ∧ True) (hn : As.length = n) (hst : st0 = As.reverse ++ st) (hroom : (st.map fun v => v.category).sum ≤ 8) (hdg : decode cc pc = .ok (.invokestatic index, 3)) (k : ∀ σ1, J p l e R s m args below meth c nL D A w Q o0 (G σ1) σ1 (pc + 3) lv st) : J p l e R s m args below meth c nL D A w Q o0 (f.bind G) σ pc lv st0 := by
  intro hF H locs ls hP hD hS hl
  obtain ⟨σ1, h1, h2⟩ := Option.bind_eq_some_iff.mp hF
  have hFr := freeW C hD hS
  refine va_callv (va_runSN (As := As) (rest := st) C.1 (hf σ1 h1 H.size) cw ⟨PreC.blind, PreC.mk C hP hD⟩ rfl hn hl.1 hst (lv_room hroom) hdg ⟨Nat.zero_le _, Nat.zero_le _⟩) hS (fun q _ h => hFr q h) hFr (fun u t H1 locs1 ht hvm hw hB hz1 hk1 hS1 => ?_)
  subst hw
  obtain ⟨hP1, hK1, hD1⟩ := hB
  rw [ht] at hP1
  exact k u h2 H1 locs1 ls hP1 (hD1.weaken (fun _ _ _ h => hFr _ h)) hS1 hl
theorem J_callP_V (C : Cxt p s m args c cc nL Ts own D tys A) {f : Option (Int32)} {G : Int32 → Option α} {st0 : List Value} {y : MethodName} {bytes : ByteArray} {maxL n index : Nat} {ret : Option FieldType} {ws : List Cond} {rm : Room} (As : List Value) {C1 : String} (q0 ci : Nat) {fs : List Value} {b : Nat} {T : u_T} {N : Nat} (hc : vwCl[ci]? = some (C1, T, N)) (he : (w σ)[q0]? = some (b, .inr (ci, fs))) (hf : ∀ r, f = some r → MI l D tys w y ws rm (.ref b :: As) σ r σ) (cw : CallW R s args own C1 index y bytes maxL ret ws rm 0 0 n) (hn : As.length = n) (hst : st0 = As.reverse ++ .ref b :: st) (hroom : (st.map fun v => v.category).sum ≤ 8) (hdg : decode cc pc = .ok (.invokevirtual index, 3)) (k : ∀ r, J p l e R s m args below meth c nL D A w Q o0 (G r) σ (pc + 3) lv (.int r :: st)) : J p l e R s m args below meth c nL D A w Q o0 (f.bind G) σ pc lv st0 := by
  intro hF H locs ls hP hD hS hl
  obtain ⟨r1, h1, h2⟩ := Option.bind_eq_some_iff.mp hF
  have hFr := freeW C hD hS
  refine va_calli (va_runV (As := As) (rest := st) C.1 (hf r1 h1 H.size) cw ⟨PreC.blind, va_recv C.2.1 hP (ci := ci) (q0 := q0) hc he, PreC.mk C hP hD⟩ rfl hn hl.1 hst (lv_room hroom) hdg ⟨Nat.zero_le _, Nat.zero_le _⟩) hS (fun q _ h => hFr q h) hFr (fun r2 u t H1 locs1 ht hvm hw hB hz1 hk1 hS1 => ?_)
  obtain ⟨hw1, hw2⟩ := hw
  subst hw1
  subst hw2
  obtain ⟨hP1, hK1, hD1⟩ := hB
  rw [ht] at hP1
  exact k r2 h2 H1 locs1 ls hP1 (hD1.weaken (fun _ _ _ h => hFr _ h)) hS1 hl
theorem J_callP_S (C : Cxt p s m args c cc nL Ts own D tys A) {f : Option (Int32)} {G : Int32 → Option α} {st0 : List Value} {y : MethodName} {bytes : ByteArray} {maxL n index : Nat} {ret : Option FieldType} {ws : List Cond} {rm : Room} (As : List Value) (hf : ∀ r, f = some r → MI l D tys w y ws rm As σ r σ) (cw : CallB R s args own index y bytes maxL ret ws rm 0 0 n ∧ (Cond.static y).before args s = true) (hn : As.length = n) (hst : st0 = As.reverse ++ st) (hroom : (st.map fun v => v.category).sum ≤ 8) (hdg : decode cc pc = .ok (.invokestatic index, 3)) (k : ∀ r, J p l e R s m args below meth c nL D A w Q o0 (G r) σ (pc + 3) lv (.int r :: st)) : J p l e R s m args below meth c nL D A w Q o0 (f.bind G) σ pc lv st0 := by
  intro hF H locs ls hP hD hS hl
  obtain ⟨r1, h1, h2⟩ := Option.bind_eq_some_iff.mp hF
  have hFr := freeW C hD hS
  refine va_calli (va_runS (As := As) (rest := st) C.1 (hf r1 h1 H.size) cw ⟨PreC.blind, PreC.mk C hP hD⟩ rfl hn hl.1 hst (lv_room hroom) hdg ⟨Nat.zero_le _, Nat.zero_le _⟩) hS (fun q _ h => hFr q h) hFr (fun r2 u t H1 locs1 ht hvm hw hB hz1 hk1 hS1 => ?_)
  obtain ⟨hw1, hw2⟩ := hw
  subst hw1
  subst hw2
  obtain ⟨hP1, hK1, hD1⟩ := hB
  rw [ht] at hP1
  exact k r2 h2 H1 locs1 ls hP1 (hD1.weaken (fun _ _ _ h => hFr _ h)) hS1 hl
theorem J_callP_VN (C : Cxt p s m args c cc nL Ts own D tys A) {f : Option (Int32)} {G : Int32 → Option α} {st0 : List Value} {y : MethodName} {bytes : ByteArray} {maxL n index : Nat} {ret : Option FieldType} {ws : List Cond} {rm : Room} (As : List Value) {host : String} {C1 : String} (q0 ci : Nat) {fs : List Value} {b : Nat} {T : u_T} {N : Nat} (hc : vwCl[ci]? = some (C1, T, N)) (he : (w σ)[q0]? = some (b, .inr (ci, fs))) (hf : ∀ r, f = some r → MI l D tys w y ws rm (.ref b :: As) σ r σ) (cw : va_CN R s args own index y host bytes maxL ret ws rm 0 0 n ∧ (Cond.instanceMethod y).before args s = true ∧ (Cond.selects C1 y y).before args s = true) (hn : As.length = n) (hst : st0 = As.reverse ++ .ref b :: st) (hroom : (st.map fun v => v.category).sum ≤ 8) (hdg : decode cc pc = .ok (.invokevirtual index, 3)) (k : ∀ r, J p l e R s m args below meth c nL D A w Q o0 (G r) σ (pc + 3) lv (.int r :: st)) : J p l e R s m args below meth c nL D A w Q o0 (f.bind G) σ pc lv st0 := by
  intro hF H locs ls hP hD hS hl
  obtain ⟨r1, h1, h2⟩ := Option.bind_eq_some_iff.mp hF
  have hFr := freeW C hD hS
  refine va_calli (va_runVN (As := As) (rest := st) C.1 (hf r1 h1 H.size) cw ⟨PreC.blind, va_recv C.2.1 hP (ci := ci) (q0 := q0) hc he, PreC.mk C hP hD⟩ rfl hn hl.1 hst (lv_room hroom) hdg ⟨Nat.zero_le _, Nat.zero_le _⟩) hS (fun q _ h => hFr q h) hFr (fun r2 u t H1 locs1 ht hvm hw hB hz1 hk1 hS1 => ?_)
  obtain ⟨hw1, hw2⟩ := hw
  subst hw1
  subst hw2
  obtain ⟨hP1, hK1, hD1⟩ := hB
  rw [ht] at hP1
  exact k r2 h2 H1 locs1 ls hP1 (hD1.weaken (fun _ _ _ h => hFr _ h)) hS1 hl
theorem J_callP_SN (C : Cxt p s m args c cc nL Ts own D tys A) {f : Option (Int32)} {G : Int32 → Option α} {st0 : List Value} {y : MethodName} {bytes : ByteArray} {maxL n index : Nat} {ret : Option FieldType} {ws : List Cond} {rm : Room} (As : List Value) {host : String} (hf : ∀ r, f = some r → MI l D tys w y ws rm As σ r σ) (cw : va_CN R s args own index y host bytes maxL ret ws rm 0 0 n ∧ (Cond.static y).before args s = true ∧ True) (hn : As.length = n) (hst : st0 = As.reverse ++ st) (hroom : (st.map fun v => v.category).sum ≤ 8) (hdg : decode cc pc = .ok (.invokestatic index, 3)) (k : ∀ r, J p l e R s m args below meth c nL D A w Q o0 (G r) σ (pc + 3) lv (.int r :: st)) : J p l e R s m args below meth c nL D A w Q o0 (f.bind G) σ pc lv st0 := by
  intro hF H locs ls hP hD hS hl
  obtain ⟨r1, h1, h2⟩ := Option.bind_eq_some_iff.mp hF
  have hFr := freeW C hD hS
  refine va_calli (va_runSN (As := As) (rest := st) C.1 (hf r1 h1 H.size) cw ⟨PreC.blind, PreC.mk C hP hD⟩ rfl hn hl.1 hst (lv_room hroom) hdg ⟨Nat.zero_le _, Nat.zero_le _⟩) hS (fun q _ h => hFr q h) hFr (fun r2 u t H1 locs1 ht hvm hw hB hz1 hk1 hS1 => ?_)
  obtain ⟨hw1, hw2⟩ := hw
  subst hw1
  subst hw2
  obtain ⟨hP1, hK1, hD1⟩ := hB
  rw [ht] at hP1
  exact k r2 h2 H1 locs1 ls hP1 (hD1.weaken (fun _ _ _ h => hFr _ h)) hS1 hl
end JJ
theorem entryV {l : Launch} {D : va_G} {tys : List (ClassId × FieldType)} {w : St → va_W} {y : MethodName} {ws ws' : List Cond} {rm : Room} {cc : ByteArray} {maxL : Nat} {own : String} {argv : List Value} {σ : St} (σ1 : St) (hy : plainName y.cls = true) (hw : ws = Cond.code y cc maxL none :: ws') (hown : y.cls = own) (hlen : (lg_sl argv).length ≤ maxL) (F : Option (St)) (h : F = some σ1)
    (body : ∀ (p : Program) (e : Env) (s : State) (m : MethodId) (below : List Frame) (meth : Method) (c : Code) (Q : State → Prop) (A : Nat → Prop), Cxt p s m argv.toArray c cc maxL ws own D tys A → (∀ (σ2 : St) (pc : Nat) (lv : List (Nat × Value)), decode cc pc = .ok (.return_, 1) → J p l e rm s m argv.toArray below meth c maxL D A w Q σ1 (some σ2) σ2 pc lv []) → J p l e rm s m argv.toArray below meth c maxL D A w Q σ1 F σ 0 (lv_args 0 argv) []) : MV l D tys w y ws rm argv σ σ1 := by
  intro sz
  refine Met.ofW (cc := cc) (maxL := maxL) (ret := none) hy hw ?_
  intro p e s m args below meth c s₁ B hml hv
  obtain ⟨rfl, hsz, hP, hK, hD0, hN⟩ := hv
  have hx := B.exec
  have hb := B.bytes
  have hr := B.returns
  have hts := atoms_spec (ws := ws) B.pre
  have hown2 : s.vm.findClass own = some m.cls := by rw [← hown]; exact findClass_of_methodNamed B.named
  have hlocks := B.notSynchronized
  subst hsz
  have hD := hD0.self (sz := s.heap.size)
  generalize hAe : va_A (w σ) s.heap.size = A at hD ⊢
  have hA : ∀ q : Nat, s.heap.size ≤ q → A q := fun q h => by rw [← hAe]; exact Or.inr h
  have hS : va_S A s.heap s.heap [] := va_S.rf
  have hl := lv_entry argv (n := maxL) hlen
  rw [lg_entry_eq]
  refine body p e s m below meth c _ A ⟨⟨hx, hb, hml, hown2, hts⟩, hK, hA, hN⟩ ?_ h s.heap [] _ hP hD hS hl
  · intro σ2 pc lv hdg hF H locs ls hP hD hS hl
    have hF := Option.some.inj hF
    subst hF
    exact W.vret hx hb hr (fun t ht hW => ⟨⟨_, rfl, rfl, by rw [ht]; exact hP, va_K.moved hW.alike hK, hD⟩, hS.F ht⟩) hS.2.2 hdg
theorem entryI {l : Launch} {D : va_G} {tys : List (ClassId × FieldType)} {w : St → va_W} {y : MethodName} {ws ws' : List Cond} {rm : Room} {cc : ByteArray} {maxL : Nat} {own : String} {argv : List Value} {σ : St} (r : Int32) (σ1 : St) (hy : plainName y.cls = true) (hw : ws = Cond.code y cc maxL (some .int) :: ws') (hown : y.cls = own) (hlen : (lg_sl argv).length ≤ maxL) (F : Option (Int32 × St)) (h : F = some (r, σ1))
    (body : ∀ (p : Program) (e : Env) (s : State) (m : MethodId) (below : List Frame) (meth : Method) (c : Code) (Q : State → Prop) (A : Nat → Prop), Cxt p s m argv.toArray c cc maxL ws own D tys A → (∀ (v : Int32) (σ2 : St) (pc : Nat) (lv : List (Nat × Value)), decode cc pc = .ok (.ireturn, 1) → J p l e rm s m argv.toArray below meth c maxL D A w Q (r, σ1) (some (v, σ2)) σ2 pc lv [.int v]) → J p l e rm s m argv.toArray below meth c maxL D A w Q (r, σ1) F σ 0 (lv_args 0 argv) []) : MI l D tys w y ws rm argv σ r σ1 := by
  intro sz
  refine Met.ofW (cc := cc) (maxL := maxL) (ret := (some .int)) hy hw ?_
  intro p e s m args below meth c s₁ B hml hv
  obtain ⟨rfl, hsz, hP, hK, hD0, hN⟩ := hv
  have hx := B.exec
  have hb := B.bytes
  have hr := B.returns
  have hts := atoms_spec (ws := ws) B.pre
  have hown2 : s.vm.findClass own = some m.cls := by rw [← hown]; exact findClass_of_methodNamed B.named
  have hlocks := B.notSynchronized
  subst hsz
  have hD := hD0.self (sz := s.heap.size)
  generalize hAe : va_A (w σ) s.heap.size = A at hD ⊢
  have hA : ∀ q : Nat, s.heap.size ≤ q → A q := fun q h => by rw [← hAe]; exact Or.inr h
  have hS : va_S A s.heap s.heap [] := va_S.rf
  have hl := lv_entry argv (n := maxL) hlen
  rw [lg_entry_eq]
  refine body p e s m below meth c _ A ⟨⟨hx, hb, hml, hown2, hts⟩, hK, hA, hN⟩ ?_ h s.heap [] _ hP hD hS hl
  · intro v σ2 pc lv hdg hF H locs ls hP hD hS hl
    have hF := Option.some.inj hF
    injection hF with hF1 hF2
    subst hF1
    subst hF2
    exact W.iret hx hb hr (fun t ht hW => ⟨⟨_, _, rfl, ⟨rfl, rfl⟩, by rw [ht]; exact hP, va_K.moved hW.alike hK, hD⟩, hS.F ht⟩) hS.2.2 hdg
theorem entryZ {l : Launch} {D : va_G} {tys : List (ClassId × FieldType)} {w : St → va_W} {y : MethodName} {ws ws' : List Cond} {rm : Room} {cc : ByteArray} {maxL : Nat} {own : String} {argv : List Value} {σ : St} (r : Int32) (σ1 : St) (hy : plainName y.cls = true) (hw : ws = Cond.code y cc maxL (some .boolean) :: ws') (hown : y.cls = own) (hlen : (lg_sl argv).length ≤ maxL) (F : Option (Int32 × St)) (h : F = some (r, σ1))
    (body : ∀ (p : Program) (e : Env) (s : State) (m : MethodId) (below : List Frame) (meth : Method) (c : Code) (Q : State → Prop) (A : Nat → Prop), Cxt p s m argv.toArray c cc maxL ws own D tys A → (∀ (v : Int32) (σ2 : St) (pc : Nat) (lv : List (Nat × Value)), narrow .boolean (.int v) = .int v → decode cc pc = .ok (.ireturn, 1) → J p l e rm s m argv.toArray below meth c maxL D A w Q (r, σ1) (some (v, σ2)) σ2 pc lv [.int v]) → J p l e rm s m argv.toArray below meth c maxL D A w Q (r, σ1) F σ 0 (lv_args 0 argv) []) : MI l D tys w y ws rm argv σ r σ1 := by
  intro sz
  refine Met.ofW (cc := cc) (maxL := maxL) (ret := (some .boolean)) hy hw ?_
  intro p e s m args below meth c s₁ B hml hv
  obtain ⟨rfl, hsz, hP, hK, hD0, hN⟩ := hv
  have hx := B.exec
  have hb := B.bytes
  have hr := B.returns
  have hts := atoms_spec (ws := ws) B.pre
  have hown2 : s.vm.findClass own = some m.cls := by rw [← hown]; exact findClass_of_methodNamed B.named
  have hlocks := B.notSynchronized
  subst hsz
  have hD := hD0.self (sz := s.heap.size)
  generalize hAe : va_A (w σ) s.heap.size = A at hD ⊢
  have hA : ∀ q : Nat, s.heap.size ≤ q → A q := fun q h => by rw [← hAe]; exact Or.inr h
  have hS : va_S A s.heap s.heap [] := va_S.rf
  have hl := lv_entry argv (n := maxL) hlen
  rw [lg_entry_eq]
  refine body p e s m below meth c _ A ⟨⟨hx, hb, hml, hown2, hts⟩, hK, hA, hN⟩ ?_ h s.heap [] _ hP hD hS hl
  · intro v σ2 pc lv hnar hdg hF H locs ls hP hD hS hl
    have hF := Option.some.inj hF
    injection hF with hF1 hF2
    subst hF1
    subst hF2
    exact W.zret hx hb hr hnar (fun t ht hW => ⟨⟨_, _, rfl, ⟨rfl, rfl⟩, by rw [ht]; exact hP, va_K.moved hW.alike hK, hD⟩, hS.F ht⟩) hS.2.2 hdg
theorem entryPI {l : Launch} {D : va_G} {tys : List (ClassId × FieldType)} {w : St → va_W} {y : MethodName} {ws ws' : List Cond} {rm : Room} {cc : ByteArray} {maxL : Nat} {own : String} {argv : List Value} {σ : St} (r : Int32) (hy : plainName y.cls = true) (hw : ws = Cond.code y cc maxL (some .int) :: ws') (hown : y.cls = own) (hlen : (lg_sl argv).length ≤ maxL) (F : Option (Int32)) (h : F = some r)
    (body : ∀ (p : Program) (e : Env) (s : State) (m : MethodId) (below : List Frame) (meth : Method) (c : Code) (Q : State → Prop) (A : Nat → Prop), Cxt p s m argv.toArray c cc maxL ws own D tys A → (∀ (v : Int32) (pc : Nat) (lv : List (Nat × Value)), decode cc pc = .ok (.ireturn, 1) → J p l e rm s m argv.toArray below meth c maxL D A w Q r (some v) σ pc lv [.int v]) → J p l e rm s m argv.toArray below meth c maxL D A w Q r F σ 0 (lv_args 0 argv) []) : MI l D tys w y ws rm argv σ r σ := by
  intro sz
  refine Met.ofW (cc := cc) (maxL := maxL) (ret := (some .int)) hy hw ?_
  intro p e s m args below meth c s₁ B hml hv
  obtain ⟨rfl, hsz, hP, hK, hD0, hN⟩ := hv
  have hx := B.exec
  have hb := B.bytes
  have hr := B.returns
  have hts := atoms_spec (ws := ws) B.pre
  have hown2 : s.vm.findClass own = some m.cls := by rw [← hown]; exact findClass_of_methodNamed B.named
  have hlocks := B.notSynchronized
  subst hsz
  have hD := hD0.self (sz := s.heap.size)
  generalize hAe : va_A (w σ) s.heap.size = A at hD ⊢
  have hA : ∀ q : Nat, s.heap.size ≤ q → A q := fun q h => by rw [← hAe]; exact Or.inr h
  have hS : va_S A s.heap s.heap [] := va_S.rf
  have hl := lv_entry argv (n := maxL) hlen
  rw [lg_entry_eq]
  refine body p e s m below meth c _ A ⟨⟨hx, hb, hml, hown2, hts⟩, hK, hA, hN⟩ ?_ h s.heap [] _ hP hD hS hl
  · intro v pc lv hdg hF H locs ls hP hD hS hl
    have hF := Option.some.inj hF
    subst hF
    exact W.iret hx hb hr (fun t ht hW => ⟨⟨_, _, rfl, ⟨rfl, rfl⟩, by rw [ht]; exact hP, va_K.moved hW.alike hK, hD⟩, hS.F ht⟩) hS.2.2 hdg
theorem entryPZ {l : Launch} {D : va_G} {tys : List (ClassId × FieldType)} {w : St → va_W} {y : MethodName} {ws ws' : List Cond} {rm : Room} {cc : ByteArray} {maxL : Nat} {own : String} {argv : List Value} {σ : St} (r : Int32) (hy : plainName y.cls = true) (hw : ws = Cond.code y cc maxL (some .boolean) :: ws') (hown : y.cls = own) (hlen : (lg_sl argv).length ≤ maxL) (F : Option (Int32)) (h : F = some r)
    (body : ∀ (p : Program) (e : Env) (s : State) (m : MethodId) (below : List Frame) (meth : Method) (c : Code) (Q : State → Prop) (A : Nat → Prop), Cxt p s m argv.toArray c cc maxL ws own D tys A → (∀ (v : Int32) (pc : Nat) (lv : List (Nat × Value)), narrow .boolean (.int v) = .int v → decode cc pc = .ok (.ireturn, 1) → J p l e rm s m argv.toArray below meth c maxL D A w Q r (some v) σ pc lv [.int v]) → J p l e rm s m argv.toArray below meth c maxL D A w Q r F σ 0 (lv_args 0 argv) []) : MI l D tys w y ws rm argv σ r σ := by
  intro sz
  refine Met.ofW (cc := cc) (maxL := maxL) (ret := (some .boolean)) hy hw ?_
  intro p e s m args below meth c s₁ B hml hv
  obtain ⟨rfl, hsz, hP, hK, hD0, hN⟩ := hv
  have hx := B.exec
  have hb := B.bytes
  have hr := B.returns
  have hts := atoms_spec (ws := ws) B.pre
  have hown2 : s.vm.findClass own = some m.cls := by rw [← hown]; exact findClass_of_methodNamed B.named
  have hlocks := B.notSynchronized
  subst hsz
  have hD := hD0.self (sz := s.heap.size)
  generalize hAe : va_A (w σ) s.heap.size = A at hD ⊢
  have hA : ∀ q : Nat, s.heap.size ≤ q → A q := fun q h => by rw [← hAe]; exact Or.inr h
  have hS : va_S A s.heap s.heap [] := va_S.rf
  have hl := lv_entry argv (n := maxL) hlen
  rw [lg_entry_eq]
  refine body p e s m below meth c _ A ⟨⟨hx, hb, hml, hown2, hts⟩, hK, hA, hN⟩ ?_ h s.heap [] _ hP hD hS hl
  · intro v pc lv hnar hdg hF H locs ls hP hD hS hl
    have hF := Option.some.inj hF
    subst hF
    exact W.zret hx hb hr hnar (fun t ht hW => ⟨⟨_, _, rfl, ⟨rfl, rfl⟩, by rw [ht]; exact hP, va_K.moved hW.alike hK, hD⟩, hS.F ht⟩) hS.2.2 hdg
def loop0s {α : Type} (body : (St → Option α) → St → Option α) : Nat → St → Option α
  | 0 => fun _ => none
  | n + 1 => body (loop0s body n)
theorem J_loop0s {p : Program} {l : Launch} {e : Env} {R : Room} {s : State} {m : MethodId} {args : Array Value} {below : List Frame} {meth : Method} {c : Code} {nL : Nat} {D : va_G} {A : Nat → Prop} {w : St → va_W} {Q : State → Prop} {α : Type} {o0 : α} {pc : Nat} (lf : List (Nat × Value)) (body : (St → Option α) → St → Option α)
    (h : ∀ K : St → Option α, (∀ (σ : St), J p l e R s m args below meth c nL D A w Q o0 (K σ) σ pc lf []) → ∀ (σ : St), J p l e R s m args below meth c nL D A w Q o0 (body K σ) σ pc lf []) : ∀ (n : Nat) (σ : St), J p l e R s m args below meth c nL D A w Q o0 (loop0s body n σ) σ pc lf [] := by
  intro n
  induction n with
  | zero => intro σ h0; cases h0
  | succ n ih => exact h _ ih
def loop1s {α : Type} (body : (Int32 → St → Option α) → Int32 → St → Option α) : Nat → Int32 → St → Option α
  | 0 => fun _ _ => none
  | n + 1 => body (loop1s body n)
theorem J_loop1s {p : Program} {l : Launch} {e : Env} {R : Room} {s : State} {m : MethodId} {args : Array Value} {below : List Frame} {meth : Method} {c : Code} {nL : Nat} {D : va_G} {A : Nat → Prop} {w : St → va_W} {Q : State → Prop} {α : Type} {o0 : α} {pc : Nat} (lf : Int32 → List (Nat × Value)) (body : (Int32 → St → Option α) → Int32 → St → Option α)
    (h : ∀ K : Int32 → St → Option α, (∀ (x0 : Int32) (σ : St), J p l e R s m args below meth c nL D A w Q o0 (K x0 σ) σ pc (lf x0) []) → ∀ (x0 : Int32) (σ : St), J p l e R s m args below meth c nL D A w Q o0 (body K x0 σ) σ pc (lf x0) []) : ∀ (n : Nat) (x0 : Int32) (σ : St), J p l e R s m args below meth c nL D A w Q o0 (loop1s body n x0 σ) σ pc (lf x0) [] := by
  intro n
  induction n with
  | zero => intro x0 σ h0; cases h0
  | succ n ih => exact h _ ih
def loop1 {α : Type} (body : (Int32 → Option α) → Int32 → Option α) : Nat → Int32 → Option α
  | 0 => fun _ => none
  | n + 1 => body (loop1 body n)
theorem J_loop1 {p : Program} {l : Launch} {e : Env} {R : Room} {s : State} {m : MethodId} {args : Array Value} {below : List Frame} {meth : Method} {c : Code} {nL : Nat} {D : va_G} {A : Nat → Prop} {w : St → va_W} {Q : State → Prop} {α : Type} {o0 : α} {pc : Nat} {σ : St} (lf : Int32 → List (Nat × Value)) (body : (Int32 → Option α) → Int32 → Option α)
    (h : ∀ K : Int32 → Option α, (∀ (x0 : Int32), J p l e R s m args below meth c nL D A w Q o0 (K x0) σ pc (lf x0) []) → ∀ (x0 : Int32), J p l e R s m args below meth c nL D A w Q o0 (body K x0) σ pc (lf x0) []) : ∀ (n : Nat) (x0 : Int32), J p l e R s m args below meth c nL D A w Q o0 (loop1 body n x0) σ pc (lf x0) [] := by
  intro n
  induction n with
  | zero => intro x0 h0; cases h0
  | succ n ih => exact h _ ih
def loop2s {α : Type} (body : (Int32 → Int32 → St → Option α) → Int32 → Int32 → St → Option α) : Nat → Int32 → Int32 → St → Option α
  | 0 => fun _ _ _ => none
  | n + 1 => body (loop2s body n)
theorem J_loop2s {p : Program} {l : Launch} {e : Env} {R : Room} {s : State} {m : MethodId} {args : Array Value} {below : List Frame} {meth : Method} {c : Code} {nL : Nat} {D : va_G} {A : Nat → Prop} {w : St → va_W} {Q : State → Prop} {α : Type} {o0 : α} {pc : Nat} (lf : Int32 → Int32 → List (Nat × Value)) (body : (Int32 → Int32 → St → Option α) → Int32 → Int32 → St → Option α)
    (h : ∀ K : Int32 → Int32 → St → Option α, (∀ (x0 x1 : Int32) (σ : St), J p l e R s m args below meth c nL D A w Q o0 (K x0 x1 σ) σ pc (lf x0 x1) []) → ∀ (x0 x1 : Int32) (σ : St), J p l e R s m args below meth c nL D A w Q o0 (body K x0 x1 σ) σ pc (lf x0 x1) []) : ∀ (n : Nat) (x0 x1 : Int32) (σ : St), J p l e R s m args below meth c nL D A w Q o0 (loop2s body n x0 x1 σ) σ pc (lf x0 x1) [] := by
  intro n
  induction n with
  | zero => intro x0 x1 σ h0; cases h0
  | succ n ih => exact h _ ih
def loop2 {α : Type} (body : (Int32 → Int32 → Option α) → Int32 → Int32 → Option α) : Nat → Int32 → Int32 → Option α
  | 0 => fun _ _ => none
  | n + 1 => body (loop2 body n)
theorem J_loop2 {p : Program} {l : Launch} {e : Env} {R : Room} {s : State} {m : MethodId} {args : Array Value} {below : List Frame} {meth : Method} {c : Code} {nL : Nat} {D : va_G} {A : Nat → Prop} {w : St → va_W} {Q : State → Prop} {α : Type} {o0 : α} {pc : Nat} {σ : St} (lf : Int32 → Int32 → List (Nat × Value)) (body : (Int32 → Int32 → Option α) → Int32 → Int32 → Option α)
    (h : ∀ K : Int32 → Int32 → Option α, (∀ (x0 x1 : Int32), J p l e R s m args below meth c nL D A w Q o0 (K x0 x1) σ pc (lf x0 x1) []) → ∀ (x0 x1 : Int32), J p l e R s m args below meth c nL D A w Q o0 (body K x0 x1) σ pc (lf x0 x1) []) : ∀ (n : Nat) (x0 x1 : Int32), J p l e R s m args below meth c nL D A w Q o0 (loop2 body n x0 x1) σ pc (lf x0 x1) [] := by
  intro n
  induction n with
  | zero => intro x0 x1 h0; cases h0
  | succ n ih => exact h _ ih
def loop3s {α : Type} (body : (Int32 → Int32 → Int32 → St → Option α) → Int32 → Int32 → Int32 → St → Option α) : Nat → Int32 → Int32 → Int32 → St → Option α
  | 0 => fun _ _ _ _ => none
  | n + 1 => body (loop3s body n)
theorem J_loop3s {p : Program} {l : Launch} {e : Env} {R : Room} {s : State} {m : MethodId} {args : Array Value} {below : List Frame} {meth : Method} {c : Code} {nL : Nat} {D : va_G} {A : Nat → Prop} {w : St → va_W} {Q : State → Prop} {α : Type} {o0 : α} {pc : Nat} (lf : Int32 → Int32 → Int32 → List (Nat × Value)) (body : (Int32 → Int32 → Int32 → St → Option α) → Int32 → Int32 → Int32 → St → Option α)
    (h : ∀ K : Int32 → Int32 → Int32 → St → Option α, (∀ (x0 x1 x2 : Int32) (σ : St), J p l e R s m args below meth c nL D A w Q o0 (K x0 x1 x2 σ) σ pc (lf x0 x1 x2) []) → ∀ (x0 x1 x2 : Int32) (σ : St), J p l e R s m args below meth c nL D A w Q o0 (body K x0 x1 x2 σ) σ pc (lf x0 x1 x2) []) : ∀ (n : Nat) (x0 x1 x2 : Int32) (σ : St), J p l e R s m args below meth c nL D A w Q o0 (loop3s body n x0 x1 x2 σ) σ pc (lf x0 x1 x2) [] := by
  intro n
  induction n with
  | zero => intro x0 x1 x2 σ h0; cases h0
  | succ n ih => exact h _ ih
def loop3 {α : Type} (body : (Int32 → Int32 → Int32 → Option α) → Int32 → Int32 → Int32 → Option α) : Nat → Int32 → Int32 → Int32 → Option α
  | 0 => fun _ _ _ => none
  | n + 1 => body (loop3 body n)
theorem J_loop3 {p : Program} {l : Launch} {e : Env} {R : Room} {s : State} {m : MethodId} {args : Array Value} {below : List Frame} {meth : Method} {c : Code} {nL : Nat} {D : va_G} {A : Nat → Prop} {w : St → va_W} {Q : State → Prop} {α : Type} {o0 : α} {pc : Nat} {σ : St} (lf : Int32 → Int32 → Int32 → List (Nat × Value)) (body : (Int32 → Int32 → Int32 → Option α) → Int32 → Int32 → Int32 → Option α)
    (h : ∀ K : Int32 → Int32 → Int32 → Option α, (∀ (x0 x1 x2 : Int32), J p l e R s m args below meth c nL D A w Q o0 (K x0 x1 x2) σ pc (lf x0 x1 x2) []) → ∀ (x0 x1 x2 : Int32), J p l e R s m args below meth c nL D A w Q o0 (body K x0 x1 x2) σ pc (lf x0 x1 x2) []) : ∀ (n : Nat) (x0 x1 x2 : Int32), J p l e R s m args below meth c nL D A w Q o0 (loop3 body n x0 x1 x2) σ pc (lf x0 x1 x2) [] := by
  intro n
  induction n with
  | zero => intro x0 x1 x2 h0; cases h0
  | succ n ih => exact h _ ih
def loop4s {α : Type} (body : (Int32 → Int32 → Int32 → Int32 → St → Option α) → Int32 → Int32 → Int32 → Int32 → St → Option α) : Nat → Int32 → Int32 → Int32 → Int32 → St → Option α
  | 0 => fun _ _ _ _ _ => none
  | n + 1 => body (loop4s body n)
theorem J_loop4s {p : Program} {l : Launch} {e : Env} {R : Room} {s : State} {m : MethodId} {args : Array Value} {below : List Frame} {meth : Method} {c : Code} {nL : Nat} {D : va_G} {A : Nat → Prop} {w : St → va_W} {Q : State → Prop} {α : Type} {o0 : α} {pc : Nat} (lf : Int32 → Int32 → Int32 → Int32 → List (Nat × Value)) (body : (Int32 → Int32 → Int32 → Int32 → St → Option α) → Int32 → Int32 → Int32 → Int32 → St → Option α)
    (h : ∀ K : Int32 → Int32 → Int32 → Int32 → St → Option α, (∀ (x0 x1 x2 x3 : Int32) (σ : St), J p l e R s m args below meth c nL D A w Q o0 (K x0 x1 x2 x3 σ) σ pc (lf x0 x1 x2 x3) []) → ∀ (x0 x1 x2 x3 : Int32) (σ : St), J p l e R s m args below meth c nL D A w Q o0 (body K x0 x1 x2 x3 σ) σ pc (lf x0 x1 x2 x3) []) : ∀ (n : Nat) (x0 x1 x2 x3 : Int32) (σ : St), J p l e R s m args below meth c nL D A w Q o0 (loop4s body n x0 x1 x2 x3 σ) σ pc (lf x0 x1 x2 x3) [] := by
  intro n
  induction n with
  | zero => intro x0 x1 x2 x3 σ h0; cases h0
  | succ n ih => exact h _ ih
def loop4 {α : Type} (body : (Int32 → Int32 → Int32 → Int32 → Option α) → Int32 → Int32 → Int32 → Int32 → Option α) : Nat → Int32 → Int32 → Int32 → Int32 → Option α
  | 0 => fun _ _ _ _ => none
  | n + 1 => body (loop4 body n)
theorem J_loop4 {p : Program} {l : Launch} {e : Env} {R : Room} {s : State} {m : MethodId} {args : Array Value} {below : List Frame} {meth : Method} {c : Code} {nL : Nat} {D : va_G} {A : Nat → Prop} {w : St → va_W} {Q : State → Prop} {α : Type} {o0 : α} {pc : Nat} {σ : St} (lf : Int32 → Int32 → Int32 → Int32 → List (Nat × Value)) (body : (Int32 → Int32 → Int32 → Int32 → Option α) → Int32 → Int32 → Int32 → Int32 → Option α)
    (h : ∀ K : Int32 → Int32 → Int32 → Int32 → Option α, (∀ (x0 x1 x2 x3 : Int32), J p l e R s m args below meth c nL D A w Q o0 (K x0 x1 x2 x3) σ pc (lf x0 x1 x2 x3) []) → ∀ (x0 x1 x2 x3 : Int32), J p l e R s m args below meth c nL D A w Q o0 (body K x0 x1 x2 x3) σ pc (lf x0 x1 x2 x3) []) : ∀ (n : Nat) (x0 x1 x2 x3 : Int32), J p l e R s m args below meth c nL D A w Q o0 (loop4 body n x0 x1 x2 x3) σ pc (lf x0 x1 x2 x3) [] := by
  intro n
  induction n with
  | zero => intro x0 x1 x2 x3 h0; cases h0
  | succ n ih => exact h _ ih
def loop5s {α : Type} (body : (Int32 → Int32 → Int32 → Int32 → Int32 → St → Option α) → Int32 → Int32 → Int32 → Int32 → Int32 → St → Option α) : Nat → Int32 → Int32 → Int32 → Int32 → Int32 → St → Option α
  | 0 => fun _ _ _ _ _ _ => none
  | n + 1 => body (loop5s body n)
theorem J_loop5s {p : Program} {l : Launch} {e : Env} {R : Room} {s : State} {m : MethodId} {args : Array Value} {below : List Frame} {meth : Method} {c : Code} {nL : Nat} {D : va_G} {A : Nat → Prop} {w : St → va_W} {Q : State → Prop} {α : Type} {o0 : α} {pc : Nat} (lf : Int32 → Int32 → Int32 → Int32 → Int32 → List (Nat × Value)) (body : (Int32 → Int32 → Int32 → Int32 → Int32 → St → Option α) → Int32 → Int32 → Int32 → Int32 → Int32 → St → Option α)
    (h : ∀ K : Int32 → Int32 → Int32 → Int32 → Int32 → St → Option α, (∀ (x0 x1 x2 x3 x4 : Int32) (σ : St), J p l e R s m args below meth c nL D A w Q o0 (K x0 x1 x2 x3 x4 σ) σ pc (lf x0 x1 x2 x3 x4) []) → ∀ (x0 x1 x2 x3 x4 : Int32) (σ : St), J p l e R s m args below meth c nL D A w Q o0 (body K x0 x1 x2 x3 x4 σ) σ pc (lf x0 x1 x2 x3 x4) []) : ∀ (n : Nat) (x0 x1 x2 x3 x4 : Int32) (σ : St), J p l e R s m args below meth c nL D A w Q o0 (loop5s body n x0 x1 x2 x3 x4 σ) σ pc (lf x0 x1 x2 x3 x4) [] := by
  intro n
  induction n with
  | zero => intro x0 x1 x2 x3 x4 σ h0; cases h0
  | succ n ih => exact h _ ih
def loop5 {α : Type} (body : (Int32 → Int32 → Int32 → Int32 → Int32 → Option α) → Int32 → Int32 → Int32 → Int32 → Int32 → Option α) : Nat → Int32 → Int32 → Int32 → Int32 → Int32 → Option α
  | 0 => fun _ _ _ _ _ => none
  | n + 1 => body (loop5 body n)
theorem J_loop5 {p : Program} {l : Launch} {e : Env} {R : Room} {s : State} {m : MethodId} {args : Array Value} {below : List Frame} {meth : Method} {c : Code} {nL : Nat} {D : va_G} {A : Nat → Prop} {w : St → va_W} {Q : State → Prop} {α : Type} {o0 : α} {pc : Nat} {σ : St} (lf : Int32 → Int32 → Int32 → Int32 → Int32 → List (Nat × Value)) (body : (Int32 → Int32 → Int32 → Int32 → Int32 → Option α) → Int32 → Int32 → Int32 → Int32 → Int32 → Option α)
    (h : ∀ K : Int32 → Int32 → Int32 → Int32 → Int32 → Option α, (∀ (x0 x1 x2 x3 x4 : Int32), J p l e R s m args below meth c nL D A w Q o0 (K x0 x1 x2 x3 x4) σ pc (lf x0 x1 x2 x3 x4) []) → ∀ (x0 x1 x2 x3 x4 : Int32), J p l e R s m args below meth c nL D A w Q o0 (body K x0 x1 x2 x3 x4) σ pc (lf x0 x1 x2 x3 x4) []) : ∀ (n : Nat) (x0 x1 x2 x3 x4 : Int32), J p l e R s m args below meth c nL D A w Q o0 (loop5 body n x0 x1 x2 x3 x4) σ pc (lf x0 x1 x2 x3 x4) [] := by
  intro n
  induction n with
  | zero => intro x0 x1 x2 x3 x4 h0; cases h0
  | succ n ih => exact h _ ih
def loop6s {α : Type} (body : (Int32 → Int32 → Int32 → Int32 → Int32 → Int32 → St → Option α) → Int32 → Int32 → Int32 → Int32 → Int32 → Int32 → St → Option α) : Nat → Int32 → Int32 → Int32 → Int32 → Int32 → Int32 → St → Option α
  | 0 => fun _ _ _ _ _ _ _ => none
  | n + 1 => body (loop6s body n)
theorem J_loop6s {p : Program} {l : Launch} {e : Env} {R : Room} {s : State} {m : MethodId} {args : Array Value} {below : List Frame} {meth : Method} {c : Code} {nL : Nat} {D : va_G} {A : Nat → Prop} {w : St → va_W} {Q : State → Prop} {α : Type} {o0 : α} {pc : Nat} (lf : Int32 → Int32 → Int32 → Int32 → Int32 → Int32 → List (Nat × Value)) (body : (Int32 → Int32 → Int32 → Int32 → Int32 → Int32 → St → Option α) → Int32 → Int32 → Int32 → Int32 → Int32 → Int32 → St → Option α)
    (h : ∀ K : Int32 → Int32 → Int32 → Int32 → Int32 → Int32 → St → Option α, (∀ (x0 x1 x2 x3 x4 x5 : Int32) (σ : St), J p l e R s m args below meth c nL D A w Q o0 (K x0 x1 x2 x3 x4 x5 σ) σ pc (lf x0 x1 x2 x3 x4 x5) []) → ∀ (x0 x1 x2 x3 x4 x5 : Int32) (σ : St), J p l e R s m args below meth c nL D A w Q o0 (body K x0 x1 x2 x3 x4 x5 σ) σ pc (lf x0 x1 x2 x3 x4 x5) []) : ∀ (n : Nat) (x0 x1 x2 x3 x4 x5 : Int32) (σ : St), J p l e R s m args below meth c nL D A w Q o0 (loop6s body n x0 x1 x2 x3 x4 x5 σ) σ pc (lf x0 x1 x2 x3 x4 x5) [] := by
  intro n
  induction n with
  | zero => intro x0 x1 x2 x3 x4 x5 σ h0; cases h0
  | succ n ih => exact h _ ih
def loop6 {α : Type} (body : (Int32 → Int32 → Int32 → Int32 → Int32 → Int32 → Option α) → Int32 → Int32 → Int32 → Int32 → Int32 → Int32 → Option α) : Nat → Int32 → Int32 → Int32 → Int32 → Int32 → Int32 → Option α
  | 0 => fun _ _ _ _ _ _ => none
  | n + 1 => body (loop6 body n)
theorem J_loop6 {p : Program} {l : Launch} {e : Env} {R : Room} {s : State} {m : MethodId} {args : Array Value} {below : List Frame} {meth : Method} {c : Code} {nL : Nat} {D : va_G} {A : Nat → Prop} {w : St → va_W} {Q : State → Prop} {α : Type} {o0 : α} {pc : Nat} {σ : St} (lf : Int32 → Int32 → Int32 → Int32 → Int32 → Int32 → List (Nat × Value)) (body : (Int32 → Int32 → Int32 → Int32 → Int32 → Int32 → Option α) → Int32 → Int32 → Int32 → Int32 → Int32 → Int32 → Option α)
    (h : ∀ K : Int32 → Int32 → Int32 → Int32 → Int32 → Int32 → Option α, (∀ (x0 x1 x2 x3 x4 x5 : Int32), J p l e R s m args below meth c nL D A w Q o0 (K x0 x1 x2 x3 x4 x5) σ pc (lf x0 x1 x2 x3 x4 x5) []) → ∀ (x0 x1 x2 x3 x4 x5 : Int32), J p l e R s m args below meth c nL D A w Q o0 (body K x0 x1 x2 x3 x4 x5) σ pc (lf x0 x1 x2 x3 x4 x5) []) : ∀ (n : Nat) (x0 x1 x2 x3 x4 x5 : Int32), J p l e R s m args below meth c nL D A w Q o0 (loop6 body n x0 x1 x2 x3 x4 x5) σ pc (lf x0 x1 x2 x3 x4 x5) [] := by
  intro n
  induction n with
  | zero => intro x0 x1 x2 x3 x4 x5 h0; cases h0
  | succ n ih => exact h _ ih
