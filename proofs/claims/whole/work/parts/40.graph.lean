/-! ===== bits; forests on five bridges ===== -/
theorem s_l : ∀ n, n < 32 → ((nI n &&& 31).toBitVec.smod 32).toNat = n := by decide +kernel
theorem nx_and (a b : Nat) : nI a &&& nI b = nI (a &&& b) := by
  apply Int32.toBitVec_inj.1
  show BitVec.ofNat 32 a &&& BitVec.ofNat 32 b = BitVec.ofNat 32 (a &&& b)
  apply BitVec.eq_of_getLsbD_eq
  intro i hi
  simp [hi]
theorem nx_or (a b : Nat) : nI a ||| nI b = nI (a ||| b) := by
  apply Int32.toBitVec_inj.1
  show BitVec.ofNat 32 a ||| BitVec.ofNat 32 b = BitVec.ofNat 32 (a ||| b)
  apply BitVec.eq_of_getLsbD_eq
  intro i hi
  simp [hi]
theorem nx_1 : ∀ j, j < 31 → (1 : Int32) <<< (nI j &&& 31) = nI (2 ^ j) := by decide +kernel
theorem and_two {s j : Nat} : (s &&& 2 ^ j = 0) = (s.testBit j = false) := by
  apply propext
  constructor
  · intro h
    have h2 : (s &&& 2 ^ j).testBit j = false := by rw [h, Nat.zero_testBit]
    rw [Nat.testBit_and, Nat.testBit_two_pow_self, Bool.and_true] at h2
    exact h2
  · intro h
    apply Nat.eq_of_testBit_eq
    intro i
    rw [Nat.testBit_and, Nat.testBit_two_pow, Nat.zero_testBit]
    by_cases e : j = i
    · subst e; rw [h]; rfl
    · rw [decide_eq_false e, Bool.and_false]
theorem and_le {s t : Nat} (h : s < 2147483648) : s &&& t < 2147483648 := Nat.lt_of_le_of_lt Nat.and_le_left h
theorem X_has {s j : Nat} (hs : s < 2147483648) (hj : j < 31) (σ : St) : fX4_contains (nI s) (nI j) σ = some (if s.testBit j = true then 1 else 0) := by
  unfold fX4_contains
  simp only [nx_1 j hj, nx_and, nz0 (and_le hs), and_two]
  cases s.testBit j <;> simp
theorem sh_bit {s j : Nat} (hs : s < 2147483648) (hj : j < 31) : ((nI s >>> (nI j &&& 31)) &&& (1 : Int32)) = (if s.testBit j = true then 1 else 0) := by
  rw [pk_shrN (by omega) _ j (s_l j (by omega)), show (1 : Int32) = nI 1 from rfl, nx_and, Nat.and_one_is_mod, Nat.testBit_eq_decide_div_mod_eq]
  by_cases h : s / 2 ^ j % 2 = 1
  · rw [if_pos (decide_eq_true h), h]
  · rw [if_neg (by rw [decide_eq_false h]; decide), show s / 2 ^ j % 2 = 0 by omega]
    rfl
/-! the graph: ten bits -/
def row (g a : Nat) : Nat := match a with
  | 0 => 2 * (g % 16)
  | 1 => g % 2 + 4 * (g / 16 % 8)
  | 2 => g / 2 % 2 + 2 * (g / 16 % 2) + 8 * (g / 128 % 4)
  | 3 => g / 4 % 2 + 2 * (g / 32 % 2) + 4 * (g / 128 % 2) + 16 * (g / 512 % 2)
  | _ => g / 8 % 2 + 2 * (g / 64 % 2) + 4 * (g / 256 % 2) + 8 * (g / 512 % 2)
def adjm (g a b : Nat) : Bool := (row g a).testBit b
def nbs (g s : Nat) : Nat := (if s.testBit 0 = true then row g 0 else 0) ||| ((if s.testBit 1 = true then row g 1 else 0) ||| ((if s.testBit 2 = true then row g 2 else 0) ||| ((if s.testBit 3 = true then row g 3 else 0) ||| (if s.testBit 4 = true then row g 4 else 0))))
def wl (g b : Nat) : Nat → Nat → Nat → Nat
  | 0, _, _ => 0
  | n + 1, c, s => if s.testBit b = true then c else wl g b n (c + 1) (s ||| nbs g s)
def way (g a b : Nat) : Nat := wl g b 5 1 (2 ^ a)
def idx (a b : Nat) : Nat := if a < b then a * (9 - a) / 2 + (b - a - 1) else b * (9 - b) / 2 + (a - b - 1)
def all5 (f : Nat → Bool) : Bool := f 0 && (f 1 && (f 2 && (f 3 && f 4)))
theorem all5_at {f : Nat → Bool} (h : all5 f = true) : ∀ a, a < 5 → f a = true := by
  unfold all5 at h
  simp only [Bool.and_eq_true] at h
  intro a ha
  rcases (show a = 0 ∨ a = 1 ∨ a = 2 ∨ a = 3 ∨ a = 4 by omega) with rfl | rfl | rfl | rfl | rfl
  · exact h.1
  · exact h.2.1
  · exact h.2.2.1
  · exact h.2.2.2.1
  · exact h.2.2.2.2
def b2n (b : Bool) : Nat := if b = true then 1 else 0
/-- edges and components make five: no cycle -/
def acyc (g : Nat) : Bool := Nat.beq (g % 2 + g / 2 % 2 + g / 4 % 2 + g / 8 % 2 + g / 16 % 2 + g / 32 % 2 + g / 64 % 2 + g / 128 % 2 + g / 256 % 2 + g / 512 % 2
  + (1 + b2n (Nat.beq (way g 0 1) 0) + b2n (Nat.beq (way g 0 2) 0 && Nat.beq (way g 1 2) 0) + b2n (Nat.beq (way g 0 3) 0 && (Nat.beq (way g 1 3) 0 && Nat.beq (way g 2 3) 0)) + b2n (Nat.beq (way g 0 4) 0 && (Nat.beq (way g 1 4) 0 && (Nat.beq (way g 2 4) 0 && Nat.beq (way g 3 4) 0))))) 5
def beqB (a b : Bool) : Bool := if a = true then b else !b
theorem beqB_eq {a b : Bool} (h : beqB a b = true) : a = b := by cases a <;> cases b <;> simp_all [beqB]
def chkB (g : Nat) : Bool := all5 fun a => !(adjm g a a) && all5 fun b => beqB (adjm g a b) (adjm g b a) && (Nat.ble (way g a b) 5 && (beqB (Nat.beq (way g a b) 0) (Nat.beq (way g b a) 0)))
def chkT (g : Nat) : Bool := all5 fun a => Nat.beq (way g a a) 1 && all5 fun y => (Nat.ble (way g a y) 1 || !(all5 fun x => !(adjm g x y && Nat.beq (way g a x + 1) (way g a y)))) && ((Nat.beq (way g a y) 0 || !(Nat.beq (way g a y) 1) || Nat.beq a y) &&
  all5 fun x => !(adjm g x y) || (beqB (Nat.beq (way g a x) 0) (Nat.beq (way g a y) 0) && (Nat.beq (way g a x) 0 || ((Nat.beq (way g a y) (way g a x + 1) || Nat.beq (way g a y + 1) (way g a x)) &&
    (!(Nat.beq (way g a y) (way g a x + 1)) || all5 fun z => !(adjm g z y && Nat.beq (way g a y) (way g a z + 1)) || (Nat.beq (way g a z) 0 || Nat.beq x z))))))
def addE (g a b : Nat) : Nat := g ||| 2 ^ idx a b
def delE (g a b : Nat) : Nat := g ^^^ 2 ^ idx a b
def same2 (c d a b : Nat) : Bool := (Nat.beq c a && Nat.beq d b) || (Nat.beq c b && Nat.beq d a)
def chkA (g : Nat) : Bool := all5 fun a => all5 fun b => Nat.ble b a || (!(Nat.beq (way g a b) 0) || (Nat.blt (addE g a b) 1024 && (acyc (addE g a b) && all5 fun c => all5 fun d => beqB (adjm (addE g a b) c d) (adjm g c d || same2 c d a b))))
def chkD (g : Nat) : Bool := all5 fun a => all5 fun b => Nat.ble b a || (!(adjm g a b) || (Nat.blt (delE g a b) 1024 && (acyc (delE g a b) && all5 fun c => all5 fun d => beqB (adjm (delE g a b) c d) (adjm g c d && !(same2 c d a b)))))
set_option maxRecDepth 100000 in
theorem fB : (List.range 1024).all (fun g => !(acyc g) || chkB g) = true := by decide +kernel
set_option maxRecDepth 100000 in
theorem fT : (List.range 1024).all (fun g => !(acyc g) || chkT g) = true := by decide +kernel
set_option maxRecDepth 100000 in
theorem fA : (List.range 1024).all (fun g => !(acyc g) || chkA g) = true := by decide +kernel
set_option maxRecDepth 100000 in
theorem fD : (List.range 1024).all (fun g => !(acyc g) || chkD g) = true := by decide +kernel
theorem f_use {c : Nat → Bool} (h : (List.range 1024).all (fun g => !(acyc g) || c g) = true) {g : Nat} (hg : g < 1024) (ha : acyc g = true) : c g = true := by
  have h1 := List.all_eq_true.mp h g (List.mem_range.mpr hg)
  rw [ha] at h1
  simpa using h1
