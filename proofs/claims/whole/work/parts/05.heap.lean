/-! The pure heap: kinds of addresses, the fields by class, slot and address, arrays by address and place, the next address. Kind c + 1: an object of class c of vwCl; 100: ints; 101: booleans; 102 + c: references to class c; 0: none of ours. -/
abbrev zH : Type := (Nat → Nat) × (Nat → Nat → Nat → Int32) × (Nat → Nat → Nat → Option Nat) × (Nat → Nat) × (Nat → Nat → Int32) × (Nat → Nat → Option Nat) × Nat
def zk (h : zH) : Nat → Nat := h.1
def zi (h : zH) : Nat → Nat → Nat → Int32 := h.2.1
def zr (h : zH) : Nat → Nat → Nat → Option Nat := h.2.2.1
def zl (h : zH) : Nat → Nat := h.2.2.2.1
def za (h : zH) : Nat → Nat → Int32 := h.2.2.2.2.1
def zq (h : zH) : Nat → Nat → Option Nat := h.2.2.2.2.2.1
def zs (h : zH) : Nat := h.2.2.2.2.2.2
def sti (c k a : Nat) (v : Int32) (h : zH) : zH := (zk h, fun c' k' a' => if c' = c ∧ k' = k ∧ a' = a then v else zi h c' k' a', zr h, zl h, za h, zq h, zs h)
def str (c k a : Nat) (v : Option Nat) (h : zH) : zH := (zk h, zi h, fun c' k' a' => if c' = c ∧ k' = k ∧ a' = a then v else zr h c' k' a', zl h, za h, zq h, zs h)
def sta (a j : Nat) (v : Int32) (h : zH) : zH := (zk h, zi h, zr h, zl h, fun a' j' => if a' = a ∧ j' = j then v else za h a' j', zq h, zs h)
def stq (a j : Nat) (v : Option Nat) (h : zH) : zH := (zk h, zi h, zr h, zl h, za h, fun a' j' => if a' = a ∧ j' = j then v else zq h a' j', zs h)
def nwO (c : Nat) (h : zH) : zH := (fun a' => if a' = zs h then c + 1 else zk h a', fun c' k' a' => if a' = zs h then 0 else zi h c' k' a', fun c' k' a' => if a' = zs h then none else zr h c' k' a', zl h, za h, zq h, zs h + 1)
def nwA (κ n : Nat) (h : zH) : zH := (fun a' => if a' = zs h then κ else zk h a', zi h, zr h, fun a' => if a' = zs h then n else zl h a', fun a' j' => if a' = zs h then 0 else za h a' j', fun a' j' => if a' = zs h then none else zq h a' j', zs h + 1)
-- a program's steps on it
def gI (c k : Nat) (r : Option Nat) (h : zH) : Option Int32 := match r with
  | some a => if zk h a = c + 1 then some (zi h c k a) else none
  | none => none
def gR (c k : Nat) (r : Option Nat) (h : zH) : Option (Option Nat) := match r with
  | some a => if zk h a = c + 1 then some (zr h c k a) else none
  | none => none
def pI (c k : Nat) (r : Option Nat) (v : Int32) (h : zH) : Option zH := match r with
  | some a => if zk h a = c + 1 then some (sti c k a v h) else none
  | none => none
def pZ (c k : Nat) (r : Option Nat) (v : Int32) (h : zH) : Option zH := match r with
  | some a => if zk h a = c + 1 ∧ (v = 0 ∨ v = 1) then some (sti c k a v h) else none
  | none => none
def pR (c k : Nat) (r : Option Nat) (v : Option Nat) (h : zH) : Option zH := match r with
  | some a => if zk h a = c + 1 then some (str c k a v h) else none
  | none => none
def aI (κ : Nat) (r : Option Nat) (i : Int32) (h : zH) : Option Int32 := match r with
  | some a => if zk h a = κ ∧ ¬ (i < 0 ∨ zl h a ≤ i.toNatClampNeg) then some (za h a i.toNatClampNeg) else none
  | none => none
def aQ (κ : Nat) (r : Option Nat) (i : Int32) (h : zH) : Option (Option Nat) := match r with
  | some a => if zk h a = κ ∧ ¬ (i < 0 ∨ zl h a ≤ i.toNatClampNeg) then some (zq h a i.toNatClampNeg) else none
  | none => none
def sI (r : Option Nat) (i v : Int32) (h : zH) : Option zH := match r with
  | some a => if zk h a = 100 ∧ ¬ (i < 0 ∨ zl h a ≤ i.toNatClampNeg) then some (sta a i.toNatClampNeg v h) else none
  | none => none
def sZ (r : Option Nat) (i v : Int32) (h : zH) : Option zH := match r with
  | some a => if zk h a = 101 ∧ ¬ (i < 0 ∨ zl h a ≤ i.toNatClampNeg) ∧ (v = 0 ∨ v = 1) then some (sta a i.toNatClampNeg v h) else none
  | none => none
def sQ (c : Nat) (r : Option Nat) (i : Int32) (v : Option Nat) (h : zH) : Option zH := match r, v with
  | some a, some b => if zk h a = 102 + c ∧ ¬ (i < 0 ∨ zl h a ≤ i.toNatClampNeg) ∧ zk h b = c + 1 then some (stq a i.toNatClampNeg (some b) h) else none
  | _, _ => none
def lA (κ : Nat) (r : Option Nat) (h : zH) : Option Int32 := match r with
  | some a => if zk h a = κ then some (Int32.ofNat (zl h a)) else none
  | none => none
/-- a receiver -/
def rc (c : Nat) (r : Option Nat) (h : zH) : Option Nat := match r with
  | some a => if zk h a = c + 1 then some a else none
  | none => none
theorem gI_spec {c k : Nat} {r : Option Nat} {h : zH} {v : Int32} (e : gI c k r h = some v) : ∃ a, r = some a ∧ zk h a = c + 1 ∧ zi h c k a = v := by
  cases r with
  | none => simp [gI] at e
  | some a =>
    simp only [gI] at e
    split at e
    · exact ⟨a, rfl, by assumption, Option.some.inj e⟩
    · cases e
theorem gR_spec {c k : Nat} {r : Option Nat} {h : zH} {v : Option Nat} (e : gR c k r h = some v) : ∃ a, r = some a ∧ zk h a = c + 1 ∧ zr h c k a = v := by
  cases r with
  | none => simp [gR] at e
  | some a =>
    simp only [gR] at e
    split at e
    · exact ⟨a, rfl, by assumption, Option.some.inj e⟩
    · cases e
theorem pI_spec {c k : Nat} {r : Option Nat} {v : Int32} {h h' : zH} (e : pI c k r v h = some h') : ∃ a, r = some a ∧ zk h a = c + 1 ∧ sti c k a v h = h' := by
  cases r with
  | none => simp [pI] at e
  | some a =>
    simp only [pI] at e
    split at e
    · exact ⟨a, rfl, by assumption, Option.some.inj e⟩
    · cases e
theorem pZ_spec {c k : Nat} {r : Option Nat} {v : Int32} {h h' : zH} (e : pZ c k r v h = some h') : (v = 0 ∨ v = 1) ∧ pI c k r v h = some h' := by
  cases r with
  | none => simp [pZ] at e
  | some a =>
    simp only [pZ] at e
    split at e
    · next q => exact ⟨q.2, by simp only [pI, q.1, if_true]; exact e⟩
    · cases e
theorem pR_spec {c k : Nat} {r : Option Nat} {v : Option Nat} {h h' : zH} (e : pR c k r v h = some h') : ∃ a, r = some a ∧ zk h a = c + 1 ∧ str c k a v h = h' := by
  cases r with
  | none => simp [pR] at e
  | some a =>
    simp only [pR] at e
    split at e
    · exact ⟨a, rfl, by assumption, Option.some.inj e⟩
    · cases e
theorem aI_spec {κ : Nat} {r : Option Nat} {i : Int32} {h : zH} {v : Int32} (e : aI κ r i h = some v) : ∃ a, r = some a ∧ zk h a = κ ∧ vp_in i (zl h a) ∧ za h a i.toNatClampNeg = v := by
  cases r with
  | none => simp [aI] at e
  | some a =>
    simp only [aI] at e
    split at e
    · next q => exact ⟨a, rfl, q.1, q.2, Option.some.inj e⟩
    · cases e
theorem aQ_spec {κ : Nat} {r : Option Nat} {i : Int32} {h : zH} {v : Option Nat} (e : aQ κ r i h = some v) : ∃ a, r = some a ∧ zk h a = κ ∧ vp_in i (zl h a) ∧ zq h a i.toNatClampNeg = v := by
  cases r with
  | none => simp [aQ] at e
  | some a =>
    simp only [aQ] at e
    split at e
    · next q => exact ⟨a, rfl, q.1, q.2, Option.some.inj e⟩
    · cases e
theorem sI_spec {r : Option Nat} {i v : Int32} {h h' : zH} (e : sI r i v h = some h') : ∃ a, r = some a ∧ zk h a = 100 ∧ vp_in i (zl h a) ∧ sta a i.toNatClampNeg v h = h' := by
  cases r with
  | none => simp [sI] at e
  | some a =>
    simp only [sI] at e
    split at e
    · next q => exact ⟨a, rfl, q.1, q.2, Option.some.inj e⟩
    · cases e
theorem sZ_spec {r : Option Nat} {i v : Int32} {h h' : zH} (e : sZ r i v h = some h') : ∃ a, r = some a ∧ zk h a = 101 ∧ vp_in i (zl h a) ∧ (v = 0 ∨ v = 1) ∧ sta a i.toNatClampNeg v h = h' := by
  cases r with
  | none => simp [sZ] at e
  | some a =>
    simp only [sZ] at e
    split at e
    · next q => exact ⟨a, rfl, q.1, q.2.1, q.2.2, Option.some.inj e⟩
    · cases e
theorem sQ_spec {c : Nat} {r : Option Nat} {i : Int32} {v : Option Nat} {h h' : zH} (e : sQ c r i v h = some h') : ∃ a b, r = some a ∧ v = some b ∧ zk h a = 102 + c ∧ vp_in i (zl h a) ∧ zk h b = c + 1 ∧ stq a i.toNatClampNeg (some b) h = h' := by
  cases r with
  | none => simp [sQ] at e
  | some a =>
    cases v with
    | none => simp [sQ] at e
    | some b =>
      simp only [sQ] at e
      split at e
      · next q => exact ⟨a, b, rfl, rfl, q.1, q.2.1, q.2.2, Option.some.inj e⟩
      · cases e
theorem lA_spec {κ : Nat} {r : Option Nat} {h : zH} {v : Int32} (e : lA κ r h = some v) : ∃ a, r = some a ∧ zk h a = κ ∧ Int32.ofNat (zl h a) = v := by
  cases r with
  | none => simp [lA] at e
  | some a =>
    simp only [lA] at e
    split at e
    · exact ⟨a, rfl, by assumption, Option.some.inj e⟩
    · cases e
theorem rc_spec {c : Nat} {r : Option Nat} {h : zH} {a : Nat} (e : rc c r h = some a) : r = some a ∧ zk h a = c + 1 := by
  cases r with
  | none => simp [rc] at e
  | some b =>
    simp only [rc] at e
    split at e
    · next q => cases e; exact ⟨rfl, q⟩
    · cases e
