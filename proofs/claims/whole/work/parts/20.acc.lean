/-! The pure heap's parts behind each step. -/
theorem zk_sti {c k a : Nat} {v : Int32} {h : zH} : zk (sti c k a v h) = zk h := rfl
theorem zi_sti {c k a : Nat} {v : Int32} {h : zH} (c' k' a' : Nat) : zi (sti c k a v h) c' k' a' = if c' = c ∧ k' = k ∧ a' = a then v else zi h c' k' a' := rfl
theorem zr_sti {c k a : Nat} {v : Int32} {h : zH} : zr (sti c k a v h) = zr h := rfl
theorem zl_sti {c k a : Nat} {v : Int32} {h : zH} : zl (sti c k a v h) = zl h := rfl
theorem za_sti {c k a : Nat} {v : Int32} {h : zH} : za (sti c k a v h) = za h := rfl
theorem zq_sti {c k a : Nat} {v : Int32} {h : zH} : zq (sti c k a v h) = zq h := rfl
theorem zs_sti {c k a : Nat} {v : Int32} {h : zH} : zs (sti c k a v h) = zs h := rfl
theorem zk_str {c k a : Nat} {v : Option Nat} {h : zH} : zk (str c k a v h) = zk h := rfl
theorem zr_str {c k a : Nat} {v : Option Nat} {h : zH} (c' k' a' : Nat) : zr (str c k a v h) c' k' a' = if c' = c ∧ k' = k ∧ a' = a then v else zr h c' k' a' := rfl
theorem zi_str {c k a : Nat} {v : Option Nat} {h : zH} : zi (str c k a v h) = zi h := rfl
theorem zl_str {c k a : Nat} {v : Option Nat} {h : zH} : zl (str c k a v h) = zl h := rfl
theorem za_str {c k a : Nat} {v : Option Nat} {h : zH} : za (str c k a v h) = za h := rfl
theorem zq_str {c k a : Nat} {v : Option Nat} {h : zH} : zq (str c k a v h) = zq h := rfl
theorem zs_str {c k a : Nat} {v : Option Nat} {h : zH} : zs (str c k a v h) = zs h := rfl
theorem zk_sta {a j : Nat} {v : Int32} {h : zH} : zk (sta a j v h) = zk h := rfl
theorem zi_sta {a j : Nat} {v : Int32} {h : zH} : zi (sta a j v h) = zi h := rfl
theorem zr_sta {a j : Nat} {v : Int32} {h : zH} : zr (sta a j v h) = zr h := rfl
theorem zl_sta {a j : Nat} {v : Int32} {h : zH} : zl (sta a j v h) = zl h := rfl
theorem za_sta {a j : Nat} {v : Int32} {h : zH} (a' j' : Nat) : za (sta a j v h) a' j' = if a' = a ∧ j' = j then v else za h a' j' := rfl
theorem zq_sta {a j : Nat} {v : Int32} {h : zH} : zq (sta a j v h) = zq h := rfl
theorem zs_sta {a j : Nat} {v : Int32} {h : zH} : zs (sta a j v h) = zs h := rfl
theorem zk_stq {a j : Nat} {v : Option Nat} {h : zH} : zk (stq a j v h) = zk h := rfl
theorem zi_stq {a j : Nat} {v : Option Nat} {h : zH} : zi (stq a j v h) = zi h := rfl
theorem zr_stq {a j : Nat} {v : Option Nat} {h : zH} : zr (stq a j v h) = zr h := rfl
theorem zl_stq {a j : Nat} {v : Option Nat} {h : zH} : zl (stq a j v h) = zl h := rfl
theorem za_stq {a j : Nat} {v : Option Nat} {h : zH} : za (stq a j v h) = za h := rfl
theorem zq_stq {a j : Nat} {v : Option Nat} {h : zH} (a' j' : Nat) : zq (stq a j v h) a' j' = if a' = a ∧ j' = j then v else zq h a' j' := rfl
theorem zs_stq {a j : Nat} {v : Option Nat} {h : zH} : zs (stq a j v h) = zs h := rfl
theorem zk_nwO {c : Nat} {h : zH} (a : Nat) : zk (nwO c h) a = if a = zs h then c + 1 else zk h a := rfl
theorem zi_nwO {c : Nat} {h : zH} (c' k a : Nat) : zi (nwO c h) c' k a = if a = zs h then 0 else zi h c' k a := rfl
theorem zr_nwO {c : Nat} {h : zH} (c' k a : Nat) : zr (nwO c h) c' k a = if a = zs h then none else zr h c' k a := rfl
theorem zl_nwO {c : Nat} {h : zH} : zl (nwO c h) = zl h := rfl
theorem za_nwO {c : Nat} {h : zH} : za (nwO c h) = za h := rfl
theorem zq_nwO {c : Nat} {h : zH} : zq (nwO c h) = zq h := rfl
theorem zs_nwO {c : Nat} {h : zH} : zs (nwO c h) = zs h + 1 := rfl
theorem zk_nwA {κ n : Nat} {h : zH} (a : Nat) : zk (nwA κ n h) a = if a = zs h then κ else zk h a := rfl
theorem zi_nwA {κ n : Nat} {h : zH} : zi (nwA κ n h) = zi h := rfl
theorem zr_nwA {κ n : Nat} {h : zH} : zr (nwA κ n h) = zr h := rfl
theorem zl_nwA {κ n : Nat} {h : zH} (a : Nat) : zl (nwA κ n h) a = if a = zs h then n else zl h a := rfl
theorem za_nwA {κ n : Nat} {h : zH} (a j : Nat) : za (nwA κ n h) a j = if a = zs h then 0 else za h a j := rfl
theorem zq_nwA {κ n : Nat} {h : zH} (a j : Nat) : zq (nwA κ n h) a j = if a = zs h then none else zq h a j := rfl
theorem zs_nwA {κ n : Nat} {h : zH} : zs (nwA κ n h) = zs h + 1 := rfl
-- the steps at known kinds
theorem gI_at {c k a : Nat} {h : zH} (e : zk h a = c + 1) : gI c k (some a) h = some (zi h c k a) := by simp [gI, e]
theorem gR_at {c k a : Nat} {h : zH} (e : zk h a = c + 1) : gR c k (some a) h = some (zr h c k a) := by simp [gR, e]
theorem pI_at {c k a : Nat} {v : Int32} {h : zH} (e : zk h a = c + 1) : pI c k (some a) v h = some (sti c k a v h) := by simp [pI, e]
theorem pZ_at {c k a : Nat} {v : Int32} {h : zH} (e : zk h a = c + 1) (hv : v = 0 ∨ v = 1) : pZ c k (some a) v h = some (sti c k a v h) := by simp [pZ, e, hv]
theorem pR_at {c k a : Nat} {v : Option Nat} {h : zH} (e : zk h a = c + 1) : pR c k (some a) v h = some (str c k a v h) := by simp [pR, e]
theorem rc_at {c a : Nat} {h : zH} (e : zk h a = c + 1) : rc c (some a) h = some a := by simp [rc, e]
theorem z_inb {i n : Nat} (hi : i < n) (hn : n < 2 ^ 31) : ¬ (nI i < 0 ∨ n ≤ (nI i).toNatClampNeg) := nI_in hi hn
theorem aI_at {κ a i : Nat} {h : zH} (n : Nat) (e : zk h a = κ) (hl : zl h a = n) (hi : i < n) (hn : n < 2 ^ 31) : aI κ (some a) (nI i) h = some (za h a i) := by
  have q := z_inb hi hn
  have q2 : (nI i).toNatClampNeg = i := nI_clamp (by omega)
  rw [q2] at q
  simp only [aI, e, hl, q2]
  rw [if_pos ⟨trivial, q⟩]
theorem aQ_at {κ a i : Nat} {h : zH} (n : Nat) (e : zk h a = κ) (hl : zl h a = n) (hi : i < n) (hn : n < 2 ^ 31) : aQ κ (some a) (nI i) h = some (zq h a i) := by
  have q := z_inb hi hn
  have q2 : (nI i).toNatClampNeg = i := nI_clamp (by omega)
  rw [q2] at q
  simp only [aQ, e, hl, q2]
  rw [if_pos ⟨trivial, q⟩]
theorem sI_at {a i : Nat} {v : Int32} {h : zH} (n : Nat) (e : zk h a = 100) (hl : zl h a = n) (hi : i < n) (hn : n < 2 ^ 31) : sI (some a) (nI i) v h = some (sta a i v h) := by
  have q := z_inb hi hn
  have q2 : (nI i).toNatClampNeg = i := nI_clamp (by omega)
  rw [q2] at q
  simp only [sI, e, hl, q2]
  rw [if_pos ⟨trivial, q⟩]
theorem sZ_at {a i : Nat} {v : Int32} {h : zH} (n : Nat) (e : zk h a = 101) (hl : zl h a = n) (hi : i < n) (hn : n < 2 ^ 31) (hv : v = 0 ∨ v = 1) : sZ (some a) (nI i) v h = some (sta a i v h) := by
  have q := z_inb hi hn
  have q2 : (nI i).toNatClampNeg = i := nI_clamp (by omega)
  rw [q2] at q
  simp only [sZ, e, hl, q2]
  rw [if_pos ⟨trivial, q, hv⟩]
theorem sQ_at {c a b i : Nat} {h : zH} (n : Nat) (e : zk h a = 102 + c) (hl : zl h a = n) (hi : i < n) (hn : n < 2 ^ 31) (hb : zk h b = c + 1) : sQ c (some a) (nI i) (some b) h = some (stq a i (some b) h) := by
  have q := z_inb hi hn
  have q2 : (nI i).toNatClampNeg = i := nI_clamp (by omega)
  rw [q2] at q
  simp only [sQ, e, hl, q2, hb]
  rw [if_pos ⟨trivial, q, trivial⟩]
theorem obs {α β : Type} (a : α) (f : α → Option β) : (some a).bind f = f a := rfl
/-- a cell stays as it is -/
def ag (h h' : zH) (b : Nat) : Prop := zk h' b = zk h b ∧ zsame h h' b
theorem ag.rf {h : zH} {b : Nat} : ag h h b := ⟨rfl, fun _ _ => rfl, fun _ _ => rfl, rfl, rfl, rfl⟩
theorem ag.tr {h h1 h2 : zH} {b : Nat} (p : ag h h1 b) (q : ag h1 h2 b) : ag h h2 b := by
  obtain ⟨p0, p1, p2, p3, p4, p5⟩ := p
  obtain ⟨q0, q1, q2, q3, q4, q5⟩ := q
  exact ⟨q0.trans p0, fun c k => (q1 c k).trans (p1 c k), fun c k => (q2 c k).trans (p2 c k), q3.trans p3, q4.trans p4, q5.trans p5⟩
theorem ag_sti {c k a b : Nat} {v : Int32} {h : zH} (e : b ≠ a) : ag h (sti c k a v h) b := ⟨rfl, zsame_sti e⟩
theorem ag_str {c k a b : Nat} {v : Option Nat} {h : zH} (e : b ≠ a) : ag h (str c k a v h) b := ⟨rfl, zsame_str e⟩
theorem ag_sta {a j b : Nat} {v : Int32} {h : zH} (e : b ≠ a) : ag h (sta a j v h) b := ⟨rfl, zsame_sta e⟩
theorem ag_stq {a j b : Nat} {v : Option Nat} {h : zH} (e : b ≠ a) : ag h (stq a j v h) b := ⟨rfl, zsame_stq e⟩
theorem ag_nwO {c b : Nat} {h : zH} (e : b ≠ zs h) : ag h (nwO c h) b := ⟨by rw [zk_nwO, if_neg e], zsame_nwO e⟩
theorem ag_nwA {κ n b : Nat} {h : zH} (e : b ≠ zs h) : ag h (nwA κ n h) b := ⟨by rw [zk_nwA, if_neg e], zsame_nwA e⟩
theorem ag.k {h h' : zH} {b : Nat} (p : ag h h' b) : zk h' b = zk h b := p.1
theorem ag.i {h h' : zH} {b : Nat} (p : ag h h' b) (c k : Nat) : zi h' c k b = zi h c k b := p.2.1 c k
theorem ag.r {h h' : zH} {b : Nat} (p : ag h h' b) (c k : Nat) : zr h' c k b = zr h c k b := p.2.2.1 c k
theorem ag.l {h h' : zH} {b : Nat} (p : ag h h' b) : zl h' b = zl h b := p.2.2.2.1
theorem ag.a {h h' : zH} {b : Nat} (p : ag h h' b) (j : Nat) : za h' b j = za h b j := congrFun p.2.2.2.2.1 j
theorem ag.q {h h' : zH} {b : Nat} (p : ag h h' b) (j : Nat) : zq h' b j = zq h b j := congrFun p.2.2.2.2.2 j
/-- a number that isn't below zero is its own Nat -/
theorem nI_cn {x : Int32} (h : ¬ x < 0) : x = nI x.toNatClampNeg := by
  obtain ⟨j, hj, rfl⟩ := nI_of h
  rw [nI_clamp hj]
def u2 (τ : Nat → Nat → Int32) (c i : Nat) (v : Int32) : Nat → Nat → Int32 := fun c' i' => if c' = c ∧ i' = i then v else τ c' i'
theorem u2_at (τ : Nat → Nat → Int32) (c i : Nat) (v : Int32) (c' i' : Nat) : u2 τ c i v c' i' = if c' = c ∧ i' = i then v else τ c' i' := rfl
theorem lin {a i j : Nat} (_ : True) : nI a * nI i + nI j = nI (a * i + j) := by rw [pk_mul, nI_add]
