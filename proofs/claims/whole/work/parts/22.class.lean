/-! The class's cells hold tau too. Columns 40, 41, 42: a class is above another one, owns a method, its line. -/
/-- tau and tau' agree on the columns of a table (column, width) at object i -/
def tg (t : List (Nat × Nat)) (τ τ' : Nat → Nat → Int32) (i : Nat) : Prop := ∀ q ∈ t, ∀ k, k < q.2 → τ' q.1 (q.2 * i + k) = τ q.1 (q.2 * i + k)
theorem tg.rf {t : List (Nat × Nat)} {τ : Nat → Nat → Int32} {i : Nat} : tg t τ τ i := fun _ _ _ _ => rfl
theorem tg.tr {t : List (Nat × Nat)} {τ τ1 τ2 : Nat → Nat → Int32} {i : Nat} (p : tg t τ τ1 i) (q : tg t τ1 τ2 i) : tg t τ τ2 i := fun s hs k hk => (q s hs k hk).trans (p s hs k hk)
theorem tg_u2 {t : List (Nat × Nat)} {τ : Nat → Nat → Int32} {c i0 i : Nat} {v : Int32} (h : ∀ q ∈ t, q.1 = c → i0 < q.2 * i ∨ q.2 * i + q.2 ≤ i0) : tg t τ (u2 τ c i0 v) i := by
  intro q hq k hk
  rw [u2_at, if_neg]
  intro e
  have := h q hq e.1
  omega
theorem tg.at1 {t : List (Nat × Nat)} {τ τ' : Nat → Nat → Int32} {i : Nat} (p : tg t τ τ' i) {c : Nat} (h : (c, 1) ∈ t) : τ' c i = τ c i := by
  have := p (c, 1) h 0 (Nat.one_pos)
  simpa using this
def tK : List (Nat × Nat) := [(3, 1), (4, 15), (5, 16), (40, 1), (41, 1), (42, 1)]
def tM : List (Nat × Nat) := [(7, 1), (8, 1), (9, 1), (10, 1), (11, 1), (12, 8), (13, 1), (14, 1), (18, 1), (23, 1)]
def tI : List (Nat × Nat) := [(15, 1), (16, 1), (17, 1), (24, 1), (25, 12)]
def tH : List (Nat × Nat) := [(19, 1), (20, 1), (21, 1), (22, 1)]
def cn (v : Int32) : Nat := v.toNatClampNeg
/-- the fixed objects: CodeVerifier x, Told x+1 with its two rows, Walk x+4, Row x+5 with its types, Step x+7 -/
def RF (x : Nat) (h : zH) : Prop :=
  (zk h x = 9 ∧ zk h (x + 1) = 7 ∧ zk h (x + 2) = 104 ∧ zk h (x + 3) = 105 ∧ zk h (x + 4) = 8 ∧ zk h (x + 5) = 5 ∧ zk h (x + 6) = 100 ∧ zk h (x + 7) = 6) ∧
  (zr h 8 0 x = some (x + 1) ∧ zr h 8 1 x = some (x + 4) ∧ zr h 6 0 (x + 1) = some (x + 2) ∧ zr h 6 1 (x + 1) = some (x + 3) ∧ zr h 7 0 (x + 4) = some (x + 1) ∧ zr h 7 1 (x + 4) = some (x + 5) ∧ zr h 7 2 (x + 4) = some (x + 7) ∧ zr h 4 0 (x + 5) = some (x + 6) ∧ zr h 5 0 (x + 7) = some (x + 1) ∧ zr h 5 1 (x + 7) = some (x + 5)) ∧
  (zl h (x + 2) = 32 ∧ zl h (x + 3) = 64 ∧ zl h (x + 6) = 12)
def RK (τ : Nat → Nat → Int32) (h : zH) (c a : Nat) : Prop :=
  (zk h a = 3 ∧ zk h (a + 1) = 100 ∧ zk h (a + 2) = 100 ∧ zr h 2 2 a = some (a + 1) ∧ zr h 2 3 a = some (a + 2) ∧ zl h (a + 1) = 15 ∧ zl h (a + 2) = 16) ∧
  (zi h 2 0 a = nI c ∧ zi h 2 1 a = τ 42 c ∧ zi h 2 4 a = τ 3 c ∧ zi h 2 5 a = τ 40 c ∧ zi h 2 6 a = τ 41 c) ∧
  (∀ k, k < 15 → k < cn (τ 3 c) → za h (a + 1) k = τ 4 (15 * c + k)) ∧ (∀ k, k < 16 → za h (a + 2) k = τ 5 (16 * c + k))
def RT (τ : Nat → Nat → Int32) (kd : Nat → Nat) (h : zH) (m a : Nat) : Prop :=
  (zk h a = 4 ∧ zk h (a + 1) = 100 ∧ zk h (a + 2) = 103 ∧ zk h (a + 3) = 102 ∧ zr h 3 4 a = some (a + 1) ∧ zr h 3 5 a = some (a + 2) ∧ zr h 3 6 a = some (a + 3) ∧ zl h (a + 1) = 8 ∧ zl h (a + 2) = 200 ∧ zl h (a + 3) = 8) ∧
  (zr h 3 0 a = (if τ 7 m < 0 then none else some (kd (cn (τ 7 m)))) ∧ zi h 3 1 a = τ 8 m ∧ zi h 3 2 a = τ 9 m ∧ zi h 3 3 a = τ 10 m ∧ zi h 3 7 a = τ 11 m ∧ zi h 3 8 a = τ 14 m ∧ zi h 3 9 a = τ 18 m ∧ zi h 3 10 a = τ 13 m ∧ zi h 3 11 a = τ 23 m) ∧
  (∀ k, k < 8 → k < cn (τ 11 m) → za h (a + 1) k = τ 12 (8 * m + k))
/-- what stands before an instruction, once its method is verified -/
def RS (τ : Nat → Nat → Int32) (h : zH) (m j a : Nat) : Prop :=
  (zi h 1 4 a = 0 ∧ τ 24 j < 0) ∨ (zi h 1 4 a = 1 ∧ ¬ τ 24 j < 0 ∧ zi h 4 1 (a + 1) = τ 9 m ∧ zi h 4 2 (a + 1) = τ 10 m ∧ zi h 4 3 (a + 1) = τ 24 j ∧ ∀ k, k < 12 → k < cn (τ 9 m) + cn (τ 24 j) → za h (a + 2) k = τ 25 (12 * j + k))
/-- instruction i of method m, j = 200 * m + i -/
def RI (τ : Nat → Nat → Int32) (h : zH) (j a : Nat) : Prop :=
  (zk h a = 2 ∧ zk h (a + 1) = 5 ∧ zk h (a + 2) = 100 ∧ zr h 1 3 a = some (a + 1) ∧ zr h 4 0 (a + 1) = some (a + 2) ∧ zl h (a + 2) = 12) ∧
  (zi h 1 0 a = τ 15 j ∧ zi h 1 1 a = τ 16 j ∧ zi h 1 2 a = τ 17 j)
def RH (τ : Nat → Nat → Int32) (h : zH) (j a : Nat) : Prop := zk h a = 1 ∧ zi h 0 0 a = τ 19 j ∧ zi h 0 1 a = τ 20 j ∧ zi h 0 2 a = τ 21 j ∧ zi h 0 3 a = τ 22 j
theorem RF.ag {x : Nat} {h h' : zH} (p : RF x h) (q : ∀ b, x ≤ b → b < x + 8 → ag h h' b) : RF x h' := by
  obtain ⟨⟨a1, a2, a3, a4, a5, a6, a7, a8⟩, ⟨b1, b2, b3, b4, b5, b6, b7, b8, b9, b10⟩, c1, c2, c3⟩ := p
  have q0 := q x (by omega) (by omega)
  have q1 := q (x + 1) (by omega) (by omega)
  have q2 := q (x + 2) (by omega) (by omega)
  have q3 := q (x + 3) (by omega) (by omega)
  have q4 := q (x + 4) (by omega) (by omega)
  have q5 := q (x + 5) (by omega) (by omega)
  have q6 := q (x + 6) (by omega) (by omega)
  have q7 := q (x + 7) (by omega) (by omega)
  exact ⟨⟨q0.k.trans a1, q1.k.trans a2, q2.k.trans a3, q3.k.trans a4, q4.k.trans a5, q5.k.trans a6, q6.k.trans a7, q7.k.trans a8⟩,
    ⟨(q0.r 8 0).trans b1, (q0.r 8 1).trans b2, (q1.r 6 0).trans b3, (q1.r 6 1).trans b4, (q4.r 7 0).trans b5, (q4.r 7 1).trans b6, (q4.r 7 2).trans b7, (q5.r 4 0).trans b8, (q7.r 5 0).trans b9, (q7.r 5 1).trans b10⟩, q2.l.trans c1, q3.l.trans c2, q6.l.trans c3⟩
theorem RK.ag {τ τ' : Nat → Nat → Int32} {h h' : zH} {c a : Nat} (p : RK τ h c a) (q0 : ag h h' a) (q1 : ag h h' (a + 1)) (q2 : ag h h' (a + 2)) (t : tg tK τ τ' c) : RK τ' h' c a := by
  obtain ⟨⟨a1, a2, a3, a4, a5, a6, a7⟩, ⟨b1, b2, b3, b4, b5⟩, c1, c2⟩ := p
  have e3 : τ' 3 c = τ 3 c := t.at1 (by decide)
  refine ⟨⟨q0.k.trans a1, q1.k.trans a2, q2.k.trans a3, (q0.r 2 2).trans a4, (q0.r 2 3).trans a5, q1.l.trans a6, q2.l.trans a7⟩,
    ⟨(q0.i 2 0).trans b1, (q0.i 2 1).trans (b2.trans (t.at1 (c := 42) (by decide)).symm), (q0.i 2 4).trans (b3.trans e3.symm), (q0.i 2 5).trans (b4.trans (t.at1 (c := 40) (by decide)).symm), (q0.i 2 6).trans (b5.trans (t.at1 (c := 41) (by decide)).symm)⟩, fun k h1 h2 => ?_, fun k h1 => ?_⟩
  · rw [e3] at h2
    rw [q1.a k, c1 k h1 h2]; exact (t (4, 15) (by decide) k h1).symm
  · rw [q2.a k, c2 k h1]; exact (t (5, 16) (by decide) k h1).symm
theorem RT.ag {τ τ' : Nat → Nat → Int32} {kd kd' : Nat → Nat} {h h' : zH} {m a : Nat} (p : RT τ kd h m a) (q0 : ag h h' a) (q1 : ag h h' (a + 1)) (q2 : ag h h' (a + 2) ∨ (zk h' (a + 2) = zk h (a + 2) ∧ zl h' (a + 2) = zl h (a + 2))) (q3 : ag h h' (a + 3) ∨ (zk h' (a + 3) = zk h (a + 3) ∧ zl h' (a + 3) = zl h (a + 3))) (t : tg tM τ τ' m) (hk : ¬ τ 7 m < 0 → kd' (cn (τ 7 m)) = kd (cn (τ 7 m))) : RT τ' kd' h' m a := by
  obtain ⟨⟨a1, a2, a3, a4, a5, a6, a7, a8, a9, a10⟩, ⟨b0, b1, b2, b3, b4, b5, b6, b7, b8⟩, c1⟩ := p
  have k2 : zk h' (a + 2) = zk h (a + 2) ∧ zl h' (a + 2) = zl h (a + 2) := q2.elim (fun q => ⟨q.k, q.l⟩) id
  have k3 : zk h' (a + 3) = zk h (a + 3) ∧ zl h' (a + 3) = zl h (a + 3) := q3.elim (fun q => ⟨q.k, q.l⟩) id
  have e7 : τ' 7 m = τ 7 m := t.at1 (by decide)
  have e11 : τ' 11 m = τ 11 m := t.at1 (by decide)
  refine ⟨⟨q0.k.trans a1, q1.k.trans a2, k2.1.trans a3, k3.1.trans a4, (q0.r 3 4).trans a5, (q0.r 3 5).trans a6, (q0.r 3 6).trans a7, q1.l.trans a8, k2.2.trans a9, k3.2.trans a10⟩,
    ⟨?_, (q0.i 3 1).trans (b1.trans (t.at1 (c := 8) (by decide)).symm), (q0.i 3 2).trans (b2.trans (t.at1 (c := 9) (by decide)).symm), (q0.i 3 3).trans (b3.trans (t.at1 (c := 10) (by decide)).symm), (q0.i 3 7).trans (b4.trans e11.symm), (q0.i 3 8).trans (b5.trans (t.at1 (c := 14) (by decide)).symm), (q0.i 3 9).trans (b6.trans (t.at1 (c := 18) (by decide)).symm), (q0.i 3 10).trans (b7.trans (t.at1 (c := 13) (by decide)).symm), (q0.i 3 11).trans (b8.trans (t.at1 (c := 23) (by decide)).symm)⟩, fun k h1 h2 => ?_⟩
  · rw [q0.r 3 0, b0, e7]
    by_cases e : τ 7 m < 0
    · rw [if_pos e, if_pos e]
    · rw [if_neg e, if_neg e, hk e]
  · rw [e11] at h2
    rw [q1.a k, c1 k h1 h2]; exact (t (12, 8) (by decide) k h1).symm
theorem RI.ag {τ τ' : Nat → Nat → Int32} {h h' : zH} {j a : Nat} (p : RI τ h j a) (q0 : ag h h' a) (q1 : ag h h' (a + 1)) (q2 : ag h h' (a + 2)) (t : tg tI τ τ' j) : RI τ' h' j a := by
  obtain ⟨⟨a1, a2, a3, a4, a5, a6⟩, b1, b2, b3⟩ := p
  exact ⟨⟨q0.k.trans a1, q1.k.trans a2, q2.k.trans a3, (q0.r 1 3).trans a4, (q1.r 4 0).trans a5, q2.l.trans a6⟩, (q0.i 1 0).trans (b1.trans (t.at1 (c := 15) (by decide)).symm), (q0.i 1 1).trans (b2.trans (t.at1 (c := 16) (by decide)).symm), (q0.i 1 2).trans (b3.trans (t.at1 (c := 17) (by decide)).symm)⟩
theorem RS.ag {τ τ' : Nat → Nat → Int32} {h h' : zH} {m j a : Nat} (p : RS τ h m j a) (q0 : ag h h' a) (q1 : ag h h' (a + 1)) (q2 : ag h h' (a + 2)) (t : tg tI τ τ' j) (t9 : τ' 9 m = τ 9 m) (t10 : τ' 10 m = τ 10 m) : RS τ' h' m j a := by
  have e24 : τ' 24 j = τ 24 j := t.at1 (by decide)
  rcases p with ⟨p1, p2⟩ | ⟨p1, p2, p3, p4, p5, p6⟩
  · exact Or.inl ⟨(q0.i 1 4).trans p1, by rw [e24]; exact p2⟩
  · refine Or.inr ⟨(q0.i 1 4).trans p1, by rw [e24]; exact p2, by rw [q1.i, t9]; exact p3, by rw [q1.i, t10]; exact p4, by rw [q1.i, e24]; exact p5, fun k h1 h2 => ?_⟩
    rw [t9, e24] at h2
    rw [q2.a k, p6 k h1 h2]; exact (t (25, 12) (by decide) k h1).symm
theorem RH.ag {τ τ' : Nat → Nat → Int32} {h h' : zH} {j a : Nat} (p : RH τ h j a) (q0 : ag h h' a) (t : tg tH τ τ' j) : RH τ' h' j a := by
  obtain ⟨a1, b1, b2, b3, b4⟩ := p
  exact ⟨q0.k.trans a1, (q0.i 0 0).trans (b1.trans (t.at1 (c := 19) (by decide)).symm), (q0.i 0 1).trans (b2.trans (t.at1 (c := 20) (by decide)).symm), (q0.i 0 2).trans (b3.trans (t.at1 (c := 21) (by decide)).symm), (q0.i 0 3).trans (b4.trans (t.at1 (c := 22) (by decide)).symm)⟩
/-- all of it: the books kd, md, id, hd say where classes, methods, instructions, handlers lie -/
def RC (τ : Nat → Nat → Int32) (kd md : Nat → Nat) (id hd : Nat → Nat → Nat) (x : Nat) (h : zH) : Prop :=
  RF x h ∧ x + 35 ≤ zs h ∧ (zi h 6 2 (x + 1) = τ 0 0 ∧ zi h 6 3 (x + 1) = τ 6 0 ∧ zi h 7 5 (x + 4) = τ 27 0) ∧
  (∀ c, c < cn (τ 0 0) → zq h (x + 2) c = some (kd c) ∧ x + 35 ≤ kd c ∧ kd c + 3 ≤ zs h ∧ RK τ h c (kd c)) ∧
  (∀ m, m < cn (τ 6 0) → zq h (x + 3) m = some (md m) ∧ x + 35 ≤ md m ∧ md m + 4 ≤ zs h ∧ RT τ kd h m (md m)) ∧
  (∀ m i, m < cn (τ 6 0) → i < cn (τ 14 m) → zq h (md m + 2) i = some (id m i) ∧ x + 35 ≤ id m i ∧ id m i + 3 ≤ zs h ∧ RI τ h (200 * m + i) (id m i) ∧ (τ 23 m ≠ 0 → RS τ h m (200 * m + i) (id m i))) ∧
  (∀ m k, m < cn (τ 6 0) → k < cn (τ 18 m) → zq h (md m + 3) k = some (hd m k) ∧ x + 35 ≤ hd m k ∧ hd m k + 1 ≤ zs h ∧ RH τ h (8 * m + k) (hd m k)) ∧
  (∀ c c', c < cn (τ 0 0) → c' < cn (τ 0 0) → kd c = kd c' → c = c') ∧ (∀ m m', m < cn (τ 6 0) → m' < cn (τ 6 0) → md m = md m' → m = m') ∧
  (∀ m i m' i', m < cn (τ 6 0) → i < cn (τ 14 m) → m' < cn (τ 6 0) → i' < cn (τ 14 m') → id m i = id m' i' → m = m' ∧ i = i') ∧
  (∀ m k m' k', m < cn (τ 6 0) → k < cn (τ 18 m) → m' < cn (τ 6 0) → k' < cn (τ 18 m') → hd m k = hd m' k' → m = m' ∧ k = k')
