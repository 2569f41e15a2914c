/-! Bits (pasted from kit/laws/BITS.to-paste); what a good tau is. -/
def bt (x : Int32) (i : Nat) : Bool := x.toBitVec.getLsbD i
theorem b_ext {x y : Int32} (h : ∀ i, i < 32 → bt x i = bt y i) : x = y := Int32.toBitVec_inj.mp (BitVec.eq_of_getLsbD_eq (fun i hi => h i hi))
theorem b_or (x y : Int32) (i : Nat) : bt (x ||| y) i = (bt x i || bt y i) := by unfold bt; rw [Int32.toBitVec_or, BitVec.getLsbD_or]
theorem b_and (x y : Int32) (i : Nat) : bt (x &&& y) i = (bt x i && bt y i) := by unfold bt; rw [Int32.toBitVec_and, BitVec.getLsbD_and]
theorem b_xor (x y : Int32) (i : Nat) : bt (x ^^^ y) i = (bt x i ^^ bt y i) := by unfold bt; rw [Int32.toBitVec_xor, BitVec.getLsbD_xor]
theorem b_big {x : Int32} {i : Nat} (h : 32 ≤ i) : bt x i = false := BitVec.getLsbD_of_ge _ _ h
theorem b_m1 : ∀ i, i < 32 → bt (-1) i = true := by decide +kernel
theorem b_0 (i : Nat) : bt 0 i = false := BitVec.getLsbD_zero
theorem s_l : ∀ n, n < 32 → ((nI n &&& 31).toBitVec.smod 32).toNat = n := by decide +kernel
theorem s_u : ∀ n, n < 32 → (((nI n).toUInt32 &&& Int32.toUInt32 31).toBitVec % 32).toNat = n := by decide +kernel
theorem b_shl (n : Nat) (hn : n < 32) (x : Int32) {i : Nat} (hi : i < 32) : bt (x <<< (nI n &&& 31)) i = (decide (n ≤ i) && bt x (i - n)) := by
  unfold bt
  rw [Int32.toBitVec_shiftLeft]
  show (x.toBitVec <<< ((nI n &&& 31).toBitVec.smod 32).toNat).getLsbD i = _
  rw [s_l n hn, BitVec.getLsbD_shiftLeft]
  rcases Nat.lt_or_ge i n with h | h
  · simp [h, Nat.not_le.mpr h]
  · simp [hi, h, Nat.not_lt.mpr h]
theorem b_ushr (n : Nat) (hn : n < 32) (x : Int32) (i : Nat) : bt ((x.toUInt32 >>> ((nI n).toUInt32 &&& Int32.toUInt32 31)).toInt32) i = bt x (n + i) := by
  show (x.toUInt32 >>> ((nI n).toUInt32 &&& Int32.toUInt32 31)).toBitVec.getLsbD i = x.toUInt32.toBitVec.getLsbD (n + i)
  rw [UInt32.toBitVec_shiftRight]
  show (x.toUInt32.toBitVec >>> (((nI n).toUInt32 &&& Int32.toUInt32 31).toBitVec % 32).toNat).getLsbD i = _
  rw [s_u n hn, BitVec.getLsbD_ushiftRight]
theorem bt_test (x : Int32) {j : Nat} (hj : j < 32) : ((Int32.toUInt32 x >>> (Int32.toUInt32 (nI j) &&& Int32.toUInt32 31)).toInt32 &&& 1) = 0 ↔ bt x j = false := by
  constructor
  · intro e
    have h1 : bt ((Int32.toUInt32 x >>> (Int32.toUInt32 (nI j) &&& Int32.toUInt32 31)).toInt32 &&& 1) 0 = false := by rw [e, b_0]
    rw [b_and, b_ushr j hj, Nat.add_zero] at h1
    simpa [show bt 1 0 = true from by decide] using h1
  · intro e
    refine b_ext (fun i hi => ?_)
    rw [b_and, b_ushr j hj, b_0]
    rcases Nat.eq_zero_or_pos i with rfl | hp
    · rw [Nat.add_zero, e]; rfl
    · rw [(by decide +kernel : ∀ i, i < 32 → 0 < i → bt 1 i = false) i hi hp, Bool.and_false]
theorem bt_one {n i : Nat} (hn : n < 32) (hi : i < 32) : bt ((1 : Int32) <<< (nI n &&& 31)) i = decide (i = n) := by
  rw [b_shl n hn 1 hi]
  by_cases h : n ≤ i
  · by_cases e : i = n
    · subst e; simp [show bt 1 0 = true from by decide]
    · rw [(by decide +kernel : ∀ i, i < 32 → 0 < i → bt 1 i = false) (i - n) (by omega) (by omega)]; simp [e]
  · simp [h]; omega
/-- a type that can be told, with n classes -/
def okT (n : Nat) (t : Int32) : Prop := ∃ j, j ≤ n ∧ (t = nI j ∨ t = nI (64 + j))
/-- class j is class c, or above it: the chain of uppers from c on -/
def anc (τ : Nat → Nat → Int32) : Nat → Nat → Nat → Bool
  | 0, _, _ => false
  | n + 1, c, j => (c == j) || (if τ 1 c < 0 then false else anc τ n (cn (τ 1 c)) j)
def okO (τ : Nat → Nat → Int32) (m : Nat) (op x y : Int32) : Prop := ∃ o, o ≤ 41 ∧ op = nI o ∧
  ((o = 2 ∨ o = 3) → ∃ k, k < cn (τ 9 m) ∧ x = nI k) ∧ ((o = 26 ∨ o = 29 ∨ o = 30) → ∃ c, c < cn (τ 0 0) ∧ x = nI c) ∧ ((o = 27 ∨ o = 28) → ∃ c k, c < cn (τ 0 0) ∧ x = nI c ∧ k < cn (τ 3 c) ∧ y = nI k) ∧
  (o = 31 → ∃ c, c ≤ cn (τ 0 0) ∧ x = nI c) ∧ (o = 35 → ∃ q, q < cn (τ 6 0) ∧ x = nI q) ∧ (o = 36 → ∃ c s q, c < cn (τ 0 0) ∧ x = nI c ∧ s < 16 ∧ y = nI s ∧ q < cn (τ 6 0) ∧ τ 5 (16 * c + s) = nI q) ∧ (19 ≤ o → o ≤ 25 → ∃ p, p < 200 ∧ x = nI p)
def WFc (τ : Nat → Nat → Int32) (c : Nat) : Prop :=
  (τ 1 c = -1 ∨ ∃ u, u < c ∧ τ 1 c = nI u) ∧ (¬ τ 3 c < 0 ∧ cn (τ 3 c) ≤ 15) ∧ (∀ k, k < cn (τ 3 c) → okT (cn (τ 0 0)) (τ 4 (15 * c + k))) ∧
  (∀ s, s < 16 → τ 5 (16 * c + s) = -1 ∨ ∃ m, m < cn (τ 6 0) ∧ τ 5 (16 * c + s) = nI m) ∧
  ((τ 2 c = 0 ∨ τ 2 c = 1) ∧ (τ 2 c = 0 ↔ τ 40 c = 0 ∧ τ 41 c = 0) ∧ (τ 40 c = 0 ↔ ∀ k, k < cn (τ 0 0) → τ 1 k ≠ nI c)) ∧
  (∀ j, j < 32 → bt (τ 42 c) j = anc τ (c + 1) c j)
def WFm (τ : Nat → Nat → Int32) (m : Nat) : Prop :=
  (τ 7 m = -1 ∨ ∃ c, c < cn (τ 0 0) ∧ τ 7 m = nI c) ∧ (τ 8 m = -1 ∨ okT (cn (τ 0 0)) (τ 8 m)) ∧ (¬ τ 9 m < 0 ∧ ¬ τ 10 m < 0 ∧ cn (τ 9 m) + cn (τ 10 m) ≤ 12) ∧
  (¬ τ 11 m < 0 ∧ cn (τ 11 m) ≤ 8 ∧ cn (τ 11 m) ≤ cn (τ 9 m)) ∧ (∀ k, k < cn (τ 11 m) → okT (cn (τ 0 0)) (τ 12 (8 * m + k))) ∧
  (τ 13 m = 0 ∨ τ 13 m = 1) ∧ (τ 23 m = 0 ∨ τ 23 m = 1) ∧ (¬ τ 14 m < 0 ∧ cn (τ 14 m) ≤ 200) ∧ (¬ τ 18 m < 0 ∧ cn (τ 18 m) ≤ 8) ∧
  (∀ i, i < cn (τ 14 m) → okO τ m (τ 15 (200 * m + i)) (τ 16 (200 * m + i)) (τ 17 (200 * m + i))) ∧
  (∀ k, k < cn (τ 18 m) → (∃ c, c < cn (τ 0 0) ∧ τ 21 (8 * m + k) = nI c) ∧ ∃ p, p < 200 ∧ τ 22 (8 * m + k) = nI p) ∧
  (τ 23 m ≠ 0 → ∀ i, i < cn (τ 14 m) → τ 24 (200 * m + i) < 0 ∨ cn (τ 24 (200 * m + i)) ≤ cn (τ 10 m))
def WF (τ : Nat → Nat → Int32) : Prop := (¬ τ 0 0 < 0 ∧ cn (τ 0 0) ≤ 32) ∧ (¬ τ 6 0 < 0 ∧ cn (τ 6 0) ≤ 64) ∧ (∀ c, c < cn (τ 0 0) → WFc τ c) ∧ (∀ m, m < cn (τ 6 0) → WFm τ m) ∧ (∀ m, cn (τ 6 0) ≤ m → m < 64 → τ 13 m = 0 ∧ τ 14 m = 0 ∧ τ 18 m = 0 ∧ τ 23 m = 0)
/-- class and reference hold the same tau -/
def Inv (τ : Nat → Nat → Int32) (x : Nat) (h : zH) : Prop := WF τ ∧ RM τ (x + 8) h ∧ ∃ kd md id hd, RC τ kd md id hd x h
theorem cn_nI {n : Nat} (h : n < 2 ^ 31) : cn (nI n) = n := nI_clamp h
theorem nI_of_cn {v : Int32} (h : ¬ v < 0) : v = nI (cn v) := nI_cn h
/-- a number against a count: below, at or above, or a place -/
theorem ix {v n : Int32} (hn : ¬ n < 0) : v < 0 ∨ (¬ v < 0 ∧ n ≤ v) ∨ ∃ j, j < cn n ∧ v = nI j := by
  obtain ⟨k, hk, rfl⟩ := nI_of hn
  rw [cn_nI hk]
  by_cases h0 : v < 0
  · exact Or.inl h0
  · rcases pk_ix v hk with h | h | h
    · exact Or.inl h
    · exact Or.inr (Or.inl ⟨h0, h⟩)
    · exact Or.inr (Or.inr h)
theorem nlt0 {n : Nat} (h : n < 2 ^ 31) : ¬ nI n < 0 := nI_pos h
theorem nle_cn {v : Int32} {j : Nat} (hv : ¬ v < 0) (hj : j < cn v) (hb : cn v < 2 ^ 31) : ¬ v ≤ nI j := by
  rw [nI_of_cn hv]; exact nI_ge hj hb
