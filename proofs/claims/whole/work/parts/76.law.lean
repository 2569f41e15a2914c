/-! The law's loop: every call answers alike. -/
theorem nI_six {L k : Nat} (hL : L ≤ 3072) (hk : k ≤ 4000) : Int32.ofNat L - 6 < nI k ↔ L < k + 6 := by
  by_cases h6 : 6 ≤ L
  · have e : Int32.ofNat L - 6 = nI (L - 6) := by
      have a : nI (L - 6) + 6 = nI L := by
        have := nI_add (L - 6) 6
        rw [show L - 6 + 6 = L by omega] at this; exact this
      show nI L - 6 = _
      rw [← a, Int32.add_sub_cancel]
    rw [e]
    constructor
    · intro q
      rcases Nat.lt_or_ge L (k + 6) with z | z
      · exact z
      · exact absurd q (nI_nlt (by omega) (by omega))
    · intro q; exact nI_lt (by omega) (by omega)
  · have neg : Int32.ofNat L - 6 < 0 := by
      rcases (show L = 0 ∨ L = 1 ∨ L = 2 ∨ L = 3 ∨ L = 4 ∨ L = 5 by omega) with rfl | rfl | rfl | rfl | rfl | rfl <;> decide
    exact ⟨fun _ => by omega, fun _ => Int32.lt_of_lt_of_le neg (nI_pos' (by omega))⟩
theorem aS_at {L i : Nat} {xs : Nat → Int32} (hi : i < L) (hL : L ≤ 3072) : aS L xs (nI i) = some (xs i) := by
  unfold aS
  have q2 : (nI i).toNatClampNeg = i := nI_clamp (by omega)
  rw [if_pos (z_inb hi (by omega)), q2]
theorem lawL (N : Nat) (hN : 20000000 ≤ N) {L x : Nat} {xs : Nat → Int32} (hL : L ≤ 3072) (d : Nat) : ∀ (j n : Nat) (τ : Nat → Nat → Int32) (h : zH), L < 6 * (j + d) + 6 → 6 * (j + d) ≤ 4000 → d < n → Inv τ x h → ∃ h', fL_law_b18 N L xs n (some x) (some (x + 8)) (nI (6 * j)) h = some (1, h') := by
  induction d with
  | zero =>
    intro j n τ h hj hk hn I
    obtain ⟨n, rfl⟩ : ∃ n', n = n' + 1 := ⟨n - 1, by omega⟩
    exact ⟨h, by rw [fL_law_b18, if_pos ((nI_six hL (by omega)).mpr (by omega))]⟩
  | succ d ih =>
    intro j n τ h hj hk hn I
    obtain ⟨n, rfl⟩ : ∃ n', n = n' + 1 := ⟨n - 1, by omega⟩
    by_cases z : L < 6 * j + 6
    · exact ⟨h, by rw [fL_law_b18, if_pos ((nI_six hL (by omega)).mpr z)]⟩
    have k8 : zk h x = 9 := by
      obtain ⟨-, -, kd, md, ib, hd, p⟩ := I
      exact p.1.1.1
    have a0 : aS L xs (nI (6 * j)) = some (xs (6 * j)) := aS_at (by omega) hL
    have a1 : aS L xs (nI (6 * j) + 1) = some (xs (6 * j + 1)) := by rw [show nI (6 * j) + 1 = nI (6 * j + 1) from nI_add (6 * j) 1]; exact aS_at (by omega) hL
    have a2 : aS L xs (nI (6 * j) + 2) = some (xs (6 * j + 2)) := by rw [show nI (6 * j) + 2 = nI (6 * j + 2) from nI_add (6 * j) 2]; exact aS_at (by omega) hL
    have a3 : aS L xs (nI (6 * j) + 3) = some (xs (6 * j + 3)) := by rw [show nI (6 * j) + 3 = nI (6 * j + 3) from nI_add (6 * j) 3]; exact aS_at (by omega) hL
    have a4 : aS L xs (nI (6 * j) + 4) = some (xs (6 * j + 4)) := by rw [show nI (6 * j) + 4 = nI (6 * j + 4) from nI_add (6 * j) 4]; exact aS_at (by omega) hL
    have a5 : aS L xs (nI (6 * j) + 5) = some (xs (6 * j + 5)) := by rw [show nI (6 * j) + 5 = nI (6 * j + 5) from nI_add (6 * j) 5]; exact aS_at (by omega) hL
    have e6 : nI (6 * j) + 6 = nI (6 * (j + 1)) := by
      rw [show nI (6 * j) + 6 = nI (6 * j + 6) from nI_add (6 * j) 6]; rfl
    have nx : ∀ (τ' : Nat → Nat → Int32) (h2 : zH), Inv τ' x h2 → ∃ h', fL_law_b468 (fL_law_b18 N L xs n) (some x) (some (x + 8)) (nI (6 * j)) h2 = some (1, h') := fun τ' h2 I2 => by
      unfold fL_law_b468
      rw [e6]
      exact ih (j + 1) n τ' h2 (by omega) (by omega) (by omega) I2
    rw [fL_law_b18, if_neg (fun q => z ((nI_six hL (by omega)).mp q)), a0, obs]
    generalize xs (6 * j) &&& 15 = v
    by_cases c0 : v = 0
    · obtain ⟨r, h1, h2, τ', e1, e2, e3, I2⟩ := op_kind N (by omega) I (xs (6 * j + 1))
      rw [if_pos c0, a1, obs, rc_at k8, obs, e1, obs, obs, e2, obs, e3, obs]
      dsimp only
      rw [if_pos rfl]
      exact nx τ' h2 I2
    rw [if_neg c0]
    by_cases c1 : v = 1
    · obtain ⟨r, h1, h2, τ', e1, e2, e3, I2⟩ := op_field I (xs (6 * j + 1)) (xs (6 * j + 2))
      rw [if_pos c1, a1, obs, a2, obs, rc_at k8, obs, e1, obs, obs, obs, e2, obs, e3, obs]
      dsimp only
      rw [if_pos rfl]
      exact nx τ' h2 I2
    rw [if_neg c1]
    by_cases c2 : v = 2
    · obtain ⟨r, h1, h2, τ', e1, e2, e3, I2⟩ := op_method I (xs (6 * j + 1)) (xs (6 * j + 2)) (xs (6 * j + 3)) (xs (6 * j + 4))
      rw [if_pos c2, a1, obs, a2, obs, a3, obs, a4, obs, rc_at k8, obs, e1, obs, obs, obs, obs, obs, e2, obs, e3, obs]
      dsimp only
      rw [if_pos rfl]
      exact nx τ' h2 I2
    rw [if_neg c2]
    by_cases c3 : v = 3
    · obtain ⟨r, h1, h2, τ', e1, e2, e3, I2⟩ := op_parameter I (xs (6 * j + 1)) (xs (6 * j + 2))
      rw [if_pos c3, a1, obs, a2, obs, rc_at k8, obs, e1, obs, obs, obs, e2, obs, e3, obs]
      dsimp only
      rw [if_pos rfl]
      exact nx τ' h2 I2
    rw [if_neg c3]
    by_cases c4 : v = 4
    · obtain ⟨r, h1, h2, τ', e1, e2, e3, I2⟩ := op_slot N (by omega) I (xs (6 * j + 1)) (xs (6 * j + 2))
      rw [if_pos c4, a1, obs, a2, obs, rc_at k8, obs, e1, obs, obs, obs, e2, obs, e3, obs]
      dsimp only
      rw [if_pos rfl]
      exact nx τ' h2 I2
    rw [if_neg c4]
    by_cases c5 : v = 5
    · obtain ⟨r, h1, h2, τ', e1, e2, e3, I2⟩ := op_op I (xs (6 * j + 1)) (xs (6 * j + 2)) (xs (6 * j + 3)) (xs (6 * j + 4))
      rw [if_pos c5, a1, obs, a2, obs, a3, obs, a4, obs, rc_at k8, obs, e1, obs, obs, obs, obs, obs, e2, obs, e3, obs]
      dsimp only
      rw [if_pos rfl]
      exact nx τ' h2 I2
    rw [if_neg c5]
    by_cases c6 : v = 6
    · obtain ⟨r, h1, h2, τ', e1, e2, e3, I2⟩ := op_handler I (xs (6 * j + 1)) (xs (6 * j + 2)) (xs (6 * j + 3)) (xs (6 * j + 4)) (xs (6 * j + 5))
      rw [if_pos c6, a1, obs, a2, obs, a3, obs, a4, obs, a5, obs, rc_at k8, obs, e1, obs, obs, obs, obs, obs, obs, e2, obs, e3, obs]
      dsimp only
      rw [if_pos rfl]
      exact nx τ' h2 I2
    rw [if_neg c6]
    by_cases c7 : v = 7
    · obtain ⟨r, h1, h2, τ', e1, e2, e3, I2⟩ := op_verify N (by omega) (xs (6 * j + 1)) I
      rw [if_pos c7, a1, obs, rc_at k8, obs, e1, obs, obs, e2, obs, e3, obs]
      dsimp only
      rw [if_pos rfl]
      exact nx τ' h2 I2
    rw [if_neg c7]
    by_cases c8 : v = 8
    · obtain ⟨r, h1, h2, τ', e1, e2, e3, I2⟩ := op_stands I (xs (6 * j + 1)) (xs (6 * j + 2)) (xs (6 * j + 3)) (xs (6 * j + 4))
      rw [if_pos c8, a1, obs, a2, obs, a3, obs, a4, obs, rc_at k8, obs, e1, obs, obs, obs, obs, obs, e2, obs, e3, obs]
      dsimp only
      rw [if_pos rfl]
      exact nx τ' h2 I2
    rw [if_neg c8]
    by_cases c9 : v = 9
    · obtain ⟨r, h1, h2, τ', e1, e2, e3, I2⟩ := op_looked I 
      rw [if_pos c9, rc_at k8, obs, e1, obs, e2, obs, e3, obs]
      dsimp only
      rw [if_pos rfl]
      exact nx τ' h2 I2
    rw [if_neg c9]
    exact nx τ h I
/-- the law's program on the pure heap answers 1 for every script -/
theorem law_pure (L : Nat) (xs : Nat → Int32) (hL : L ≤ 3072) (sz : Nat) : ∃ (N M : Nat) (h' : zH), M ≤ 600 ∧ fL_law N M L xs (hE sz) = some (1, h') := by
  obtain ⟨h1, h2, e1, s1, e2, I⟩ := startI sz
  obtain ⟨h', e⟩ := lawL 20000000 (Nat.le_refl _) (xs := xs) hL 512 0 600 _ h2 (by omega) (by omega) (by omega) I
  refine ⟨20000000, 600, h', Nat.le_refl _, ?_⟩
  have z : zs (hE sz) = sz := rfl
  unfold fL_law
  rw [z, e1, obs, s1, e2, obs]
  rw [Nat.mul_zero, nI_0] at e
  exact e
