section
variable {τ : Nat → Nat → Int32} {kd md : Nat → Nat} {id hd : Nat → Nat → Nat} {x : Nat} {h : zH}
theorem parAt_at (p : RC τ kd md id hd x h) (w : WF τ) {m k : Nat} (hm : m < cn (τ 6 0)) (hk : k < cn (τ 11 m)) : fX3_parameterAt (some (md m)) (nI k) h = some (τ 12 (8 * m + k), h) := by
  obtain ⟨-, b1, b2, rt⟩ := p.2.2.2.2.1 m hm
  obtain ⟨⟨a1, a2, a3, a4, a5, a6, a7, a8, a9, a10⟩, ⟨d0, d1, d2, d3, d4, d5, d6, d7, d8⟩, f1⟩ := rt
  have w4 := (w.2.2.2.1 m hm).2.2.2.1
  unfold fX3_parameterAt
  rw [if_neg (nlt0 (by omega)), gI_at a1, d4, obs, if_neg (nle_cn w4.1 hk (by omega)), if_neg (show ¬ (8 : Int32) ≤ nI k from @nI_ge k 8 (by omega) (by decide)), gR_at a1, a5, obs, aI_at 8 a2 a8 (by omega) (by decide), obs, f1 k (by omega) hk]
/-- two methods alike but for the first parameter -/
def lk (τ : Nat → Nat → Int32) (m u : Nat) : Prop := τ 8 m = τ 8 u ∧ τ 11 m = τ 11 u ∧ ∀ k, 1 ≤ k → k < cn (τ 11 m) → τ 12 (8 * m + k) = τ 12 (8 * u + k)
theorem likeC (N : Nat) (p : RC τ kd md id hd x h) (w : WF τ) {m u : Nat} (hm : m < cn (τ 6 0)) (hu : u < cn (τ 6 0)) (e11 : τ 11 u = τ 11 m) (d : Nat) : ∀ (k n : Nat), cn (τ 11 u) ≤ k + d → d < n → k < 100 → (fX3_isCalledLike_b26 N n (some (md u)) (some (md m)) (nI k) h = some (1, h) ∧ ∀ j, k ≤ j → j < cn (τ 11 u) → τ 12 (8 * m + j) = τ 12 (8 * u + j)) ∨ (fX3_isCalledLike_b26 N n (some (md u)) (some (md m)) (nI k) h = some (0, h) ∧ ∃ j, k ≤ j ∧ j < cn (τ 11 u) ∧ τ 12 (8 * m + j) ≠ τ 12 (8 * u + j)) := by
  have au : zk h (md u) = 4 := (p.2.2.2.2.1 u hu).2.2.2.1.1
  have am : zk h (md m) = 4 := (p.2.2.2.2.1 m hm).2.2.2.1.1
  have iu : zi h 3 7 (md u) = τ 11 u := (p.2.2.2.2.1 u hu).2.2.2.2.1.2.2.2.2.1
  have w4 := (w.2.2.2.1 u hu).2.2.2.1
  induction d with
  | zero =>
    intro k n hk hn h100
    obtain ⟨n, rfl⟩ : ∃ m, n = m + 1 := ⟨n - 1, by omega⟩
    refine Or.inl ⟨?_, fun j h1 h2 => by omega⟩
    rw [fX3_isCalledLike_b26, gI_at au, iu, obs, if_pos (by rw [nI_of_cn w4.1]; exact nI_le hk (by omega))]
  | succ d ih =>
    intro k n hk hn h100
    obtain ⟨n, rfl⟩ : ∃ m, n = m + 1 := ⟨n - 1, by omega⟩
    by_cases e : cn (τ 11 u) ≤ k
    · refine Or.inl ⟨?_, fun j h1 h2 => by omega⟩
      rw [fX3_isCalledLike_b26, gI_at au, iu, obs, if_pos (by rw [nI_of_cn w4.1]; exact nI_le e (by omega))]
    · have e1 := parAt_at p w hu (k := k) (by omega)
      have e2 := parAt_at p w hm (k := k) (by rw [← e11]; omega)
      by_cases q : τ 12 (8 * u + k) = τ 12 (8 * m + k)
      · have E : fX3_isCalledLike_b26 N (n + 1) (some (md u)) (some (md m)) (nI k) h = fX3_isCalledLike_b26 N n (some (md u)) (some (md m)) (nI (k + 1)) h := by
          rw [fX3_isCalledLike_b26, gI_at au, iu, obs, if_neg (nle_cn w4.1 (by omega) (by omega)), rc_at au, obs, e1, obs, rc_at am, obs, e2, obs, if_pos q, nI_1]
        rw [E]
        rcases ih (k + 1) n (by omega) (by omega) (by omega) with ⟨r, s⟩ | ⟨r, j, j1, j2, j3⟩
        · refine Or.inl ⟨r, fun j h1 h2 => ?_⟩
          by_cases ej : j = k
          · rw [ej]; exact q.symm
          · exact s j (by omega) h2
        · exact Or.inr ⟨r, j, by omega, j2, j3⟩
      · refine Or.inr ⟨?_, k, Nat.le_refl _, by omega, fun r => q r.symm⟩
        rw [fX3_isCalledLike_b26, gI_at au, iu, obs, if_neg (nle_cn w4.1 (by omega) (by omega)), rc_at au, obs, e1, obs, rc_at am, obs, e2, obs, if_neg q]
theorem calledLike (N : Nat) (hN : 20 ≤ N) (p : RC τ kd md id hd x h) (w : WF τ) {m u : Nat} (hm : m < cn (τ 6 0)) (hu : u < cn (τ 6 0)) : (fX3_isCalledLike N (some (md u)) (some (md m)) h = some (1, h) ∧ lk τ m u) ∨ (fX3_isCalledLike N (some (md u)) (some (md m)) h = some (0, h) ∧ ¬ lk τ m u) := by
  have au : zk h (md u) = 4 := (p.2.2.2.2.1 u hu).2.2.2.1.1
  have am : zk h (md m) = 4 := (p.2.2.2.2.1 m hm).2.2.2.1.1
  have iu : zi h 3 7 (md u) = τ 11 u := (p.2.2.2.2.1 u hu).2.2.2.2.1.2.2.2.2.1
  have im : zi h 3 7 (md m) = τ 11 m := (p.2.2.2.2.1 m hm).2.2.2.2.1.2.2.2.2.1
  have ju : zi h 3 1 (md u) = τ 8 u := (p.2.2.2.2.1 u hu).2.2.2.2.1.2.1
  have jm : zi h 3 1 (md m) = τ 8 m := (p.2.2.2.2.1 m hm).2.2.2.2.1.2.1
  have w4 := (w.2.2.2.1 u hu).2.2.2.1
  unfold fX3_isCalledLike
  rw [gI_at au, obs, gI_at am, obs, ju, jm]
  by_cases q1 : τ 8 u = τ 8 m
  · rw [if_pos q1, gI_at au, obs, gI_at am, obs, iu, im]
    by_cases q2 : τ 11 u = τ 11 m
    · rw [if_pos q2]
      rcases likeC N p w hm hu q2 8 1 N (by omega) (by omega) (by omega) with ⟨r, s⟩ | ⟨r, j, j1, j2, j3⟩
      · exact Or.inl ⟨r, q1.symm, q2.symm, fun k h1 h2 => s k h1 (by rw [q2]; exact h2)⟩
      · exact Or.inr ⟨r, fun q => j3 (q.2.2 j j1 (by rw [← q2]; exact j2))⟩
    · rw [if_neg q2]; exact Or.inr ⟨rfl, fun q => q2 q.2.1.symm⟩
  · rw [if_neg q1]; exact Or.inr ⟨rfl, fun q => q1 q.1.symm⟩
end
section
variable {τ : Nat → Nat → Int32} {r : Nat} {h : zH}
theorem likeM (N : Nat) (p : RM τ r h) (w : WF τ) {m u : Nat} (hm : m < cn (τ 6 0)) (hu : u < cn (τ 6 0)) (e11 : τ 11 m = τ 11 u) (d : Nat) : ∀ (k n : Nat), cn (τ 11 m) ≤ k + d → d < n → k < 100 → 1 ≤ d → (fX9_isLike_b39 N n (some r) (nI m) (nI u) 1 (nI k) h = some (1, h) ∧ ∀ j, k ≤ j → j < cn (τ 11 m) → τ 12 (8 * m + j) = τ 12 (8 * u + j)) ∨ (fX9_isLike_b39 N n (some r) (nI m) (nI u) 1 (nI k) h = some (0, h) ∧ ∃ j, k ≤ j ∧ j < cn (τ 11 m) ∧ τ 12 (8 * m + j) ≠ τ 12 (8 * u + j)) := by
  have w4 := (w.2.2.2.1 m hm).2.2.2.1
  have h6 := w.2.1.2
  have l11 := aM11 p (i := m) (by omega)
  have stop : ∀ (k n : Nat), cn (τ 11 m) ≤ k → k < 200 → ∀ s, fX9_isLike_b39 N (n + 1) (some r) (nI m) (nI u) s (nI k) h = rZ s h := fun k n hk h100 s => by
    rw [fX9_isLike_b39, gRM11 p, obs, l11, obs, if_pos (by rw [nI_of_cn w4.1]; exact nI_le hk (by omega))]
  induction d with
  | zero => intro k n hk hn h100 hd; omega
  | succ d ih =>
    intro k n hk hn h100 hd
    obtain ⟨n, rfl⟩ : ∃ m, n = m + 1 := ⟨n - 1, by omega⟩
    by_cases e : cn (τ 11 m) ≤ k
    · refine Or.inl ⟨?_, fun j h1 h2 => by omega⟩
      rw [stop k n e (by omega)]; rfl
    · have l1 := aM12 p (i := 8 * m + k) (by omega)
      have l2 := aM12 p (i := 8 * u + k) (by omega)
      have lin1 : (8 : Int32) * nI m + nI k = nI (8 * m + k) := lin trivial
      have lin2 : (8 : Int32) * nI u + nI k = nI (8 * u + k) := lin trivial
      by_cases q : τ 12 (8 * m + k) = τ 12 (8 * u + k)
      · have E : fX9_isLike_b39 N (n + 1) (some r) (nI m) (nI u) 1 (nI k) h = fX9_isLike_b39 N n (some r) (nI m) (nI u) 1 (nI (k + 1)) h := by
          rw [fX9_isLike_b39, gRM11 p, obs, l11, obs, if_neg (nle_cn w4.1 (by omega) (by omega)), if_neg n10, gRM12 p, obs, lin1, l1, obs, obs, lin2, l2, obs, if_pos q, fX9_isLike_b86, nI_1]
        rw [E]
        rcases Nat.eq_zero_or_pos d with rfl | hp
        · refine Or.inl ⟨?_, fun j h1 h2 => ?_⟩
          · obtain ⟨n, rfl⟩ : ∃ m, n = m + 1 := ⟨n - 1, by omega⟩
            rw [stop (k + 1) n (by omega) (by omega)]; rfl
          · have : j = k := by omega
            rw [this]; exact q
        · rcases ih (k + 1) n (by omega) (by omega) (by omega) hp with ⟨r, s⟩ | ⟨r, j, j1, j2, j3⟩
          · refine Or.inl ⟨r, fun j h1 h2 => ?_⟩
            by_cases ej : j = k
            · rw [ej]; exact q
            · exact s j (by omega) h2
          · exact Or.inr ⟨r, j, by omega, j2, j3⟩
      · refine Or.inr ⟨?_, k, Nat.le_refl _, by omega, q⟩
        rw [fX9_isLike_b39, gRM11 p, obs, l11, obs, if_neg (nle_cn w4.1 (by omega) (by omega)), if_neg n10, gRM12 p, obs, lin1, l1, obs, obs, lin2, l2, obs, if_neg q, fX9_isLike_b86, nI_1]
        obtain ⟨n, rfl⟩ : ∃ m, n = m + 1 := ⟨n - 1, by omega⟩
        rw [fX9_isLike_b39, gRM11 p, obs, l11, obs]
        by_cases z : τ 11 m ≤ nI (k + 1)
        · rw [if_pos z]; rfl
        · rw [if_neg z, if_pos rfl]; rfl
theorem isLikeM (N : Nat) (hN : 20 ≤ N) (p : RM τ r h) (w : WF τ) {m u : Nat} (hm : m < cn (τ 6 0)) (hu : u < cn (τ 6 0)) : (fX9_isLike N (some r) (nI m) (nI u) h = some (1, h) ∧ lk τ m u) ∨ (fX9_isLike N (some r) (nI m) (nI u) h = some (0, h) ∧ ¬ lk τ m u) := by
  have w4 := (w.2.2.2.1 m hm).2.2.2.1
  have h6 := w.2.1.2
  have l11 := aM11 p (i := m) (by omega)
  have l11u := aM11 p (i := u) (by omega)
  have l8 := aM8 p (i := m) (by omega)
  have l8u := aM8 p (i := u) (by omega)
  have no : fX9_isLike_b34 N (some r) (nI m) (nI u) h = some (0, h) := by
    obtain ⟨N', rfl⟩ : ∃ m, N = m + 1 := ⟨N - 1, by omega⟩
    unfold fX9_isLike_b34 fX9_isLike_b35
    rw [fX9_isLike_b39, gRM11 p, obs, l11, obs]
    by_cases z : τ 11 m ≤ 1
    · rw [if_pos z]; rfl
    · rw [if_neg z, if_pos rfl]; rfl
  unfold fX9_isLike
  rw [gRM11 p, obs, l11, obs, obs, l11u, obs]
  by_cases q2 : τ 11 m = τ 11 u
  · rw [if_pos q2, gRM8 p, obs, l8, obs, obs, l8u, obs]
    by_cases q1 : τ 8 m = τ 8 u
    · rw [if_pos q1]
      unfold fX9_isLike_b35
      rcases likeM N p w hm hu q2 9 1 N (by omega) (by omega) (by omega) (by omega) with ⟨e, s⟩ | ⟨e, j, j1, j2, j3⟩
      · exact Or.inl ⟨e, q1, q2, s⟩
      · exact Or.inr ⟨e, fun q => j3 (q.2.2 j j1 j2)⟩
    · rw [if_neg q1]; exact Or.inr ⟨no, fun q => q1 q.1⟩
  · rw [if_neg q2]; exact Or.inr ⟨no, fun q => q2 q.2.1⟩
/-- behind the search for a class under c -/
def slotEnd (N : Nat) (r : Nat) (m s c : Int32) (h : zH) : Option (Int32 × zH) := (gR 9 5 (some r) h).bind fun v3 => (aI 100 v3 ((16 * c) + s) h).bind fun v4 =>
    if v4 < 0 then (fX9_slot_b97 N (some r) m s c h) else ((rc 9 (some r) h).bind fun _ => (fX9_isLike N (some r) m v4 h).bind fun q6 => if q6.1 = 0 then (some (0, q6.2)) else (fX9_slot_b97 N (some r) m s c q6.2))
theorem slotLoop (N : Nat) (p : RM τ r h) (w : WF τ) {c : Nat} (hc : c < cn (τ 0 0)) (m s : Int32) (d : Nat) : ∀ (k n : Nat), k + d = cn (τ 0 0) → d < n → (fX9_slot_b39 N n (some r) m s (nI c) (nI k) h = slotEnd N r m s (nI c) h ∧ ∀ j, k ≤ j → j < cn (τ 0 0) → τ 1 j ≠ nI c) ∨ (fX9_slot_b39 N n (some r) m s (nI c) (nI k) h = some (0, h) ∧ ∃ j, j < cn (τ 0 0) ∧ τ 1 j = nI c) := by
  have hn := w.1.2
  induction d with
  | zero =>
    intro k n hk hn'
    obtain ⟨n, rfl⟩ : ∃ m, n = m + 1 := ⟨n - 1, by omega⟩
    refine Or.inl ⟨?_, fun j h1 h2 => by omega⟩
    rw [fX9_slot_b39, gM0 p, obs, if_pos (by rw [nI_of_cn w.1.1]; exact nI_le (by omega) (by omega))]
    rfl
  | succ d ih =>
    intro k n hk hn'
    obtain ⟨n, rfl⟩ : ∃ m, n = m + 1 := ⟨n - 1, by omega⟩
    have l1 := aM1 p (i := k) (by omega)
    by_cases q : τ 1 k = nI c
    · refine Or.inr ⟨?_, k, by omega, q⟩
      rw [fX9_slot_b39, gM0 p, obs, if_neg (nle_cn w.1.1 (by omega) (by omega)), gRM1 p, obs, l1, obs, if_pos q]
    · have E : fX9_slot_b39 N (n + 1) (some r) m s (nI c) (nI k) h = fX9_slot_b39 N n (some r) m s (nI c) (nI (k + 1)) h := by
        rw [fX9_slot_b39, gM0 p, obs, if_neg (nle_cn w.1.1 (by omega) (by omega)), gRM1 p, obs, l1, obs, if_neg q, nI_1]
      rw [E]
      rcases ih (k + 1) n (by omega) (by omega) with ⟨e, t⟩ | ⟨e, t⟩
      · refine Or.inl ⟨e, fun j h1 h2 => ?_⟩
        by_cases ej : j = k
        · rw [ej]; exact q
        · exact t j (by omega) h2
      · exact Or.inr ⟨e, t⟩
end
