/-! Readers of both sides. -/
theorem rng {t : Int32} {a b : Nat} (ha : ¬ t < nI a) (hb : ¬ nI b < t) (hb31 : b < 2 ^ 31) (ha31 : a < 2 ^ 31) : ∃ k, a ≤ k ∧ k ≤ b ∧ t = nI k := by
  have h0 : ¬ t < 0 := by
    intro q
    apply ha
    rw [Int32.lt_iff_toInt_lt, nI_toInt ha31]
    rw [Int32.lt_iff_toInt_lt, Int32.toInt_zero] at q
    omega
  obtain ⟨k, hk, rfl⟩ := nI_of h0
  rw [nI_ltI hk ha31] at ha
  rw [nI_ltI hb31 hk] at hb
  exact ⟨k, by omega, by omega, rfl⟩
theorem nI_inj {a b : Nat} (ha : a < 2 ^ 31) (hb : b < 2 ^ 31) (h : nI a = nI b) : a = b := (nI_eq ha hb).mp h
section
variable {τ : Nat → Nat → Int32} {kd md : Nat → Nat} {id hd : Nat → Nat → Nat} {x : Nat} {h : zH}
theorem kindAt_no (p : RC τ kd md id hd x h) {v : Int32} (hv : v < 0 ∨ (¬ v < 0 ∧ τ 0 0 ≤ v)) : fX6_kindAt (some (x + 1)) v h = some (none, h) := by
  have hk : zk h (x + 1) = 6 + 1 := p.1.1.2.1
  unfold fX6_kindAt
  rcases hv with h1 | ⟨h1, h2⟩
  · rw [if_pos h1]
  · rw [if_neg h1, gI_at hk, obs, p.2.2.1.1, if_pos h2]
theorem kindAt_at (p : RC τ kd md id hd x h) (w : WF τ) {c : Nat} (hc : c < cn (τ 0 0)) : fX6_kindAt (some (x + 1)) (nI c) h = some (some (kd c), h) := by
  have hk : zk h (x + 1) = 6 + 1 := p.1.1.2.1
  have hb := w.1.2
  unfold fX6_kindAt
  rw [if_neg (nlt0 (by omega)), gI_at hk, obs, p.2.2.1.1, if_neg (nle_cn w.1.1 hc (by omega)), if_neg (show ¬ ((32 : Int32) ≤ nI c) from @nI_ge c 32 (by omega) (by decide)), gR_at hk, p.1.2.1.2.2.1, obs, aQ_at 32 p.1.1.2.2.1 p.1.2.2.1 (by omega) (by decide), (p.2.2.2.1 c hc).1]
  rfl
theorem methodAt_no (p : RC τ kd md id hd x h) {v : Int32} (hv : v < 0 ∨ (¬ v < 0 ∧ τ 6 0 ≤ v)) : fX6_methodAt (some (x + 1)) v h = some (none, h) := by
  have hk : zk h (x + 1) = 6 + 1 := p.1.1.2.1
  unfold fX6_methodAt
  rcases hv with h1 | ⟨h1, h2⟩
  · rw [if_pos h1]
  · rw [if_neg h1, gI_at hk, obs, p.2.2.1.2.1, if_pos h2]
theorem methodAt_at (p : RC τ kd md id hd x h) (w : WF τ) {m : Nat} (hm : m < cn (τ 6 0)) : fX6_methodAt (some (x + 1)) (nI m) h = some (some (md m), h) := by
  have hk : zk h (x + 1) = 6 + 1 := p.1.1.2.1
  have hb := w.2.1.2
  unfold fX6_methodAt
  rw [if_neg (nlt0 (by omega)), gI_at hk, obs, p.2.2.1.2.1, if_neg (nle_cn w.2.1.1 hm (by omega)), if_neg (show ¬ ((64 : Int32) ≤ nI m) from @nI_ge m 64 (by omega) (by decide)), gR_at hk, p.1.2.1.2.2.2.1, obs, aQ_at 64 p.1.1.2.2.2.1 p.1.2.2.2.1 (by omega) (by decide), (p.2.2.2.2.1 m hm).1]
  rfl
theorem kindOf_at (p : RC τ kd md id hd x h) (w : WF τ) {c : Nat} (hc : c < cn (τ 0 0)) : fX6_kindOf (some (x + 1)) (nI (c + 1)) h = some (some (kd c), h) := by
  have e : fX6_kindOf (some (x + 1)) (nI (c + 1)) h = fX6_kindAt (some (x + 1)) (nI (c + 1) - 1) h := rfl
  rw [e, nI_pred, kindAt_at p w hc]
theorem kindOf_no (p : RC τ kd md id hd x h) (w : WF τ) {t : Int32} (ht : ∀ c, c < cn (τ 0 0) → t ≠ nI (c + 1)) : fX6_kindOf (some (x + 1)) t h = some (none, h) := by
  have e : fX6_kindOf (some (x + 1)) t h = fX6_kindAt (some (x + 1)) (t - 1) h := rfl
  rw [e]
  rcases ix (v := t - 1) w.1.1 with h1 | h1 | ⟨j, hj, h1⟩
  · exact kindAt_no p (Or.inl h1)
  · exact kindAt_no p (Or.inr h1)
  · refine absurd ?_ (ht j hj)
    have : t = (t - 1) + 1 := by rw [Int32.sub_add_cancel]
    rw [this, h1, nI_1]
theorem isRowType_eq (t : Int32) : (fX8_isRowType t h = some (1, h) ∧ ∃ k, k ≤ 32 ∧ t = nI (64 + k)) ∨ (fX8_isRowType t h = some (0, h) ∧ ∀ k, k ≤ 32 → t ≠ nI (64 + k)) := by
  unfold fX8_isRowType
  by_cases h1 : t < 64
  · rw [if_pos h1]
    refine Or.inr ⟨rfl, fun k hk e => ?_⟩
    rw [e] at h1
    exact absurd h1 (show ¬ nI (64 + k) < nI 64 from nI_nlt (by omega) (by omega))
  · rw [if_neg h1]
    by_cases h2 : 96 < t
    · rw [if_pos h2]
      refine Or.inr ⟨rfl, fun k hk e => ?_⟩
      rw [e] at h2
      exact absurd h2 (show ¬ nI 96 < nI (64 + k) from nI_nlt (by omega) (by omega))
    · rw [if_neg h2]
      obtain ⟨k, hk1, hk2, rfl⟩ := rng (a := 64) (b := 96) h1 h2 (by decide) (by decide)
      exact Or.inl ⟨rfl, k - 64, by omega, by rw [show 64 + (k - 64) = k by omega]⟩
theorem isTypeC (p : RC τ kd md id hd x h) (w : WF τ) (t : Int32) : (fX6_isType (some (x + 1)) t h = some (1, h) ∧ okT (cn (τ 0 0)) t) ∨ (fX6_isType (some (x + 1)) t h = some (0, h) ∧ ¬ okT (cn (τ 0 0)) t) := by
  have hk : zk h (x + 1) = 6 + 1 := p.1.1.2.1
  have hb := w.1.2
  unfold fX6_isType fX6_isType_b42 fX6_isType_b24
  rcases isRowType_eq (h := h) t with ⟨e1, k, hk1, rfl⟩ | ⟨e1, h1⟩
  · rw [e1, obs, if_neg (show ¬ (1 : Int32) = 0 by decide)]
    by_cases h2 : nI (64 + k) = 64
    · rw [if_pos h2]
      have : k = 0 := by
        have := nI_inj (a := 64 + k) (b := 64) (by omega) (by decide) h2
        omega
      exact Or.inl ⟨rfl, 0, Nat.zero_le _, Or.inr (by rw [this])⟩
    · rw [if_neg h2]
      have hk0 : k ≠ 0 := fun q => h2 (by rw [q]; rfl)
      have e2 : fX8_elementOf (nI (64 + k)) h = some (nI k, h) := by
        unfold fX8_elementOf
        rw [show (64 : Int32) = nI 64 from rfl, pk_sub (by omega), Nat.add_sub_cancel_left]
      rw [e2, obs, rc_at hk, obs]
      by_cases h3 : k - 1 < cn (τ 0 0)
      · have e3 := kindOf_at p w h3
        rw [show k - 1 + 1 = k by omega] at e3
        rw [e3, obs, if_neg (fun q => by cases q)]
        exact Or.inl ⟨rfl, k, by omega, Or.inr rfl⟩
      · rw [kindOf_no p w (t := nI k) (fun c hc q => h3 (by have := nI_inj (by omega) (by omega) q; omega)), obs, if_pos rfl]
        refine Or.inr ⟨rfl, ?_⟩
        rintro ⟨j, hj, q | q⟩
        · have := nI_inj (by omega) (by omega) q; omega
        · have := nI_inj (by omega) (by omega) q; omega
  · rw [e1, obs, if_pos rfl]
    by_cases h2 : t = 0
    · rw [if_pos h2]
      exact Or.inl ⟨rfl, 0, Nat.zero_le _, Or.inl h2⟩
    · rw [if_neg h2, rc_at hk, obs]
      by_cases h3 : ∃ c, c < cn (τ 0 0) ∧ t = nI (c + 1)
      · obtain ⟨c, hc, rfl⟩ := h3
        rw [kindOf_at p w hc, obs, if_neg (fun q => by cases q)]
        exact Or.inl ⟨rfl, c + 1, by omega, Or.inl rfl⟩
      · rw [kindOf_no p w (fun c hc q => h3 ⟨c, hc, q⟩), obs, if_pos rfl]
        refine Or.inr ⟨rfl, ?_⟩
        rintro ⟨j, hj, q | q⟩
        · rcases Nat.eq_zero_or_pos j with rfl | hp
          · exact h2 q
          · exact h3 ⟨j - 1, by omega, by rw [q, show j - 1 + 1 = j by omega]⟩
        · exact h1 j (by omega) q
end
section
variable {τ : Nat → Nat → Int32} {m : Nat} {h : zH}
theorem isClassM (p : RM τ m h) (w : WF τ) (v : Int32) : (fX9_isClass (some m) v h = some (1, h) ∧ ∃ c, c < cn (τ 0 0) ∧ v = nI c) ∨ (fX9_isClass (some m) v h = some (0, h) ∧ (v < 0 ∨ (¬ v < 0 ∧ τ 0 0 ≤ v))) := by
  unfold fX9_isClass
  have hb := w.1.2
  rcases ix (v := v) w.1.1 with h1 | h1 | ⟨j, hj, rfl⟩
  · rw [if_pos h1]; exact Or.inr ⟨rfl, Or.inl h1⟩
  · rw [if_neg h1.1, gM0 p, obs, if_pos h1.2]; exact Or.inr ⟨rfl, Or.inr h1⟩
  · rw [if_neg (nlt0 (by omega)), gM0 p, obs, if_neg (nle_cn w.1.1 hj (by omega))]; exact Or.inl ⟨rfl, j, hj, rfl⟩
theorem isMethodM (p : RM τ m h) (w : WF τ) (v : Int32) : (fX9_isMethod (some m) v h = some (1, h) ∧ ∃ c, c < cn (τ 6 0) ∧ v = nI c) ∨ (fX9_isMethod (some m) v h = some (0, h) ∧ (v < 0 ∨ (¬ v < 0 ∧ τ 6 0 ≤ v))) := by
  unfold fX9_isMethod
  have hb := w.2.1.2
  rcases ix (v := v) w.2.1.1 with h1 | h1 | ⟨j, hj, rfl⟩
  · rw [if_pos h1]; exact Or.inr ⟨rfl, Or.inl h1⟩
  · rw [if_neg h1.1, gM6 p, obs, if_pos h1.2]; exact Or.inr ⟨rfl, Or.inr h1⟩
  · rw [if_neg (nlt0 (by omega)), gM6 p, obs, if_neg (nle_cn w.2.1.1 hj (by omega))]; exact Or.inl ⟨rfl, j, hj, rfl⟩
theorem isTypeM (p : RM τ m h) (w : WF τ) (t : Int32) : (fX9_isType (some m) t h = some (1, h) ∧ okT (cn (τ 0 0)) t) ∨ (fX9_isType (some m) t h = some (0, h) ∧ ¬ okT (cn (τ 0 0)) t) := by
  have hb := w.1.2
  have hc : τ 0 0 = nI (cn (τ 0 0)) := nI_of_cn w.1.1
  have e64 : (64 : Int32) + τ 0 0 = nI (64 + cn (τ 0 0)) := by
    have q : (64 : Int32) + nI (cn (τ 0 0)) = nI (64 + cn (τ 0 0)) := nI_add 64 _
    rw [← hc] at q; exact q
  have hB : (fX9_isType_b12 (some m) t h = some (1, h) ∧ okT (cn (τ 0 0)) t) ∨ (fX9_isType_b12 (some m) t h = some (0, h) ∧ ∀ j, j ≤ cn (τ 0 0) → t ≠ nI (64 + j)) := by
    unfold fX9_isType_b12 fX9_isType_b29
    by_cases h1 : t < 64
    · rw [if_pos h1]
      refine Or.inr ⟨rfl, fun j hj e => ?_⟩
      rw [e] at h1
      exact absurd h1 (show ¬ nI (64 + j) < nI 64 from nI_nlt (by omega) (by omega))
    · rw [if_neg h1, gM0 p, obs, e64]
      by_cases h2 : nI (64 + cn (τ 0 0)) < t
      · rw [if_pos h2]
        refine Or.inr ⟨rfl, fun j hj e => ?_⟩
        rw [e] at h2
        exact absurd h2 (nI_nlt (by omega) (by omega))
      · rw [if_neg h2]
        obtain ⟨k, hk1, hk2, rfl⟩ := rng (a := 64) h1 h2 (by omega) (by decide)
        exact Or.inl ⟨rfl, k - 64, by omega, Or.inr (by rw [show 64 + (k - 64) = k by omega])⟩
  unfold fX9_isType
  by_cases h1 : t < 0
  · rw [if_pos h1]
    rcases hB with hB | ⟨e, hB⟩
    · exact Or.inl hB
    · refine Or.inr ⟨e, ?_⟩
      rintro ⟨j, hj, q | q⟩
      · rw [q] at h1; exact nlt0 (by omega) h1
      · exact hB j hj q
  · rw [if_neg h1, gM0 p, obs]
    by_cases h2 : t ≤ τ 0 0
    · rw [if_pos h2]
      rw [hc] at h2
      obtain ⟨k, hk, rfl⟩ := nI_of h1
      rw [nI_leI hk (by omega)] at h2
      exact Or.inl ⟨rfl, k, h2, Or.inl rfl⟩
    · rw [if_neg h2]
      rcases hB with hB | ⟨e, hB⟩
      · exact Or.inl hB
      · refine Or.inr ⟨e, ?_⟩
        rintro ⟨j, hj, q | q⟩
        · apply h2; rw [q, hc]; exact nI_le hj (by omega)
        · exact hB j hj q
end
