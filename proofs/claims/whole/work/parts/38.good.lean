section
variable {τ : Nat → Nat → Int32} {r : Nat} {h : zH}
theorem rZ1 : rZ 1 h = some (1, h) := rfl
theorem rZ0 : rZ 0 h = some (0, h) := rfl
theorem isClassM0 {m : Nat} {v : Int32} (p : RM τ m h) (w : WF τ) (hv : ¬ ∃ c, c < cn (τ 0 0) ∧ v = nI c) : fX9_isClass (some m) v h = some (0, h) := by
  rcases isClassM p w v with ⟨-, q⟩ | ⟨q, -⟩
  · exact absurd q hv
  · exact q
theorem isMethodM0 {m : Nat} {v : Int32} (p : RM τ m h) (w : WF τ) (hv : ¬ ∃ c, c < cn (τ 6 0) ∧ v = nI c) : fX9_isMethod (some m) v h = some (0, h) := by
  rcases isMethodM p w v with ⟨-, q⟩ | ⟨q, -⟩
  · exact absurd q hv
  · exact q
set_option maxHeartbeats 2000000 in
theorem isGoodM (p : RM τ r h) (w : WF τ) {m o : Nat} (hm : m < cn (τ 6 0)) (ho : o ≤ 41) (a b : Int32) : (fX9_isGood (some r) (nI m) (nI o) a b h = some (1, h) ∧ okQ τ m o a b) ∨ (fX9_isGood (some r) (nI m) (nI o) a b h = some (0, h) ∧ ¬ okQ τ m o a b) := by
  have w3 := (w.2.2.2.1 m hm).2.2.1
  have hn := w.1.2
  have hn6 := w.2.1.2
  have l9 := aM9 p (i := m) (by omega)
  have l19 : nI o < (19 : Int32) ↔ o < 19 := nI_ltI (by omega) (by decide)
  have l25 : (25 : Int32) < nI o ↔ 25 < o := nI_ltI (by decide) (by omega)
  have l41 : (41 : Int32) < nI o ↔ 41 < o := nI_ltI (by decide) (by omega)
  have l0 : ¬ nI o < 0 := nlt0 (by omega)
  have e2 : nI o = (2 : Int32) ↔ o = 2 := nI_eq (by omega) (by decide)
  have e3 : nI o = (3 : Int32) ↔ o = 3 := nI_eq (by omega) (by decide)
  have e26 : nI o = (26 : Int32) ↔ o = 26 := nI_eq (by omega) (by decide)
  have e27 : nI o = (27 : Int32) ↔ o = 27 := nI_eq (by omega) (by decide)
  have e28 : nI o = (28 : Int32) ↔ o = 28 := nI_eq (by omega) (by decide)
  have e29 : nI o = (29 : Int32) ↔ o = 29 := nI_eq (by omega) (by decide)
  have e30 : nI o = (30 : Int32) ↔ o = 30 := nI_eq (by omega) (by decide)
  have e31 : nI o = (31 : Int32) ↔ o = 31 := nI_eq (by omega) (by decide)
  have e35 : nI o = (35 : Int32) ↔ o = 35 := nI_eq (by omega) (by decide)
  have e36 : nI o = (36 : Int32) ↔ o = 36 := nI_eq (by omega) (by decide)
  rcases (show (19 ≤ o ∧ o ≤ 25) ∨ (¬ (19 ≤ o ∧ o ≤ 25) ∧ (o = 2 ∨ o = 3 ∨ o = 26 ∨ o = 27 ∨ o = 28 ∨ o = 29 ∨ o = 30 ∨ o = 31 ∨ o = 35 ∨ o = 36)) ∨ (¬ (19 ≤ o ∧ o ≤ 25) ∧ ¬ (o = 2 ∨ o = 3 ∨ o = 26 ∨ o = 27 ∨ o = 28 ∨ o = 29 ∨ o = 30 ∨ o = 31 ∨ o = 35 ∨ o = 36)) by omega) with ⟨j1, j2⟩ | ⟨j1, j2⟩ | ⟨j1, j2⟩
  · rw [okQj j1 j2]
    have n2 : ¬ o = 2 := by omega
    have n3 : ¬ o = 3 := by omega
    have n26 : ¬ o = 26 := by omega
    have n27 : ¬ o = 27 := by omega
    have n28 : ¬ o = 28 := by omega
    have n29 : ¬ o = 29 := by omega
    have n30 : ¬ o = 30 := by omega
    have n31 : ¬ o = 31 := by omega
    have n35 : ¬ o = 35 := by omega
    have n36 : ¬ o = 36 := by omega
    have s1 : ¬ o < 19 := by omega
    have s2 : ¬ 25 < o := by omega
    have q200 : (200 : Int32) = nI 200 := rfl
    rcases okV a 200 (by decide) (by decide) with ⟨q, q2⟩ | ⟨q, q2⟩
    · refine Or.inl ⟨?_, q2⟩
      simp only [fX9_isGood, fX9_isGood_b300, e2, e3, e26, e27, e28, e29, e30, e31, e35, e36, l19, l25, n2, n3, n26, n27, n28, n29, n30, n31, n35, n36, s1, s2, q.1, q.2, ↓reduceIte]
    · refine Or.inr ⟨?_, q2⟩
      rcases q with q | q
      · simp only [fX9_isGood, fX9_isGood_b300, e2, e3, e26, e27, e28, e29, e30, e31, e35, e36, l19, l25, n2, n3, n26, n27, n28, n29, n30, n31, n35, n36, s1, s2, q, ↓reduceIte]
      · simp only [fX9_isGood, fX9_isGood_b300, e2, e3, e26, e27, e28, e29, e30, e31, e35, e36, l19, l25, n2, n3, n26, n27, n28, n29, n30, n31, n35, n36, s1, s2, q.1, q.2, ↓reduceIte]
  · rcases j2 with rfl | rfl | rfl | rfl | rfl | rfl | rfl | rfl | rfl | rfl
    · rw [okQ2]
      rcases okV a (τ 9 m) w3.1 (by omega) with ⟨q, q2⟩ | ⟨q, q2⟩
      · refine Or.inl ⟨?_, q2⟩
        simp only [fX9_isGood, e2, e3, e26, e27, e28, e29, e30, e31, e35, e36, gRM9 p, l9, q.1, q.2, obs, ↓reduceIte, Nat.reduceEqDiff]
      · refine Or.inr ⟨?_, q2⟩
        rcases q with q | q
        · simp only [fX9_isGood, e2, e3, e26, e27, e28, e29, e30, e31, e35, e36, q, ↓reduceIte, Nat.reduceEqDiff]
        · simp only [fX9_isGood, e2, e3, e26, e27, e28, e29, e30, e31, e35, e36, gRM9 p, l9, q.1, q.2, obs, ↓reduceIte, Nat.reduceEqDiff]
    · rw [okQ3]
      rcases okV a (τ 9 m) w3.1 (by omega) with ⟨q, q2⟩ | ⟨q, q2⟩
      · refine Or.inl ⟨?_, q2⟩
        simp only [fX9_isGood, e2, e3, e26, e27, e28, e29, e30, e31, e35, e36, gRM9 p, l9, q.1, q.2, obs, ↓reduceIte, Nat.reduceEqDiff]
      · refine Or.inr ⟨?_, q2⟩
        rcases q with q | q
        · simp only [fX9_isGood, e2, e3, e26, e27, e28, e29, e30, e31, e35, e36, q, ↓reduceIte, Nat.reduceEqDiff]
        · simp only [fX9_isGood, e2, e3, e26, e27, e28, e29, e30, e31, e35, e36, gRM9 p, l9, q.1, q.2, obs, ↓reduceIte, Nat.reduceEqDiff]
    · rw [okQ26]
      by_cases e : ∃ c, c < cn (τ 0 0) ∧ a = nI c
      · refine Or.inl ⟨?_, e⟩
        obtain ⟨c, hc, rfl⟩ := e
        simp only [fX9_isGood, e2, e3, e26, e27, e28, e29, e30, e31, e35, e36, rcM p, isClassM1 p w hc, rZ1, obs, ↓reduceIte, Nat.reduceEqDiff]
      · refine Or.inr ⟨?_, e⟩
        simp only [fX9_isGood, e2, e3, e26, e27, e28, e29, e30, e31, e35, e36, rcM p, isClassM0 p w e, rZ0, obs, ↓reduceIte, Nat.reduceEqDiff]
    · rw [okQ27]
      by_cases e : ∃ c, c < cn (τ 0 0) ∧ a = nI c
      · obtain ⟨c, hc, rfl⟩ := e
        have l3 := aM3 p (i := c) (by omega)
        have w2 := (w.2.2.1 c hc).2.1
        rcases okV b (τ 3 c) w2.1 (by omega) with ⟨q, k, hk, q2⟩ | ⟨q, q2⟩
        · refine Or.inl ⟨?_, c, k, hc, rfl, hk, q2⟩
          simp only [fX9_isGood, e2, e3, e26, e27, e28, e29, e30, e31, e35, e36, rcM p, isClassM1 p w hc, n10, gRM3 p, l3, q.1, q.2, obs, ↓reduceIte, Nat.reduceEqDiff]
        · refine Or.inr ⟨?_, fun ⟨c', k, hc', e1, hk, e2⟩ => q2 ⟨k, ?_, e2⟩⟩
          · rcases q with q | q
            · simp only [fX9_isGood, e2, e3, e26, e27, e28, e29, e30, e31, e35, e36, rcM p, isClassM1 p w hc, n10, q, obs, ↓reduceIte, Nat.reduceEqDiff]
            · simp only [fX9_isGood, e2, e3, e26, e27, e28, e29, e30, e31, e35, e36, rcM p, isClassM1 p w hc, n10, gRM3 p, l3, q.1, q.2, obs, ↓reduceIte, Nat.reduceEqDiff]
          · rw [nI_inj (a := c) (b := c') (by omega) (by omega) e1]; exact hk
      · refine Or.inr ⟨?_, fun ⟨c, k, hc, e1, _⟩ => e ⟨c, hc, e1⟩⟩
        simp only [fX9_isGood, e2, e3, e26, e27, e28, e29, e30, e31, e35, e36, rcM p, isClassM0 p w e, obs, ↓reduceIte, Nat.reduceEqDiff]
    · rw [okQ28]
      by_cases e : ∃ c, c < cn (τ 0 0) ∧ a = nI c
      · obtain ⟨c, hc, rfl⟩ := e
        have l3 := aM3 p (i := c) (by omega)
        have w2 := (w.2.2.1 c hc).2.1
        rcases okV b (τ 3 c) w2.1 (by omega) with ⟨q, k, hk, q2⟩ | ⟨q, q2⟩
        · refine Or.inl ⟨?_, c, k, hc, rfl, hk, q2⟩
          simp only [fX9_isGood, e2, e3, e26, e27, e28, e29, e30, e31, e35, e36, rcM p, isClassM1 p w hc, n10, gRM3 p, l3, q.1, q.2, obs, ↓reduceIte, Nat.reduceEqDiff]
        · refine Or.inr ⟨?_, fun ⟨c', k, hc', e1, hk, e2⟩ => q2 ⟨k, ?_, e2⟩⟩
          · rcases q with q | q
            · simp only [fX9_isGood, e2, e3, e26, e27, e28, e29, e30, e31, e35, e36, rcM p, isClassM1 p w hc, n10, q, obs, ↓reduceIte, Nat.reduceEqDiff]
            · simp only [fX9_isGood, e2, e3, e26, e27, e28, e29, e30, e31, e35, e36, rcM p, isClassM1 p w hc, n10, gRM3 p, l3, q.1, q.2, obs, ↓reduceIte, Nat.reduceEqDiff]
          · rw [nI_inj (a := c) (b := c') (by omega) (by omega) e1]; exact hk
      · refine Or.inr ⟨?_, fun ⟨c, k, hc, e1, _⟩ => e ⟨c, hc, e1⟩⟩
        simp only [fX9_isGood, e2, e3, e26, e27, e28, e29, e30, e31, e35, e36, rcM p, isClassM0 p w e, obs, ↓reduceIte, Nat.reduceEqDiff]
    · rw [okQ29]
      by_cases e : ∃ c, c < cn (τ 0 0) ∧ a = nI c
      · refine Or.inl ⟨?_, e⟩
        obtain ⟨c, hc, rfl⟩ := e
        simp only [fX9_isGood, e2, e3, e26, e27, e28, e29, e30, e31, e35, e36, rcM p, isClassM1 p w hc, rZ1, obs, ↓reduceIte, Nat.reduceEqDiff]
      · refine Or.inr ⟨?_, e⟩
        simp only [fX9_isGood, e2, e3, e26, e27, e28, e29, e30, e31, e35, e36, rcM p, isClassM0 p w e, rZ0, obs, ↓reduceIte, Nat.reduceEqDiff]
    · rw [okQ30]
      by_cases e : ∃ c, c < cn (τ 0 0) ∧ a = nI c
      · refine Or.inl ⟨?_, e⟩
        obtain ⟨c, hc, rfl⟩ := e
        simp only [fX9_isGood, e2, e3, e26, e27, e28, e29, e30, e31, e35, e36, rcM p, isClassM1 p w hc, rZ1, obs, ↓reduceIte, Nat.reduceEqDiff]
      · refine Or.inr ⟨?_, e⟩
        simp only [fX9_isGood, e2, e3, e26, e27, e28, e29, e30, e31, e35, e36, rcM p, isClassM0 p w e, rZ0, obs, ↓reduceIte, Nat.reduceEqDiff]
    · rw [okQ31]
      rcases okVle a (τ 0 0) w.1.1 (by omega) with ⟨q, q2⟩ | ⟨q, q2⟩
      · refine Or.inl ⟨?_, q2⟩
        simp only [fX9_isGood, e2, e3, e26, e27, e28, e29, e30, e31, e35, e36, gM0 p, q.1, q.2, obs, ↓reduceIte, Nat.reduceEqDiff]
      · refine Or.inr ⟨?_, q2⟩
        rcases q with q | q
        · simp only [fX9_isGood, e2, e3, e26, e27, e28, e29, e30, e31, e35, e36, q, ↓reduceIte, Nat.reduceEqDiff]
        · simp only [fX9_isGood, e2, e3, e26, e27, e28, e29, e30, e31, e35, e36, gM0 p, q.1, q.2, obs, ↓reduceIte, Nat.reduceEqDiff]
    · rw [okQ35]
      by_cases e : ∃ c, c < cn (τ 6 0) ∧ a = nI c
      · refine Or.inl ⟨?_, e⟩
        obtain ⟨c, hc, rfl⟩ := e
        simp only [fX9_isGood, e2, e3, e26, e27, e28, e29, e30, e31, e35, e36, rcM p, isMethodM1 p w hc, rZ1, obs, ↓reduceIte, Nat.reduceEqDiff]
      · refine Or.inr ⟨?_, e⟩
        simp only [fX9_isGood, e2, e3, e26, e27, e28, e29, e30, e31, e35, e36, rcM p, isMethodM0 p w e, rZ0, obs, ↓reduceIte, Nat.reduceEqDiff]
    · rw [okQ36]
      by_cases e : ∃ c, c < cn (τ 0 0) ∧ a = nI c
      · obtain ⟨c, hc, rfl⟩ := e
        rcases okV b 16 (by decide) (by decide) with ⟨q, s, hs, q2⟩ | ⟨q, q2⟩
        · have hs : s < 16 := hs
          subst q2
          have l5 := aM5 p (i := 16 * c + s) (by omega)
          have lin1 : (16 : Int32) * nI c + nI s = nI (16 * c + s) := lin trivial
          rcases (w.2.2.1 c hc).2.2.2.1 s hs with e5 | ⟨q5, hq5, e5⟩
          · refine Or.inr ⟨?_, fun ⟨c', s', q', hc', e1, hs', e2, hq', e3⟩ => ?_⟩
            · rw [e5] at l5
              simp only [fX9_isGood, e2, e3, e26, e27, e28, e29, e30, e31, e35, e36, rcM p, isClassM1 p w hc, n10, q.1, q.2, gRM5 p, lin1, l5, m1neg, obs, ↓reduceIte, Nat.reduceEqDiff]
            · have c1 := nI_inj (a := c) (b := c') (by omega) (by omega) e1
              have c2 := nI_inj (a := s) (b := s') (by omega) (by omega) e2
              subst c1; subst c2
              rw [e5] at e3
              exact nlt0 (n := q') (by omega) (by rw [← e3]; exact m1neg)
          · refine Or.inl ⟨?_, c, s, q5, hc, rfl, hs, rfl, hq5, e5⟩
            have l0' : ¬ nI q5 < 0 := nlt0 (by omega)
            rw [e5] at l5
            simp only [fX9_isGood, e2, e3, e26, e27, e28, e29, e30, e31, e35, e36, rcM p, isClassM1 p w hc, n10, q.1, q.2, gRM5 p, lin1, l5, l0', obs, ↓reduceIte, Nat.reduceEqDiff]
        · refine Or.inr ⟨?_, fun ⟨c', s', q', hc', e1, hs', e2, hq', e3⟩ => q2 ⟨s', hs', e2⟩⟩
          rcases q with q | q
          · simp only [fX9_isGood, e2, e3, e26, e27, e28, e29, e30, e31, e35, e36, rcM p, isClassM1 p w hc, n10, q, obs, ↓reduceIte, Nat.reduceEqDiff]
          · simp only [fX9_isGood, e2, e3, e26, e27, e28, e29, e30, e31, e35, e36, rcM p, isClassM1 p w hc, n10, q.1, q.2, obs, ↓reduceIte, Nat.reduceEqDiff]
      · refine Or.inr ⟨?_, fun ⟨c, k, q, hc, e1, _⟩ => e ⟨c, hc, e1⟩⟩
        simp only [fX9_isGood, e2, e3, e26, e27, e28, e29, e30, e31, e35, e36, rcM p, isClassM0 p w e, obs, ↓reduceIte, Nat.reduceEqDiff]
  · refine Or.inl ⟨?_, okQo j1 j2⟩
    have n2 : ¬ o = 2 := by omega
    have n3 : ¬ o = 3 := by omega
    have n26 : ¬ o = 26 := by omega
    have n27 : ¬ o = 27 := by omega
    have n28 : ¬ o = 28 := by omega
    have n29 : ¬ o = 29 := by omega
    have n30 : ¬ o = 30 := by omega
    have n31 : ¬ o = 31 := by omega
    have n35 : ¬ o = 35 := by omega
    have n36 : ¬ o = 36 := by omega
    by_cases s1 : o < 19
    · simp only [fX9_isGood, fX9_isGood_b300, e2, e3, e26, e27, e28, e29, e30, e31, e35, e36, l19, n2, n3, n26, n27, n28, n29, n30, n31, n35, n36, s1, ↓reduceIte]
    · have s2 : 25 < o := by omega
      simp only [fX9_isGood, fX9_isGood_b300, e2, e3, e26, e27, e28, e29, e30, e31, e35, e36, l19, l25, n2, n3, n26, n27, n28, n29, n30, n31, n35, n36, s1, s2, ↓reduceIte]
end
