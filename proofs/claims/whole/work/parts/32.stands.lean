theorem n20 : ¬ (2 : Int32) = 0 := by decide
theorem n21 : ¬ (2 : Int32) = 1 := by decide
section
variable {τ : Nat → Nat → Int32} {kd md : Nat → Nat} {id hd : Nat → Nat → Nat} {x : Nat} {h : zH}
theorem op_looked (I : Inv τ x h) : Same (fX8_looked (some x)) (fX9_looked (some (x + 8))) x h := by
  obtain ⟨w, rM, kd, md, ib, hd, p⟩ := I
  have k8 : zk h x = 9 := p.1.1.1
  have k7 : zk h (x + 4) = 8 := p.1.1.2.2.2.2.1
  have r1 : zr h 8 1 x = some (x + 4) := p.1.2.1.2.1
  refine Same.no (r := τ 27 0) ⟨w, rM, kd, md, ib, hd, p⟩ ?_ ?_
  · simp only [fX8_looked, gR_at, gI_at, k8, k7, r1, p.2.2.1.2.2, obs]
  · simp only [fX9_looked, gM27 rM, obs]
theorem instrAt_at (p : RC τ kd md id hd x h) (w : WF τ) {m i : Nat} (hm : m < cn (τ 6 0)) (hi : i < cn (τ 14 m)) : fX3_instructionAt (some (md m)) (nI i) h = some (some (id m i), h) := by
  obtain ⟨-, -, -, rt⟩ := p.2.2.2.2.1 m hm
  obtain ⟨⟨a1, a2, a3, a4, a5, a6, a7, a8, a9, a10⟩, ⟨d0, d1, d2, d3, d4, d5, d6, d7, d8⟩, f1⟩ := rt
  have w8 := (w.2.2.2.1 m hm).2.2.2.2.2.2.2.1
  have q1 : ¬ nI i < 0 := nlt0 (by omega)
  have q2 : ¬ τ 14 m ≤ nI i := nle_cn w8.1 hi (by omega)
  have q3 : ¬ (200 : Int32) ≤ nI i := @nI_ge i 200 (by omega) (by decide)
  have q4 := aQ_at (κ := 103) (i := i) 200 a3 a9 (by omega) (by decide)
  rw [(p.2.2.2.2.2.1 m i hm hi).1] at q4
  simp only [fX3_instructionAt, gI_at, gR_at, a1, a6, d5, q1, q2, q3, q4, obs, ↓reduceIte]
theorem instrAt_no (p : RC τ kd md id hd x h) {m : Nat} (hm : m < cn (τ 6 0)) {v : Int32} (hv : v < 0 ∨ (¬ v < 0 ∧ τ 14 m ≤ v)) : fX3_instructionAt (some (md m)) v h = some (none, h) := by
  obtain ⟨-, -, -, rt⟩ := p.2.2.2.2.1 m hm
  obtain ⟨⟨a1, a2, a3, a4, a5, a6, a7, a8, a9, a10⟩, ⟨d0, d1, d2, d3, d4, d5, d6, d7, d8⟩, f1⟩ := rt
  rcases hv with q | ⟨q1, q2⟩
  · simp only [fX3_instructionAt, q, ↓reduceIte]
  · simp only [fX3_instructionAt, gI_at, a1, d5, q1, q2, obs, ↓reduceIte]
/-- a row's readers, at known numbers -/
theorem localAt_eq {a t l : Nat} {v : Int32} (hk : zk h a = 5) (hr : zr h 4 0 a = some t) (ht : zk h t = 100) (hl : zl h t = 12) (e1 : zi h 4 1 a = nI l) (hl12 : l ≤ 12) : (∃ k, k < l ∧ v = nI k ∧ fX4_localAt (some a) v h = some (za h t k, h)) ∨ ((v < 0 ∨ (¬ v < 0 ∧ nI l ≤ v)) ∧ fX4_localAt (some a) v h = some (-1, h)) := by
  rcases ix (v := v) (n := nI l) (nlt0 (by omega)) with q | q | ⟨k, hk2, rfl⟩
  · exact Or.inr ⟨Or.inl q, by simp only [fX4_localAt, q, ↓reduceIte]⟩
  · exact Or.inr ⟨Or.inr q, by simp only [fX4_localAt, gI_at, hk, e1, q.1, q.2, obs, ↓reduceIte]⟩
  · rw [cn_nI (by omega)] at hk2
    refine Or.inl ⟨k, hk2, rfl, ?_⟩
    have q1 : ¬ nI k < 0 := nlt0 (by omega)
    have q2 : ¬ nI l ≤ nI k := nI_ge hk2 (by omega)
    have q3 : ¬ (12 : Int32) ≤ nI k := @nI_ge k 12 (by omega) (by decide)
    have q4 := aI_at (κ := 100) (i := k) 12 ht hl (by omega) (by decide)
    simp only [fX4_localAt, gI_at, gR_at, hk, hr, e1, q1, q2, q3, q4, obs, ↓reduceIte]
theorem placeAt_eq {a t l n : Nat} {v : Int32} (hk : zk h a = 5) (hr : zr h 4 0 a = some t) (ht : zk h t = 100) (hl : zl h t = 12) (e1 : zi h 4 1 a = nI l) (e3 : zi h 4 3 a = nI n) (hl12 : l + n ≤ 12) : (∃ k, k < n ∧ v = nI k ∧ fX4_placeAt (some a) v h = some (za h t (l + k), h)) ∨ ((v < 0 ∨ (¬ v < 0 ∧ nI n ≤ v)) ∧ fX4_placeAt (some a) v h = some (-1, h)) := by
  rcases ix (v := v) (n := nI n) (nlt0 (by omega)) with q | q | ⟨k, hk2, rfl⟩
  · exact Or.inr ⟨Or.inl q, by simp only [fX4_placeAt, q, ↓reduceIte]⟩
  · have q2 : ¬ v < nI n := by
      obtain ⟨j, hj, rfl⟩ := nI_of q.1
      have := q.2
      rw [nI_leI (by omega) hj] at this
      exact nI_nlt this hj
    exact Or.inr ⟨Or.inr q, by simp only [fX4_placeAt, gI_at, hk, e3, q.1, q2, obs, ↓reduceIte]⟩
  · rw [cn_nI (by omega)] at hk2
    refine Or.inl ⟨k, hk2, rfl, ?_⟩
    have q1 : ¬ nI k < 0 := nlt0 (by omega)
    have q2 : nI k < nI n := nI_lt hk2 (by omega)
    have q3 : ¬ (12 : Int32) ≤ nI (l + k) := @nI_ge (l + k) 12 (by omega) (by decide)
    have q5 : ¬ nI (l + k) < 0 := nlt0 (by omega)
    have q4 := aI_at (κ := 100) (i := l + k) 12 ht hl (by omega) (by decide)
    simp only [fX4_placeAt, gI_at, gR_at, hk, hr, e1, e3, q1, q2, q3, q4, q5, obs, nI_add, ↓reduceIte]
set_option maxHeartbeats 2000000 in
theorem op_stands (I : Inv τ x h) (c i0 wh k0 : Int32) : Same (fX8_stands (some x) c i0 wh k0) (fX9_stands (some (x + 8)) c i0 wh k0) x h := by
  obtain ⟨w, rM, kd, md, ib, hd, p⟩ := I
  have k8 : zk h x = 9 := p.1.1.1
  have k6 : zk h (x + 1) = 7 := p.1.1.2.1
  have r0 : zr h 8 0 x = some (x + 1) := p.1.2.1.1
  have I : Inv τ x h := ⟨w, rM, kd, md, ib, hd, p⟩
  have hn := w.2.1.2
  rcases isMethodM rM w c with ⟨m1, j, hj, rfl⟩ | ⟨m1, hc⟩
  · have ma := methodAt_at p w hj
    obtain ⟨-, b1, b2, rt⟩ := p.2.2.2.2.1 j hj
    obtain ⟨⟨a1, a2, a3, a4, a5, a6, a7, a8, a9, a10⟩, ⟨d0, d1, d2, d3, d4, d5, d6, d7, d8⟩, f1⟩ := id rt
    obtain ⟨w1, w2, w3, w4, w5, w6, w7, w8, w9, w10, w11, w12⟩ := w.2.2.2.1 j hj
    have i23 := aM23 rM (i := j) (by omega)
    by_cases hv : τ 23 j = 0
    · refine Same.no (r := -1) I ?_ ?_
      · simp only [fX8_stands, gR_at, gI_at, rc_at, k8, k6, r0, a1, ma, d8, hv, obs, reduceCtorEq, ↓reduceIte]
      · simp only [fX9_stands, rcM rM, m1, n10, gRM23 rM, i23, hv, obs, ↓reduceIte]
    · have i14 := aM14 rM (i := j) (by omega)
      rcases ix (v := i0) w8.1 with hi | hi | ⟨i, hi, rfl⟩
      · refine Same.no (r := -1) I ?_ ?_
        · simp only [fX8_stands, gR_at, gI_at, rc_at, k8, k6, r0, a1, ma, d8, hv, instrAt_no p hj (Or.inl hi), obs, reduceCtorEq, ↓reduceIte]
        · simp only [fX9_stands, rcM rM, m1, n10, gRM23 rM, i23, hv, hi, obs, ↓reduceIte]
      · refine Same.no (r := -1) I ?_ ?_
        · simp only [fX8_stands, gR_at, gI_at, rc_at, k8, k6, r0, a1, ma, d8, hv, instrAt_no p hj (Or.inr hi), obs, reduceCtorEq, ↓reduceIte]
        · simp only [fX9_stands, rcM rM, m1, n10, gRM23 rM, i23, hv, hi.1, hi.2, gRM14 rM, i14, obs, ↓reduceIte]
      · have ia := instrAt_at p w hj hi
        obtain ⟨-, c1, c2, ri, rs⟩ := p.2.2.2.2.2.1 j i hj hi
        obtain ⟨⟨x1, x2, x3, x4, x5, x6⟩, y1, y2, y3⟩ := id ri
        have n1 : ¬ nI i < 0 := nlt0 (by omega)
        have n2 : ¬ τ 14 j ≤ nI i := nle_cn w8.1 hi (by omega)
        have lin1 : (200 : Int32) * nI j + nI i = nI (200 * j + i) := lin trivial
        have i24 := aM24 rM (i := 200 * j + i) (by omega)
        rcases rs hv with ⟨s1, s2⟩ | ⟨s1, s2, s3, s4, s5, s6⟩
        · have n3 : ¬ 0 ≤ τ 24 (200 * j + i) := Int32.not_le.mpr s2
          refine Same.no (r := -1) I ?_ ?_
          · simp only [fX8_stands, gR_at, gI_at, rc_at, k8, k6, r0, a1, ma, d8, hv, ia, x1, s1, obs, reduceCtorEq, ↓reduceIte]
          · simp only [fX9_stands, rcM rM, m1, n10, gRM23 rM, i23, hv, n1, n2, gRM14 rM, i14, gRM24 rM, lin1, i24, n3, obs, ↓reduceIte]
        · have n3 : 0 ≤ τ 24 (200 * j + i) := Int32.not_lt.mp s2
          have hb : cn (τ 24 (200 * j + i)) ≤ cn (τ 10 j) := by
            rcases w12 hv i hi with q | q
            · exact absurd q s2
            · exact q
          have v9 : τ 9 j = nI (cn (τ 9 j)) := nI_of_cn w3.1
          have v24 : τ 24 (200 * j + i) = nI (cn (τ 24 (200 * j + i))) := nI_of_cn s2
          by_cases q0 : wh = 0
          · refine Same.no (r := τ 24 (200 * j + i)) I ?_ ?_
            · simp only [fX8_stands, gR_at, gI_at, rc_at, k8, k6, r0, a1, ma, d8, hv, ia, x1, x2, x4, s1, s5, q0, n10, obs, reduceCtorEq, ↓reduceIte]
            · simp only [fX9_stands, rcM rM, m1, n10, gRM23 rM, i23, hv, n1, n2, gRM14 rM, i14, gRM24 rM, lin1, i24, n3, q0, obs, ↓reduceIte]
          · by_cases q1 : wh = 1
            · rcases localAt_eq (v := k0) x2 x5 x3 x6 (s3.trans v9) (by omega) with ⟨k, hk, rfl, e⟩ | ⟨hk, e⟩
              · have lin2 : (12 : Int32) * nI (200 * j + i) + nI k = nI (12 * (200 * j + i) + k) := lin trivial
                have i25 := aM25 rM (i := 12 * (200 * j + i) + k) (by omega)
                have i9 := aM9 rM (i := j) (by omega)
                have n4 : ¬ nI k < 0 := nlt0 (by omega)
                have n5 : ¬ τ 9 j ≤ nI k := nle_cn w3.1 hk (by omega)
                refine Same.no (r := τ 25 (12 * (200 * j + i) + k)) I ?_ ?_
                · rw [s6 k (by omega) (by omega)] at e
                  simp only [fX8_stands, gR_at, gI_at, rc_at, k8, k6, r0, a1, ma, d8, hv, ia, x1, x2, x4, s1, q0, q1, e, n10, obs, reduceCtorEq, ↓reduceIte]
                · simp only [fX9_stands, rcM rM, m1, n10, gRM23 rM, i23, hv, n1, n2, gRM14 rM, i14, gRM24 rM, lin1, i24, n3, q0, q1, n4, n5, gRM9 rM, i9, gRM25 rM, lin2, i25, obs, ↓reduceIte]
              · have i9 := aM9 rM (i := j) (by omega)
                refine Same.no (r := -1) I ?_ ?_
                · simp only [fX8_stands, gR_at, gI_at, rc_at, k8, k6, r0, a1, ma, d8, hv, ia, x1, x2, x4, s1, q0, q1, e, n10, obs, reduceCtorEq, ↓reduceIte]
                · rw [← v9] at hk
                  rcases hk with hk | hk
                  · simp only [fX9_stands, rcM rM, m1, n10, gRM23 rM, i23, hv, n1, n2, gRM14 rM, i14, gRM24 rM, lin1, i24, n3, q0, q1, hk, obs, ↓reduceIte]
                  · simp only [fX9_stands, rcM rM, m1, n10, gRM23 rM, i23, hv, n1, n2, gRM14 rM, i14, gRM24 rM, lin1, i24, n3, q0, q1, hk.1, hk.2, gRM9 rM, i9, obs, ↓reduceIte]
            · by_cases q2 : wh = 2
              · rcases placeAt_eq (v := k0) x2 x5 x3 x6 (s3.trans v9) (s5.trans v24) (by omega) with ⟨k, hk, rfl, e⟩ | ⟨hk, e⟩
                · have lin2 : (12 : Int32) * nI (200 * j + i) + τ 9 j + nI k = nI (12 * (200 * j + i) + cn (τ 9 j) + k) := by
                    have e1 : (12 : Int32) * nI (200 * j + i) + nI (cn (τ 9 j)) = nI (12 * (200 * j + i) + cn (τ 9 j)) := lin trivial
                    rw [← v9] at e1
                    rw [e1, nI_add]
                  have i25 := aM25 rM (i := 12 * (200 * j + i) + cn (τ 9 j) + k) (by omega)
                  have i9 := aM9 rM (i := j) (by omega)
                  have n4 : ¬ nI k < 0 := nlt0 (by omega)
                  have n5 : ¬ τ 24 (200 * j + i) ≤ nI k := nle_cn s2 hk (by omega)
                  refine Same.no (r := τ 25 (12 * (200 * j + i) + cn (τ 9 j) + k)) I ?_ ?_
                  · rw [s6 (cn (τ 9 j) + k) (by omega) (by omega), ← Nat.add_assoc] at e
                    simp only [fX8_stands, gR_at, gI_at, rc_at, k8, k6, r0, a1, ma, d8, hv, ia, x1, x2, x4, s1, q0, q1, q2, n20, n21, e, n10, obs, reduceCtorEq, ↓reduceIte]
                  · simp only [fX9_stands, rcM rM, m1, n10, gRM23 rM, i23, hv, n1, n2, gRM14 rM, i14, gRM24 rM, lin1, i24, n3, q0, q1, q2, n20, n21, n4, n5, gRM9 rM, i9, gRM25 rM, lin2, i25, obs, ↓reduceIte]
                · refine Same.no (r := -1) I ?_ ?_
                  · simp only [fX8_stands, gR_at, gI_at, rc_at, k8, k6, r0, a1, ma, d8, hv, ia, x1, x2, x4, s1, q0, q1, q2, n20, n21, e, n10, obs, reduceCtorEq, ↓reduceIte]
                  · rw [← v24] at hk
                    rcases hk with hk | hk
                    · simp only [fX9_stands, rcM rM, m1, n10, gRM23 rM, i23, hv, n1, n2, gRM14 rM, i14, gRM24 rM, lin1, i24, n3, q0, q1, q2, n20, n21, hk, obs, ↓reduceIte]
                    · simp only [fX9_stands, rcM rM, m1, n10, gRM23 rM, i23, hv, n1, n2, gRM14 rM, i14, gRM24 rM, lin1, i24, n3, q0, q1, q2, n20, n21, hk.1, hk.2, obs, ↓reduceIte]
              · refine Same.no (r := -1) I ?_ ?_
                · simp only [fX8_stands, gR_at, gI_at, rc_at, k8, k6, r0, a1, ma, d8, hv, ia, x1, s1, q0, q1, q2, n10, obs, reduceCtorEq, ↓reduceIte]
                · simp only [fX9_stands, rcM rM, m1, n10, gRM23 rM, i23, hv, n1, n2, gRM14 rM, i14, gRM24 rM, lin1, i24, n3, q0, q1, q2, obs, ↓reduceIte]
  · refine Same.no (r := -1) I ?_ ?_
    · simp only [fX8_stands, gR_at, rc_at, k8, k6, r0, methodAt_no p hc, obs, ↓reduceIte]
    · simp only [fX9_stands, rcM rM, m1, obs, ↓reduceIte]
end
