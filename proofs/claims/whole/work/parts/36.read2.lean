section
variable {τ : Nat → Nat → Int32} {kd md : Nat → Nat} {id hd : Nat → Nat → Nat} {x : Nat} {h : zH}
theorem fieldType_at (p : RC τ kd md id hd x h) (w : WF τ) {c k : Nat} (hc : c < cn (τ 0 0)) (hk : k < cn (τ 3 c)) : fX6_fieldType (some (x + 1)) (nI c) (nI k) h = some (τ 4 (15 * c + k), h) := by
  have k6 : zk h (x + 1) = 7 := p.1.1.2.1
  obtain ⟨-, -, -, rk⟩ := p.2.2.2.1 c hc
  obtain ⟨⟨a1, a2, a3, a4, a5, a6, a7⟩, ⟨d1, d2, d3, d4, d5⟩, f1, f2⟩ := rk
  have w2 := (w.2.2.1 c hc).2.1
  have q1 : ¬ nI k < 0 := nlt0 (by omega)
  have q2 : ¬ τ 3 c ≤ nI k := nle_cn w2.1 hk (by omega)
  have q3 : ¬ (15 : Int32) ≤ nI k := @nI_ge k 15 (by omega) (by decide)
  have q4 := aI_at (κ := 100) (i := k) 15 a2 a6 (by omega) (by decide)
  rw [f1 k (by omega) hk] at q4
  simp only [fX6_fieldType, fX2_fieldType, rc_at, k6, kindAt_at p w hc, gI_at, gR_at, a1, a4, d3, q1, q2, q3, q4, obs, reduceCtorEq, ↓reduceIte]
theorem fieldType_no (p : RC τ kd md id hd x h) (w : WF τ) {v y : Int32} (hn : ¬ ∃ c k, c < cn (τ 0 0) ∧ v = nI c ∧ k < cn (τ 3 c) ∧ y = nI k) : fX6_fieldType (some (x + 1)) v y h = some (-1, h) := by
  have k6 : zk h (x + 1) = 7 := p.1.1.2.1
  rcases ix (v := v) w.1.1 with q | q | ⟨c, hc, rfl⟩
  · simp only [fX6_fieldType, rc_at, k6, kindAt_no p (Or.inl q), obs, ↓reduceIte]
  · simp only [fX6_fieldType, rc_at, k6, kindAt_no p (Or.inr q), obs, ↓reduceIte]
  · obtain ⟨-, -, -, rk⟩ := p.2.2.2.1 c hc
    obtain ⟨⟨a1, a2, a3, a4, a5, a6, a7⟩, ⟨d1, d2, d3, d4, d5⟩, f1, f2⟩ := rk
    have w2 := (w.2.2.1 c hc).2.1
    rcases ix (v := y) w2.1 with q | q | ⟨k, hk, rfl⟩
    · simp only [fX6_fieldType, fX2_fieldType, rc_at, k6, kindAt_at p w hc, a1, q, obs, reduceCtorEq, ↓reduceIte]
    · simp only [fX6_fieldType, fX2_fieldType, rc_at, k6, kindAt_at p w hc, gI_at, a1, d3, q.1, q.2, obs, reduceCtorEq, ↓reduceIte]
    · exact absurd ⟨c, k, hc, rfl, hk, rfl⟩ hn
theorem inSlot_at (p : RC τ kd md id hd x h) {c s : Nat} (hc : c < cn (τ 0 0)) (hs : s < 16) : fX2_inSlot (some (kd c)) (nI s) h = some (τ 5 (16 * c + s), h) := by
  obtain ⟨-, -, -, rk⟩ := p.2.2.2.1 c hc
  obtain ⟨⟨a1, a2, a3, a4, a5, a6, a7⟩, ⟨d1, d2, d3, d4, d5⟩, f1, f2⟩ := rk
  have q1 : ¬ nI s < 0 := nlt0 (by omega)
  have q3 : ¬ (16 : Int32) ≤ nI s := @nI_ge s 16 (by omega) (by decide)
  have q4 := aI_at (κ := 100) (i := s) 16 a3 a7 (by omega) (by decide)
  rw [f2 s hs] at q4
  simp only [fX2_inSlot, gI_at, gR_at, a1, a5, q1, q3, q4, obs, ↓reduceIte]
theorem m1neg : (-1 : Int32) < 0 := by decide
theorem inSlot_no {a : Nat} {y : Int32} (hn : ∀ s, s < 16 → y ≠ nI s) : fX2_inSlot (some a) y h = some (-1, h) := by
  by_cases q : y < 0
  · simp only [fX2_inSlot, q, ↓reduceIte]
  · by_cases q2 : (16 : Int32) ≤ y
    · simp only [fX2_inSlot, q, q2, ↓reduceIte]
    · obtain ⟨k, hk, rfl⟩ := nI_of q
      have q3 : ¬ nI 16 ≤ nI k := q2
      rw [nI_leI (by decide) hk] at q3
      exact absurd rfl (hn k (by omega))
theorem methodInSlot_at (p : RC τ kd md id hd x h) (w : WF τ) {c s q : Nat} (hc : c < cn (τ 0 0)) (hs : s < 16) (hq : q < cn (τ 6 0)) (e : τ 5 (16 * c + s) = nI q) : fX6_methodInSlot (some (x + 1)) (nI c) (nI s) h = some (some (md q), h) := by
  have k6 : zk h (x + 1) = 7 := p.1.1.2.1
  obtain ⟨-, -, -, rk⟩ := p.2.2.2.1 c hc
  have a1 : zk h (kd c) = 3 := rk.1.1
  have i1 := inSlot_at p hc hs
  rw [e] at i1
  simp only [fX6_methodInSlot, rc_at, k6, kindAt_at p w hc, a1, i1, methodAt_at p w hq, obs, reduceCtorEq, ↓reduceIte]
theorem methodInSlot_no (p : RC τ kd md id hd x h) (w : WF τ) {v y : Int32} (hn : ¬ ∃ c s q, c < cn (τ 0 0) ∧ v = nI c ∧ s < 16 ∧ y = nI s ∧ q < cn (τ 6 0) ∧ τ 5 (16 * c + s) = nI q) : fX6_methodInSlot (some (x + 1)) v y h = some (none, h) := by
  have k6 : zk h (x + 1) = 7 := p.1.1.2.1
  rcases ix (v := v) w.1.1 with q | q | ⟨c, hc, rfl⟩
  · simp only [fX6_methodInSlot, rc_at, k6, kindAt_no p (Or.inl q), obs, ↓reduceIte]
  · simp only [fX6_methodInSlot, rc_at, k6, kindAt_no p (Or.inr q), obs, ↓reduceIte]
  · obtain ⟨-, -, -, rk⟩ := p.2.2.2.1 c hc
    have a1 : zk h (kd c) = 3 := rk.1.1
    have mn : fX6_methodAt (some (x + 1)) (-1) h = some (none, h) := methodAt_no p (Or.inl m1neg)
    by_cases hs : ∃ s, s < 16 ∧ y = nI s
    · obtain ⟨s, hs, rfl⟩ := hs
      have i1 := inSlot_at p hc hs
      rcases (w.2.2.1 c hc).2.2.2.1 s hs with e | ⟨q, hq, e⟩
      · rw [e] at i1
        simp only [fX6_methodInSlot, rc_at, k6, kindAt_at p w hc, a1, i1, mn, obs, reduceCtorEq, ↓reduceIte]
      · exact absurd ⟨c, s, q, hc, rfl, hs, rfl, hq, e⟩ hn
    · have i1 := inSlot_no (h := h) (a := kd c) (y := y) (fun s hs' e => hs ⟨s, hs', e⟩)
      simp only [fX6_methodInSlot, rc_at, k6, kindAt_at p w hc, a1, i1, mn, obs, reduceCtorEq, ↓reduceIte]
theorem okT_ne {n : Nat} {t : Int32} (hn : n ≤ 32) (h : okT n t) : ¬ t = -1 ∧ ¬ t < 0 := by
  obtain ⟨j, hj, rfl | rfl⟩ := h
  · exact ⟨fun q => by have := nlt0 (n := j) (by omega); rw [q] at this; exact this m1neg, nlt0 (by omega)⟩
  · exact ⟨fun q => by have := nlt0 (n := 64 + j) (by omega); rw [q] at this; exact this m1neg, nlt0 (by omega)⟩
/-- operands of op number o -/
def okQ (τ : Nat → Nat → Int32) (m o : Nat) (x y : Int32) : Prop :=
  ((o = 2 ∨ o = 3) → ∃ k, k < cn (τ 9 m) ∧ x = nI k) ∧ ((o = 26 ∨ o = 29 ∨ o = 30) → ∃ c, c < cn (τ 0 0) ∧ x = nI c) ∧ ((o = 27 ∨ o = 28) → ∃ c k, c < cn (τ 0 0) ∧ x = nI c ∧ k < cn (τ 3 c) ∧ y = nI k) ∧
  (o = 31 → ∃ c, c ≤ cn (τ 0 0) ∧ x = nI c) ∧ (o = 35 → ∃ q, q < cn (τ 6 0) ∧ x = nI q) ∧ (o = 36 → ∃ c s q, c < cn (τ 0 0) ∧ x = nI c ∧ s < 16 ∧ y = nI s ∧ q < cn (τ 6 0) ∧ τ 5 (16 * c + s) = nI q) ∧ (19 ≤ o → o ≤ 25 → ∃ p, p < 200 ∧ x = nI p)
theorem okO_iff {m o : Nat} {a b : Int32} (ho : o ≤ 41) : okO τ m (nI o) a b ↔ okQ τ m o a b := by
  constructor
  · rintro ⟨o', ho', e, q⟩
    have : o = o' := nI_inj (by omega) (by omega) e
    subst this; exact q
  · exact fun q => ⟨o, ho, rfl, q⟩
theorem okO_no {m : Nat} {op a b : Int32} (h : op < 0 ∨ (41 : Int32) < op) : ¬ okO τ m op a b := by
  rintro ⟨o, ho, rfl, -⟩
  rcases h with h | h
  · exact nlt0 (by omega) h
  · exact (show ¬ nI 41 < nI o from nI_nlt (by omega) (by omega)) h
/-- a branch on an operand, whichever side -/
theorem ite2 {α : Type} {P : Prop} {b : Prop} [Decidable b] (hb : b ↔ ¬ P) {u v : α} : ((if b then u else v) = v ∧ P) ∨ ((if b then u else v) = u ∧ ¬ P) := by
  by_cases q : b
  · rw [if_pos q]; exact Or.inr ⟨rfl, hb.mp q⟩
  · rw [if_neg q]; exact Or.inl ⟨rfl, Classical.byContradiction fun z => q (hb.mpr z)⟩
theorem kindIs (p : RC τ kd md id hd x h) (w : WF τ) (v : Int32) : (∃ c, c < cn (τ 0 0) ∧ v = nI c ∧ fX6_kindAt (some (x + 1)) v h = some (some (kd c), h)) ∨ ((¬ ∃ c, c < cn (τ 0 0) ∧ v = nI c) ∧ fX6_kindAt (some (x + 1)) v h = some (none, h)) := by
  have hn := w.1.2
  rcases ix (v := v) w.1.1 with q | q | ⟨c, hc, rfl⟩
  · exact Or.inr ⟨fun ⟨c, hc, e⟩ => by rw [e] at q; exact nlt0 (by omega) q, kindAt_no p (Or.inl q)⟩
  · exact Or.inr ⟨fun ⟨c, hc, e⟩ => by rw [e] at q; exact nle_cn w.1.1 hc (by omega) q.2, kindAt_no p (Or.inr q)⟩
  · exact Or.inl ⟨c, hc, rfl, kindAt_at p w hc⟩
theorem methodIs (p : RC τ kd md id hd x h) (w : WF τ) (v : Int32) : (∃ c, c < cn (τ 6 0) ∧ v = nI c ∧ fX6_methodAt (some (x + 1)) v h = some (some (md c), h)) ∨ ((¬ ∃ c, c < cn (τ 6 0) ∧ v = nI c) ∧ fX6_methodAt (some (x + 1)) v h = some (none, h)) := by
  have hn := w.2.1.2
  rcases ix (v := v) w.2.1.1 with q | q | ⟨c, hc, rfl⟩
  · exact Or.inr ⟨fun ⟨c, hc, e⟩ => by rw [e] at q; exact nlt0 (by omega) q, methodAt_no p (Or.inl q)⟩
  · exact Or.inr ⟨fun ⟨c, hc, e⟩ => by rw [e] at q; exact nle_cn w.2.1.1 hc (by omega) q.2, methodAt_no p (Or.inr q)⟩
  · exact Or.inl ⟨c, hc, rfl, methodAt_at p w hc⟩
end
