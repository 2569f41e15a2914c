/-- tau' is tau with a method more: number m, owner o (a class, or below 0), what it gives, locals, places -/
def TF (τ τ' : Nat → Nat → Int32) (m : Nat) (o g l s : Int32) : Prop :=
  (∀ c i, (c ≠ 2 ∧ c ≠ 6 ∧ c ≠ 7 ∧ c ≠ 8 ∧ c ≠ 9 ∧ c ≠ 10 ∧ c ≠ 11 ∧ c ≠ 12 ∧ c ≠ 41) → τ' c i = τ c i) ∧ (τ' 6 0 = nI (m + 1)) ∧
  (∀ i, τ' 7 i = if i = m then o else τ 7 i) ∧ (∀ i, τ' 8 i = if i = m then g else τ 8 i) ∧ (∀ i, τ' 9 i = if i = m then l else τ 9 i) ∧ (∀ i, τ' 10 i = if i = m then s else τ 10 i) ∧
  (∀ i, τ' 11 i = if i = m then (if o < 0 then 0 else 1) else τ 11 i) ∧ (∀ i, τ' 12 i = if ¬ o < 0 ∧ i = 8 * m then 1 + o else τ 12 i) ∧ (∀ i, τ' 2 i = if ¬ o < 0 ∧ i = cn o then 1 else τ 2 i) ∧ (∀ i, τ' 41 i = if ¬ o < 0 ∧ i = cn o then 1 else τ 41 i)
section
variable {τ τ' : Nat → Nat → Int32} {m : Nat} {o g l s : Int32}
theorem TF.none : TF τ (u2 (u2 (u2 (u2 (u2 (u2 τ 7 m (-1)) 8 m g) 9 m l) 10 m s) 11 m 0) 6 0 (nI (m + 1))) m (-1) g l s := by
  have q : (-1 : Int32) < 0 := by decide
  refine ⟨fun c i hc => ?_, ?_, ?_, ?_, ?_, ?_, ?_, ?_, ?_, ?_⟩
  · simp only [u2_at, hc, false_and, ↓reduceIte]
  · simp only [u2_at, and_self, ↓reduceIte]
  all_goals (intro i; simp [u2_at, q])
theorem TF.some {c : Nat} (hc : c < 2 ^ 31) : TF τ (u2 (u2 (u2 (u2 (u2 (u2 (u2 (u2 (u2 (u2 τ 7 m (nI c)) 8 m g) 9 m l) 10 m s) 11 m 0) 12 (8 * m) (1 + nI c)) 11 m 1) 2 c 1) 6 0 (nI (m + 1))) 41 c 1) m (nI c) g l s := by
  have q : ¬ nI c < 0 := nlt0 hc
  have q2 : cn (nI c) = c := cn_nI hc
  refine ⟨fun c i hc => ?_, ?_, ?_, ?_, ?_, ?_, ?_, ?_, ?_, ?_⟩
  · simp only [u2_at, hc, false_and, ↓reduceIte]
  · simp [u2_at]
  · intro i; simp [u2_at]
  · intro i; simp [u2_at]
  · intro i; simp [u2_at]
  · intro i; simp [u2_at]
  · intro i
    by_cases e : i = m
    · simp [u2_at, e, q]
    · simp [u2_at, e]
  · intro i; simp [u2_at, q]
  · intro i; simp [u2_at, q, q2]
  · intro i; simp [u2_at, q, q2]
theorem TF.t (F : TF τ τ' m o g l s) (tb : List (Nat × Nat)) (ht : ∀ q ∈ tb, q.1 ≠ 2 ∧ q.1 ≠ 6 ∧ q.1 ≠ 7 ∧ q.1 ≠ 8 ∧ q.1 ≠ 9 ∧ q.1 ≠ 10 ∧ q.1 ≠ 11 ∧ q.1 ≠ 12 ∧ q.1 ≠ 41) (i : Nat) : tg tb τ τ' i := fun q hq k hk => F.1 _ _ (ht q hq)
theorem TF.tM (F : TF τ τ' m o g l s) {i : Nat} (hi : i ≠ m) : tg tM τ τ' i := by
  obtain ⟨f0, f6, f7, f8, f9, f10, f11, f12, f2, f41⟩ := F
  intro q hq k hk
  simp only [_root_.Jvm.Pilot.CCodeVerifierLaw_law_r5343_82bf6f.tM, List.mem_cons, List.not_mem_nil, or_false] at hq
  rcases hq with rfl | rfl | rfl | rfl | rfl | rfl | rfl | rfl | rfl | rfl <;> simp only at hk ⊢
  · rw [f7, if_neg (by omega)]
  · rw [f8, if_neg (by omega)]
  · rw [f9, if_neg (by omega)]
  · rw [f10, if_neg (by omega)]
  · rw [f11, if_neg (by omega)]
  · rw [f12, if_neg (by omega)]
  · exact f0 13 _ (by decide)
  · exact f0 14 _ (by decide)
  · exact f0 18 _ (by decide)
  · exact f0 23 _ (by decide)
theorem TF.WF (F : TF τ τ' m o g l s) (w : WF τ) (em : cn (τ 6 0) = m) (hm : m < 64) (ho : o = -1 ∨ ∃ c, c < cn (τ 0 0) ∧ o = nI c) (hg : g = -1 ∨ okT (cn (τ 0 0)) g) (hl : ¬ l < 0) (hs : ¬ s < 0) (hls : cn l + cn s ≤ 12) (hol : ¬ o < 0 → 0 < cn l) : WF τ' := by
  obtain ⟨f0, f6, f7, f8, f9, f10, f11, f12, f2, f41⟩ := id F
  have z0 : τ' 0 0 = τ 0 0 := f0 0 0 (by decide)
  have z6 : cn (τ' 6 0) = m + 1 := by rw [f6]; exact cn_nI (by omega)
  have hn0 := w.1.2
  have wz := w.2.2.2.2 m (by omega) hm
  refine ⟨by rw [z0]; exact w.1, by rw [z6]; exact ⟨by rw [f6]; exact nlt0 (by omega), by omega⟩, fun c hc => ?_, fun i hi => ?_, fun i h1 h2 => ?_⟩
  · rw [z0] at hc
    obtain ⟨p1, p2, p3, p4, ⟨p5, p6, p7⟩, p8⟩ := w.2.2.1 c hc
    refine ⟨by rw [f0 1 c (by decide)]; exact p1, by rw [f0 3 c (by decide)]; exact p2, fun k hk => ?_, fun q hq => ?_, ⟨?_, ?_, ?_⟩, fun j hj => ?_⟩
    · rw [f0 3 c (by decide)] at hk
      rw [z0, f0 4 _ (by decide)]; exact p3 k hk
    · rw [f0 5 _ (by decide), z6]
      rcases p4 q hq with e | ⟨r, hr, e⟩
      · exact Or.inl e
      · exact Or.inr ⟨r, by omega, e⟩
    · rw [f2]
      by_cases e : ¬ o < 0 ∧ c = cn o
      · rw [if_pos e]; exact Or.inr rfl
      · rw [if_neg e]; exact p5
    · rw [f2, f41, f0 40 c (by decide)]
      by_cases e : ¬ o < 0 ∧ c = cn o
      · rw [if_pos e, if_pos e]
        exact ⟨fun q => absurd q n10, fun q => absurd q.2 n10⟩
      · rw [if_neg e, if_neg e]; exact p6
    · rw [f0 40 c (by decide), z0, p7]
      exact ⟨fun q k hk => by rw [f0 1 k (by decide)]; exact q k hk, fun q k hk => by rw [← f0 1 k (by decide)]; exact q k hk⟩
    · rw [f0 42 c (by decide), p8 j hj, anc_congr (c + 1) c j (fun i hi => f0 1 i (by decide)) (fun i hi => w.chain i (by omega)) (by omega)]
  · rw [z6] at hi
    by_cases e : i = m
    · subst e
      have e7 : τ' 7 i = o := by rw [f7, if_pos rfl]
      have e8 : τ' 8 i = g := by rw [f8, if_pos rfl]
      have e9 : τ' 9 i = l := by rw [f9, if_pos rfl]
      have e10 : τ' 10 i = s := by rw [f10, if_pos rfl]
      have e11 : τ' 11 i = if o < 0 then 0 else 1 := by rw [f11, if_pos rfl]
      have c11 : cn (τ' 11 i) = if o < 0 then 0 else 1 := by
        rw [e11]
        by_cases q : o < 0
        · rw [if_pos q, if_pos q]; rfl
        · rw [if_neg q, if_neg q]; rfl
      refine ⟨by rw [e7, z0]; exact ho, by rw [e8, z0]; exact hg, by rw [e9, e10]; exact ⟨hl, hs, hls⟩, ⟨?_, ?_, ?_⟩, fun k hk => ?_, by rw [f0 13 i (by decide)]; exact Or.inl wz.1, by rw [f0 23 i (by decide)]; exact Or.inl wz.2.2.2, ?_, ?_, fun k hk => ?_, fun k hk => ?_, fun hv => absurd (by rw [f0 23 i (by decide)]; exact wz.2.2.2) hv⟩
      · rw [e11]
        by_cases q : o < 0
        · rw [if_pos q]; decide
        · rw [if_neg q]; decide
      · rw [c11]
        by_cases q : o < 0
        · rw [if_pos q]; decide
        · rw [if_neg q]; decide
      · rw [c11, e9]
        by_cases q : o < 0
        · rw [if_pos q]; omega
        · rw [if_neg q]; exact hol q
      · rw [c11] at hk
        by_cases q : o < 0
        · rw [if_pos q] at hk; omega
        · rw [if_neg q] at hk
          have : k = 0 := by omega
          subst this
          rw [z0, f12, if_pos ⟨q, by omega⟩]
          rcases ho with rfl | ⟨c, hc, rfl⟩
          · exact absurd m1neg q
          · exact ⟨c + 1, by omega, Or.inl (by rw [show (1 : Int32) = nI 1 from rfl, nI_add, Nat.add_comm])⟩
      · rw [f0 14 i (by decide), wz.2.1]; exact ⟨by decide, by decide⟩
      · rw [f0 18 i (by decide), wz.2.2.1]; exact ⟨by decide, by decide⟩
      · rw [f0 14 i (by decide), wz.2.1] at hk; exact absurd hk (Nat.not_lt_zero _)
      · rw [f0 18 i (by decide), wz.2.2.1] at hk; exact absurd hk (Nat.not_lt_zero _)
    · exact (w.2.2.2.1 i (by omega)).mono (by rw [z0]; exact Nat.le_refl _) (by omega) (F.tM e) (fun k hk => F.t tI (by decide) _) (fun k hk => F.t tH (by decide) _) (fun c hc => by rw [f0 3 c (by decide)]; exact Nat.le_refl _) (fun c q hc hq => by rw [f0 5 _ (by decide)]; exact fun ⟨r, hr, e⟩ => ⟨r, by omega, e⟩)
  · rw [z6] at h1
    rw [f0 13 i (by decide), f0 14 i (by decide), f0 18 i (by decide), f0 23 i (by decide)]
    exact w.2.2.2.2 i (by omega) h2
end
