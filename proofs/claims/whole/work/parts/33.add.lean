/-! An instruction, a handler more: new cells, a change inside the method's own. -/
def up3 (b : Nat → Nat → Nat) (m n a : Nat) : Nat → Nat → Nat := fun m' n' => if m' = m ∧ n' = n then a else b m' n'
theorem up3_at {b : Nat → Nat → Nat} {m n a m' n' : Nat} : up3 b m n a m' n' = if m' = m ∧ n' = n then a else b m' n' := rfl
section
variable {τ τ' : Nat → Nat → Int32} {kd md : Nat → Nat} {id hd : Nat → Nat → Nat} {x : Nat} {h h' : zH}
set_option maxHeartbeats 1000000 in
theorem RC.addI (p : RC τ kd md id hd x h) {m0 : Nat} (hm0 : m0 < cn (τ 6 0)) (hz : zs h' = zs h + 3) (hag : ∀ b, (x ≤ b ∧ b < x + 8) ∨ (x + 35 ≤ b ∧ b < zs h ∧ ∀ i, i < 4 → md m0 + i ≠ b) → ag h h' b)
    (t00 : τ' 0 0 = τ 0 0) (t60 : τ' 6 0 = τ 6 0) (t27 : τ' 27 0 = τ 27 0) (hK' : ∀ c, tg tK τ τ' c) (hM' : ∀ m, m ≠ m0 → tg tM τ τ' m) (hI' : ∀ j, j ≠ 200 * m0 + cn (τ 14 m0) → tg tI τ τ' j) (hH' : ∀ j, tg tH τ τ' j) (w14 : ∀ m, m < cn (τ 6 0) → cn (τ 14 m) ≤ 200) (hn : cn (τ 14 m0) < 200)
    (t14 : cn (τ' 14 m0) = cn (τ 14 m0) + 1) (t18 : cn (τ' 18 m0) = cn (τ 18 m0)) (t23 : τ' 23 m0 = 0) (hq2 : ∀ i, zq h' (md m0 + 2) i = if i = cn (τ 14 m0) then some (zs h) else zq h (md m0 + 2) i) (hq3 : ∀ i, zq h' (md m0 + 3) i = zq h (md m0 + 3) i) (hT : RT τ' kd h' m0 (md m0)) (hI : RI τ' h' (200 * m0 + cn (τ 14 m0)) (zs h)) : RC τ' kd md (up3 id m0 (cn (τ 14 m0)) (zs h)) hd x h' := by
  have A : ∀ b, x ≤ b → b < x + 8 → ag h h' b := fun b h1 h2 => hag b (Or.inl ⟨h1, h2⟩)
  have e14 : ∀ m, m ≠ m0 → τ' 14 m = τ 14 m := fun m e => (hM' m e).at1 (by decide)
  have e18 : ∀ m, cn (τ' 18 m) = cn (τ 18 m) := fun m => by
    by_cases e : m = m0
    · subst e; exact t18
    · rw [(hM' m e).at1 (c := 18) (by decide)]
  obtain ⟨p1, p2, p3, p4, p5, p6, p7, p8, p9, p10, p11⟩ := (show _ ∧ _ from p)
  have oldI : ∀ m i, m < cn (τ 6 0) → i < cn (τ 14 m) → ¬ (m = m0 ∧ i = cn (τ 14 m0)) := fun m i hm hi q => by
    obtain ⟨rfl, q2⟩ := q
    omega
  refine ⟨p1.ag A, by omega, ?_, fun c hc => ?_, fun m hm => ?_, fun m i hm hi => ?_, fun m k hm hk => ?_, ?_, ?_, ?_, ?_⟩
  · have q1 := A (x + 1) (by omega) (by omega)
    have q4 := A (x + 4) (by omega) (by omega)
    exact ⟨by rw [q1.i, t00]; exact p3.1, by rw [q1.i, t60]; exact p3.2.1, by rw [q4.i, t27]; exact p3.2.2⟩
  · rw [t00] at hc
    obtain ⟨b0, b1, b3, b2⟩ := p4 c hc
    have d := p.KT hc hm0
    exact ⟨by rw [(A (x + 2) (by omega) (by omega)).q]; exact b0, b1, by omega, b2.ag (hag _ (Or.inr ⟨b1, by omega, fun i hi => (d 0 i (by omega) hi).symm⟩)) (hag _ (Or.inr ⟨by omega, by omega, fun i hi => (d 1 i (by omega) hi).symm⟩)) (hag _ (Or.inr ⟨by omega, by omega, fun i hi => (d 2 i (by omega) hi).symm⟩)) (hK' c)⟩
  · rw [t60] at hm
    obtain ⟨b0, b1, b3, b2⟩ := p5 m hm
    refine ⟨by rw [(A (x + 3) (by omega) (by omega)).q]; exact b0, b1, by omega, ?_⟩
    by_cases e : m = m0
    · subst e; exact hT
    · have d := p.TT hm0 hm (Ne.symm e)
      exact b2.ag (hag _ (Or.inr ⟨b1, by omega, fun i hi => d i 0 hi (by omega)⟩)) (hag _ (Or.inr ⟨by omega, by omega, fun i hi => d i 1 hi (by omega)⟩)) (Or.inl (hag _ (Or.inr ⟨by omega, by omega, fun i hi => d i 2 hi (by omega)⟩))) (Or.inl (hag _ (Or.inr ⟨by omega, by omega, fun i hi => d i 3 hi (by omega)⟩))) (hM' m e) (fun _ => rfl)
  · rw [t60] at hm
    rw [up3_at]
    by_cases en : m = m0 ∧ i = cn (τ 14 m0)
    · obtain ⟨rfl, rfl⟩ := en
      rw [if_pos ⟨rfl, rfl⟩]
      exact ⟨by rw [hq2, if_pos rfl], by omega, by omega, hI, fun hv => absurd t23 hv⟩
    · rw [if_neg en]
      have hi : i < cn (τ 14 m) := by
        by_cases e : m = m0
        · subst e; rw [t14] at hi
          have : i ≠ cn (τ 14 m) := fun q => en ⟨rfl, q⟩
          omega
        · rw [e14 m e] at hi; exact hi
      obtain ⟨b0, b1, b4, b2, b3⟩ := p6 m i hm hi
      have d := p.TI hm0 hm hi
      have q0 := hag (id m i) (Or.inr ⟨by omega, by omega, fun a ha => d a 0 ha (by omega)⟩)
      have q1 := hag (id m i + 1) (Or.inr ⟨by omega, by omega, fun a ha => d a 1 ha (by omega)⟩)
      have q2 := hag (id m i + 2) (Or.inr ⟨by omega, by omega, fun a ha => d a 2 ha (by omega)⟩)
      have tj : tg tI τ τ' (200 * m + i) := hI' _ (fun q => by
        have := w14 m hm
        by_cases e : m = m0
        · subst e; omega
        · omega)
      refine ⟨?_, b1, by omega, b2.ag q0 q1 q2 tj, fun hv => ?_⟩
      · by_cases e : m = m0
        · subst e; rw [hq2, if_neg (fun q => en ⟨rfl, q⟩)]; exact b0
        · have d := p.TT hm0 hm (Ne.symm e)
          have b5 := (p5 m hm).2
          rw [(hag (md m + 2) (Or.inr ⟨by omega, by omega, fun i hi => d i 2 hi (by omega)⟩)).q]; exact b0
      · by_cases e : m = m0
        · subst e; exact absurd t23 hv
        · rw [(hM' m e).at1 (c := 23) (by decide)] at hv
          exact (b3 hv).ag q0 q1 q2 tj ((hM' m e).at1 (by decide)) ((hM' m e).at1 (by decide))
  · rw [t60] at hm
    rw [e18] at hk
    obtain ⟨b0, b1, b3, b2⟩ := p7 m k hm hk
    have d := p.TH hm0 hm hk
    refine ⟨?_, b1, by omega, b2.ag (hag _ (Or.inr ⟨by omega, by omega, fun a ha => d a 0 ha (by omega)⟩)) (hH' _)⟩
    by_cases e : m = m0
    · subst e; rw [hq3]; exact b0
    · have d := p.TT hm0 hm (Ne.symm e)
      have b5 := (p5 m hm).2
      rw [(hag (md m + 3) (Or.inr ⟨by omega, by omega, fun i hi => d i 3 hi (by omega)⟩)).q]; exact b0
  · rw [t00]; exact p8
  · rw [t60]; exact p9
  · intro m i m' i' hm hi hm' hi' e
    rw [t60] at hm hm'
    have hI1 : ∀ m i, m < cn (τ 6 0) → i < cn (τ' 14 m) → ¬ (m = m0 ∧ i = cn (τ 14 m0)) → i < cn (τ 14 m) := fun m i hm hi en => by
      by_cases e : m = m0
      · subst e; rw [t14] at hi
        have : i ≠ cn (τ 14 m) := fun q => en ⟨rfl, q⟩
        omega
      · rw [e14 m e] at hi; exact hi
    rw [up3_at, up3_at] at e
    by_cases n1 : m = m0 ∧ i = cn (τ 14 m0)
    · by_cases n2 : m' = m0 ∧ i' = cn (τ 14 m0)
      · exact ⟨n1.1.trans n2.1.symm, n1.2.trans n2.2.symm⟩
      · rw [if_pos n1, if_neg n2] at e
        have := (p6 m' i' hm' (hI1 m' i' hm' hi' n2)).2.2.1
        omega
    · by_cases n2 : m' = m0 ∧ i' = cn (τ 14 m0)
      · rw [if_neg n1, if_pos n2] at e
        have := (p6 m i hm (hI1 m i hm hi n1)).2.2.1
        omega
      · rw [if_neg n1, if_neg n2] at e
        exact p10 m i m' i' hm (hI1 m i hm hi n1) hm' (hI1 m' i' hm' hi' n2) e
  · intro m k m' k' hm hk hm' hk'
    rw [t60] at hm hm'
    rw [e18] at hk hk'
    exact p11 m k m' k' hm hk hm' hk'
set_option maxHeartbeats 1000000 in
theorem RC.addH (p : RC τ kd md id hd x h) {m0 : Nat} (hm0 : m0 < cn (τ 6 0)) (hz : zs h' = zs h + 1) (hag : ∀ b, (x ≤ b ∧ b < x + 8) ∨ (x + 35 ≤ b ∧ b < zs h ∧ ∀ i, i < 4 → md m0 + i ≠ b) → ag h h' b)
    (t00 : τ' 0 0 = τ 0 0) (t60 : τ' 6 0 = τ 6 0) (t27 : τ' 27 0 = τ 27 0) (hK' : ∀ c, tg tK τ τ' c) (hM' : ∀ m, m ≠ m0 → tg tM τ τ' m) (hI' : ∀ j, tg tI τ τ' j) (hH' : ∀ j, j ≠ 8 * m0 + cn (τ 18 m0) → tg tH τ τ' j) (w18 : ∀ m, m < cn (τ 6 0) → cn (τ 18 m) ≤ 8) (hn : cn (τ 18 m0) < 8)
    (t14 : cn (τ' 14 m0) = cn (τ 14 m0)) (t18 : cn (τ' 18 m0) = cn (τ 18 m0) + 1) (t23 : τ' 23 m0 = 0) (hq2 : ∀ i, zq h' (md m0 + 2) i = zq h (md m0 + 2) i) (hq3 : ∀ i, zq h' (md m0 + 3) i = if i = cn (τ 18 m0) then some (zs h) else zq h (md m0 + 3) i) (hT : RT τ' kd h' m0 (md m0)) (hI : RH τ' h' (8 * m0 + cn (τ 18 m0)) (zs h)) : RC τ' kd md id (up3 hd m0 (cn (τ 18 m0)) (zs h)) x h' := by
  have A : ∀ b, x ≤ b → b < x + 8 → ag h h' b := fun b h1 h2 => hag b (Or.inl ⟨h1, h2⟩)
  have e18 : ∀ m, m ≠ m0 → τ' 18 m = τ 18 m := fun m e => (hM' m e).at1 (by decide)
  have e14 : ∀ m, cn (τ' 14 m) = cn (τ 14 m) := fun m => by
    by_cases e : m = m0
    · subst e; exact t14
    · rw [(hM' m e).at1 (c := 14) (by decide)]
  obtain ⟨p1, p2, p3, p4, p5, p6, p7, p8, p9, p10, p11⟩ := (show _ ∧ _ from p)
  refine ⟨p1.ag A, by omega, ?_, fun c hc => ?_, fun m hm => ?_, fun m i hm hi => ?_, fun m k hm hk => ?_, ?_, ?_, ?_, ?_⟩
  · have q1 := A (x + 1) (by omega) (by omega)
    have q4 := A (x + 4) (by omega) (by omega)
    exact ⟨by rw [q1.i, t00]; exact p3.1, by rw [q1.i, t60]; exact p3.2.1, by rw [q4.i, t27]; exact p3.2.2⟩
  · rw [t00] at hc
    obtain ⟨b0, b1, b3, b2⟩ := p4 c hc
    have d := p.KT hc hm0
    exact ⟨by rw [(A (x + 2) (by omega) (by omega)).q]; exact b0, b1, by omega, b2.ag (hag _ (Or.inr ⟨b1, by omega, fun i hi => (d 0 i (by omega) hi).symm⟩)) (hag _ (Or.inr ⟨by omega, by omega, fun i hi => (d 1 i (by omega) hi).symm⟩)) (hag _ (Or.inr ⟨by omega, by omega, fun i hi => (d 2 i (by omega) hi).symm⟩)) (hK' c)⟩
  · rw [t60] at hm
    obtain ⟨b0, b1, b3, b2⟩ := p5 m hm
    refine ⟨by rw [(A (x + 3) (by omega) (by omega)).q]; exact b0, b1, by omega, ?_⟩
    by_cases e : m = m0
    · subst e; exact hT
    · have d := p.TT hm0 hm (Ne.symm e)
      exact b2.ag (hag _ (Or.inr ⟨b1, by omega, fun i hi => d i 0 hi (by omega)⟩)) (hag _ (Or.inr ⟨by omega, by omega, fun i hi => d i 1 hi (by omega)⟩)) (Or.inl (hag _ (Or.inr ⟨by omega, by omega, fun i hi => d i 2 hi (by omega)⟩))) (Or.inl (hag _ (Or.inr ⟨by omega, by omega, fun i hi => d i 3 hi (by omega)⟩))) (hM' m e) (fun _ => rfl)
  · rw [t60] at hm
    rw [e14] at hi
    obtain ⟨b0, b1, b4, b2, b3⟩ := p6 m i hm hi
    have d := p.TI hm0 hm hi
    have q0 := hag (id m i) (Or.inr ⟨by omega, by omega, fun a ha => d a 0 ha (by omega)⟩)
    have q1 := hag (id m i + 1) (Or.inr ⟨by omega, by omega, fun a ha => d a 1 ha (by omega)⟩)
    have q2 := hag (id m i + 2) (Or.inr ⟨by omega, by omega, fun a ha => d a 2 ha (by omega)⟩)
    refine ⟨?_, b1, by omega, b2.ag q0 q1 q2 (hI' _), fun hv => ?_⟩
    · by_cases e : m = m0
      · subst e; rw [hq2]; exact b0
      · have d := p.TT hm0 hm (Ne.symm e)
        have b5 := (p5 m hm).2
        rw [(hag (md m + 2) (Or.inr ⟨by omega, by omega, fun i hi => d i 2 hi (by omega)⟩)).q]; exact b0
    · by_cases e : m = m0
      · subst e; exact absurd t23 hv
      · rw [(hM' m e).at1 (c := 23) (by decide)] at hv
        exact (b3 hv).ag q0 q1 q2 (hI' _) ((hM' m e).at1 (by decide)) ((hM' m e).at1 (by decide))
  · rw [t60] at hm
    rw [up3_at]
    by_cases en : m = m0 ∧ k = cn (τ 18 m0)
    · obtain ⟨rfl, rfl⟩ := en
      rw [if_pos ⟨rfl, rfl⟩]
      exact ⟨by rw [hq3, if_pos rfl], by omega, by omega, hI⟩
    · rw [if_neg en]
      have hk : k < cn (τ 18 m) := by
        by_cases e : m = m0
        · subst e; rw [t18] at hk
          have : k ≠ cn (τ 18 m) := fun q => en ⟨rfl, q⟩
          omega
        · rw [e18 m e] at hk; exact hk
      obtain ⟨b0, b1, b3, b2⟩ := p7 m k hm hk
      have d := p.TH hm0 hm hk
      have tj : tg tH τ τ' (8 * m + k) := hH' _ (fun q => by
        have := w18 m hm
        by_cases e : m = m0
        · subst e; omega
        · omega)
      refine ⟨?_, b1, by omega, b2.ag (hag _ (Or.inr ⟨by omega, by omega, fun a ha => d a 0 ha (by omega)⟩)) tj⟩
      by_cases e : m = m0
      · subst e; rw [hq3, if_neg (fun q => en ⟨rfl, q⟩)]; exact b0
      · have d := p.TT hm0 hm (Ne.symm e)
        have b5 := (p5 m hm).2
        rw [(hag (md m + 3) (Or.inr ⟨by omega, by omega, fun i hi => d i 3 hi (by omega)⟩)).q]; exact b0
  · rw [t00]; exact p8
  · rw [t60]; exact p9
  · intro m i m' i' hm hi hm' hi'
    rw [t60] at hm hm'
    rw [e14] at hi hi'
    exact p10 m i m' i' hm hi hm' hi'
  · intro m i m' i' hm hi hm' hi' e
    rw [t60] at hm hm'
    have hI1 : ∀ m i, m < cn (τ 6 0) → i < cn (τ' 18 m) → ¬ (m = m0 ∧ i = cn (τ 18 m0)) → i < cn (τ 18 m) := fun m i hm hi en => by
      by_cases e : m = m0
      · subst e; rw [t18] at hi
        have : i ≠ cn (τ 18 m) := fun q => en ⟨rfl, q⟩
        omega
      · rw [e18 m e] at hi; exact hi
    rw [up3_at, up3_at] at e
    by_cases n1 : m = m0 ∧ i = cn (τ 18 m0)
    · by_cases n2 : m' = m0 ∧ i' = cn (τ 18 m0)
      · exact ⟨n1.1.trans n2.1.symm, n1.2.trans n2.2.symm⟩
      · rw [if_pos n1, if_neg n2] at e
        have := (p7 m' i' hm' (hI1 m' i' hm' hi' n2)).2.2.1
        omega
    · by_cases n2 : m' = m0 ∧ i' = cn (τ 18 m0)
      · rw [if_neg n1, if_pos n2] at e
        have := (p7 m i hm (hI1 m i hm hi n1)).2.2.1
        omega
      · rw [if_neg n1, if_neg n2] at e
        exact p11 m i m' i' hm (hI1 m i hm hi n1) hm' (hI1 m' i' hm' hi' n2) e
end
