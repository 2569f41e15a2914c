/-! A change inside one class's, or one method's, own cells. -/
section
variable {τ τ' : Nat → Nat → Int32} {kd md : Nat → Nat} {id hd : Nat → Nat → Nat} {x : Nat} {h h' : zH}
theorem RC.modK (p : RC τ kd md id hd x h) {c0 : Nat} (hc0 : c0 < cn (τ 0 0)) (hz : zs h' = zs h) (hag : ∀ b, (x ≤ b ∧ b < x + 8) ∨ (x + 35 ≤ b ∧ ∀ i, i < 3 → kd c0 + i ≠ b) → ag h h' b)
    (t00 : τ' 0 0 = τ 0 0) (t60 : τ' 6 0 = τ 6 0) (t27 : τ' 27 0 = τ 27 0) (hK' : ∀ c, c ≠ c0 → tg tK τ τ' c) (hM' : ∀ m, tg tM τ τ' m) (hI' : ∀ j, tg tI τ τ' j) (hH' : ∀ j, tg tH τ τ' j) (hK : RK τ' h' c0 (kd c0)) : RC τ' kd md id hd x h' := by
  have A : ∀ b, x ≤ b → b < x + 8 → ag h h' b := fun b h1 h2 => hag b (Or.inl ⟨h1, h2⟩)
  refine p.shape (p.1.ag A) hz (by rw [t00]) (by rw [t60]) (fun m hm => by rw [(hM' m).at1 (c := 14) (by decide)]) (fun m hm => by rw [(hM' m).at1 (c := 18) (by decide)]) ?_ (fun c => (A (x + 2) (by omega) (by omega)).q c) (fun c => (A (x + 3) (by omega) (by omega)).q c) (fun c hc => ?_) (fun m hm => ?_) (fun m i hm hi => ?_) (fun m k hm hk => ?_)
  · obtain ⟨s1, s2, s3⟩ := p.2.2.1
    have q1 := A (x + 1) (by omega) (by omega)
    have q4 := A (x + 4) (by omega) (by omega)
    exact ⟨by rw [q1.i, t00]; exact s1, by rw [q1.i, t60]; exact s2, by rw [q4.i, t27]; exact s3⟩
  · by_cases e : c = c0
    · subst e; exact hK
    · obtain ⟨-, b1, -, b2⟩ := p.2.2.2.1 c hc
      have d := p.KK hc0 hc (Ne.symm e)
      exact b2.ag (hag _ (Or.inr ⟨b1, fun i hi => d i 0 hi (by omega)⟩)) (hag _ (Or.inr ⟨by omega, fun i hi => d i 1 hi (by omega)⟩)) (hag _ (Or.inr ⟨by omega, fun i hi => d i 2 hi (by omega)⟩)) (hK' c e)
  · obtain ⟨-, b1, -, b2⟩ := p.2.2.2.2.1 m hm
    have d := p.KT hc0 hm
    have q2 := hag (md m + 2) (Or.inr ⟨by omega, fun i hi => d i 2 hi (by omega)⟩)
    have q3 := hag (md m + 3) (Or.inr ⟨by omega, fun i hi => d i 3 hi (by omega)⟩)
    exact ⟨b2.ag (hag _ (Or.inr ⟨b1, fun i hi => d i 0 hi (by omega)⟩)) (hag _ (Or.inr ⟨by omega, fun i hi => d i 1 hi (by omega)⟩)) (Or.inl q2) (Or.inl q3) (hM' m) (fun _ => rfl), fun i => q2.q i, fun i => q3.q i⟩
  · obtain ⟨-, b1, -, b2, b3⟩ := p.2.2.2.2.2.1 m i hm hi
    have d := p.KI hc0 hm hi
    have q0 := hag (id m i) (Or.inr ⟨by omega, fun a ha => d a 0 ha (by omega)⟩)
    have q1 := hag (id m i + 1) (Or.inr ⟨by omega, fun a ha => d a 1 ha (by omega)⟩)
    have q2 := hag (id m i + 2) (Or.inr ⟨by omega, fun a ha => d a 2 ha (by omega)⟩)
    refine ⟨b2.ag q0 q1 q2 (hI' _), fun hv => ?_⟩
    rw [(hM' m).at1 (c := 23) (by decide)] at hv
    exact (b3 hv).ag q0 q1 q2 (hI' _) ((hM' m).at1 (by decide)) ((hM' m).at1 (by decide))
  · obtain ⟨-, b1, -, b2⟩ := p.2.2.2.2.2.2.1 m k hm hk
    have d := p.KH hc0 hm hk
    exact b2.ag (hag _ (Or.inr ⟨by omega, fun a ha => d a 0 ha (by omega)⟩)) (hH' _)
theorem RC.modT (p : RC τ kd md id hd x h) {m0 : Nat} (hm0 : m0 < cn (τ 6 0)) (hz : zs h' = zs h) (hag : ∀ b, (x ≤ b ∧ b < x + 8) ∨ (x + 35 ≤ b ∧ ∀ i, i < 4 → md m0 + i ≠ b) → ag h h' b)
    (t00 : τ' 0 0 = τ 0 0) (t60 : τ' 6 0 = τ 6 0) (t27 : τ' 27 0 = τ 27 0) (hK' : ∀ c, tg tK τ τ' c) (hM' : ∀ m, m ≠ m0 → tg tM τ τ' m) (hI' : ∀ j, tg tI τ τ' j) (hH' : ∀ j, tg tH τ τ' j)
    (t14 : cn (τ' 14 m0) = cn (τ 14 m0)) (t18 : cn (τ' 18 m0) = cn (τ 18 m0)) (t9 : τ' 9 m0 = τ 9 m0) (t10 : τ' 10 m0 = τ 10 m0) (t23 : τ' 23 m0 ≠ 0 → τ 23 m0 ≠ 0) (hq2 : ∀ i, zq h' (md m0 + 2) i = zq h (md m0 + 2) i) (hq3 : ∀ i, zq h' (md m0 + 3) i = zq h (md m0 + 3) i) (hT : RT τ' kd h' m0 (md m0)) : RC τ' kd md id hd x h' := by
  have A : ∀ b, x ≤ b → b < x + 8 → ag h h' b := fun b h1 h2 => hag b (Or.inl ⟨h1, h2⟩)
  refine p.shape (p.1.ag A) hz (by rw [t00]) (by rw [t60]) (fun m hm => ?_) (fun m hm => ?_) ?_ (fun c => (A (x + 2) (by omega) (by omega)).q c) (fun c => (A (x + 3) (by omega) (by omega)).q c) (fun c hc => ?_) (fun m hm => ?_) (fun m i hm hi => ?_) (fun m k hm hk => ?_)
  · by_cases e : m = m0
    · subst e; exact t14
    · rw [(hM' m e).at1 (c := 14) (by decide)]
  · by_cases e : m = m0
    · subst e; exact t18
    · rw [(hM' m e).at1 (c := 18) (by decide)]
  · obtain ⟨s1, s2, s3⟩ := p.2.2.1
    have q1 := A (x + 1) (by omega) (by omega)
    have q4 := A (x + 4) (by omega) (by omega)
    exact ⟨by rw [q1.i, t00]; exact s1, by rw [q1.i, t60]; exact s2, by rw [q4.i, t27]; exact s3⟩
  · obtain ⟨-, b1, -, b2⟩ := p.2.2.2.1 c hc
    have d := p.KT hc hm0
    exact b2.ag (hag _ (Or.inr ⟨b1, fun i hi => (d 0 i (by omega) hi).symm⟩)) (hag _ (Or.inr ⟨by omega, fun i hi => (d 1 i (by omega) hi).symm⟩)) (hag _ (Or.inr ⟨by omega, fun i hi => (d 2 i (by omega) hi).symm⟩)) (hK' c)
  · by_cases e : m = m0
    · subst e; exact ⟨hT, hq2, hq3⟩
    · obtain ⟨-, b1, -, b2⟩ := p.2.2.2.2.1 m hm
      have d := p.TT hm0 hm (Ne.symm e)
      have q2 := hag (md m + 2) (Or.inr ⟨by omega, fun i hi => d i 2 hi (by omega)⟩)
      have q3 := hag (md m + 3) (Or.inr ⟨by omega, fun i hi => d i 3 hi (by omega)⟩)
      exact ⟨b2.ag (hag _ (Or.inr ⟨b1, fun i hi => d i 0 hi (by omega)⟩)) (hag _ (Or.inr ⟨by omega, fun i hi => d i 1 hi (by omega)⟩)) (Or.inl q2) (Or.inl q3) (hM' m e) (fun _ => rfl), fun i => q2.q i, fun i => q3.q i⟩
  · obtain ⟨-, b1, -, b2, b3⟩ := p.2.2.2.2.2.1 m i hm hi
    have d := p.TI hm0 hm hi
    have q0 := hag (id m i) (Or.inr ⟨by omega, fun a ha => d a 0 ha (by omega)⟩)
    have q1 := hag (id m i + 1) (Or.inr ⟨by omega, fun a ha => d a 1 ha (by omega)⟩)
    have q2 := hag (id m i + 2) (Or.inr ⟨by omega, fun a ha => d a 2 ha (by omega)⟩)
    refine ⟨b2.ag q0 q1 q2 (hI' _), fun hv => ?_⟩
    by_cases e : m = m0
    · subst e; exact (b3 (t23 hv)).ag q0 q1 q2 (hI' _) t9 t10
    · rw [(hM' m e).at1 (c := 23) (by decide)] at hv
      exact (b3 hv).ag q0 q1 q2 (hI' _) ((hM' m e).at1 (by decide)) ((hM' m e).at1 (by decide))
  · obtain ⟨-, b1, -, b2⟩ := p.2.2.2.2.2.2.1 m k hm hk
    have d := p.TH hm0 hm hk
    exact b2.ag (hag _ (Or.inr ⟨by omega, fun a ha => d a 0 ha (by omega)⟩)) (hH' _)
/-- the reference's cells change: the class's don't -/
theorem RC.agM (p : RC τ kd md id hd x h) (hz : zs h' = zs h) (hag : ∀ b, (b < x + 8 ∨ x + 35 ≤ b) → ag h h' b) : RC τ kd md id hd x h' := by
  have A : ∀ b, x ≤ b → b < x + 8 → ag h h' b := fun b h1 h2 => hag b (Or.inl h2)
  have B : ∀ b, x + 35 ≤ b → ag h h' b := fun b h1 => hag b (Or.inr h1)
  refine p.shape (p.1.ag A) hz rfl rfl (fun m hm => rfl) (fun m hm => rfl) ?_ (fun c => (A (x + 2) (by omega) (by omega)).q c) (fun c => (A (x + 3) (by omega) (by omega)).q c) (fun c hc => ?_) (fun m hm => ?_) (fun m i hm hi => ?_) (fun m k hm hk => ?_)
  · obtain ⟨s1, s2, s3⟩ := p.2.2.1
    have q1 := A (x + 1) (by omega) (by omega)
    have q4 := A (x + 4) (by omega) (by omega)
    exact ⟨by rw [q1.i]; exact s1, by rw [q1.i]; exact s2, by rw [q4.i]; exact s3⟩
  · obtain ⟨-, b1, -, b2⟩ := p.2.2.2.1 c hc
    exact b2.ag (B _ b1) (B _ (by omega)) (B _ (by omega)) tg.rf
  · obtain ⟨-, b1, -, b2⟩ := p.2.2.2.2.1 m hm
    have q2 := B (md m + 2) (by omega)
    have q3 := B (md m + 3) (by omega)
    exact ⟨b2.ag (B _ b1) (B _ (by omega)) (Or.inl q2) (Or.inl q3) tg.rf (fun _ => rfl), fun i => q2.q i, fun i => q3.q i⟩
  · obtain ⟨-, b1, -, b2, b3⟩ := p.2.2.2.2.2.1 m i hm hi
    exact ⟨b2.ag (B _ b1) (B _ (by omega)) (B _ (by omega)) tg.rf, fun hv => (b3 hv).ag (B _ b1) (B _ (by omega)) (B _ (by omega)) tg.rf rfl rfl⟩
  · obtain ⟨-, b1, -, b2⟩ := p.2.2.2.2.2.2.1 m k hm hk
    exact b2.ag (B _ b1) tg.rf
/-- the reference's steps leave the class alone -/
theorem RC.sta (p : RC τ kd md id hd x h) {a j : Nat} {v : Int32} (ha : x + 8 ≤ a ∧ a < x + 35) : RC τ kd md id hd x (sta a j v h) := p.agM rfl (fun b hb => ag_sta (by omega))
theorem RC.sti9 (p : RC τ kd md id hd x h) {k : Nat} {v : Int32} : RC τ kd md id hd x (sti 9 k (x + 8) v h) := p.agM rfl (fun b hb => ag_sti (by omega))
end
