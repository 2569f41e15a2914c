/-! Objects lie apart: heads have kinds below 5, what lies behind a head has not. -/
theorem apart {h : zH} {a b n1 n2 : Nat} (ha : zk h a < 5) (hb : zk h b < 5) (ta : ∀ i, 0 < i → i < n1 → 5 ≤ zk h (a + i)) (tb : ∀ j, 0 < j → j < n2 → 5 ≤ zk h (b + j)) (hne : a ≠ b) : ∀ i j, i < n1 → j < n2 → a + i ≠ b + j := by
  intro i j hi hj e
  rcases Nat.lt_trichotomy i j with q | q | q
  · have e1 : a = b + (j - i) := by omega
    have := tb (j - i) (by omega) (by omega)
    rw [← e1] at this
    omega
  · omega
  · have e1 : b = a + (i - j) := by omega
    have := ta (i - j) (by omega) (by omega)
    rw [← e1] at this
    omega
theorem RK.hd {τ : Nat → Nat → Int32} {h : zH} {c a : Nat} (p : RK τ h c a) : zk h a = 3 ∧ ∀ i, 0 < i → i < 3 → 5 ≤ zk h (a + i) := by
  obtain ⟨⟨a1, a2, a3, -⟩, -⟩ := p
  refine ⟨a1, fun i h1 h2 => ?_⟩
  rcases (show i = 1 ∨ i = 2 by omega) with rfl | rfl <;> omega
theorem RT.hd {τ : Nat → Nat → Int32} {kd : Nat → Nat} {h : zH} {m a : Nat} (p : RT τ kd h m a) : zk h a = 4 ∧ ∀ i, 0 < i → i < 4 → 5 ≤ zk h (a + i) := by
  obtain ⟨⟨a1, a2, a3, a4, -⟩, -⟩ := p
  refine ⟨a1, fun i h1 h2 => ?_⟩
  rcases (show i = 1 ∨ i = 2 ∨ i = 3 by omega) with rfl | rfl | rfl <;> omega
theorem RI.hd {τ : Nat → Nat → Int32} {h : zH} {j a : Nat} (p : RI τ h j a) : zk h a = 2 ∧ ∀ i, 0 < i → i < 3 → 5 ≤ zk h (a + i) := by
  obtain ⟨⟨a1, a2, a3, -⟩, -⟩ := p
  refine ⟨a1, fun i h1 h2 => ?_⟩
  rcases (show i = 1 ∨ i = 2 by omega) with rfl | rfl <;> omega
theorem RH.hd {τ : Nat → Nat → Int32} {h : zH} {j a : Nat} (p : RH τ h j a) : zk h a = 1 ∧ ∀ i, 0 < i → i < 1 → 5 ≤ zk h (a + i) := ⟨p.1, fun i h1 h2 => by omega⟩
section
variable {τ τ' : Nat → Nat → Int32} {kd md : Nat → Nat} {id hd : Nat → Nat → Nat} {x : Nat} {h h' : zH}
/-- the books stay; each object is as tau' says: so is all -/
theorem RC.shape (p : RC τ kd md id hd x h) (hF : RF x h') (hz : zs h' = zs h) (e0 : cn (τ' 0 0) = cn (τ 0 0)) (e6 : cn (τ' 6 0) = cn (τ 6 0)) (e14 : ∀ m, m < cn (τ 6 0) → cn (τ' 14 m) = cn (τ 14 m)) (e18 : ∀ m, m < cn (τ 6 0) → cn (τ' 18 m) = cn (τ 18 m))
    (hs : zi h' 6 2 (x + 1) = τ' 0 0 ∧ zi h' 6 3 (x + 1) = τ' 6 0 ∧ zi h' 7 5 (x + 4) = τ' 27 0) (hq2 : ∀ c, zq h' (x + 2) c = zq h (x + 2) c) (hq3 : ∀ c, zq h' (x + 3) c = zq h (x + 3) c)
    (hK : ∀ c, c < cn (τ 0 0) → RK τ' h' c (kd c)) (hT : ∀ m, m < cn (τ 6 0) → RT τ' kd h' m (md m) ∧ (∀ i, zq h' (md m + 2) i = zq h (md m + 2) i) ∧ ∀ i, zq h' (md m + 3) i = zq h (md m + 3) i)
    (hI : ∀ m i, m < cn (τ 6 0) → i < cn (τ 14 m) → RI τ' h' (200 * m + i) (id m i) ∧ (τ' 23 m ≠ 0 → RS τ' h' m (200 * m + i) (id m i))) (hH : ∀ m k, m < cn (τ 6 0) → k < cn (τ 18 m) → RH τ' h' (8 * m + k) (hd m k)) : RC τ' kd md id hd x h' := by
  obtain ⟨p1, p2, p3, p4, p5, p6, p7, p8, p9, p10, p11⟩ := p
  refine ⟨hF, by rw [hz]; exact p2, hs, fun c hc => ?_, fun m hm => ?_, fun m i hm hi => ?_, fun m k hm hk => ?_, ?_, ?_, ?_, ?_⟩
  · rw [e0] at hc
    obtain ⟨q1, q2, q3, q4⟩ := p4 c hc
    exact ⟨by rw [hq2]; exact q1, q2, by rw [hz]; exact q3, hK c hc⟩
  · rw [e6] at hm
    obtain ⟨q1, q2, q3, q4⟩ := p5 m hm
    exact ⟨by rw [hq3]; exact q1, q2, by rw [hz]; exact q3, (hT m hm).1⟩
  · rw [e6] at hm
    rw [e14 m hm] at hi
    obtain ⟨q1, q2, q3, q4, q5⟩ := p6 m i hm hi
    exact ⟨by rw [(hT m hm).2.1]; exact q1, q2, by rw [hz]; exact q3, hI m i hm hi⟩
  · rw [e6] at hm
    rw [e18 m hm] at hk
    obtain ⟨q1, q2, q3, q4⟩ := p7 m k hm hk
    exact ⟨by rw [(hT m hm).2.2]; exact q1, q2, by rw [hz]; exact q3, hH m k hm hk⟩
  · intro c c' hc hc'
    rw [e0] at hc hc'
    exact p8 c c' hc hc'
  · intro m m' hm hm'
    rw [e6] at hm hm'
    exact p9 m m' hm hm'
  · intro m i m' i' hm hi hm' hi'
    rw [e6] at hm hm'
    rw [e14 m hm] at hi
    rw [e14 m' hm'] at hi'
    exact p10 m i m' i' hm hi hm' hi'
  · intro m k m' k' hm hk hm' hk'
    rw [e6] at hm hm'
    rw [e18 m hm] at hk
    rw [e18 m' hm'] at hk'
    exact p11 m k m' k' hm hk hm' hk'
/-- cells of the objects, apart from each other -/
theorem RC.KK (p : RC τ kd md id hd x h) {c c' : Nat} (hc : c < cn (τ 0 0)) (hc' : c' < cn (τ 0 0)) (hne : c ≠ c') : ∀ i j, i < 3 → j < 3 → kd c + i ≠ kd c' + j := by
  have q := (p.2.2.2.1 c hc).2.2.2.hd
  have q' := (p.2.2.2.1 c' hc').2.2.2.hd
  exact apart (by omega) (by omega) q.2 q'.2 (fun e => hne (p.2.2.2.2.2.2.2.1 c c' hc hc' e))
theorem RC.KT (p : RC τ kd md id hd x h) {c m : Nat} (hc : c < cn (τ 0 0)) (hm : m < cn (τ 6 0)) : ∀ i j, i < 3 → j < 4 → kd c + i ≠ md m + j := by
  have q := (p.2.2.2.1 c hc).2.2.2.hd
  have q' := (p.2.2.2.2.1 m hm).2.2.2.hd
  exact apart (by omega) (by omega) q.2 q'.2 (fun e => by rw [e] at q; omega)
theorem RC.KI (p : RC τ kd md id hd x h) {c m i : Nat} (hc : c < cn (τ 0 0)) (hm : m < cn (τ 6 0)) (hi : i < cn (τ 14 m)) : ∀ a b, a < 3 → b < 3 → kd c + a ≠ id m i + b := by
  have q := (p.2.2.2.1 c hc).2.2.2.hd
  have q' := (p.2.2.2.2.2.1 m i hm hi).2.2.2.1.hd
  exact apart (by omega) (by omega) q.2 q'.2 (fun e => by rw [e] at q; omega)
theorem RC.KH (p : RC τ kd md id hd x h) {c m i : Nat} (hc : c < cn (τ 0 0)) (hm : m < cn (τ 6 0)) (hi : i < cn (τ 18 m)) : ∀ a b, a < 3 → b < 1 → kd c + a ≠ hd m i + b := by
  have q := (p.2.2.2.1 c hc).2.2.2.hd
  have q' := (p.2.2.2.2.2.2.1 m i hm hi).2.2.2.hd
  exact apart (by omega) (by omega) q.2 q'.2 (fun e => by rw [e] at q; omega)
theorem RC.TT (p : RC τ kd md id hd x h) {c c' : Nat} (hc : c < cn (τ 6 0)) (hc' : c' < cn (τ 6 0)) (hne : c ≠ c') : ∀ i j, i < 4 → j < 4 → md c + i ≠ md c' + j := by
  have q := (p.2.2.2.2.1 c hc).2.2.2.hd
  have q' := (p.2.2.2.2.1 c' hc').2.2.2.hd
  exact apart (by omega) (by omega) q.2 q'.2 (fun e => hne (p.2.2.2.2.2.2.2.2.1 c c' hc hc' e))
theorem RC.TI (p : RC τ kd md id hd x h) {c m i : Nat} (hc : c < cn (τ 6 0)) (hm : m < cn (τ 6 0)) (hi : i < cn (τ 14 m)) : ∀ a b, a < 4 → b < 3 → md c + a ≠ id m i + b := by
  have q := (p.2.2.2.2.1 c hc).2.2.2.hd
  have q' := (p.2.2.2.2.2.1 m i hm hi).2.2.2.1.hd
  exact apart (by omega) (by omega) q.2 q'.2 (fun e => by rw [e] at q; omega)
theorem RC.TH (p : RC τ kd md id hd x h) {c m i : Nat} (hc : c < cn (τ 6 0)) (hm : m < cn (τ 6 0)) (hi : i < cn (τ 18 m)) : ∀ a b, a < 4 → b < 1 → md c + a ≠ hd m i + b := by
  have q := (p.2.2.2.2.1 c hc).2.2.2.hd
  have q' := (p.2.2.2.2.2.2.1 m i hm hi).2.2.2.hd
  exact apart (by omega) (by omega) q.2 q'.2 (fun e => by rw [e] at q; omega)
theorem RC.II (p : RC τ kd md id hd x h) {m i m' i' : Nat} (hm : m < cn (τ 6 0)) (hi : i < cn (τ 14 m)) (hm' : m' < cn (τ 6 0)) (hi' : i' < cn (τ 14 m')) (hne : ¬ (m = m' ∧ i = i')) : ∀ a b, a < 3 → b < 3 → id m i + a ≠ id m' i' + b := by
  have q := (p.2.2.2.2.2.1 m i hm hi).2.2.2.1.hd
  have q' := (p.2.2.2.2.2.1 m' i' hm' hi').2.2.2.1.hd
  exact apart (by omega) (by omega) q.2 q'.2 (fun e => hne (p.2.2.2.2.2.2.2.2.2.1 m i m' i' hm hi hm' hi' e))
theorem RC.IH (p : RC τ kd md id hd x h) {m i m' i' : Nat} (hm : m < cn (τ 6 0)) (hi : i < cn (τ 14 m)) (hm' : m' < cn (τ 6 0)) (hi' : i' < cn (τ 18 m')) : ∀ a b, a < 3 → b < 1 → id m i + a ≠ hd m' i' + b := by
  have q := (p.2.2.2.2.2.1 m i hm hi).2.2.2.1.hd
  have q' := (p.2.2.2.2.2.2.1 m' i' hm' hi').2.2.2.hd
  exact apart (by omega) (by omega) q.2 q'.2 (fun e => by rw [e] at q; omega)
end
