theorem RM.ext {τ τ' : Nat → Nat → Int32} {m : Nat} {h : zH} (p : RM τ m h) (e : ∀ c i, c < 40 → τ' c i = τ c i) : RM τ' m h := by
  obtain ⟨p0, p1, p2⟩ := p
  refine ⟨p0, fun t ht => ?_, fun s hs => ?_⟩
  · obtain ⟨a1, a2, a3, a4⟩ := p1 t ht
    have : t.1 < 40 := (by decide : ∀ t ∈ mcols, t.1 < 40) t ht
    exact ⟨a1, a2, a3, fun i hi => by rw [e _ _ this]; exact a4 i hi⟩
  · have : s < 40 := (by decide : ∀ t ∈ mscal, t < 40) s hs
    rw [e _ _ this]; exact p2 s hs
/-- tau' is tau with a class more: number n, under o -/
def KF (τ τ' : Nat → Nat → Int32) (n : Nat) (o : Int32) : Prop :=
  (∀ c i, (c ≠ 0 ∧ c ≠ 1 ∧ c ≠ 2 ∧ c ≠ 3 ∧ c ≠ 4 ∧ c ≠ 5 ∧ c ≠ 40 ∧ c ≠ 41 ∧ c ≠ 42) → τ' c i = τ c i) ∧ (τ' 0 0 = nI (n + 1)) ∧
  (∀ i, τ' 1 i = if i = n then o else τ 1 i) ∧ (∀ i, τ' 2 i = if i = n then 0 else if ¬ o < 0 ∧ i = cn o then 1 else τ 2 i) ∧ (∀ i, τ' 3 i = if i = n then (if o < 0 then 0 else τ 3 (cn o)) else τ 3 i) ∧
  (∀ c k, c < n → k < 15 → τ' 4 (15 * c + k) = τ 4 (15 * c + k)) ∧ (∀ k, ¬ o < 0 → k < cn (τ 3 (cn o)) → τ' 4 (15 * n + k) = τ 4 (15 * cn o + k)) ∧
  (∀ c s, c < n → s < 16 → τ' 5 (16 * c + s) = τ 5 (16 * c + s)) ∧ (∀ s, s < 16 → τ' 5 (16 * n + s) = if o < 0 then -1 else τ 5 (16 * cn o + s)) ∧
  (∀ i, τ' 40 i = if i = n then 0 else if ¬ o < 0 ∧ i = cn o then 1 else τ 40 i) ∧ (∀ i, τ' 41 i = if i = n then 0 else τ 41 i) ∧ (∀ i, τ' 42 i = if i = n then (if o < 0 then (1 <<< (nI n &&& 31)) else (τ 42 (cn o) ||| (1 <<< (nI n &&& 31)))) else τ 42 i)
theorem anc_fuel {τ : Nat → Nat → Int32} (j c : Nat) : ∀ (d : Nat), (∀ i, i ≤ c → τ 1 i = -1 ∨ ∃ u, u < i ∧ τ 1 i = nI u) → c < 2 ^ 31 → anc τ (c + 1 + d) c j = anc τ (c + 1) c j := by
  induction c using Nat.strongRecOn with
  | _ c ih =>
    intro d g hc
    rw [show c + 1 + d = (c + d) + 1 by omega]
    unfold anc
    rcases g c (Nat.le_refl _) with e | ⟨u, hu, e⟩
    · rw [e, if_pos m1neg, if_pos m1neg]
    · rw [e, if_neg (nlt0 (by omega)), if_neg (nlt0 (by omega)), cn_nI (by omega)]
      have a1 := ih u hu (c + d - u - 1) (fun i hi => g i (by omega)) (by omega)
      have a2 := ih u hu (c - u - 1) (fun i hi => g i (by omega)) (by omega)
      rw [show u + 1 + (c + d - u - 1) = c + d by omega] at a1
      rw [show u + 1 + (c - u - 1) = c by omega] at a2
      rw [a1, a2]
theorem KF.t {τ τ' : Nat → Nat → Int32} {n : Nat} {o : Int32} (F : KF τ τ' n o) (tb : List (Nat × Nat)) (ht : ∀ q ∈ tb, q.1 ≠ 0 ∧ q.1 ≠ 1 ∧ q.1 ≠ 2 ∧ q.1 ≠ 3 ∧ q.1 ≠ 4 ∧ q.1 ≠ 5 ∧ q.1 ≠ 40 ∧ q.1 ≠ 41 ∧ q.1 ≠ 42) (i : Nat) : tg tb τ τ' i := fun q hq k hk => F.1 _ _ (ht q hq)
theorem KF.WF {τ τ' : Nat → Nat → Int32} {n : Nat} {o : Int32} (F : KF τ τ' n o) (w : WF τ) (en : cn (τ 0 0) = n) (hn : n < 32) (ho : o = -1 ∨ ∃ c, c < cn (τ 0 0) ∧ o = nI c) : WF τ' := by
  obtain ⟨f0, f00, f1, f2, f3, f4, f4n, f5, f5n, f40, f41, f42⟩ := id F
  have z0 : cn (τ' 0 0) = n + 1 := by rw [f00]; exact cn_nI (by omega)
  have z6 : τ' 6 0 = τ 6 0 := f0 6 0 (by decide)
  have h6 := w.2.1.2
  have hoc : ¬ o < 0 → cn o < n ∧ o = nI (cn o) := fun q => by
    rcases ho with rfl | ⟨c, hc, rfl⟩
    · exact absurd m1neg q
    · rw [cn_nI (by omega)]; exact ⟨by omega, rfl⟩
  have ch : ∀ i, i < n + 1 → τ' 1 i = -1 ∨ ∃ u, u < i ∧ τ' 1 i = nI u := fun i hi => by
    rw [f1]
    by_cases e : i = n
    · rw [if_pos e]
      rcases ho with q | ⟨c, hc, q⟩
      · exact Or.inl q
      · exact Or.inr ⟨c, by omega, q⟩
    · rw [if_neg e]; exact w.chain i (by omega)
  have anE : ∀ c j, c < n → anc τ' (c + 1) c j = anc τ (c + 1) c j := fun c j hc => anc_congr (c + 1) c j (fun i hi => by rw [f1, if_neg (by omega)]) (fun i hi => w.chain i (by omega)) (by omega)
  refine ⟨⟨by rw [f00]; exact nlt0 (by omega), by omega⟩, by rw [z6]; exact w.2.1, fun c hc => ?_, fun m hm => ?_, fun m h1 h2 => ?_⟩
  · rw [z0] at hc
    by_cases e : c = n
    · subst e
      have e3 : τ' 3 c = if o < 0 then 0 else τ 3 (cn o) := by rw [f3, if_pos rfl]
      have e2 : τ' 2 c = 0 := by rw [f2, if_pos rfl]
      have e40 : τ' 40 c = 0 := by rw [f40, if_pos rfl]
      have e41 : τ' 41 c = 0 := by rw [f41, if_pos rfl]
      refine ⟨ch c (by omega), ?_, fun k hk => ?_, fun s hs => ?_, ⟨Or.inl e2, ⟨fun _ => ⟨e40, e41⟩, fun _ => e2⟩, ⟨fun _ k hk => ?_, fun _ => e40⟩⟩, fun j hj => ?_⟩
      · rw [e3]
        by_cases q : o < 0
        · rw [if_pos q]; exact ⟨by decide, Nat.zero_le _⟩
        · rw [if_neg q]; exact (w.2.2.1 (cn o) (by have := (hoc q).1; omega)).2.1
      · rw [e3] at hk
        by_cases q : o < 0
        · rw [if_pos q] at hk; exact absurd hk (Nat.not_lt_zero _)
        · rw [if_neg q] at hk
          rw [f4n k q hk]
          exact ((w.2.2.1 (cn o) (by have := (hoc q).1; omega)).2.2.1 k hk).mono (by omega)
      · rw [f5n s hs, z6]
        by_cases q : o < 0
        · rw [if_pos q]; exact Or.inl rfl
        · rw [if_neg q]; exact (w.2.2.1 (cn o) (by have := (hoc q).1; omega)).2.2.2.1 s hs
      · rw [z0] at hk
        intro q
        rcases ch k hk with r | ⟨u, hu, r⟩
        · rw [r] at q; exact nlt0 (n := c) (by omega) (by rw [← q]; exact m1neg)
        · rw [r] at q; have := nI_inj (by omega) (by omega) q; omega
      · rw [f42, if_pos rfl]
        rw [anc]
        have e1 : τ' 1 c = o := by rw [f1, if_pos rfl]
        rw [e1]
        by_cases q : o < 0
        · rw [if_pos q, if_pos q, bt_one (by omega) hj, Bool.or_false]
          by_cases r : j = c
          · subst r; simp
          · simp [r]; omega
        · obtain ⟨q1, q2⟩ := hoc q
          rw [if_neg q, if_neg q, b_or, bt_one (by omega) hj, (w.2.2.1 (cn o) (by omega)).2.2.2.2.2 j hj]
          have a2 := anc_fuel (τ := τ') j (cn o) (c - cn o - 1) (fun i hi => ch i (by omega)) (by omega)
          rw [show cn o + 1 + (c - cn o - 1) = c by omega, anE _ _ q1] at a2
          rw [a2, Bool.or_comm]
          by_cases r : j = c
          · subst r; simp
          · simp [r]
            have : ¬ (c = j) := by omega
            simp [this]
    · have hc' : c < n := by omega
      obtain ⟨p1, p2, p3, p4, ⟨p5, p6, p7⟩, p8⟩ := w.2.2.1 c (by omega)
      have e1 : τ' 1 c = τ 1 c := by rw [f1, if_neg e]
      have e3 : τ' 3 c = τ 3 c := by rw [f3, if_neg e]
      refine ⟨by rw [e1]; exact p1, by rw [e3]; exact p2, fun k hk => ?_, fun s hs => ?_, ⟨?_, ?_, ?_⟩, fun j hj => ?_⟩
      · rw [e3] at hk
        rw [f4 c k hc' (by omega)]; exact (p3 k hk).mono (by omega)
      · rw [f5 c s hc' hs, z6]; exact p4 s hs
      · rw [f2, if_neg e]
        by_cases q : ¬ o < 0 ∧ c = cn o
        · rw [if_pos q]; exact Or.inr rfl
        · rw [if_neg q]; exact p5
      · rw [f2, if_neg e, f40, if_neg e, f41, if_neg e]
        by_cases q : ¬ o < 0 ∧ c = cn o
        · rw [if_pos q, if_pos q]; exact ⟨fun r => absurd r n10, fun r => absurd r.1 n10⟩
        · rw [if_neg q, if_neg q]; exact p6
      · rw [f40, if_neg e, z0]
        by_cases q : ¬ o < 0 ∧ c = cn o
        · rw [if_pos q]
          refine ⟨fun r => absurd r n10, fun r => absurd ?_ (r n (by omega))⟩
          rw [f1, if_pos rfl, q.2]; exact (hoc q.1).2
        · rw [if_neg q, p7]
          constructor
          · intro r k hk
            rw [f1]
            by_cases ek : k = n
            · rw [if_pos ek]
              intro s
              have qo : ¬ o < 0 := by rw [s]; exact nlt0 (by omega)
              exact q ⟨qo, by rw [s, cn_nI (by omega)]⟩
            · rw [if_neg ek]; exact r k (by omega)
          · intro r k hk
            have := r k (by omega)
            rw [f1, if_neg (by omega)] at this; exact this
      · rw [f42, if_neg e, anE c j hc']; exact p8 j hj
  · rw [z6] at hm
    refine (w.2.2.2.1 m hm).mono (by omega) (by rw [z6]; exact Nat.le_refl _) (F.t tM (by decide) m) (fun k hk => F.t tI (by decide) _) (fun k hk => F.t tH (by decide) _) (fun c hc => by rw [f3, if_neg (by omega)]; exact Nat.le_refl _) (fun c q hc hq => by rw [z6, f5 c q (by omega) hq]; exact fun r => r)
  · rw [z6] at h1
    rw [f0 13 m (by decide), f0 14 m (by decide), f0 18 m (by decide), f0 23 m (by decide)]
    exact w.2.2.2.2 m h1 h2
