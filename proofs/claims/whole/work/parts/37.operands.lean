section
variable {τ : Nat → Nat → Int32} {kd md : Nat → Nat} {id hd : Nat → Nat → Nat} {x : Nat} {h : zH}
theorem okQ2 {m : Nat} {a b : Int32} : okQ τ m 2 a b ↔ ∃ k, k < cn (τ 9 m) ∧ a = nI k := ⟨fun q => q.1 (by decide), fun q => ⟨fun _ => q, fun z => absurd z (by decide), fun z => absurd z (by decide), fun z => absurd z (by decide), fun z => absurd z (by decide), fun z => absurd z (by decide), fun z1 z2 => absurd z1 (by decide)⟩⟩
theorem okQ3 {m : Nat} {a b : Int32} : okQ τ m 3 a b ↔ ∃ k, k < cn (τ 9 m) ∧ a = nI k := ⟨fun q => q.1 (by decide), fun q => ⟨fun _ => q, fun z => absurd z (by decide), fun z => absurd z (by decide), fun z => absurd z (by decide), fun z => absurd z (by decide), fun z => absurd z (by decide), fun z1 z2 => absurd z1 (by decide)⟩⟩
theorem okQ26 {m : Nat} {a b : Int32} : okQ τ m 26 a b ↔ ∃ c, c < cn (τ 0 0) ∧ a = nI c := ⟨fun q => q.2.1 (by decide), fun q => ⟨fun z => absurd z (by decide), fun _ => q, fun z => absurd z (by decide), fun z => absurd z (by decide), fun z => absurd z (by decide), fun z => absurd z (by decide), fun z1 z2 => absurd z2 (by decide)⟩⟩
theorem okQ29 {m : Nat} {a b : Int32} : okQ τ m 29 a b ↔ ∃ c, c < cn (τ 0 0) ∧ a = nI c := ⟨fun q => q.2.1 (by decide), fun q => ⟨fun z => absurd z (by decide), fun _ => q, fun z => absurd z (by decide), fun z => absurd z (by decide), fun z => absurd z (by decide), fun z => absurd z (by decide), fun z1 z2 => absurd z2 (by decide)⟩⟩
theorem okQ30 {m : Nat} {a b : Int32} : okQ τ m 30 a b ↔ ∃ c, c < cn (τ 0 0) ∧ a = nI c := ⟨fun q => q.2.1 (by decide), fun q => ⟨fun z => absurd z (by decide), fun _ => q, fun z => absurd z (by decide), fun z => absurd z (by decide), fun z => absurd z (by decide), fun z => absurd z (by decide), fun z1 z2 => absurd z2 (by decide)⟩⟩
theorem okQ27 {m : Nat} {a b : Int32} : okQ τ m 27 a b ↔ ∃ c k, c < cn (τ 0 0) ∧ a = nI c ∧ k < cn (τ 3 c) ∧ b = nI k := ⟨fun q => q.2.2.1 (by decide), fun q => ⟨fun z => absurd z (by decide), fun z => absurd z (by decide), fun _ => q, fun z => absurd z (by decide), fun z => absurd z (by decide), fun z => absurd z (by decide), fun z1 z2 => absurd z2 (by decide)⟩⟩
theorem okQ28 {m : Nat} {a b : Int32} : okQ τ m 28 a b ↔ ∃ c k, c < cn (τ 0 0) ∧ a = nI c ∧ k < cn (τ 3 c) ∧ b = nI k := ⟨fun q => q.2.2.1 (by decide), fun q => ⟨fun z => absurd z (by decide), fun z => absurd z (by decide), fun _ => q, fun z => absurd z (by decide), fun z => absurd z (by decide), fun z => absurd z (by decide), fun z1 z2 => absurd z2 (by decide)⟩⟩
theorem okQ31 {m : Nat} {a b : Int32} : okQ τ m 31 a b ↔ ∃ c, c ≤ cn (τ 0 0) ∧ a = nI c := ⟨fun q => q.2.2.2.1 (by decide), fun q => ⟨fun z => absurd z (by decide), fun z => absurd z (by decide), fun z => absurd z (by decide), fun _ => q, fun z => absurd z (by decide), fun z => absurd z (by decide), fun z1 z2 => absurd z2 (by decide)⟩⟩
theorem okQ35 {m : Nat} {a b : Int32} : okQ τ m 35 a b ↔ ∃ q, q < cn (τ 6 0) ∧ a = nI q := ⟨fun q => q.2.2.2.2.1 (by decide), fun q => ⟨fun z => absurd z (by decide), fun z => absurd z (by decide), fun z => absurd z (by decide), fun z => absurd z (by decide), fun _ => q, fun z => absurd z (by decide), fun z1 z2 => absurd z2 (by decide)⟩⟩
theorem okQ36 {m : Nat} {a b : Int32} : okQ τ m 36 a b ↔ ∃ c s q, c < cn (τ 0 0) ∧ a = nI c ∧ s < 16 ∧ b = nI s ∧ q < cn (τ 6 0) ∧ τ 5 (16 * c + s) = nI q := ⟨fun q => q.2.2.2.2.2.1 (by decide), fun q => ⟨fun z => absurd z (by decide), fun z => absurd z (by decide), fun z => absurd z (by decide), fun z => absurd z (by decide), fun z => absurd z (by decide), fun _ => q, fun z1 z2 => absurd z2 (by decide)⟩⟩
theorem okQj {m o : Nat} {a b : Int32} (h1 : 19 ≤ o) (h2 : o ≤ 25) : okQ τ m o a b ↔ ∃ p, p < 200 ∧ a = nI p := ⟨fun q => q.2.2.2.2.2.2 h1 h2, fun q => ⟨fun z => absurd z (by omega), fun z => absurd z (by omega), fun z => absurd z (by omega), fun z => absurd z (by omega), fun z => absurd z (by omega), fun z => absurd z (by omega), fun _ _ => q⟩⟩
theorem okQo {m o : Nat} {a b : Int32} (h1 : ¬ (19 ≤ o ∧ o ≤ 25)) (h2 : ¬ (o = 2 ∨ o = 3 ∨ o = 26 ∨ o = 27 ∨ o = 28 ∨ o = 29 ∨ o = 30 ∨ o = 31 ∨ o = 35 ∨ o = 36)) : okQ τ m o a b := ⟨fun z => absurd z (by omega), fun z => absurd z (by omega), fun z => absurd z (by omega), fun z => absurd z (by omega), fun z => absurd z (by omega), fun z => absurd z (by omega), fun z1 z2 => absurd ⟨z1, z2⟩ h1⟩
theorem okV (v : Int32) (n : Int32) (hn : ¬ n < 0) (hb : cn n < 2 ^ 31) : ((¬ v < 0 ∧ ¬ n ≤ v) ∧ ∃ k, k < cn n ∧ v = nI k) ∨ ((v < 0 ∨ (¬ v < 0 ∧ n ≤ v)) ∧ ¬ ∃ k, k < cn n ∧ v = nI k) := by
  rcases ix (v := v) hn with q | q | ⟨k, hk, rfl⟩
  · exact Or.inr ⟨Or.inl q, fun ⟨c, hc, e⟩ => by rw [e] at q; exact nlt0 (by omega) q⟩
  · exact Or.inr ⟨Or.inr q, fun ⟨c, hc, e⟩ => by rw [e] at q; exact nle_cn hn hc hb q.2⟩
  · exact Or.inl ⟨⟨nlt0 (by omega), nle_cn hn hk hb⟩, k, hk, rfl⟩
theorem okVle (v : Int32) (n : Int32) (hn : ¬ n < 0) (hb : cn n + 1 < 2 ^ 31) : ((¬ v < 0 ∧ ¬ n < v) ∧ ∃ k, k ≤ cn n ∧ v = nI k) ∨ ((v < 0 ∨ (¬ v < 0 ∧ n < v)) ∧ ¬ ∃ k, k ≤ cn n ∧ v = nI k) := by
  by_cases q : v < 0
  · exact Or.inr ⟨Or.inl q, fun ⟨c, hc, e⟩ => by rw [e] at q; exact nlt0 (by omega) q⟩
  · by_cases q2 : n < v
    · refine Or.inr ⟨Or.inr ⟨q, q2⟩, fun ⟨c, hc, e⟩ => ?_⟩
      rw [e, nI_of_cn hn, nI_ltI (by omega) (by omega)] at q2; omega
    · obtain ⟨k, hk, rfl⟩ := nI_of q
      refine Or.inl ⟨⟨q, q2⟩, k, ?_, rfl⟩
      rw [nI_of_cn hn, nI_ltI (by omega) hk] at q2; omega
set_option maxHeartbeats 2000000 in
theorem areOpC (p : RC τ kd md id hd x h) (w : WF τ) {m o : Nat} (hm : m < cn (τ 6 0)) (ho : o ≤ 41) (a b : Int32) : (fX6_areOperands (some (x + 1)) (some (md m)) (nI o) a b h = some (1, h) ∧ okQ τ m o a b) ∨ (fX6_areOperands (some (x + 1)) (some (md m)) (nI o) a b h = some (0, h) ∧ ¬ okQ τ m o a b) := by
  have k6 : zk h (x + 1) = 7 := p.1.1.2.1
  have k3 : zk h (md m) = 4 := (p.2.2.2.2.1 m hm).2.2.2.1.1
  have d2 : zi h 3 2 (md m) = τ 9 m := (p.2.2.2.2.1 m hm).2.2.2.2.1.2.2.1
  have w3 := (w.2.2.2.1 m hm).2.2.1
  have hn := w.1.2
  have l19 : nI o < (19 : Int32) ↔ o < 19 := nI_ltI (by omega) (by decide)
  have l25 : (25 : Int32) < nI o ↔ 25 < o := nI_ltI (by decide) (by omega)
  have l41 : (41 : Int32) < nI o ↔ 41 < o := nI_ltI (by decide) (by omega)
  have l0 : ¬ nI o < 0 := nlt0 (by omega)
  have e2 : nI o = (2 : Int32) ↔ o = 2 := nI_eq (by omega) (by decide)
  have e3 : nI o = (3 : Int32) ↔ o = 3 := nI_eq (by omega) (by decide)
  have e26 : nI o = (26 : Int32) ↔ o = 26 := nI_eq (by omega) (by decide)
  have e27 : nI o = (27 : Int32) ↔ o = 27 := nI_eq (by omega) (by decide)
  have e28 : nI o = (28 : Int32) ↔ o = 28 := nI_eq (by omega) (by decide)
  have e29 : nI o = (29 : Int32) ↔ o = 29 := nI_eq (by omega) (by decide)
  have e30 : nI o = (30 : Int32) ↔ o = 30 := nI_eq (by omega) (by decide)
  have e31 : nI o = (31 : Int32) ↔ o = 31 := nI_eq (by omega) (by decide)
  have e35 : nI o = (35 : Int32) ↔ o = 35 := nI_eq (by omega) (by decide)
  have e36 : nI o = (36 : Int32) ↔ o = 36 := nI_eq (by omega) (by decide)
  rcases (show (19 ≤ o ∧ o ≤ 25) ∨ (¬ (19 ≤ o ∧ o ≤ 25) ∧ (o = 2 ∨ o = 3 ∨ o = 26 ∨ o = 27 ∨ o = 28 ∨ o = 29 ∨ o = 30 ∨ o = 31 ∨ o = 35 ∨ o = 36)) ∨ (¬ (19 ≤ o ∧ o ≤ 25) ∧ ¬ (o = 2 ∨ o = 3 ∨ o = 26 ∨ o = 27 ∨ o = 28 ∨ o = 29 ∨ o = 30 ∨ o = 31 ∨ o = 35 ∨ o = 36)) by omega) with ⟨j1, j2⟩ | ⟨j1, j2⟩ | ⟨j1, j2⟩
  · have s1 : ¬ o < 19 := by omega
    have s2 : ¬ 25 < o := by omega
    rw [okQj j1 j2]
    rcases isPlaceC (h := h) a with ⟨q1, -, -, q2⟩ | ⟨q1, q2⟩
    · refine Or.inl ⟨?_, q2⟩
      simp only [fX6_areOperands, l19, l25, s1, s2, q1, rZ, obs, or_true, ↓reduceIte]
    · refine Or.inr ⟨?_, fun ⟨pp, hpp, e⟩ => ?_⟩
      · simp only [fX6_areOperands, l19, l25, s1, s2, q1, rZ, obs, true_or, ↓reduceIte]
      · rw [e] at q2
        rcases q2 with q2 | q2
        · exact nlt0 (by omega) q2
        · exact q2.2 (show nI pp < nI 200 from nI_lt hpp (by decide))
  · have bl : fX6_areOperands (some (x + 1)) (some (md m)) (nI o) a b h = fX6_areOperands_b17 (some (x + 1)) (some (md m)) (nI o) a b h := by
      unfold fX6_areOperands
      by_cases s1 : o < 19
      · rw [if_pos (l19.mpr s1)]
      · rw [if_neg (fun q => s1 (l19.mp q)), if_pos (l25.mpr (by omega))]
    rw [bl]
    rcases j2 with rfl | rfl | rfl | rfl | rfl | rfl | rfl | rfl | rfl | rfl
    · rw [okQ2]
      rcases okV a (τ 9 m) w3.1 (by omega) with ⟨q, q2⟩ | ⟨q, q2⟩
      · refine Or.inl ⟨?_, q2⟩
        simp [fX6_areOperands_b17, e2, e3, e26, e27, e28, e29, e30, e31, e35, e36, gI_at, k3, d2, q.1, q.2, obs]
      · refine Or.inr ⟨?_, q2⟩
        rcases q with q | q
        · simp [fX6_areOperands_b17, e2, e3, e26, e27, e28, e29, e30, e31, e35, e36, q]
        · simp [fX6_areOperands_b17, e2, e3, e26, e27, e28, e29, e30, e31, e35, e36, gI_at, k3, d2, q.1, q.2, obs]
    · rw [okQ3]
      rcases okV a (τ 9 m) w3.1 (by omega) with ⟨q, q2⟩ | ⟨q, q2⟩
      · refine Or.inl ⟨?_, q2⟩
        simp [fX6_areOperands_b17, e2, e3, e26, e27, e28, e29, e30, e31, e35, e36, gI_at, k3, d2, q.1, q.2, obs]
      · refine Or.inr ⟨?_, q2⟩
        rcases q with q | q
        · simp [fX6_areOperands_b17, e2, e3, e26, e27, e28, e29, e30, e31, e35, e36, q]
        · simp [fX6_areOperands_b17, e2, e3, e26, e27, e28, e29, e30, e31, e35, e36, gI_at, k3, d2, q.1, q.2, obs]
    · rw [okQ26]
      rcases kindIs p w a with ⟨c, hc, e, q⟩ | ⟨e, q⟩
      · refine Or.inl ⟨?_, c, hc, e⟩
        simp [fX6_areOperands_b17, e2, e3, e26, e27, e28, e29, e30, e31, e35, e36, rc_at, k6, q, obs]
      · refine Or.inr ⟨?_, e⟩
        simp [fX6_areOperands_b17, e2, e3, e26, e27, e28, e29, e30, e31, e35, e36, rc_at, k6, q, obs]
    · rw [okQ27]
      by_cases e : ∃ c k, c < cn (τ 0 0) ∧ a = nI c ∧ k < cn (τ 3 c) ∧ b = nI k
      · refine Or.inl ⟨?_, e⟩
        obtain ⟨c, k, hc, rfl, hk, rfl⟩ := e
        have t1 := (okT_ne hn ((w.2.2.1 c hc).2.2.1 k hk)).1
        simp [fX6_areOperands_b17, e2, e3, e26, e27, e28, e29, e30, e31, e35, e36, rc_at, k6, fieldType_at p w hc hk, t1, obs]
      · refine Or.inr ⟨?_, e⟩
        simp [fX6_areOperands_b17, e2, e3, e26, e27, e28, e29, e30, e31, e35, e36, rc_at, k6, fieldType_no p w e, obs]
    · rw [okQ28]
      by_cases e : ∃ c k, c < cn (τ 0 0) ∧ a = nI c ∧ k < cn (τ 3 c) ∧ b = nI k
      · refine Or.inl ⟨?_, e⟩
        obtain ⟨c, k, hc, rfl, hk, rfl⟩ := e
        have t1 := (okT_ne hn ((w.2.2.1 c hc).2.2.1 k hk)).1
        simp [fX6_areOperands_b17, e2, e3, e26, e27, e28, e29, e30, e31, e35, e36, rc_at, k6, fieldType_at p w hc hk, t1, obs]
      · refine Or.inr ⟨?_, e⟩
        simp [fX6_areOperands_b17, e2, e3, e26, e27, e28, e29, e30, e31, e35, e36, rc_at, k6, fieldType_no p w e, obs]
    · rw [okQ29]
      rcases kindIs p w a with ⟨c, hc, e, q⟩ | ⟨e, q⟩
      · refine Or.inl ⟨?_, c, hc, e⟩
        simp [fX6_areOperands_b17, e2, e3, e26, e27, e28, e29, e30, e31, e35, e36, rc_at, k6, q, obs]
      · refine Or.inr ⟨?_, e⟩
        simp [fX6_areOperands_b17, e2, e3, e26, e27, e28, e29, e30, e31, e35, e36, rc_at, k6, q, obs]
    · rw [okQ30]
      rcases kindIs p w a with ⟨c, hc, e, q⟩ | ⟨e, q⟩
      · refine Or.inl ⟨?_, c, hc, e⟩
        simp [fX6_areOperands_b17, e2, e3, e26, e27, e28, e29, e30, e31, e35, e36, rc_at, k6, q, obs]
      · refine Or.inr ⟨?_, e⟩
        simp [fX6_areOperands_b17, e2, e3, e26, e27, e28, e29, e30, e31, e35, e36, rc_at, k6, q, obs]
    · rw [okQ31]
      have s0 : zi h 6 2 (x + 1) = τ 0 0 := p.2.2.1.1
      rcases okVle a (τ 0 0) w.1.1 (by omega) with ⟨q, q2⟩ | ⟨q, q2⟩
      · refine Or.inl ⟨?_, q2⟩
        simp only [fX6_areOperands_b17, e2, e3, e26, e27, e28, e29, e30, e31, e35, e36, gI_at, k6, s0, q.1, q.2, obs, ↓reduceIte, Nat.reduceEqDiff]
      · refine Or.inr ⟨?_, q2⟩
        rcases q with q | q
        · simp only [fX6_areOperands_b17, e2, e3, e26, e27, e28, e29, e30, e31, e35, e36, q, ↓reduceIte, Nat.reduceEqDiff]
        · simp only [fX6_areOperands_b17, e2, e3, e26, e27, e28, e29, e30, e31, e35, e36, gI_at, k6, s0, q.1, q.2, obs, ↓reduceIte, Nat.reduceEqDiff]
    · rw [okQ35]
      rcases methodIs p w a with ⟨c, hc, e, q⟩ | ⟨e, q⟩
      · refine Or.inl ⟨?_, c, hc, e⟩
        simp [fX6_areOperands_b17, e2, e3, e26, e27, e28, e29, e30, e31, e35, e36, rc_at, k6, q, obs]
      · refine Or.inr ⟨?_, e⟩
        simp [fX6_areOperands_b17, e2, e3, e26, e27, e28, e29, e30, e31, e35, e36, rc_at, k6, q, obs]
    · rw [okQ36]
      by_cases e : ∃ c s q, c < cn (τ 0 0) ∧ a = nI c ∧ s < 16 ∧ b = nI s ∧ q < cn (τ 6 0) ∧ τ 5 (16 * c + s) = nI q
      · refine Or.inl ⟨?_, e⟩
        obtain ⟨c, s, q, hc, rfl, hs, rfl, hq, e⟩ := e
        simp [fX6_areOperands_b17, e2, e3, e26, e27, e28, e29, e30, e31, e35, e36, rc_at, k6, methodInSlot_at p w hc hs hq e, obs]
      · refine Or.inr ⟨?_, e⟩
        simp [fX6_areOperands_b17, e2, e3, e26, e27, e28, e29, e30, e31, e35, e36, rc_at, k6, methodInSlot_no p w e, obs]
  · refine Or.inl ⟨?_, okQo j1 j2⟩
    have n2 : ¬ o = 2 := by omega
    have n3 : ¬ o = 3 := by omega
    have n26 : ¬ o = 26 := by omega
    have n27 : ¬ o = 27 := by omega
    have n28 : ¬ o = 28 := by omega
    have n29 : ¬ o = 29 := by omega
    have n30 : ¬ o = 30 := by omega
    have n31 : ¬ o = 31 := by omega
    have n35 : ¬ o = 35 := by omega
    have n36 : ¬ o = 36 := by omega
    have n41 : ¬ 41 < o := by omega
    have bl : fX6_areOperands_b17 (some (x + 1)) (some (md m)) (nI o) a b h = some (1, h) := by
      simp only [fX6_areOperands_b17, e2, e3, e26, e27, e28, e29, e30, e31, e35, e36, l0, l41, n2, n3, n26, n27, n28, n29, n30, n31, n35, n36, n41, ↓reduceIte]
    unfold fX6_areOperands
    by_cases s1 : o < 19
    · rw [if_pos (l19.mpr s1)]; exact bl
    · rw [if_neg (fun q => s1 (l19.mp q)), if_pos (l25.mpr (by omega))]; exact bl
end
