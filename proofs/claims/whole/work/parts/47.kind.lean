section
variable {m c : Nat}
theorem kF_at (N : Nat) {u F : Nat} (d : Nat) : ∀ (k n : Nat) (τ : Nat → Nat → Int32) (h : zH), k + d = F → d < n → RM τ m h → τ 3 c = nI F → F ≤ 15 → c < 32 → u < 32 → c ≠ u → ∃ h' τ', fX9_kind_b61 N n (some m) (nI u) (nI c) (nI k) h = fX9_kind_b101 N N (some m) (nI u) (nI c) 0 h' ∧ RM τ' m h' ∧ Mfr m h h' ∧ (∀ c' i, c' ≠ 4 → τ' c' i = τ c' i) ∧ ∀ i, τ' 4 i = if 15 * c + k ≤ i ∧ i < 15 * c + F then τ 4 (15 * u + (i - 15 * c)) else τ 4 i := by
  induction d with
  | zero =>
    intro k n τ h hk hn rM e3 hF hc hu hne
    obtain ⟨n, rfl⟩ : ∃ m, n = m + 1 := ⟨n - 1, by omega⟩
    have e : k = F := by omega
    subst e
    have l3 := aM3 rM (i := c) (by omega)
    rw [e3] at l3
    refine ⟨h, τ, ?_, rM, Mfr.rf, fun _ _ _ => rfl, fun i => by rw [if_neg (by omega)]⟩
    rw [fX9_kind_b61, gRM3 rM, obs, l3, obs, if_pos (nI_le (Nat.le_refl _) (by omega))]
  | succ d ih =>
    intro k n τ h hk hn rM e3 hF hc hu hne
    obtain ⟨n, rfl⟩ : ∃ m, n = m + 1 := ⟨n - 1, by omega⟩
    have l3 := aM3 rM (i := c) (by omega)
    rw [e3] at l3
    obtain ⟨h1, t1, rM1, fr1⟩ := eM4 rM (i := 15 * c + k) (by omega) (τ 4 (15 * u + k))
    obtain ⟨h', τ', e, rM', fr', z0, z4⟩ := ih (k + 1) n _ h1 (by omega) (by omega) rM1 (by rw [u2_at, if_neg (by omega)]; exact e3) hF hc hu hne
    have l4 := aM4 rM (i := 15 * u + k) (by omega)
    have lin1 : (15 : Int32) * nI u + nI k = nI (15 * u + k) := lin trivial
    have lin2 : (15 : Int32) * nI c + nI k = nI (15 * c + k) := lin trivial
    refine ⟨h', τ', ?_, rM', fr1.tr fr', fun c' i hc' => by rw [z0 c' i hc', u2_at, if_neg (fun q => hc' q.1)], fun i => ?_⟩
    · rw [fX9_kind_b61, gRM3 rM, obs, l3, obs, if_neg (@nI_ge k F (by omega) (by omega)), gRM4 rM, obs, obs, lin1, l4, obs, lin2, t1, obs, nI_1, e]
    · rw [z4, u2_at, u2_at]
      by_cases q : i = 15 * c + k
      · rw [if_neg (by omega), if_pos ⟨rfl, q⟩, if_pos (by omega)]
        congr 1; omega
      · by_cases q2 : 15 * c + k ≤ i ∧ i < 15 * c + F
        · rw [if_pos (by omega), if_neg (by omega), if_pos q2]
        · rw [if_neg (by omega), if_neg (by omega), if_neg q2]
theorem kS_at (N : Nat) {o : Int32} (ho : o = -1 ∨ ∃ u, u < 32 ∧ u ≠ c ∧ o = nI u) (hc : c < 32) (d : Nat) : ∀ (k n : Nat) (τ : Nat → Nat → Int32) (h : zH), k + d = 16 → d < n → RM τ m h → ∃ h' τ' n', fX9_kind_b101 N n (some m) o (nI c) (nI k) h = fX9_kind_b101 N (n' + 1) (some m) o (nI c) 16 h' ∧ RM τ' m h' ∧ Mfr m h h' ∧ (∀ c' i, c' ≠ 5 → τ' c' i = τ c' i) ∧ ∀ i, τ' 5 i = if 16 * c + k ≤ i ∧ i < 16 * c + 16 then (if o < 0 then -1 else τ 5 (16 * cn o + (i - 16 * c))) else τ 5 i := by
  induction d with
  | zero =>
    intro k n τ h hk hn rM
    obtain ⟨n, rfl⟩ : ∃ m, n = m + 1 := ⟨n - 1, by omega⟩
    have e : k = 16 := by omega
    subst e
    exact ⟨h, τ, n, rfl, rM, Mfr.rf, fun _ _ _ => rfl, fun i => by rw [if_neg (by omega)]⟩
  | succ d ih =>
    intro k n τ h hk hn rM
    obtain ⟨n, rfl⟩ : ∃ m, n = m + 1 := ⟨n - 1, by omega⟩
    obtain ⟨h1, t1, rM1, fr1⟩ := eM5 rM (i := 16 * c + k) (by omega) (if o < 0 then -1 else τ 5 (16 * cn o + k))
    obtain ⟨h', τ', n', e, rM', fr', z0, z5⟩ := ih (k + 1) n _ h1 (by omega) (by omega) rM1
    have lin2 : (16 : Int32) * nI c + nI k = nI (16 * c + k) := lin trivial
    refine ⟨h', τ', n', ?_, rM', fr1.tr fr', fun c' i hc' => by rw [z0 c' i hc', u2_at, if_neg (fun q => hc' q.1)], fun i => ?_⟩
    · rw [fX9_kind_b101, if_neg (show ¬ (16 : Int32) ≤ nI k from @nI_ge k 16 (by omega) (by decide)), gRM5 rM, obs]
      rcases ho with rfl | ⟨u, hu, hne, rfl⟩
      · rw [if_pos m1neg] at t1
        rw [if_neg (by decide), lin2]
        unfold fX9_kind_b136
        rw [t1, obs, nI_1, e]
      · have lin1 : (16 : Int32) * nI u + nI k = nI (16 * u + k) := lin trivial
        have l5 := aM5 rM (i := 16 * u + k) (by omega)
        rw [if_neg (nlt0 (by omega)), cn_nI (by omega)] at t1
        rw [if_pos (nI_pos' (by omega)), obs, lin1, l5, obs, lin2]
        unfold fX9_kind_b136
        rw [t1, obs, nI_1, e]
    · rw [z5]
      have e5 : ∀ j, (o < 0 ∨ j ≠ 16 * c + k) → (if o < 0 then (-1 : Int32) else u2 τ 5 (16 * c + k) (if o < 0 then -1 else τ 5 (16 * cn o + k)) 5 j) = if o < 0 then -1 else τ 5 j := fun j hj => by
        by_cases q : o < 0
        · rw [if_pos q, if_pos q]
        · simp only [q, ↓reduceIte]
          rw [u2_at, if_neg (fun r => by rcases hj with s | s; exact q s; exact s r.2)]
      by_cases q : i = 16 * c + k
      · rw [if_neg (by omega), u2_at, if_pos ⟨rfl, q⟩]
        have q3 : 16 * c + k ≤ i ∧ i < 16 * c + 16 := by omega
        rw [show i - 16 * c = k by omega]
        simp only [q3, and_self, ↓reduceIte]
      · by_cases q2 : 16 * c + k ≤ i ∧ i < 16 * c + 16
        · rw [if_pos (by omega), if_pos q2, e5]
          rcases ho with rfl | ⟨u, hu, hne, rfl⟩
          · exact Or.inl m1neg
          · rw [cn_nI (by omega)]; exact Or.inr (by omega)
        · rw [if_neg (by omega), if_neg q2, u2_at, if_neg (by omega)]
end
theorem kindM (N : Nat) (hN : 20 ≤ N) {τ : Nat → Nat → Int32} {m n : Nat} {h : zH} {o : Int32} (rM : RM τ m h) (hn : n < 32) (v0 : τ 0 0 = nI n) (ho : o = -1 ∨ ∃ u, u < n ∧ o = nI u) (h3 : ¬ o < 0 → ¬ τ 3 (cn o) < 0 ∧ cn (τ 3 (cn o)) ≤ 15) : ∃ h2 τ', fX9_kind_b15 N (some m) o h = some (nI n, h2) ∧ RM τ' m h2 ∧ Mfr m h h2 ∧ KF τ τ' n o := by
  obtain ⟨h1, t1, rM1, fr1⟩ := eM1 rM (i := n) (by omega) o
  have g0 := gM0 rM
  rw [v0] at g0
  have q0 : ¬ nI n = (32 : Int32) := fun q => by have := nI_inj (a := n) (b := 32) (by omega) (by decide) q; omega
  -- the fields
  have P1 : ∃ h2 τ2, fX9_kind_b15 N (some m) o h = fX9_kind_b101 N N (some m) o (nI n) 0 h2 ∧ RM τ2 m h2 ∧ Mfr m h h2 ∧ (∀ c i, (c ≠ 1 ∧ c ≠ 3 ∧ c ≠ 4) → τ2 c i = τ c i) ∧ (∀ i, τ2 1 i = if i = n then o else τ 1 i) ∧ (∀ i, τ2 3 i = if i = n then (if o < 0 then 0 else τ 3 (cn o)) else τ 3 i) ∧ (∀ c k, c < n → k < 15 → τ2 4 (15 * c + k) = τ 4 (15 * c + k)) ∧ (∀ k, ¬ o < 0 → k < cn (τ 3 (cn o)) → τ2 4 (15 * n + k) = τ 4 (15 * cn o + k)) := by
    rcases ho with rfl | ⟨u, hu, rfl⟩
    · obtain ⟨h2, t2, rM2, fr2⟩ := eM3 rM1 (i := n) (by omega) 0
      have l3 := aM3 rM2 (i := n) (by omega)
      rw [u2_at, if_pos ⟨rfl, rfl⟩] at l3
      refine ⟨h2, _, ?_, rM2, fr1.tr fr2, fun c i hc => ?_, fun i => ?_, fun i => ?_, fun c k hc hk => ?_, fun k q => absurd m1neg q⟩
      · obtain ⟨N, rfl⟩ : ∃ k, N = k + 1 := ⟨N - 1, by omega⟩
        have q1 : ¬ (0 : Int32) ≤ -1 := by decide
        have q2 : (0 : Int32) ≤ 0 := by decide
        simp only [fX9_kind_b15, fX9_kind_b58, g0, q0, gRM1 rM, t1, gRM3 rM1, q1, t2, obs, ↓reduceIte]
        rw [fX9_kind_b61, gRM3 rM2, obs, l3, obs, if_pos q2]
      · simp only [u2_at, hc, false_and, ↓reduceIte]
      · simp [u2_at]
      · simp [u2_at, m1neg]
      · simp [u2_at]
    · have hnu : ¬ nI u < 0 := nlt0 (by omega)
      have cu : cn (nI u) = u := cn_nI (by omega)
      obtain ⟨h31, h32⟩ := h3 hnu
      rw [cu] at h31 h32
      have l3a := aM3 rM1 (i := u) (by omega)
      rw [u2_at, if_neg (by omega)] at l3a
      obtain ⟨h2, t2, rM2, fr2⟩ := eM3 rM1 (i := n) (by omega) (τ 3 u)
      obtain ⟨h', τ', e, rM', fr', z0, z4⟩ := kF_at N (m := m) (c := n) (u := u) (F := cn (τ 3 u)) (cn (τ 3 u)) 0 N _ h2 (by omega) (by omega) rM2 (by rw [u2_at, if_pos ⟨rfl, rfl⟩]; exact nI_of_cn h31) h32 hn (by omega) (by omega)
      refine ⟨h', τ', ?_, rM', (fr1.tr fr2).tr fr', fun c i hc => ?_, fun i => ?_, fun i => ?_, fun c k hc hk => ?_, fun k _ hk => ?_⟩
      · have q1 : (0 : Int32) ≤ nI u := nI_pos' (by omega)
        simp only [fX9_kind_b15, fX9_kind_b58, g0, q0, gRM1 rM, t1, gRM3 rM1, q1, l3a, t2, obs, ↓reduceIte]
        rw [nI_0] at e
        exact e
      · rw [z0 c i hc.2.2]; simp only [u2_at, hc, false_and, ↓reduceIte]
      · rw [z0 1 i (by decide)]; simp [u2_at]
      · rw [z0 3 i (by decide)]; simp [u2_at, hnu, cu]
      · rw [z4, if_neg (by omega)]; simp [u2_at]
      · rw [cu] at hk ⊢
        rw [z4, if_pos (by omega), show 15 * n + k - 15 * n = k by omega]; simp [u2_at]
  obtain ⟨h2, τ2, e2, rM2, fr2, y0, y1, y3, y4, y4n⟩ := P1
  have hos : o = -1 ∨ ∃ u, u < 32 ∧ u ≠ n ∧ o = nI u := by
    rcases ho with q | ⟨u, hu, q⟩
    · exact Or.inl q
    · exact Or.inr ⟨u, by omega, by omega, q⟩
  obtain ⟨h3', τ3, n', e3, rM3, fr3, x0, x5⟩ := kS_at N (m := m) (c := n) hos hn 16 0 N τ2 h2 (by omega) (by omega) rM2
  rw [nI_0] at e3
  obtain ⟨h4, t4, rM4, fr4⟩ := eM2 rM3 (i := n) (by omega) (v := 0) (Or.inl rfl)
  -- the last steps
  have P2 : ∃ h5 τ5, fX9_kind_b101 N (n' + 1) (some m) o (nI n) 16 h3' = some (nI n, h5) ∧ RM τ5 m h5 ∧ Mfr m h4 h5 ∧ (∀ c i, (c ≠ 0 ∧ c ≠ 2) → τ5 c i = τ3 c i) ∧ τ5 0 0 = nI (n + 1) ∧ (∀ i, τ5 2 i = if ¬ o < 0 ∧ i = cn o then 1 else if i = n then 0 else τ3 2 i) := by
    have v3 : τ3 0 0 = nI n := by rw [x0 0 0 (by decide), y0 0 0 (by decide), v0]
    have q16 : (16 : Int32) ≤ 16 := by decide
    rcases ho with rfl | ⟨u, hu, rfl⟩
    · obtain ⟨h5, t5, rM5, fr5⟩ := eS0 rM4 (nI (n + 1))
      have g5 := gM0 rM4
      rw [u2_at, if_neg (by omega), v3] at g5
      refine ⟨h5, _, ?_, rM5, fr5, fun c i hc => ?_, ?_, fun i => ?_⟩
      · rw [fX9_kind_b101, if_pos q16, gRM2 rM3, obs, t4, obs, if_pos m1neg]
        simp only [fX9_kind_b161, g5, nI_1, t5, obs]
      · simp only [u2_at, hc, false_and, ↓reduceIte]
      · simp [u2_at]
      · simp [u2_at, m1neg]
    · have hnu : ¬ nI u < 0 := nlt0 (by omega)
      have cu : cn (nI u) = u := cn_nI (by omega)
      obtain ⟨h6, t6, rM6, fr6⟩ := eM2 rM4 (i := u) (by omega) (v := 1) (Or.inr rfl)
      obtain ⟨h5, t5, rM5, fr5⟩ := eS0 rM6 (nI (n + 1))
      have g5 := gM0 rM6
      rw [u2_at, if_neg (by omega), u2_at, if_neg (by omega), v3] at g5
      refine ⟨h5, _, ?_, rM5, fr6.tr fr5, fun c i hc => ?_, ?_, fun i => ?_⟩
      · rw [fX9_kind_b101, if_pos q16, gRM2 rM3, obs, t4, obs, if_neg hnu, gRM2 rM4, obs, t6, obs]
        simp only [fX9_kind_b161, g5, nI_1, t5, obs]
      · simp only [u2_at, hc, false_and, ↓reduceIte]
      · simp [u2_at]
      · simp [u2_at, hnu, cu]
  obtain ⟨h5, τ5, e5, rM5, fr5, s0, s00, s2⟩ := P2
  have hon : ¬ o < 0 → cn o ≠ n := fun q => by
    rcases ho with rfl | ⟨u, hu, rfl⟩
    · exact absurd m1neg q
    · rw [cn_nI (by omega)]; omega
  refine ⟨h5, fun c i => if c = 40 then (if i = n then 0 else if ¬ o < 0 ∧ i = cn o then 1 else τ 40 i) else if c = 41 then (if i = n then 0 else τ 41 i) else if c = 42 then (if i = n then (if o < 0 then (1 <<< (nI n &&& 31)) else (τ 42 (cn o) ||| (1 <<< (nI n &&& 31)))) else τ 42 i) else τ5 c i, by rw [e2, e3, e5], rM5.ext (fun c i hc => ?_), ((fr2.tr fr3).tr fr4).tr fr5, ?_⟩
  · rw [if_neg (by omega), if_neg (by omega), if_neg (by omega)]
  · refine ⟨fun c i hc => ?_, ?_, fun i => ?_, fun i => ?_, fun i => ?_, fun c k h1 h2 => ?_, fun k h1 h2 => ?_, fun c k h1 h2 => ?_, fun k h1 => ?_, fun i => ?_, fun i => ?_, fun i => ?_⟩
    · show (ite _ _ _) = _
      rw [if_neg hc.2.2.2.2.2.2.1, if_neg hc.2.2.2.2.2.2.2.1, if_neg hc.2.2.2.2.2.2.2.2, s0 c i ⟨hc.1, hc.2.2.1⟩, x0 c i hc.2.2.2.2.2.1, y0 c i ⟨hc.2.1, hc.2.2.2.1, hc.2.2.2.2.1⟩]
    · show (ite _ _ _) = _
      rw [if_neg (show ¬ (_ : Nat) = 40 by decide), if_neg (show ¬ (_ : Nat) = 41 by decide), if_neg (show ¬ (_ : Nat) = 42 by decide)]; exact s00
    · show (ite _ _ _) = _
      rw [if_neg (show ¬ (_ : Nat) = 40 by decide), if_neg (show ¬ (_ : Nat) = 41 by decide), if_neg (show ¬ (_ : Nat) = 42 by decide)]
      rw [s0 1 i (by decide), x0 1 i (by decide)]; exact y1 i
    · simp only [Nat.reduceEqDiff, ↓reduceIte]
      rw [s2]
      by_cases q : ¬ o < 0 ∧ i = cn o
      · rw [if_pos q, if_neg (by rw [q.2]; exact hon q.1), if_pos q]
      · rw [if_neg q]
        by_cases e : i = n
        · rw [if_pos e, if_pos e]
        · rw [if_neg e, if_neg e, if_neg q, x0 2 i (by decide), y0 2 i (by decide)]
    · simp only [Nat.reduceEqDiff, ↓reduceIte]
      rw [s0 3 i (by decide), x0 3 i (by decide)]; exact y3 i
    · simp only [Nat.reduceEqDiff, ↓reduceIte]
      rw [s0 4 _ (by decide), x0 4 _ (by decide)]; exact y4 c k h1 h2
    · simp only [Nat.reduceEqDiff, ↓reduceIte]
      rw [s0 4 _ (by decide), x0 4 _ (by decide)]; exact y4n k h1 h2
    · simp only [Nat.reduceEqDiff, ↓reduceIte]
      rw [s0 5 _ (by decide), x5, if_neg (by omega), y0 5 _ (by decide)]
    · simp only [Nat.reduceEqDiff, ↓reduceIte]
      rw [s0 5 _ (by decide), x5, if_pos (by omega), show 16 * n + k - 16 * n = k by omega, y0 5 _ (by decide)]
    · simp only [↓reduceIte]
    · simp only [Nat.reduceEqDiff, ↓reduceIte]
    · simp only [Nat.reduceEqDiff, ↓reduceIte]
