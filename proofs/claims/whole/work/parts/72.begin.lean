/-! A walk begins: the class. -/
def S0 : VS := (fun _ => none, fun _ _ => 0, fun _ => false)
def r0 (τ : Nat → Nat → Int32) (m : Nat) : Row := (0, fun k => if k < cn (τ 11 m) then τ 12 (8 * m + k) else 99)
section
variable {τ : Nat → Nat → Int32} {kd md : Nat → Nat} {ib hd : Nat → Nat → Nat} {x m L P : Nat} {h0 h : zH}
theorem r0_ok (w : WF τ) (hm : m < cn (τ 6 0)) : okR L P (cn (τ 0 0)) (r0 τ m) := by
  refine ⟨Nat.zero_le _, fun k hk => ?_⟩
  show vT _ (if k < cn (τ 11 m) then τ 12 (8 * m + k) else 99)
  by_cases z : k < cn (τ 11 m)
  · rw [if_pos z]; exact Or.inl ((w.2.2.2.1 m hm).2.2.2.2.1 k z)
  · rw [if_neg z]; exact Or.inr (Or.inr (Or.inr rfl))
theorem instrAt_sz (p : RC τ kd md ib hd x h0) (w : WF τ) (s : SZ h0 h) {i : Nat} (hm : m < cn (τ 6 0)) (hi : i < cn (τ 14 m)) (e8 : zi h 3 8 (md m) = τ 14 m) : fX3_instructionAt (some (md m)) (nI i) h = some (some (ib m i), h) := by
  obtain ⟨-, -, -, rt⟩ := p.2.2.2.2.1 m hm
  obtain ⟨⟨a1, a2, a3, a4, a5, a6, a7, a8, a9, a10⟩, -⟩ := rt
  have w8 := (w.2.2.2.1 m hm).2.2.2.2.2.2.2.1
  have q1 : ¬ nI i < 0 := nlt0 (by omega)
  have q2 : ¬ τ 14 m ≤ nI i := nle_cn w8.1 hi (by omega)
  have q3 : ¬ (200 : Int32) ≤ nI i := @nI_ge i 200 (by omega) (by decide)
  have a1' : zk h (md m) = 4 := by rw [s.1]; exact a1
  have a6' : zr h 3 5 (md m) = some (md m + 2) := by rw [s.2.1]; exact a6
  have a3' : zk h (md m + 2) = 103 := by rw [s.1]; exact a3
  have a9' : zl h (md m + 2) = 200 := by rw [s.2.2.1]; exact a9
  have q4 := aQ_at (κ := 103) (i := i) 200 a3' a9' (by omega) (by decide)
  rw [s.2.2.2.1, (p.2.2.2.2.2.1 m i hm hi).1] at q4
  simp only [fX3_instructionAt, gI_at, gR_at, a1', a6', e8, q1, q2, q3, q4, obs, ↓reduceIte]
/-- the walk's row at the begin -/
theorem rowL (N : Nat) {a n8 : Nat} (hx : x + 35 ≤ a) (hL : L ≤ 12) (hn8 : n8 ≤ 8) {g : Nat → Int32} (d : Nat) : ∀ (k n : Nat) (h : zH), k + d = L → d < n → zk h (x + 5) = 5 → zr h 4 0 (x + 5) = some (x + 6) → zk h (x + 6) = 100 → zl h (x + 6) = 12 → zi h 4 1 (x + 5) = nI L → zk h a = 4 → zr h 3 4 a = some (a + 1) → zk h (a + 1) = 100 → zl h (a + 1) = 8 → zi h 3 7 a = nI n8 → (∀ j, j < n8 → za h (a + 1) j = g j) → ∃ h', fX4_begin_b23 N n (some (x + 5)) (some a) (nI k) h = some h' ∧ SZ h h' ∧ (∀ b, b ≠ x + 6 → iz h h' b) ∧ (∀ j, j < k → za h' (x + 6) j = za h (x + 6) j) ∧ ∀ j, k ≤ j → j < L → za h' (x + 6) j = if j < n8 then g j else 99 := by
  induction d with
  | zero =>
    intro k n h hk hn x1 x2 x3 x4 x5 a1 a2 a3 a4 a5 a6
    obtain ⟨n, rfl⟩ : ∃ n', n = n' + 1 := ⟨n - 1, by omega⟩
    refine ⟨h, ?_, SZ.rf, fun _ _ => iz.rf, fun _ _ => rfl, fun j h1 h2 => by omega⟩
    rw [fX4_begin_b23, gI_at x1, obs, x5, if_pos (nI_le (by omega) (by omega))]
  | succ d ih =>
    intro k n h hk hn x1 x2 x3 x4 x5 a1 a2 a3 a4 a5 a6
    obtain ⟨n, rfl⟩ : ∃ n', n = n' + 1 := ⟨n - 1, by omega⟩
    have F : ∃ h1, h1 = sta (x + 6) k (if k < n8 then g k else 99) h ∧ SZ h h1 ∧ (∀ b, b ≠ x + 6 → iz h h1 b) ∧ ∀ j, za h1 (x + 6) j = if j = k then (if k < n8 then g k else 99) else za h (x + 6) j :=
      ⟨_, rfl, SZ.sta, fun b hb => iz_sta hb, fun j => by
        rw [za_sta]
        by_cases z : j = k
        · rw [if_pos ⟨rfl, z⟩, if_pos z]
        · rw [if_neg (fun y => z y.2), if_neg z]⟩
    obtain ⟨h1, e1, s1, z1, v1⟩ := F
    have y5 := z1 (x + 5) (by omega)
    have ya := z1 a (by omega)
    have ya1 := z1 (a + 1) (by omega)
    obtain ⟨h', e', s', z', w1, w2⟩ := ih (k + 1) n h1 (by omega) (by omega) (by rw [s1.1]; exact x1) (by rw [s1.2.1]; exact x2) (by rw [s1.1]; exact x3) (by rw [s1.2.2.1]; exact x4) (by rw [y5.1]; exact x5) (by rw [s1.1]; exact a1) (by rw [s1.2.1]; exact a2) (by rw [s1.1]; exact a3) (by rw [s1.2.2.1]; exact a4) (by rw [ya.1]; exact a5) (fun j hj => by rw [ya1.2]; exact a6 j hj)
    refine ⟨h', ?_, s1.tr s', fun b hb => (z1 b hb).tr (z' b hb), fun j hj => by rw [w1 j (by omega), v1, if_neg (by omega)], fun j h1 h2 => ?_⟩
    · have st := sI_at (v := if k < n8 then g k else 99) 12 x3 x4 (i := k) (by omega) (by decide)
      rw [fX4_begin_b23, gI_at x1, obs, x5, if_neg (nI_ge (by omega) (by omega)), if_neg (show ¬ (12 : Int32) ≤ nI k from @nI_ge k 12 (by omega) (by decide)), gR_at x1, x2, obs, gI_at a1, obs, a5]
      by_cases z : k < n8
      · rw [if_pos z] at st e1
        have pa : fX3_parameterAt (some a) (nI k) h = some (g k, h) := by
          have q1 : ¬ nI k < 0 := nlt0 (by omega)
          have q2 : ¬ nI n8 ≤ nI k := nI_ge z (by omega)
          have q3 : ¬ (8 : Int32) ≤ nI k := @nI_ge k 8 (by omega) (by decide)
          have q4 := aI_at (κ := 100) (i := k) 8 a3 a4 (by omega) (by decide)
          rw [a6 k z] at q4
          simp only [fX3_parameterAt, gI_at, gR_at, a1, a2, a5, q1, q2, q3, q4, obs, ↓reduceIte]
        rw [if_neg (nI_ge z (by omega)), rc_at a1, obs, pa, obs]
        unfold fX4_begin_b60
        dsimp only
        rw [st, obs, nI_1, ← e1]; exact e'
      · rw [if_neg z] at st e1
        rw [if_pos (nI_le (by omega) (by omega))]
        unfold fX4_begin_b60
        rw [st, obs, nI_1, ← e1]; exact e'
    · by_cases z : j = k
      · rw [z, w1 k (by omega), v1, if_pos rfl]
      · exact w2 j (by omega) h2
theorem rowC (N : Nat) (hN : 40 ≤ N) (V : VC τ kd md ib hd x m L P h0) (s : SZ h0 h) (e2 : zi h 3 2 (md m) = nI L) (e3 : zi h 3 3 (md m) = nI P) (e7 : zi h 3 7 (md m) = τ 11 m) (ip : iz h0 h (md m + 1)) : ∃ h', fX4_begin N (some (x + 5)) (some (md m)) h = some h' ∧ SZ h h' ∧ (∀ b, b ≠ x + 5 → b ≠ x + 6 → iz h h' b) ∧ zi h' 4 1 (x + 5) = nI L ∧ zi h' 4 2 (x + 5) = nI P ∧ RR x L (r0 τ m) h' := by
  obtain ⟨p, w, hm, hL, hP, hb⟩ := V
  obtain ⟨-, bm, -, rt⟩ := p.2.2.2.2.1 m hm
  obtain ⟨⟨a1, a2, a3, a4, a5, a6, a7, a8, a9, a10⟩, -, f1⟩ := rt
  have w4 := (w.2.2.2.1 m hm).2.2.2.1
  have F : ∃ h3, h3 = sti 4 3 (x + 5) 0 (sti 4 2 (x + 5) (nI P) (sti 4 1 (x + 5) (nI L) h)) ∧ SZ h h3 ∧ (∀ c, c ≠ x + 5 → iz h h3 c) ∧ (zi h3 4 1 (x + 5) = nI L ∧ zi h3 4 2 (x + 5) = nI P ∧ zi h3 4 3 (x + 5) = 0) := by
    refine ⟨_, rfl, (SZ.sti.tr SZ.sti).tr SZ.sti, fun c hc => ((iz_sti hc).tr (iz_sti hc)).tr (iz_sti hc), ⟨?_, ?_, ?_⟩⟩
    · rw [zi_sti, if_neg (by omega), zi_sti, if_neg (by omega), zi_sti, if_pos ⟨rfl, rfl, rfl⟩]
    · rw [zi_sti, if_neg (by omega), zi_sti, if_pos ⟨rfl, rfl, rfl⟩]
    · rw [zi_sti, if_pos ⟨rfl, rfl, rfl⟩]
  obtain ⟨h3, e3', s3, z3, v1, v2, v3⟩ := F
  have S3 := s.tr s3
  have ym := z3 (md m) (by omega)
  have kx : zk h (x + 5) = 5 := by rw [s.1]; exact p.1.1.2.2.2.2.2.1
  have km : zk h (md m) = 4 := by rw [s.1]; exact a1
  obtain ⟨h', e', s', z', -, w2⟩ := rowL N (L := L) (a := md m) (n8 := cn (τ 11 m)) (g := fun k => τ 12 (8 * m + k)) bm (by omega) w4.2.1 L 0 N h3 (by omega) (by omega) (by rw [S3.1]; exact p.1.1.2.2.2.2.2.1) (by rw [S3.2.1]; exact p.1.2.1.2.2.2.2.2.2.2.1) (by rw [S3.1]; exact p.1.1.2.2.2.2.2.2.1) (by rw [S3.2.2.1]; exact p.1.2.2.2.2) v1 (by rw [S3.1]; exact a1) (by rw [S3.2.1]; exact a5) (by rw [S3.1]; exact a2) (by rw [S3.2.2.1]; exact a8) (by rw [ym.1, e7]; exact nI_of_cn w4.1) (fun j hj => by rw [(ip.tr (z3 _ (by omega))).2]; exact f1 j (by omega) hj)
  have y5 := z' (x + 5) (by omega)
  refine ⟨h', ?_, s3.tr s', fun b h1 h2 => (z3 b h1).tr (z' b h2), by rw [y5.1]; exact v1, by rw [y5.1]; exact v2, by rw [y5.1, v3]; rfl, fun k hk => ?_⟩
  · rw [nI_0, e3'] at e'
    unfold fX4_begin
    rw [gI_at km, obs, e2, pI_at kx, obs, gI_at (by rw [zk_sti]; exact km), obs, pI_at (by rw [zk_sti]; exact kx), obs, pI_at (by rw [zk_sti, zk_sti]; exact kx), obs]
    rw [show zi (sti 4 1 (x + 5) (nI L) h) 3 3 (md m) = nI P by rw [zi_sti, if_neg (by omega)]; exact e3]
    exact e'
  · exact w2 k (by omega) (by have : (r0 τ m).1 = 0 := rfl; omega)
/-- while the class takes away what stood before each instruction -/
def BG (τ : Nat → Nat → Int32) (md : Nat → Nat) (ib : Nat → Nat → Nat) (x m : Nat) (h0 : zH) (k : Nat) (h : zH) : Prop :=
  SZ h0 h ∧ (∀ b, ¬ Fp md ib x m (cn (τ 14 m)) b → iz h0 h b) ∧ (∀ k, zi h 3 k (md m) = if k = 11 then 1 else zi h0 3 k (md m)) ∧ (∀ i, i < cn (τ 14 m) → ∀ j, j < 3 → zi h 1 j (ib m i) = zi h0 1 j (ib m i)) ∧ (∀ i, i < cn (τ 14 m) → i < k → zi h 1 4 (ib m i) = 0 ∧ zi h 1 5 (ib m i) = 0) ∧ zi h 7 5 (x + 4) = 0 ∧ zi h 7 3 (x + 4) = 0
theorem begL (N : Nat) (V : VC τ kd md ib hd x m L P h0) (d : Nat) : ∀ (k n : Nat) (h : zH), k + d = cn (τ 14 m) → d < n → BG τ md ib x m h0 k h → ∃ n' h', fX7_begin_b17 N n (some (x + 4)) (some (md m)) (nI k) h = fX7_begin_b17 N (n' + 1) (some (x + 4)) (some (md m)) (nI (cn (τ 14 m))) h' ∧ BG τ md ib x m h0 (cn (τ 14 m)) h' := by
  obtain ⟨p, w, hm, hL, hP, hb⟩ := V
  have w8 := (w.2.2.2.1 m hm).2.2.2.2.2.2.2.1
  obtain ⟨-, bm, -, rt⟩ := p.2.2.2.2.1 m hm
  induction d with
  | zero =>
    intro k n h hk hn b
    obtain ⟨n, rfl⟩ : ∃ n', n = n' + 1 := ⟨n - 1, by omega⟩
    have e : k = cn (τ 14 m) := by omega
    subst e
    exact ⟨n, h, rfl, b⟩
  | succ d ih =>
    intro k n h hk hn b
    obtain ⟨n, rfl⟩ : ∃ n', n = n' + 1 := ⟨n - 1, by omega⟩
    obtain ⟨b1, b2, b3, b4, b5, b6, b7⟩ := b
    have hk' : k < cn (τ 14 m) := by omega
    obtain ⟨-, bi, -, ri, -⟩ := p.2.2.2.2.2.1 m k hm hk'
    have e8 : zi h 3 8 (md m) = τ 14 m := by rw [b3, if_neg (by decide)]; exact rt.2.1.2.2.2.2.2.1
    have km : zk h (md m) = 4 := by rw [b1.1]; exact rt.1.1
    have ki : zk h (ib m k) = 2 := by rw [b1.1]; exact ri.1.1
    have ia := instrAt_sz p w b1 hm hk' e8
    have F : ∃ h1, h1 = sti 1 5 (ib m k) 0 (sti 1 4 (ib m k) 0 h) ∧ SZ h h1 ∧ (∀ c, c ≠ ib m k → iz h h1 c) ∧ (zi h1 1 4 (ib m k) = 0 ∧ zi h1 1 5 (ib m k) = 0 ∧ ∀ j, j < 3 → zi h1 1 j (ib m k) = zi h 1 j (ib m k)) := by
      refine ⟨_, rfl, SZ.sti.tr SZ.sti, fun c hc => (iz_sti hc).tr (iz_sti hc), ?_, ?_, fun j hj => ?_⟩
      · rw [zi_sti, if_neg (by omega), zi_sti, if_pos ⟨rfl, rfl, rfl⟩]
      · rw [zi_sti, if_pos ⟨rfl, rfl, rfl⟩]
      · rw [zi_sti, if_neg (by omega), zi_sti, if_neg (by omega)]
    obtain ⟨h1, e1, s1, z1, v4, v5, v3⟩ := F
    have bg : BG τ md ib x m h0 (k + 1) h1 := by
      refine ⟨b1.tr s1, fun b hb => (b2 b hb).tr (z1 b (fun q => hb (Or.inr (Or.inr ⟨k, 0, hk', by omega, q⟩)))), fun j => ?_, fun i hi j hj => ?_, fun i hi hik => ?_, ?_, ?_⟩
      · rw [(z1 (md m) (p.TI hm hm hk' 0 0 (by omega) (by omega))).1]; exact b3 j
      · by_cases e : i = k
        · rw [e, v3 j hj]; exact b4 k hk' j hj
        · rw [(z1 (ib m i) (p.II hm hi hm hk' (fun z => e z.2) 0 0 (by omega) (by omega))).1]; exact b4 i hi j hj
      · by_cases e : i = k
        · rw [e]; exact ⟨v4, v5⟩
        · have y := z1 (ib m i) (p.II hm hi hm hk' (fun z => e z.2) 0 0 (by omega) (by omega))
          rw [y.1, y.1]; exact b5 i hi (by omega)
      · rw [(z1 (x + 4) (by omega)).1]; exact b6
      · rw [(z1 (x + 4) (by omega)).1]; exact b7
    obtain ⟨n', h', e', B'⟩ := ih (k + 1) n h1 (by omega) (by omega) bg
    refine ⟨n', h', ?_, B'⟩
    rw [← e', fX7_begin_b17, gI_at km, obs, e8, if_neg (nle_cn w8.1 hk' (by omega)), rc_at km, obs, ia, obs]
    dsimp only
    rw [if_neg (by simp), pZ0_at ki, obs, pZ0_at (by rw [zk_sti]; exact ki), obs, ← e1]
    unfold fX7_begin_b45
    rw [nI_1]
theorem beginC (N : Nat) (hN : 300 ≤ N) (V : VC τ kd md ib hd x m L P h0) : ∃ h', fX7_begin N (some (x + 4)) (some (md m)) h0 = some h' ∧ CS τ md ib x m L P h0 (comeS τ L (cn (τ 14 m)) 0 0 (r0 τ m) S0).1 h' ∧ zi h' 7 5 (x + 4) = nI 0 ∧ WK τ ib x m (comeS τ L (cn (τ 14 m)) 0 0 (r0 τ m) S0).1 (comeS τ L (cn (τ 14 m)) 0 0 (r0 τ m) S0).2 h' := by
  have V' := V
  obtain ⟨p, w, hm, hL, hP, hb⟩ := V'
  have w8 := (w.2.2.2.1 m hm).2.2.2.2.2.2.2.1
  obtain ⟨-, bm, -, rt⟩ := p.2.2.2.2.1 m hm
  obtain ⟨⟨a1, a2, a3, a4, a5, a6, a7, a8, a9, a10⟩, ⟨d0, d1, d2, d3, d4, d5, d6, d7, d8⟩, f1⟩ := id rt
  have ibz : ∀ j, j < cn (τ 14 m) → x + 35 ≤ ib m j := fun j hj => (p.2.2.2.2.2.1 m j hm hj).2.1
  have kx : ∀ {h}, SZ h0 h → zk h (x + 4) = 8 := fun {h} s => by rw [s.1]; exact p.1.1.2.2.2.2.1
  have km : ∀ {h}, SZ h0 h → zk h (md m) = 4 := fun {h} s => by rw [s.1]; exact a1
  have F : ∃ h1, h1 = sti 3 11 (md m) 1 (sti 7 3 (x + 4) 0 (sti 7 5 (x + 4) 0 h0)) ∧ SZ h0 h1 ∧ (∀ c, c ≠ x + 4 → c ≠ md m → iz h0 h1 c) ∧ (zi h1 7 5 (x + 4) = 0 ∧ zi h1 7 3 (x + 4) = 0 ∧ ∀ k, zi h1 3 k (md m) = if k = 11 then 1 else zi h0 3 k (md m)) := by
    refine ⟨_, rfl, (SZ.sti.tr SZ.sti).tr SZ.sti, fun c h1 h2 => ((iz_sti h1).tr (iz_sti h1)).tr (iz_sti h2), ?_, ?_, fun k => ?_⟩
    · rw [zi_sti, if_neg (by omega), zi_sti, if_neg (by omega), zi_sti, if_pos ⟨rfl, rfl, rfl⟩]
    · rw [zi_sti, if_neg (by omega), zi_sti, if_pos ⟨rfl, rfl, rfl⟩]
    · rw [zi_sti]
      by_cases z : k = 11
      · rw [if_pos ⟨rfl, z, rfl⟩, if_pos z]
      · rw [if_neg (fun y => z y.2.1), if_neg z, zi_sti, if_neg (by omega), zi_sti, if_neg (by omega)]
  obtain ⟨h1, e1, s1, z1, v5, v3, v11⟩ := F
  have bg : BG τ md ib x m h0 0 h1 := by
    refine ⟨s1, fun b hb => z1 b (fun q => hb (Or.inl (by omega))) (fun q => hb (Or.inr (Or.inl q))), v11, fun i hi j hj => ?_, fun i hi hik => by omega, v5, v3⟩
    have := ibz i hi
    rw [(z1 (ib m i) (by omega) (fun q => p.TI hm hm hi 0 0 (by omega) (by omega) q.symm)).1]
  obtain ⟨n', h2, e2, b1, b2, b3, b4, b5, b6, b7⟩ := begL N V (cn (τ 14 m)) 0 N h1 (by omega) (by omega) bg
  rw [nI_0] at e2
  -- nothing is wrong yet
  have G : ∃ h3, h3 = sti 7 4 (x + 4) (-1) h2 ∧ SZ h2 h3 ∧ (∀ c, c ≠ x + 4 → iz h2 h3 c) ∧ (zi h3 7 4 (x + 4) = -1 ∧ zi h3 7 5 (x + 4) = 0 ∧ zi h3 7 3 (x + 4) = 0) := by
    refine ⟨_, rfl, SZ.sti, fun c hc => iz_sti hc, ?_, ?_, ?_⟩
    · rw [zi_sti, if_pos ⟨rfl, rfl, rfl⟩]
    · rw [zi_sti, if_neg (by omega)]; exact b6
    · rw [zi_sti, if_neg (by omega)]; exact b7
  obtain ⟨h3, e3, s3, z3, t4, t5, t3⟩ := G
  have S3 := b1.tr s3
  have ym := z3 (md m) (by omega)
  have ip : iz h0 h3 (md m + 1) := (b2 (md m + 1) (fun q => by
    rcases q with q | q | ⟨i, j, hi, hj, q⟩
    · omega
    · omega
    · exact p.TI hm hm hi 1 j (by omega) hj q)).tr (z3 _ (by omega))
  obtain ⟨h4, e4, s4, z4, y1, y2, rr⟩ := rowC N (by omega) V S3 (by rw [ym.1, b3, if_neg (by decide), d2]; exact hL) (by rw [ym.1, b3, if_neg (by decide), d3]; exact hP) (by rw [ym.1, b3, if_neg (by decide)]; exact d4) ip
  have S4 := S3.tr s4
  have x4 := z4 (x + 4) (by omega) (by omega)
  have zz : ∀ b, x + 35 ≤ b → iz h2 h4 b := fun b hb => (z3 b (by omega)).tr (z4 b (by omega) (by omega))
  have c4 : CS τ md ib x m L P h0 S0 h4 := by
    refine ⟨S4, fun b hb => ((b2 b hb).tr (z3 b (fun q => hb (Or.inl (by omega))))).tr (z4 b (fun q => hb (Or.inl (by omega))) (fun q => hb (Or.inl (by omega)))), fun k => by rw [(zz (md m) bm).1]; exact b3 k, fun i hi => ⟨fun k hk => by rw [(zz (ib m i) (ibz i hi)).1]; exact b4 i hi k hk, ?_⟩, y1, y2⟩
    show zi h4 1 4 (ib m i) = 0
    rw [(zz (ib m i) (ibz i hi)).1]; exact (b5 i hi hi).1
  have wk : WK τ ib x m S0 none h4 := by
    refine Or.inr ⟨rfl, by rw [x4.1]; exact t4, fun i hi => ?_, 0, by omega, by rw [x4.1, t3]; rfl, fun i hi => by omega⟩
    show zi h4 1 5 (ib m i) = if false = true then 1 else 0
    rw [(zz (ib m i) (ibz i hi)).1, (b5 i hi hi).2]; rfl
  obtain ⟨h5, e5, c5, g5, -, -, wk5⟩ := comeC N (by omega) V c4 rr (r0_ok w hm) (lk := 0) (by rw [x4.1, t5]; rfl) wk (fr := 0) (t := 0) (by omega)
  refine ⟨h5, ?_, c5, g5, wk5⟩
  have q8 : zi h2 3 8 (md m) = nI (cn (τ 14 m)) := by rw [b3, if_neg (by decide), d5]; exact nI_of_cn w8.1
  have E : fX7_begin_b17 N (n' + 1) (some (x + 4)) (some (md m)) (nI (cn (τ 14 m))) h2 = some h5 := by
    rw [fX7_begin_b17, gI_at (km b1), obs, q8, if_pos (nI_le (by omega) (by omega)), pI_at (kx b1), obs, ← e3, gR_at (kx S3), obs]
    rw [show zr h3 7 1 (x + 4) = some (x + 5) by rw [S3.2.1]; exact p.1.2.1.2.2.2.2.2.1]
    rw [rc_at (c := 4) (by rw [S3.1]; exact p.1.1.2.2.2.2.2.1), obs, e4, obs, rc_at (kx S4), obs]
    rw [nI_0] at e5
    rw [e5, obs]
  unfold fX7_begin
  rw [pI_at (kx SZ.rf), obs, pI_at (by rw [zk_sti]; exact kx SZ.rf), obs, pZ_at (by rw [zk_sti, zk_sti]; exact km SZ.rf) (Or.inr rfl), obs, ← e1, e2]
  exact E
end
