section
variable {τ τb : Nat → Nat → Int32} {m L P lk r : Nat} {h : zH} {S S' : VS}
theorem MS.congr {τ' : Nat → Nat → Int32} (M : MS τ m L P lk S τ') (e : ∀ i, i < cn (τ 14 m) → S'.1 i = S.1 i ∧ ∀ q, S.1 i = some q → ∀ k, k < L + q → S'.2.1 i k = S.2.1 i k) : MS τ m L P lk S' τ' := by
  obtain ⟨m1, m2, m3, m4, m5, m6⟩ := M
  refine ⟨m1, m2, m3, m4, fun i hi => ?_, m6⟩
  obtain ⟨e1, e2⟩ := e i hi
  rcases m5 i hi with ⟨q1, q2⟩ | ⟨q, a1, a2, a3, a4⟩
  · exact Or.inl ⟨e1.trans q1, q2⟩
  · exact Or.inr ⟨q, e1.trans a1, a2, a3, fun k hk => (a4 k hk).trans (e2 q a1 k hk).symm⟩
theorem comeNewM {u : Int32} (N : Nat) (w : WF τ) (hm : m < cn (τ 6 0)) {t : Nat} (ht : t < cn (τ 14 m)) {s : Row} (d : Nat) : ∀ (k n : Nat) (f : Nat → Int32) (τb : Nat → Nat → Int32) (h : zH), k + d = L + s.1 → d < n → MS τ m L P lk (setT S t f) τb → MBv u τb m L P → GM r τb L P s h → (∀ j, j < k → f j = s.2 j) →
    ∃ h' τ' f', fX9_come_b52 N n (some r) (nI t) (nI L) (nI (200 * m + t)) (nI k) h = some (1, h') ∧ Mfr r h h' ∧ MS τ m L P lk (setT S t f') τ' ∧ (∀ j, j < L + s.1 → f' j = s.2 j) ∧ MBv u τ' m L P ∧ GM r τ' L P s h' ∧ τ' 31 0 = τb 31 0 ∧ ∀ i, τ' 26 i = if i = t then 1 else τb 26 i := by
  have h200 := (w.2.2.2.1 m hm).2.2.2.2.2.2.2.1.2
  have h64 := w.2.1.2
  induction d with
  | zero =>
    intro k n f τb h hk hn M B p hf
    obtain ⟨n, rfl⟩ : ∃ m, n = m + 1 := ⟨n - 1, by omega⟩
    obtain ⟨b1, b2, b3, b4, b5⟩ := id B
    obtain ⟨g, pq, okr, ag⟩ := id p
    have okp := okr.1
    have z00 : τb 0 0 = τ 0 0 := M.1 0 0 (by omega)
    have g29 : gI 9 29 (some r) h = some (nI s.1) := gM29 pq
    obtain ⟨h1, t1, q1, f1⟩ := eM26 pq (i := t) (by omega) (v := 1) (Or.inr rfl)
    have q1 := TT_u2 (by omega) (by omega) q1
    refine ⟨h1, u2 τb 26 t 1, f, ?_, f1, M.o (by omega), fun j hj => hf j (by omega), B.u2 (by omega) (by omega) (by omega), ⟨g, q1, by rw [u2_at, if_neg (by omega)]; exact okr, ag⟩, by rw [u2_at, if_neg (by omega)], fun i => ?_⟩
    · rw [fX9_come_b52, g29, obs, nI_add, if_pos (nI_le (by omega) (by omega)), gRM26 pq, obs, t1, obs]
    · rw [u2_at]
      by_cases z : i = t
      · rw [if_pos ⟨rfl, z⟩, if_pos z]
      · rw [if_neg (fun y => z y.2), if_neg z]
  | succ d ih =>
    intro k n f τb h hk hn M B p hf
    obtain ⟨n, rfl⟩ : ∃ m, n = m + 1 := ⟨n - 1, by omega⟩
    obtain ⟨b1, b2, b3, b4, b5⟩ := id B
    obtain ⟨g, pq, okr, ag⟩ := id p
    have okp := okr.1
    have g29 : gI 9 29 (some r) h = some (nI s.1) := gM29 pq
    have l28 : aI 100 (some (r + 26)) (nI k) h = some (s.2 k) := by
      have := aM28 pq (i := k) (by omega); rw [TT28, ag _ (by omega)] at this; exact this
    have lin1 : (12 : Int32) * nI (200 * m + t) + nI k = nI (12 * (200 * m + t) + k) := lin trivial
    obtain ⟨h1, t1, q1, f1⟩ := eM25 pq (i := 12 * (200 * m + t) + k) (by omega) (s.2 k)
    have q1 := TT_u2 (by omega) (by omega) q1
    have M1 := M.set (v := s.2 k) (by omega) ht h200 (k := k) (by omega) b5
    obtain ⟨h', τ', f', e', fr', M', hf', B', p', e31, K'⟩ := ih (k + 1) n (fun i => if i = k then s.2 k else f i) _ h1 (by omega) (by omega) M1 (B.u2 (by omega) (by omega) (by omega)) ⟨g, q1, by rw [u2_at, if_neg (by omega)]; exact okr, ag⟩ (fun j hj => by
      show (if j = k then s.2 k else f j) = s.2 j
      by_cases z : j = k
      · rw [if_pos z, z]
      · rw [if_neg z]; exact hf j (by omega))
    have e26 : ∀ i, u2 τb 25 (12 * (200 * m + t) + k) (s.2 k) 26 i = τb 26 i := fun i => by rw [u2_at, if_neg (by omega)]
    refine ⟨h', τ', f', ?_, f1.tr fr', M', hf', B', p', by rw [e31, u2_at, if_neg (by omega)], fun i => by rw [K', e26]⟩
    rw [fX9_come_b52, g29, obs, nI_add, if_neg (nI_ge (by omega) (by omega)), gRM25 pq, obs, gRM28 pq, obs, l28, obs, lin1, t1, obs, nI_1, e']
theorem comeM {u : Int32} (N : Nat) (hN : 40 ≤ N) (w : WF τ) (hm : m < cn (τ 6 0)) (hP : τ 10 m = nI P) (M : MS τ m L P lk S τb) (ok : okS τ m L P S) (B : MBv u τb m L P) (K : MKM τ m S τb) {s : Row} (p : GM r τb L P s h) {t fr : Nat} (ht : t ≤ 200) (h31 : τb 31 0 = nI fr) : ∃ b h' τ', fX9_come N (some r) (nI m) (nI t) h = some (b, h') ∧ Mfr r h h' ∧ MS τ m L P lk (comeS τ L (cn (τ 14 m)) fr t s S).1 τ' ∧ MBv u τ' m L P ∧ GM r τ' L P s h' ∧ (((comeS τ L (cn (τ 14 m)) fr t s S).2 = none ∧ b = 1 ∧ MKM τ m (comeS τ L (cn (τ 14 m)) fr t s S).1 τ' ∧ τ' 31 0 = nI fr) ∨ ∃ e, (comeS τ L (cn (τ 14 m)) fr t s S).2 = some e ∧ b = 0 ∧ τ' 31 0 = nI e) := by
  have h200 := (w.2.2.2.1 m hm).2.2.2.2.2.2.2.1
  have h64 := w.2.1.2
  obtain ⟨b1, b2, b3, b4, b5⟩ := id B
  obtain ⟨g, pq, okr, ag⟩ := id p
  have okp := okr.1
  have l14 : aI 100 (some (r + 13)) (nI m) h = some (nI (cn (τ 14 m))) := by
    have := aM14 pq (i := m) (by omega); rw [TTo (by omega) (by omega), M.1 14 m (by omega), nI_of_cn h200.1] at this; exact this
  have l9 : aI 100 (some (r + 8)) (nI m) h = some (nI L) := by
    have := aM9 pq (i := m) b2; rw [TTo (by omega) (by omega), b3] at this; exact this
  have g29 : gI 9 29 (some r) h = some (nI s.1) := gM29 pq
  have lin0 : (200 : Int32) * nI m + nI t = nI (200 * m + t) := lin trivial
  unfold comeS
  by_cases hsz : cn (τ 14 m) ≤ t
  · rw [if_pos hsz]
    refine ⟨0, h, τb, ?_, Mfr.rf, M, B, p, Or.inr ⟨fr, rfl, rfl, h31⟩⟩
    unfold fX9_come
    rw [gRM14 pq, obs, l14, obs, if_neg (nI_nlt hsz (by omega))]
  · rw [if_neg hsz]
    have ht' : t < cn (τ 14 m) := by omega
    have l24 : aI 100 (some (r + 23)) (nI (200 * m + t)) h = some (τb 24 (200 * m + t)) := by
      have := aM24 pq (i := 200 * m + t) (by omega); rw [TTo (by omega) (by omega)] at this; exact this
    have E0 : fX9_come N (some r) (nI m) (nI t) h = if 0 ≤ τb 24 (200 * m + t) then (if τb 24 (200 * m + t) = nI s.1 then fX9_come_b122 N N (some r) (nI t) (nI L) (nI (200 * m + t)) 0 h else ((pI 9 31 (some r) (nI t) h).bind fun h13 => some (0, h13))) else ((sI (some (r + 23)) (nI (200 * m + t)) (nI s.1) h).bind fun h16 => fX9_come_b52 N N (some r) (nI t) (nI L) (nI (200 * m + t)) 0 h16) := by
      simp only [fX9_come, gRM14 pq, l14, nI_lt ht' (show cn (τ 14 m) < 2 ^ 31 by omega), gRM9 pq, l9, gRM24 pq, lin0, l24, g29, obs, ↓reduceIte]
    rw [E0]
    cases eS : S.1 t with
    | none =>
      rcases M.2.2.2.2.1 t ht' with ⟨-, neg⟩ | ⟨q', e0, -⟩
      · rw [if_neg (fun q => by
          have q1 : ¬ τb 24 (200 * m + t) < 0 := Int32.not_lt.mpr q
          exact q1 neg)]
        obtain ⟨h1, t1, q1, f1⟩ := eM24 pq (i := 200 * m + t) (by omega) (nI s.1)
        have q1 := TT_u2 (by omega) (by omega) q1
        have M1 : MS τ m L P lk (setT ((fun i => if i = t then some s.1 else S.1 i), S.2.1, S.2.2) t (fun k => τb 25 (12 * (200 * m + t) + k))) (u2 τb 24 (200 * m + t) (nI s.1)) := by
          obtain ⟨m1, m2, m3, m4, m5, m6⟩ := M
          have e : ∀ c' i, c' ≠ 24 → u2 τb 24 (200 * m + t) (nI s.1) c' i = τb c' i := fun c' i hne => by rw [u2_at, if_neg (fun q => hne q.1)]
          refine ⟨fun c' i hc => by rw [e _ _ (by omega)]; exact m1 c' i hc, fun i => by rw [e _ _ (by omega)]; exact m2 i, fun i hi => by rw [u2_at, if_neg (by omega)]; exact m3 i hi, fun i hi => by rw [e _ _ (by omega)]; exact m4 i hi, fun i hi => ?_, by rw [e _ _ (by omega)]; exact m6⟩
          by_cases z : i = t
          · subst z
            refine Or.inr ⟨s.1, ?_, okp, by rw [u2_at, if_pos ⟨rfl, rfl⟩], fun k hk => ?_⟩
            · show (if i = i then some s.1 else S.1 i) = _; rw [if_pos rfl]
            · rw [e 25 _ (by omega)]
              show _ = (if i = i then (fun k => τb 25 (12 * (200 * m + i) + k)) else S.2.1 i) k
              rw [if_pos rfl]
          · rw [u2_at, if_neg (by omega)]
            rcases m5 i hi with ⟨a1, a2⟩ | ⟨q, a1, a2, a3, a4⟩
            · exact Or.inl ⟨by show (if i = t then some s.1 else S.1 i) = none; rw [if_neg z]; exact a1, a2⟩
            · refine Or.inr ⟨q, by show (if i = t then some s.1 else S.1 i) = _; rw [if_neg z]; exact a1, a2, a3, fun k hk => ?_⟩
              rw [e 25 _ (by omega), a4 k hk]
              show _ = (if i = t then _ else S.2.1 i) k
              rw [if_neg z]
        obtain ⟨h', τ', f', e', fr', M', hf', B', p', e31, K'⟩ := comeNewM N w hm ht' (s := s) (L + s.1) 0 N _ _ h1 (by omega) (by omega) M1 (B.u2 (by omega) (by omega) (by omega)) ⟨g, q1, by rw [u2_at, if_neg (by omega)]; exact okr, ag⟩ (fun j hj => by omega)
        rw [nI_0] at e'
        refine ⟨1, h', τ', by rw [t1, obs, e'], f1.tr fr', M'.congr (fun i hi => ⟨rfl, fun q hq k hk => ?_⟩), B', p', Or.inl ⟨rfl, rfl, fun i hi => ?_, by rw [e31, u2_at, if_neg (by omega)]; exact h31⟩⟩
        · show (if i = t then s.2 else S.2.1 i) k = (if i = t then f' else S.2.1 i) k
          by_cases z : i = t
          · rw [if_pos z, if_pos z]
            have hq' : (if i = t then some s.1 else S.1 i) = some q := hq
            rw [if_pos z] at hq'; cases hq'
            exact (hf' k hk).symm
          · rw [if_neg z, if_neg z]
        · have e26 : ∀ i, u2 τb 24 (200 * m + t) (nI s.1) 26 i = τb 26 i := fun i => by rw [u2_at, if_neg (by omega)]
          rw [K', e26]
          show _ = if (if i = t then true else S.2.2 i) = true then 1 else 0
          by_cases z : i = t
          · rw [if_pos z, if_pos z]; rfl
          · rw [if_neg z, if_neg z]; exact K i hi
      · rw [eS] at e0; cases e0
    | some q =>
      rcases M.2.2.2.2.1 t ht' with ⟨e0, -⟩ | ⟨q', e0, hqP, e24, -⟩
      · rw [eS] at e0; cases e0
      · rw [eS] at e0; cases e0
        rw [e24, if_pos (nI_pos' (by omega))]
        dsimp only
        by_cases hq : q = s.1
        · rw [if_pos hq, if_pos (by rw [hq])]
          have self : setT S t (S.2.1 t) = S := by
            unfold setT
            refine Prod.ext rfl (Prod.ext ?_ rfl)
            funext i
            show (if i = t then S.2.1 t else S.2.1 i) = S.2.1 i
            by_cases z : i = t
            · rw [if_pos z, z]
            · rw [if_neg z]
          obtain ⟨b, h', τ', e', f', M', B', p', R⟩ := comeLoopM N hN w hm hP ht' hq eS (L + q) 0 N false (S.2.1 t) τb h (by omega) (by omega) (by rw [self]; exact M) (by rw [self]; exact ok) B (fun i hi => by
            by_cases z : i = t
            · rw [if_pos z, Bool.or_false, ← z]; exact K i hi
            · rw [if_neg z]; exact K i hi) p
          rw [nI_0] at e'
          generalize mtL τ L s.2 (L + q) 0 false (S.2.1 t) = G at *
          rcases R with ⟨R1, R2, R3⟩ | ⟨c, R1, R2, R3, R4⟩
          · rw [R1]
            exact ⟨b, h', τ', e', f', M', B', p', Or.inr ⟨t, rfl, R2, R3⟩⟩
          · rw [R1]
            exact ⟨b, h', τ', e', f', M', B', p', Or.inl ⟨rfl, R2, R4, by rw [R3]; exact h31⟩⟩
        · rw [if_neg hq, if_neg (nI_lit (by omega) (by omega) hq)]
          obtain ⟨h1, t1, q1, f1⟩ := eS31 pq (nI t)
          have q1 := TT_u2 (by omega) (by omega) q1
          exact ⟨0, h1, u2 τb 31 0 (nI t), by rw [t1, obs], f1, M.o (by omega), B.u2 (by omega) (by omega) (by omega), ⟨g, q1, by rw [u2_at, if_neg (by omega)]; exact okr, ag⟩, Or.inr ⟨t, rfl, rfl, by rw [u2_at, if_pos ⟨rfl, rfl⟩]⟩⟩
theorem takeLoopM (N : Nat) (hm : m < 64) {i q : Nat} (hi : 200 * m + i < 12800) {f : Nat → Int32} (h25 : ∀ k, k < L + q → τb 25 (12 * (200 * m + i) + k) = f k) (h9 : τb 9 m = nI L) (hb : L + q ≤ 12) (d : Nat) : ∀ (k n : Nat) (g : Nat → Int32) (h : zH), k + d = L + q → d < n → RM (TT τb g (nI q)) r h → (∀ j, j < k → g j = f j) → ∃ h' g', fX9_takeUp_b26 N n (some r) (nI m) (nI (200 * m + i)) (nI k) h = some h' ∧ Mfr r h h' ∧ RM (TT τb g' (nI q)) r h' ∧ ∀ j, j < L + q → g' j = f j := by
  induction d with
  | zero =>
    intro k n g h hk hn p hg
    obtain ⟨n, rfl⟩ : ∃ m, n = m + 1 := ⟨n - 1, by omega⟩
    have g29 : gI 9 29 (some r) h = some (nI q) := gM29 p
    have l9 : aI 100 (some (r + 8)) (nI m) h = some (nI L) := by
      have := aM9 p (i := m) hm; rw [TTo (by omega) (by omega), h9] at this; exact this
    refine ⟨h, g, ?_, Mfr.rf, p, fun j hj => hg j (by omega)⟩
    rw [fX9_takeUp_b26, gRM9 p, obs, l9, obs, g29, obs, nI_add, if_pos (nI_le (by omega) (by omega))]
  | succ d ih =>
    intro k n g h hk hn p hg
    obtain ⟨n, rfl⟩ : ∃ m, n = m + 1 := ⟨n - 1, by omega⟩
    have g29 : gI 9 29 (some r) h = some (nI q) := gM29 p
    have l9 : aI 100 (some (r + 8)) (nI m) h = some (nI L) := by
      have := aM9 p (i := m) hm; rw [TTo (by omega) (by omega), h9] at this; exact this
    have l25 : aI 100 (some (r + 24)) (nI (12 * (200 * m + i) + k)) h = some (f k) := by
      have := aM25 p (i := 12 * (200 * m + i) + k) (by omega); rw [TTo (by omega) (by omega), h25 k (by omega)] at this; exact this
    have lin1 : (12 : Int32) * nI (200 * m + i) + nI k = nI (12 * (200 * m + i) + k) := lin trivial
    obtain ⟨h1, t1, q1, f1⟩ := eM28 p (i := k) (by omega) (f k)
    obtain ⟨h', g', e', f', p', hg'⟩ := ih (k + 1) n _ h1 (by omega) (by omega) (TT_s28 q1) (fun j hj => by
      show (if j = k then f k else g j) = f j
      by_cases z : j = k
      · rw [if_pos z, z]
      · rw [if_neg z]; exact hg j (by omega))
    refine ⟨h', g', ?_, f1.tr f', p', hg'⟩
    rw [fX9_takeUp_b26, gRM9 p, obs, l9, obs, g29, obs, nI_add, if_neg (nI_ge (by omega) (by omega)), gRM28 p, obs, gRM25 p, obs, lin1, l25, obs, t1, obs, nI_1, e']
theorem takeUpM (N : Nat) (hN : 40 ≤ N) (w : WF τ) (hm : m < cn (τ 6 0)) (hL : τ 9 m = nI L) (hP : τ 10 m = nI P) (hb : L + P ≤ 12) (M : MS τ m L P lk S τb) (ok : okS τ m L P S) (p : RM τb r h) {i q : Nat} (hi : i < cn (τ 14 m)) (eS : S.1 i = some q) : ∃ h', fX9_takeUp N (some r) (nI m) (nI i) h = some h' ∧ Mfr r h h' ∧ GM r (u2 τb 30 0 (nI m)) L P (q, S.2.1 i) h' ∧ MS τ m L P lk S (u2 τb 30 0 (nI m)) ∧ MB (u2 τb 30 0 (nI m)) m L P := by
  have h200 := (w.2.2.2.1 m hm).2.2.2.2.2.2.2.1.2
  have h64 := w.2.1.2
  obtain ⟨o1, o2⟩ := ok i hi q eS
  rcases M.2.2.2.2.1 i hi with ⟨e0, -⟩ | ⟨q', e0, hqP, e24, a4⟩
  · rw [eS] at e0; cases e0
  · rw [eS] at e0; cases e0
    have l24 : aI 100 (some (r + 23)) (nI (200 * m + i)) h = some (nI q) := by
      have := aM24 p (i := 200 * m + i) (by omega); rw [e24] at this; exact this
    obtain ⟨h1, t1, q1, f1⟩ := eS29 p (nI q)
    obtain ⟨h2, t2, q2, f2⟩ := eS30 q1 (nI m)
    have M' : MS τ m L P lk S (u2 τb 30 0 (nI m)) := M.o (by omega)
    have B' : MB (u2 τb 30 0 (nI m)) m L P := ⟨by rw [u2_at, if_pos ⟨rfl, rfl⟩], by omega, by rw [M'.1 9 m (by omega)]; exact hL, by rw [M'.1 10 m (by omega)]; exact hP, hb⟩
    have q3 : RM (TT (u2 τb 30 0 (nI m)) (fun i => τb 28 i) (nI q)) r h2 := by
      refine q2.ext (fun c i _ => ?_)
      rw [u2_at, u2_at]
      unfold TT
      by_cases z : c = 28
      · rw [if_pos z, if_neg (by omega), if_neg (by omega), z]
      · rw [if_neg z]
        by_cases y : c = 29 ∧ i = 0
        · rw [if_pos y, if_neg (by omega), if_pos y]
        · rw [if_neg y, u2_at]
          by_cases v : c = 30 ∧ i = 0
          · rw [if_pos v, if_pos v]
          · rw [if_neg v, if_neg v, if_neg y]
    obtain ⟨h', g', e', f', p', hg'⟩ := takeLoopM N (τb := u2 τb 30 0 (nI m)) (r := r) (m := m) (L := L) (i := i) (q := q) (by omega) (by omega) (f := S.2.1 i) (fun k hk => by rw [u2_at, if_neg (by omega)]; exact a4 k hk) B'.2.2.1 (by omega) (L + q) 0 N _ h2 (by omega) (by omega) q3 (fun j hj => by omega)
    rw [nI_0] at e'
    have lin0 : (200 : Int32) * nI m + nI i = nI (200 * m + i) := lin trivial
    refine ⟨h', ?_, (f1.tr f2).tr f', ⟨g', p', ⟨o1, fun k hk => by rw [u2_at, if_neg (by omega), M.1 0 0 (by omega)]; exact o2 k hk⟩, hg'⟩, M', B'⟩
    unfold fX9_takeUp
    rw [gRM24 p, obs, lin0, l24, obs, t1, obs, t2, obs, e']
end
