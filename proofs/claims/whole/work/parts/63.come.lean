/-- what stands is good -/
def okS (τ : Nat → Nat → Int32) (m L P : Nat) (S : VS) : Prop := ∀ i, i < cn (τ 14 m) → ∀ q, S.1 i = some q → q ≤ P ∧ ∀ k, k < L + q → vT (cn (τ 0 0)) (S.2.1 i k)
def MKM (τ : Nat → Nat → Int32) (m : Nat) (S : VS) (τ' : Nat → Nat → Int32) : Prop := ∀ i, i < cn (τ 14 m) → τ' 26 i = if S.2.2 i then 1 else 0
theorem mtL_ok {τ : Nat → Nat → Int32} (w : WF τ) {L n : Nat} {g : Nat → Int32} (hg : ∀ k, k < n → vT (cn (τ 0 0)) (g k)) (d : Nat) : ∀ (k : Nat) (ch : Bool) (f : Nat → Int32), k + d = n → (∀ j, j < n → vT (cn (τ 0 0)) (f j)) → (∀ j, j < n → vT (cn (τ 0 0)) ((mtL τ L g d k ch f).1 j)) := by
  induction d with
  | zero => intro k ch f hk hf; exact hf
  | succ d ih =>
    intro k ch f hk hf
    unfold mtL
    by_cases q : L ≤ k ∧ mt τ (f k) (g k) = 99
    · rw [if_pos q]; exact hf
    · rw [if_neg q]
      refine ih (k + 1) _ _ (by omega) (fun j hj => ?_)
      show vT _ (if j = k then mt τ (f k) (g k) else f j)
      by_cases z : j = k
      · rw [if_pos z]; exact (mt_ok w (hf k (by omega)) (hg k (by omega))).1
      · rw [if_neg z]; exact hf j hj
theorem comeS_ok {τ : Nat → Nat → Int32} (w : WF τ) {m L P fr t : Nat} {r : Row} {S : VS} (o : okS τ m L P S) (okr : okR L P (cn (τ 0 0)) r) : okS τ m L P (comeS τ L (cn (τ 14 m)) fr t r S).1 := by
  unfold comeS
  by_cases hsz : cn (τ 14 m) ≤ t
  · rw [if_pos hsz]; exact o
  · rw [if_neg hsz]
    cases eS : S.1 t with
    | none =>
      intro i hi q hq
      have hq' : (if i = t then some r.1 else S.1 i) = some q := hq
      show q ≤ P ∧ ∀ k, k < L + q → vT _ ((if i = t then r.2 else S.2.1 i) k)
      by_cases e : i = t
      · rw [if_pos e] at hq'
        rw [if_pos e]
        cases hq'
        exact okr
      · rw [if_neg e] at hq'
        rw [if_neg e]; exact o i hi q hq'
    | some n =>
      dsimp only
      by_cases hn : n = r.1
      · rw [if_pos hn]
        have ot := o t (by omega) n eS
        have G := mtL_ok w (L := L) (n := L + n) (g := r.2) (fun k hk => okr.2 k (by omega)) (L + n) 0 false (S.2.1 t) (by omega) ot.2
        generalize mtL τ L r.2 (L + n) 0 false (S.2.1 t) = H at *
        have fin : ∀ i, i < cn (τ 14 m) → ∀ q, S.1 i = some q → q ≤ P ∧ ∀ k, k < L + q → vT (cn (τ 0 0)) ((if i = t then H.1 else S.2.1 i) k) := fun i hi q hq => by
          by_cases e : i = t
          · subst e
            rw [eS] at hq; cases hq
            rw [if_pos rfl]; exact ⟨ot.1, G⟩
          · rw [if_neg e]; exact o i hi q hq
        cases H.2 with
        | none => exact fin
        | some ch => exact fin
      · rw [if_neg hn]; exact o
section
variable {τ τb : Nat → Nat → Int32} {m L P lk r : Nat} {h : zH} {S : VS}
theorem TT_u2 {g : Nat → Int32} {t : Int32} {c j : Nat} {v : Int32} (h1 : c ≠ 28) (h2 : c ≠ 29) (p : RM (u2 (TT τb g t) c j v) r h) : RM (TT (u2 τb c j v) g t) r h := by
  refine p.ext (fun c' i _ => ?_)
  rw [u2_at]
  unfold TT
  by_cases q : c' = 28
  · rw [if_pos q, if_neg (by omega), if_pos q]
  · rw [if_neg q]
    by_cases q2 : c' = 29 ∧ i = 0
    · rw [if_pos q2, if_neg (by omega), if_neg q, if_pos q2]
    · rw [if_neg q2, u2_at, if_neg q, if_neg q2]
theorem MS.o {c j : Nat} {v : Int32} (M : MS τ m L P lk S τb) (hc : c = 26 ∨ (28 ≤ c ∧ c ≤ 31)) : MS τ m L P lk S (u2 τb c j v) := by
  obtain ⟨m1, m2, m3, m4, m5, m6⟩ := M
  have e : ∀ c' i, c' ≠ c → u2 τb c j v c' i = τb c' i := fun c' i hne => by rw [u2_at, if_neg (fun q => hne q.1)]
  refine ⟨fun c' i h => by rw [e _ _ (by omega)]; exact m1 c' i h, fun i => by rw [e _ _ (by omega)]; exact m2 i, fun i hi => by rw [e _ _ (by omega)]; exact m3 i hi, fun i hi => by rw [e _ _ (by omega)]; exact m4 i hi, fun i hi => ?_, by rw [e _ _ (by omega)]; exact m6⟩
  rw [e 24 _ (by omega)]
  rcases m5 i hi with q | ⟨q, a1, a2, a3, a4⟩
  · exact Or.inl q
  · exact Or.inr ⟨q, a1, a2, a3, fun k hk => by rw [e 25 _ (by omega)]; exact a4 k hk⟩
theorem MS.TT {g : Nat → Int32} {t : Int32} (M : MS τ m L P lk S τb) : MS τ m L P lk S (TT τb g t) := by
  obtain ⟨m1, m2, m3, m4, m5, m6⟩ := M
  have e : ∀ c' i, c' ≠ 28 → c' ≠ 29 → _root_.Jvm.Pilot.CCodeVerifierLaw_law_r5343_82bf6f.TT τb g t c' i = τb c' i := fun c' i h1 h2 => TTo h1 h2
  refine ⟨fun c' i h => by rw [e _ _ (by omega) (by omega)]; exact m1 c' i h, fun i => by rw [e _ _ (by omega) (by omega)]; exact m2 i, fun i hi => by rw [e _ _ (by omega) (by omega)]; exact m3 i hi, fun i hi => by rw [e _ _ (by omega) (by omega)]; exact m4 i hi, fun i hi => ?_, by rw [e _ _ (by omega) (by omega)]; exact m6⟩
  rw [e 24 _ (by omega) (by omega)]
  rcases m5 i hi with q | ⟨q, a1, a2, a3, a4⟩
  · exact Or.inl q
  · exact Or.inr ⟨q, a1, a2, a3, fun k hk => by rw [e 25 _ (by omega) (by omega)]; exact a4 k hk⟩
theorem MB.u2 {c j : Nat} {v : Int32} (B : MB τb m L P) (h9 : c ≠ 9) (h10 : c ≠ 10) (h30 : c ≠ 30) : MB (u2 τb c j v) m L P := by
  obtain ⟨b1, b2, b3, b4, b5⟩ := B
  exact ⟨by rw [u2_at, if_neg (by omega)]; exact b1, b2, by rw [u2_at, if_neg (by omega)]; exact b3, by rw [u2_at, if_neg (by omega)]; exact b4, b5⟩
/-- as MB, whatever stands in column 30 -/
def MBv (u : Int32) (τ : Nat → Nat → Int32) (m L P : Nat) : Prop := τ 30 0 = u ∧ m < 64 ∧ τ 9 m = nI L ∧ τ 10 m = nI P ∧ L + P ≤ 12
theorem MBv.u2 {u : Int32} {c j : Nat} {v : Int32} (B : MBv u τb m L P) (h9 : c ≠ 9) (h10 : c ≠ 10) (h30 : c ≠ 30) : MBv u (u2 τb c j v) m L P := by
  obtain ⟨b1, b2, b3, b4, b5⟩ := B
  exact ⟨by rw [u2_at, if_neg (by omega)]; exact b1, b2, by rw [u2_at, if_neg (by omega)]; exact b3, by rw [u2_at, if_neg (by omega)]; exact b4, b5⟩
/-- types of instruction t: one place set -/
theorem MS.set {t k : Nat} {f : Nat → Int32} {v : Int32} (M : MS τ m L P lk (setT S t f) τb) (hm : m < 64) (ht : t < cn (τ 14 m)) (h200 : cn (τ 14 m) ≤ 200) (hk : k < 12) (hb : L + P ≤ 12) : MS τ m L P lk (setT S t (fun i => if i = k then v else f i)) (u2 τb 25 (12 * (200 * m + t) + k) v) := by
  obtain ⟨m1, m2, m3, m4, m5, m6⟩ := M
  have e : ∀ c' i, c' ≠ 25 → u2 τb 25 (12 * (200 * m + t) + k) v c' i = τb c' i := fun c' i hne => by rw [u2_at, if_neg (fun q => hne q.1)]
  refine ⟨fun c' i h => by rw [e _ _ (by omega)]; exact m1 c' i h, fun i => by rw [e _ _ (by omega)]; exact m2 i, fun i hi => by rw [e _ _ (by omega)]; exact m3 i hi, fun i hi => by rw [u2_at, if_neg (by omega)]; exact m4 i hi, fun i hi => ?_, by rw [e _ _ (by omega)]; exact m6⟩
  rw [e 24 _ (by omega)]
  rcases m5 i hi with q | ⟨q, a1, a2, a3, a4⟩
  · exact Or.inl q
  · refine Or.inr ⟨q, a1, a2, a3, fun j hj => ?_⟩
    have a4' := a4 j hj
    have a5 : τb 25 (12 * (200 * m + i) + j) = (if i = t then f else S.2.1 i) j := a4'
    show u2 τb 25 (12 * (200 * m + t) + k) v 25 (12 * (200 * m + i) + j) = (if i = t then (fun i => if i = k then v else f i) else S.2.1 i) j
    rw [u2_at]
    by_cases z : i = t
    · subst z
      rw [if_pos rfl] at a5
      rw [if_pos rfl]
      show _ = if j = k then v else f j
      by_cases y : j = k
      · rw [if_pos ⟨rfl, by omega⟩, if_pos y]
      · rw [if_neg (by omega), if_neg y]; exact a5
    · rw [if_neg z] at a5
      rw [if_neg z, if_neg (by omega)]; exact a5
/-- the meeting, place by place, by the reference -/
theorem comeLoopM {u : Int32} (N : Nat) (hN : 40 ≤ N) (w : WF τ) (hm : m < cn (τ 6 0)) (hP : τ 10 m = nI P) {t q : Nat} (ht : t < cn (τ 14 m)) {s : Row} (hq : q = s.1) (eS : S.1 t = some q) (d : Nat) : ∀ (k n : Nat) (ch : Bool) (f : Nat → Int32) (τb : Nat → Nat → Int32) (h : zH), k + d = L + q → d < n → MS τ m L P lk (setT S t f) τb → okS τ m L P (setT S t f) → MBv u τb m L P → (∀ i, i < cn (τ 14 m) → τb 26 i = if (if i = t then (S.2.2 t || ch) else S.2.2 i) then 1 else 0) → GM r τb L P s h →
    ∃ b h' τ', fX9_come_b122 N n (some r) (nI t) (nI L) (nI (200 * m + t)) (nI k) h = some (b, h') ∧ Mfr r h h' ∧ MS τ m L P lk (setT S t (mtL τ L s.2 d k ch f).1) τ' ∧ MBv u τ' m L P ∧ GM r τ' L P s h' ∧ (((mtL τ L s.2 d k ch f).2 = none ∧ b = 0 ∧ τ' 31 0 = nI t) ∨ ∃ c, (mtL τ L s.2 d k ch f).2 = some c ∧ b = 1 ∧ τ' 31 0 = τb 31 0 ∧ ∀ i, i < cn (τ 14 m) → τ' 26 i = if (if i = t then (S.2.2 t || c) else S.2.2 i) then 1 else 0) := by
  have h200 := (w.2.2.2.1 m hm).2.2.2.2.2.2.2.1.2
  have h64 := w.2.1.2
  induction d with
  | zero =>
    intro k n ch f τb h hk hn M ok B K p
    obtain ⟨n, rfl⟩ : ∃ m, n = m + 1 := ⟨n - 1, by omega⟩
    obtain ⟨b1, b2, b3, b4, b5⟩ := id B
    obtain ⟨g, pq, okr, ag⟩ := id p
    have okp := okr.1
    have g29 : gI 9 29 (some r) h = some (nI s.1) := gM29 pq
    refine ⟨1, h, τb, ?_, Mfr.rf, M, B, p, Or.inr ⟨ch, rfl, rfl, rfl, K⟩⟩
    rw [fX9_come_b122, g29, obs, nI_add, if_pos (nI_le (by omega) (by omega))]
  | succ d ih =>
    intro k n ch f τb h hk hn M ok B K p
    obtain ⟨n, rfl⟩ : ∃ m, n = m + 1 := ⟨n - 1, by omega⟩
    obtain ⟨b1, b2, b3, b4, b5⟩ := id B
    obtain ⟨g, pq, okr, ag⟩ := id p
    have okp := okr.1
    have z00 : τb 0 0 = τ 0 0 := M.1 0 0 (by omega)
    rw [z00] at okr
    have g29 : gI 9 29 (some r) h = some (nI s.1) := gM29 pq
    have eT1 : (setT S t f).1 t = some q := eS
    have eT2 : (setT S t f).2.1 t = f := by show (if t = t then f else S.2.1 t) = f; rw [if_pos rfl]
    have ot := ok t ht q eT1
    rw [eT2] at ot
    have vf := ot.2 k (by omega)
    have vr := okr.2 k (by omega)
    have l25 : aI 100 (some (r + 24)) (nI (12 * (200 * m + t) + k)) h = some (f k) := by
      have := aM25 pq (i := 12 * (200 * m + t) + k) (by omega)
      rw [TTo (by omega) (by omega)] at this
      rcases M.2.2.2.2.1 t ht with ⟨e0, -⟩ | ⟨q', e0, -, -, a4⟩
      · rw [eT1] at e0; cases e0
      · rw [eT1] at e0; cases e0
        have a5 := a4 k (by omega)
        rw [eT2] at a5
        rw [a5] at this; exact this
    have l28 : aI 100 (some (r + 26)) (nI k) h = some (s.2 k) := by
      have := aM28 pq (i := k) (by omega); rw [TT28, ag _ (by omega)] at this; exact this
    have l26 : aI 101 (some (r + 25)) (nI t) h = some (if (S.2.2 t || ch) then 1 else 0) := by
      have := aM26 pq (i := t) (by omega); rw [TTo (by omega) (by omega), K t ht, if_pos rfl] at this; exact this
    have wT : WF (TT τb g (nI s.1)) := M.TT.WF w hm hP (by omega)
    have mc := meetM N hN pq wT (a := f k) (b := s.2 k) (by rw [TTo (by omega) (by omega), z00]; exact vf) (by rw [TTo (by omega) (by omega), z00]; exact vr)
    rw [mt_T (τ := τ) (fun i => by rw [TTo (by omega) (by omega)]; exact M.1 1 i (by omega))] at mc
    obtain ⟨vm, -⟩ := mt_ok w vf vr
    have lin1 : (12 : Int32) * nI (200 * m + t) + nI k = nI (12 * (200 * m + t) + k) := lin trivial
    have E0 : fX9_come_b122 N (n + 1) (some r) (nI t) (nI L) (nI (200 * m + t)) (nI k) h = if nI k < nI L then fX9_come_b179 N (fX9_come_b122 N n) (some r) (nI t) (nI L) (nI (200 * m + t)) (nI k) (mt τ (f k) (s.2 k)) h else if mt τ (f k) (s.2 k) = 99 then ((pI 9 31 (some r) (nI t) h).bind fun h10 => some (0, h10)) else fX9_come_b179 N (fX9_come_b122 N n) (some r) (nI t) (nI L) (nI (200 * m + t)) (nI k) (mt τ (f k) (s.2 k)) h := by
      rw [fX9_come_b122, g29, obs, nI_add, if_neg (nI_ge (by omega) (by omega)), gRM25 pq, obs, lin1, l25, obs, gRM28 pq, obs, l28, obs, rcM pq, obs, mc, obs]
    rw [E0, mtL]
    by_cases hc : L ≤ k ∧ mt τ (f k) (s.2 k) = 99
    · obtain ⟨h1, t1, q1, f1⟩ := eS31 pq (nI t)
      have q1 := TT_u2 (by omega) (by omega) q1
      refine ⟨0, h1, u2 τb 31 0 (nI t), by rw [if_neg (nI_nlt hc.1 (by omega)), if_pos hc.2, t1, obs], f1, by rw [if_pos hc]; exact M.o (by omega), B.u2 (by omega) (by omega) (by omega), ⟨g, q1, by rw [u2_at, if_neg (by omega), z00]; exact okr, ag⟩, Or.inl ⟨by rw [if_pos hc], rfl, by rw [u2_at, if_pos ⟨rfl, rfl⟩]⟩⟩
    · have E1 : (if nI k < nI L then fX9_come_b179 N (fX9_come_b122 N n) (some r) (nI t) (nI L) (nI (200 * m + t)) (nI k) (mt τ (f k) (s.2 k)) h else if mt τ (f k) (s.2 k) = 99 then ((pI 9 31 (some r) (nI t) h).bind fun h10 => some (0, h10)) else fX9_come_b179 N (fX9_come_b122 N n) (some r) (nI t) (nI L) (nI (200 * m + t)) (nI k) (mt τ (f k) (s.2 k)) h) = fX9_come_b179 N (fX9_come_b122 N n) (some r) (nI t) (nI L) (nI (200 * m + t)) (nI k) (mt τ (f k) (s.2 k)) h := by
        by_cases z : k < L
        · rw [if_pos (nI_lt z (by omega))]
        · rw [if_neg (nI_nlt (by omega) (by omega)), if_neg (fun y => hc ⟨by omega, y⟩)]
      rw [E1, if_neg hc]
      -- the mark and the type
      have mv : ∃ v : Int32, (v = 0 ∨ v = 1) ∧ v = (if ((S.2.2 t || ch) || !(decide (mt τ (f k) (s.2 k) = f k))) then 1 else 0) ∧ fX9_come_b179 N (fX9_come_b122 N n) (some r) (nI t) (nI L) (nI (200 * m + t)) (nI k) (mt τ (f k) (s.2 k)) h = fX9_come_b216 N (fX9_come_b122 N n) (some r) (nI t) (nI L) (nI (200 * m + t)) (nI k) (mt τ (f k) (s.2 k)) v (nI t) (some (r + 25)) h := by
        unfold fX9_come_b179 fX9_come_b211
        rw [gRM26 pq, obs, obs, l26, obs]
        cases e1 : (S.2.2 t || ch)
        · rw [bF, if_pos rfl, gRM25 pq, obs, lin1, l25, obs]
          by_cases ee : mt τ (f k) (s.2 k) = f k
          · exact ⟨0, Or.inl rfl, by rw [decide_eq_true ee]; rfl, by rw [if_pos ee]⟩
          · exact ⟨1, Or.inr rfl, by rw [decide_eq_false ee]; rfl, by rw [if_neg ee]⟩
        · rw [bT, if_neg n10]
          exact ⟨1, Or.inr rfl, rfl, rfl⟩
      obtain ⟨v, hv, ev, E2⟩ := mv
      rw [E2]
      obtain ⟨h1, t1, q1, f1⟩ := eM26 pq (i := t) (by omega) hv
      have q1 := TT_u2 (by omega) (by omega) q1
      obtain ⟨h2, t2, q2, f2⟩ := eM25 q1 (i := 12 * (200 * m + t) + k) (by omega) (mt τ (f k) (s.2 k))
      have q2 := TT_u2 (by omega) (by omega) q2
      have M2 := (M.o (c := 26) (j := t) (v := v) (by omega)).set (v := mt τ (f k) (s.2 k)) (by omega) ht h200 (k := k) (by omega) b5
      have ok2 : okS τ m L P (setT S t (fun i => if i = k then mt τ (f k) (s.2 k) else f i)) := fun i hi q' hq' => by
        have hq'' : S.1 i = some q' := hq'
        show q' ≤ P ∧ ∀ k', k' < L + q' → vT _ ((if i = t then (fun i => if i = k then mt τ (f k) (s.2 k) else f i) else S.2.1 i) k')
        by_cases z : i = t
        · subst z
          rw [eS] at hq''; cases hq''
          rw [if_pos rfl]
          refine ⟨ot.1, fun k' hk' => ?_⟩
          show vT _ (if k' = k then mt τ (f k) (s.2 k) else f k')
          by_cases y : k' = k
          · rw [if_pos y]; exact vm
          · rw [if_neg y]; exact ot.2 k' hk'
        · have := ok i hi q' hq'
          have e9 : (setT S t f).2.1 i = S.2.1 i := by show (if i = t then f else S.2.1 i) = _; rw [if_neg z]
          rw [e9] at this
          rw [if_neg z]; exact this
      have B2 : MBv u (u2 (u2 τb 26 t v) 25 (12 * (200 * m + t) + k) (mt τ (f k) (s.2 k))) m L P := (B.u2 (by omega) (by omega) (by omega)).u2 (by omega) (by omega) (by omega)
      obtain ⟨b, h', τ', e', f', M', B', p', R⟩ := ih (k + 1) n (ch || !(decide (mt τ (f k) (s.2 k) = f k))) (fun i => if i = k then mt τ (f k) (s.2 k) else f i) _ h2 (by omega) (by omega) M2 ok2 B2 (fun i hi => by
        rw [u2_at, if_neg (by omega), u2_at]
        by_cases z : i = t
        · rw [if_pos ⟨rfl, z⟩, if_pos z, ev, Bool.or_assoc]
        · rw [if_neg (fun y => z y.2), if_neg z, K i hi, if_neg z]) ⟨g, q2, by rw [u2_at, if_neg (by omega), u2_at, if_neg (by omega), z00]; exact okr, ag⟩
      refine ⟨b, h', τ', ?_, (f1.tr f2).tr f', M', B', p', ?_⟩
      · unfold fX9_come_b216
        rw [t1, obs, gRM25 q1, obs, lin1, t2, obs, nI_1]; exact e'
      · rcases R with R | ⟨c, R1, R2, R3, R4⟩
        · exact Or.inl R
        · exact Or.inr ⟨c, R1, R2, by rw [R3, u2_at, if_neg (by omega), u2_at, if_neg (by omega)], R4⟩
end
