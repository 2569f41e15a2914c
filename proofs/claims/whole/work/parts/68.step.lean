section
variable {τ τb : Nat → Nat → Int32} {m L P lk r : Nat} {h : zH} {S : VS}
/-- behind the handlers -/
def stepEnd (N r : Nat) (m i at' : Int32) (h : zH) : Option (Int32 × zH) := (rc 9 (some r) h).bind fun _ =>
    (fX9_takeUp N (some r) m i h).bind fun h4 =>
    (gR 9 15 (some r) h4).bind fun v5 =>
    (aI 100 v5 at' h4).bind fun v6 =>
    (gR 9 16 (some r) h4).bind fun v7 =>
    (aI 100 v7 at' h4).bind fun v8 =>
    (gR 9 17 (some r) h4).bind fun v9 =>
    (aI 100 v9 at' h4).bind fun v10 =>
    (rc 9 (some r) h4).bind fun _ =>
    (fX9_fits N (some r) m v6 v8 v10 h4).bind fun q11 =>
    if q11.1 = 0 then (some (0, q11.2))
    else (if v6 = 25 then (fX9_step_b176 N (some r) m i at' v6 q11.2)
      else (if v6 = 37 then (fX9_step_b176 N (some r) m i at' v6 q11.2)
        else (if v6 = 38 then (fX9_step_b176 N (some r) m i at' v6 q11.2)
          else (if v6 = 39 then (fX9_step_b176 N (some r) m i at' v6 q11.2)
            else (fX9_step_b181 N (some r) m i at' v6 0 q11.2)))))
theorem MKM.TT {g : Nat → Int32} {t : Int32} (K : MKM τ m S τb) : MKM τ m S (TT τb g t) := fun i hi => by rw [TTo (by omega) (by omega)]; exact K i hi
theorem MKM.u2 {c j : Nat} {v : Int32} (K : MKM τ m S τb) (hc : c ≠ 26) : MKM τ m S (u2 τb c j v) := fun i hi => by rw [u2_at, if_neg (fun q => hc q.1.symm)]; exact K i hi
theorem hndM (N : Nat) (hN : 40 ≤ N) (w : WF τ) (hm : m < cn (τ 6 0)) (hL : τ 9 m = nI L) (hP : τ 10 m = nI P) (hb : L + P ≤ 12) {i q : Nat} (hi : i < cn (τ 14 m)) (d : Nat) : ∀ (k n : Nat) (S : VS) (τb : Nat → Nat → Int32) (h : zH), k + d = cn (τ 18 m) → d < n → RM τb r h → MS τ m L P lk S τb → okS τ m L P S → MKM τ m S τb → S.1 i = some q → τb 31 0 = nI i →
    (∃ h' τ', (hndS τ L P m i d k S).2 = none ∧ fX9_step_b22 N n (some r) (nI m) (nI i) (nI (200 * m + i)) (nI (8 * m + k)) h = stepEnd N r (nI m) (nI i) (nI (200 * m + i)) h' ∧ Mfr r h h' ∧ RM τ' r h' ∧ MS τ m L P lk (hndS τ L P m i d k S).1 τ' ∧ okS τ m L P (hndS τ L P m i d k S).1 ∧ MKM τ m (hndS τ L P m i d k S).1 τ' ∧ τ' 31 0 = nI i) ∨
    (∃ e h' τ', (hndS τ L P m i d k S).2 = some e ∧ fX9_step_b22 N n (some r) (nI m) (nI i) (nI (200 * m + i)) (nI (8 * m + k)) h = some (0, h') ∧ Mfr r h h' ∧ RM τ' r h' ∧ MS τ m L P lk (hndS τ L P m i d k S).1 τ' ∧ okS τ m L P (hndS τ L P m i d k S).1 ∧ τ' 31 0 = nI e) := by
  have h64 := w.2.1.2
  have h32 := w.1.2
  have h200 := (w.2.2.2.1 m hm).2.2.2.2.2.2.2.1.2
  have w9 := (w.2.2.2.1 m hm).2.2.2.2.2.2.2.2.1
  have w11 := (w.2.2.2.1 m hm).2.2.2.2.2.2.2.2.2.2.1
  induction d with
  | zero =>
    intro k n S τb h hk hn p M ok K eS e31
    obtain ⟨n, rfl⟩ : ∃ m, n = m + 1 := ⟨n - 1, by omega⟩
    have l18 : aI 100 (some (r + 17)) (nI m) h = some (nI (cn (τ 18 m))) := by
      have := aM18 p (i := m) (by omega); rw [M.1 18 m (by omega), nI_of_cn w9.1] at this; exact this
    have lin1 : (8 : Int32) * nI m + nI (cn (τ 18 m)) = nI (8 * m + cn (τ 18 m)) := lin trivial
    refine Or.inl ⟨h, τb, rfl, ?_, Mfr.rf, p, M, ok, K, e31⟩
    rw [fX9_step_b22, gRM18 p, obs, l18, obs, lin1, if_pos (nI_le (by omega) (by omega))]
    rfl
  | succ d ih =>
    intro k n S τb h hk hn p M ok K eS e31
    obtain ⟨n, rfl⟩ : ∃ m, n = m + 1 := ⟨n - 1, by omega⟩
    have l18 : aI 100 (some (r + 17)) (nI m) h = some (nI (cn (τ 18 m))) := by
      have := aM18 p (i := m) (by omega); rw [M.1 18 m (by omega), nI_of_cn w9.1] at this; exact this
    have lin1 : (8 : Int32) * nI m + nI (cn (τ 18 m)) = nI (8 * m + cn (τ 18 m)) := lin trivial
    have l19 : aI 100 (some (r + 18)) (nI (8 * m + k)) h = some (τ 19 (8 * m + k)) := by
      have := aM19 p (i := 8 * m + k) (by omega); rw [M.1 19 _ (by omega)] at this; exact this
    have l20 : aI 100 (some (r + 19)) (nI (8 * m + k)) h = some (τ 20 (8 * m + k)) := by
      have := aM20 p (i := 8 * m + k) (by omega); rw [M.1 20 _ (by omega)] at this; exact this
    obtain ⟨⟨kc, hkc, ekc⟩, pl, hpl, epl⟩ := w11 k (by omega)
    have E0 : fX9_step_b22 N (n + 1) (some r) (nI m) (nI i) (nI (200 * m + i)) (nI (8 * m + k)) h = if cov τ (8 * m + k) i = true then ((fX9_takeUp N (some r) (nI m) (nI i) h).bind fun h23 => (pI 9 29 (some r) 0 h23).bind fun h24 => (gR 9 21 (some r) h24).bind fun v25 => (aI 100 v25 (nI (8 * m + k)) h24).bind fun v26 => (rc 9 (some r) h24).bind fun _ => (fX9_push (some r) (1 + v26) h24).bind fun q27 => if q27.1 = 0 then (some (0, q27.2)) else ((gR 9 22 (some r) q27.2).bind fun v29 => (aI 100 v29 (nI (8 * m + k)) q27.2).bind fun v30 => (rc 9 (some r) q27.2).bind fun _ => (fX9_come N (some r) (nI m) v30 q27.2).bind fun q31 => if q31.1 = 0 then (some (0, q31.2)) else fX9_step_b22 N n (some r) (nI m) (nI i) (nI (200 * m + i)) (nI (8 * m + (k + 1))) q31.2)) else fX9_step_b22 N n (some r) (nI m) (nI i) (nI (200 * m + i)) (nI (8 * m + (k + 1))) h := by
      rw [fX9_step_b22, gRM18 p, obs, l18, obs, lin1, if_neg (nI_ge (by omega) (by omega)), gRM19 p, obs, l19, obs]
      unfold fX9_step_b104 cov
      rw [nI_1]
      by_cases z1 : nI i < τ 19 (8 * m + k)
      · rw [if_pos z1, decide_eq_true z1]; rfl
      · rw [if_neg z1, decide_eq_false z1, gRM20 p, obs, l20, obs]
        by_cases z2 : τ 20 (8 * m + k) ≤ nI i
        · rw [if_pos z2, decide_eq_true z2]; rfl
        · rw [if_neg z2, decide_eq_false z2, rcM p, obs]; rfl
    rw [E0, hndS]
    cases ec : cov τ (8 * m + k) i
    · rw [if_neg (show ¬ (false = true) by decide), if_neg (show ¬ (false = true) by decide)]
      exact ih (k + 1) n S τb h (by omega) (by omega) p M ok K eS e31
    · rw [if_pos rfl, if_pos rfl]
      obtain ⟨h1, e1, f1, g1, M1, B1⟩ := takeUpM N hN w hm hL hP hb M ok p hi eS
      obtain ⟨g, q1, okr, ag⟩ := g1
      obtain ⟨h2, t2, q2, f2⟩ := eS29 q1 0
      have q2 := TT_s29 q2
      have z00 : u2 τb 30 0 (nI m) 0 0 = τ 0 0 := M1.1 0 0 (by omega)
      have g2 : GM r (u2 τb 30 0 (nI m)) L P (0, S.2.1 i) h2 := ⟨g, q2, ⟨Nat.zero_le _, fun j hj => okr.2 j (by simp only at hj ⊢; omega)⟩, fun j hj => ag j (by simp only at hj ⊢; omega)⟩
      have l21 : aI 100 (some (r + 20)) (nI (8 * m + k)) h2 = some (τ 21 (8 * m + k)) := by
        have := aM21 q2 (i := 8 * m + k) (by omega); rw [TTo (by omega) (by omega), M1.1 21 _ (by omega)] at this; exact this
      obtain ⟨b3, h3, e3, f3, c3⟩ := pushM B1 g2 (v := 1 + τ 21 (8 * m + k)) (by rw [ekc, z00]; exact vT1 hkc)
      rw [e1, obs, t2, obs, gRM21 q2, obs, l21, obs, g2.c, obs, e3, obs]
      have K1 : MKM τ m S (u2 τb 30 0 (nI m)) := K.u2 (by decide)
      have e31' : u2 τb 30 0 (nI m) 31 0 = nI i := by rw [u2_at, if_neg (by omega)]; exact e31
      rcases c3 with ⟨s, ep, rfl, g3⟩ | ⟨ep, rfl, bb⟩
      · rw [ep, if_neg n10]
        dsimp only
        obtain ⟨g', q3, okr3, ag3⟩ := id g3
        have l22 : aI 100 (some (r + 21)) (nI (8 * m + k)) h3 = some (nI pl) := by
          have := aM22 q3 (i := 8 * m + k) (by omega); rw [TTo (by omega) (by omega), M1.1 22 _ (by omega), epl] at this; exact this
        obtain ⟨b4, h4, τ4, e4, f4, M4, B4, g4, R⟩ := comeM N hN w hm hP M1 ok B1 K1 g3 (t := pl) (fr := i) (by omega) e31'
        rw [z00] at okr3
        have ok4 := comeS_ok w (fr := i) (t := pl) ok okr3
        have eS4 := comeS_hi (τ := τ) (L := L) (sz := cn (τ 14 m)) (fr := i) (t := pl) (r := s) eS
        rw [gRM22 q3, obs, l22, obs, g3.c, obs, e4, obs, epl, show cn (nI pl) = pl from cn_nI (by omega)]
        obtain ⟨g4', q4, okr4, ag4⟩ := g4
        have fA := ((f1.tr f2).tr f3).tr f4
        rcases R with ⟨R1, rfl, R3, R4⟩ | ⟨e, R1, rfl, R3⟩
        · rw [R1, if_neg n10]
          dsimp only
          rcases ih (k + 1) n _ (TT τ4 g4' (nI s.1)) h4 (by omega) (by omega) q4 M4.TT ok4 R3.TT eS4 (by rw [TTo (by omega) (by omega)]; exact R4) with ⟨h', τ', a1, a2, a3, a4⟩ | ⟨e, h', τ', a1, a2, a3, a4⟩
          · exact Or.inl ⟨h', τ', a1, a2, fA.tr a3, a4⟩
          · exact Or.inr ⟨e, h', τ', a1, a2, fA.tr a3, a4⟩
        · rw [R1, if_pos rfl]
          exact Or.inr ⟨e, h4, TT τ4 g4' (nI s.1), rfl, rfl, fA, q4, M4.TT, ok4, by rw [TTo (by omega) (by omega)]; exact R3⟩
      · rw [ep, if_pos rfl]
        obtain ⟨g', t', q3⟩ := bb
        exact Or.inr ⟨i, h3, TT (u2 τb 30 0 (nI m)) g' t', rfl, rfl, (f1.tr f2).tr f3, q3, M1.TT, ok, by rw [TTo (by omega) (by omega)]; exact e31'⟩
theorem stepM (N : Nat) (hN : 40 ≤ N) (w : WF τ) (hm : m < cn (τ 6 0)) (hL : τ 9 m = nI L) (hP : τ 10 m = nI P) (hb : L + P ≤ 12) {i q : Nat} (hi : i < cn (τ 14 m)) (p : RM τb r h) (M : MS τ m L P lk (unmark S i) τb) (ok : okS τ m L P S) (K : MKM τ m (unmark S i) τb) (eS : S.1 i = some q) (e31 : τb 31 0 = nI i) :
    ∃ b h' τ', fX9_step N (some r) (nI m) (nI i) h = some (b, h') ∧ Mfr r h h' ∧ RM τ' r h' ∧ MS τ m L P lk (lookS τ L P m i S).1 τ' ∧ okS τ m L P (lookS τ L P m i S).1 ∧ (((lookS τ L P m i S).2 = none ∧ b = 1 ∧ MKM τ m (lookS τ L P m i S).1 τ') ∨ ∃ e, (lookS τ L P m i S).2 = some e ∧ b = 0 ∧ τ' 31 0 = nI e) := by
  have h64 := w.2.1.2
  have h32 := w.1.2
  have h200 := (w.2.2.2.1 m hm).2.2.2.2.2.2.2.1.2
  have w9 := (w.2.2.2.1 m hm).2.2.2.2.2.2.2.2.1
  obtain ⟨o, ho, eo, q1, -, -, -, -, -, q7⟩ := (w.2.2.2.1 m hm).2.2.2.2.2.2.2.2.2.1 i hi
  have co : cn (τ 15 (200 * m + i)) = o := by rw [eo]; exact cn_nI (by omega)
  have eSB : (unmark S i).1 i = some q := eS
  have okB : okS τ m L P (unmark S i) := ok
  have l9 : aI 100 (some (r + 8)) (nI m) h = some (τ 9 m) := by
    have := aM9 p (i := m) (by omega); rw [M.1 9 m (by omega)] at this; exact this
  have E0 : fX9_step N (some r) (nI m) (nI i) h = fX9_step_b22 N N (some r) (nI m) (nI i) (nI (200 * m + i)) (nI (8 * m + 0)) h := by
    unfold fX9_step
    rw [gRM9 p, obs, l9, obs, show (200 : Int32) * nI m + nI i = nI (200 * m + i) from lin trivial, show (8 : Int32) * nI m = nI (8 * m + 0) from pk_mul 8 m]
  rw [E0]
  unfold lookS
  have HH := hndM N hN w hm hL hP hb hi (cn (τ 18 m)) 0 N (unmark S i) τb h (by omega) (by omega) p M okB K eSB e31
  have eS6 := hndS_hi (τ := τ) (L := L) (P := P) (m := m) (i := i) (cn (τ 18 m)) 0 (unmark S i) eSB
  generalize hndS τ L P m i (cn (τ 18 m)) 0 (unmark S i) = H at *
  rcases HH with ⟨h1, τ1, eH, e1, f1, p1, M1, ok1, K1, w1⟩ | ⟨e, h1, τ1, eH, e1, f1, p1, M1, ok1, w1⟩
  · rw [eH]
    dsimp only
    have hget : (H.1.1 i).getD 0 = q := by rw [eS6]; rfl
    rw [e1, hget]
    obtain ⟨h2, e2, f2, g2, M2, B2⟩ := takeUpM N hN w hm hL hP hb M1 ok1 p1 hi eS6
    obtain ⟨g, q2, okr, ag⟩ := id g2
    have K2 : MKM τ m H.1 (u2 τ1 30 0 (nI m)) := K1.u2 (by decide)
    have w2 : u2 τ1 30 0 (nI m) 31 0 = nI i := by rw [u2_at, if_neg (by omega)]; exact w1
    generalize u2 τ1 30 0 (nI m) = τ2 at *
    have lop : ∀ c, c < 23 → TT τ2 g (nI q) c (200 * m + i) = τ c (200 * m + i) := fun c hc => by rw [TTo (by omega) (by omega)]; exact M2.1 c _ (by omega)
    have l15 : aI 100 (some (r + 14)) (nI (200 * m + i)) h2 = some (nI o) := by
      have := aM15 q2 (i := 200 * m + i) (by omega); rw [lop 15 (by omega), eo] at this; exact this
    have l16 : aI 100 (some (r + 15)) (nI (200 * m + i)) h2 = some (τ 16 (200 * m + i)) := by
      have := aM16 q2 (i := 200 * m + i) (by omega); rw [lop 16 (by omega)] at this; exact this
    have l17 : aI 100 (some (r + 16)) (nI (200 * m + i)) h2 = some (τ 17 (200 * m + i)) := by
      have := aM17 q2 (i := 200 * m + i) (by omega); rw [lop 17 (by omega)] at this; exact this
    have wf2 : WF τ2 := M2.WF w hm hP (by omega)
    obtain ⟨b3, h3, e3, f3, c3⟩ := fitsM N hN wf2 B2 (by rw [M2.1 9 m (by omega), hL, cn_nI (by omega)]) (by rw [M2.1 6 0 (by omega)]; exact hm) g2 (i := i) (by rw [M2.1 14 m (by omega)]; exact hi)
    rw [M2.1 15 _ (by omega), M2.1 16 _ (by omega), M2.1 17 _ (by omega), fitS_T (fun c i hc => M2.1 c i (by omega))] at c3
    rw [M2.1 15 _ (by omega), M2.1 16 _ (by omega), M2.1 17 _ (by omega), eo] at e3
    have z00 : τ2 0 0 = τ 0 0 := M2.1 0 0 (by omega)
    unfold stepEnd
    rw [rcM p1, obs, e2, obs, gRM15 q2, obs, l15, obs, gRM16 q2, obs, l16, obs, gRM17 q2, obs, l17, obs, g2.c, obs, e3, obs]
    have fA := (f1.tr f2).tr f3
    rcases c3 with ⟨s, ep, rfl, g3⟩ | ⟨ep, rfl, bb⟩
    · rw [ep, if_neg n10]
      dsimp only
      obtain ⟨g', q3, okr3, ag3⟩ := id g3
      rw [z00] at okr3
      -- the jump
      have J : ∀ (S2 : VS) (τ3 : Nat → Nat → Int32) (h3 : zH), MS τ m L P lk S2 τ3 → okS τ m L P S2 → MB τ3 m L P → MKM τ m S2 τ3 → GM r τ3 L P s h3 → τ3 31 0 = nI i → Mfr r h h3 → ∃ b h' τ', fX9_step_b199 N (some r) (nI m) (nI (200 * m + i)) (nI o) h3 = some (b, h') ∧ Mfr r h h' ∧ RM τ' r h' ∧ MS τ m L P lk (jmpS τ L m i s S2).1 τ' ∧ okS τ m L P (jmpS τ L m i s S2).1 ∧ (((jmpS τ L m i s S2).2 = none ∧ b = 1 ∧ MKM τ m (jmpS τ L m i s S2).1 τ') ∨ ∃ e, (jmpS τ L m i s S2).2 = some e ∧ b = 0 ∧ τ' 31 0 = nI e) := by
        intro S2 τ3 h3 M3 ok3 B3 K3 g3 w3 fr3
        obtain ⟨g', q3, -, -⟩ := id g3
        unfold fX9_step_b199 fX9_step_b227 jmpS
        rw [co]
        by_cases hj : 19 ≤ o ∧ o ≤ 25
        · have l16 : aI 100 (some (r + 15)) (nI (200 * m + i)) h3 = some (τ 16 (200 * m + i)) := by
            have := aM16 q3 (i := 200 * m + i) (by omega); rw [TTo (by omega) (by omega), M3.1 16 _ (by omega)] at this; exact this
          obtain ⟨t, ht200, et⟩ := q7 hj.1 hj.2
          obtain ⟨b4, h4, τ4, e4, f4, M4, B4, g4, R⟩ := comeM N hN w hm hP M3 ok3 B3 K3 g3 (t := t) (fr := i) (by omega) w3
          obtain ⟨g4', q4, -, -⟩ := g4
          rw [if_pos hj, if_neg (show ¬ nI o < 19 from @nI_nlt o 19 (by omega) (by omega)), if_neg (show ¬ 25 < nI o from @nI_nlt 25 o (by omega) (by omega)), gRM16 q3, obs, l16, obs, rcM q3, obs, et, e4, obs, show cn (nI t) = t from cn_nI (by omega)]
          have ok4 := comeS_ok w (fr := i) (t := t) ok3 okr3
          rcases R with ⟨R1, rfl, R3, R4⟩ | ⟨e, R1, rfl, R3⟩
          · exact ⟨1, h4, TT τ4 g4' (nI s.1), by rw [if_neg n10], fr3.tr f4, q4, M4.TT, ok4, Or.inl ⟨R1, rfl, R3.TT⟩⟩
          · exact ⟨0, h4, TT τ4 g4' (nI s.1), by rw [if_pos rfl], fr3.tr f4, q4, M4.TT, ok4, Or.inr ⟨e, R1, rfl, by rw [TTo (by omega) (by omega)]; exact R3⟩⟩
        · rw [if_neg hj]
          refine ⟨1, h3, TT τ3 g' (nI s.1), ?_, fr3, q3, M3.TT, ok3, Or.inl ⟨rfl, rfl, K3.TT⟩⟩
          by_cases z : o < 19
          · rw [if_pos (show nI o < 19 from @nI_lt o 19 z (by omega))]
          · rw [if_neg (show ¬ nI o < 19 from @nI_nlt o 19 (by omega) (by omega)), if_pos (show 25 < nI o from @nI_lt 25 o (by omega) (by omega))]
      have eqk : ∀ k : Nat, k < 100 → (nI o = nI k ↔ o = k) := fun k hk => nI_eq (by omega) (by omega)
      have E5 : (if nI o = 25 then (fX9_step_b176 N (some r) (nI m) (nI i) (nI (200 * m + i)) (nI o) h3) else (if nI o = 37 then (fX9_step_b176 N (some r) (nI m) (nI i) (nI (200 * m + i)) (nI o) h3) else (if nI o = 38 then (fX9_step_b176 N (some r) (nI m) (nI i) (nI (200 * m + i)) (nI o) h3) else (if nI o = 39 then (fX9_step_b176 N (some r) (nI m) (nI i) (nI (200 * m + i)) (nI o) h3) else (fX9_step_b181 N (some r) (nI m) (nI i) (nI (200 * m + i)) (nI o) 0 h3))))) = if o = 25 ∨ o = 37 ∨ o = 38 ∨ o = 39 then fX9_step_b199 N (some r) (nI m) (nI (200 * m + i)) (nI o) h3 else fX9_step_b181 N (some r) (nI m) (nI i) (nI (200 * m + i)) (nI o) 0 h3 := by
        have b176 : fX9_step_b176 N (some r) (nI m) (nI i) (nI (200 * m + i)) (nI o) h3 = fX9_step_b199 N (some r) (nI m) (nI (200 * m + i)) (nI o) h3 := by
          unfold fX9_step_b176 fX9_step_b181; rw [if_neg n10]
        rw [b176]
        by_cases z1 : o = 25
        · rw [if_pos (show nI o = 25 from (eqk 25 (by omega)).mpr z1), if_pos (Or.inl z1)]
        · rw [if_neg (show ¬ nI o = 25 from fun q => z1 ((eqk 25 (by omega)).mp q))]
          by_cases z2 : o = 37
          · rw [if_pos (show nI o = 37 from (eqk 37 (by omega)).mpr z2), if_pos (by omega)]
          · rw [if_neg (show ¬ nI o = 37 from fun q => z2 ((eqk 37 (by omega)).mp q))]
            by_cases z3 : o = 38
            · rw [if_pos (show nI o = 38 from (eqk 38 (by omega)).mpr z3), if_pos (by omega)]
            · rw [if_neg (show ¬ nI o = 38 from fun q => z3 ((eqk 38 (by omega)).mp q))]
              by_cases z4 : o = 39
              · rw [if_pos (show nI o = 39 from (eqk 39 (by omega)).mpr z4), if_pos (by omega)]
              · rw [if_neg (show ¬ nI o = 39 from fun q => z4 ((eqk 39 (by omega)).mp q)), if_neg (by omega)]
      rw [E5]
      unfold onS
      rw [co]
      by_cases he : o = 25 ∨ o = 37 ∨ o = 38 ∨ o = 39
      · rw [if_pos he, if_pos he]
        exact J H.1 τ2 h3 M2 ok1 B2 K2 g3 w2 fA
      · rw [if_neg he, if_neg he]
        unfold fX9_step_b181
        obtain ⟨b4, h4, τ4, e4, f4, M4, B4, g4, R⟩ := comeM N hN w hm hP M2 ok1 B2 K2 g3 (t := i + 1) (fr := i) (by omega) w2
        have ok4 := comeS_ok w (fr := i) (t := i + 1) ok1 okr3
        rw [if_pos rfl, g3.c, obs, nI_1, e4, obs]
        rcases R with ⟨R1, rfl, R3, R4⟩ | ⟨e, R1, rfl, R3⟩
        · rw [R1, if_neg n10]
          exact J _ τ4 h4 M4 ok4 B4 R3 g4 R4 (fA.tr f4)
        · rw [R1, if_pos rfl]
          obtain ⟨g4', q4, -, -⟩ := g4
          exact ⟨0, h4, TT τ4 g4' (nI s.1), rfl, fA.tr f4, q4, M4.TT, ok4, Or.inr ⟨e, rfl, rfl, by rw [TTo (by omega) (by omega)]; exact R3⟩⟩
    · rw [ep, if_pos rfl]
      obtain ⟨g', t', q3⟩ := bb
      exact ⟨0, h3, TT τ2 g' t', rfl, fA, q3, M2.TT, ok1, Or.inr ⟨i, rfl, rfl, by rw [TTo (by omega) (by omega)]; exact w2⟩⟩
  · rw [eH]
    exact ⟨0, h1, τ1, e1, f1, p1, M1, ok1, Or.inr ⟨e, rfl, rfl, w1⟩⟩
end
