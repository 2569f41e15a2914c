section
variable {τ : Nat → Nat → Int32} {r m L P : Nat} {h : zH} {s : Row}
theorem MO.z {o : Option Row} {b : Int32} {h' : zH} (c : MO r τ L P o b h') : rZ b h' = some (b, h') := by
  rcases c with ⟨s, -, rfl, -⟩ | ⟨-, rfl, -⟩
  · rfl
  · rfl
theorem MO.f {o : Option Row} {b : Int32} {h' : zH} (c : MO r τ L P o b h') : (if b = 0 then some ((0 : Int32), h') else some (1, h')) = some (b, h') := by
  rcases c with ⟨s, -, rfl, -⟩ | ⟨-, rfl, -⟩
  · rfl
  · rfl
theorem isRwM (t : Int32) : fX9_isRow t h = some (if isRw t then 1 else 0, h) := by
  unfold fX9_isRow isRw
  by_cases h1 : t < 64
  · rw [if_pos h1, decide_eq_false (fun q => q h1)]; rfl
  · rw [if_neg h1, decide_eq_true h1]
    by_cases h2 : 96 < t
    · rw [if_pos h2, decide_eq_false (fun q => q h2)]; rfl
    · rw [if_neg h2, decide_eq_true h2]; rfl
theorem pp_bind {L : Nat} {s : Row} {q : Int32 × Row} (ep : pp L s = some q) {α : Type} (f : Int32 × Row → Option α) : (pp L s).bind f = f q := by rw [ep]; rfl
theorem placesM (hn : cn (τ 0 0) ≤ 32) (B : MB τ m L P) (p : GM r τ L P s h) {o : Nat} (h2 : 2 ≤ o) (h6 : o ≤ 6) {X Y : Int32} (hx : o = 2 ∨ o = 3 → ∃ k, k < L ∧ X = nI k) : ∃ b h', fX9_places (some r) (nI m) (nI o) X h = some (b, h') ∧ Mfr r h h' ∧ MO r τ L P (fitS τ L P m o X Y s) b h' := by
  obtain ⟨b1, b2, b3, b4, b5⟩ := id B
  unfold fX9_places
  rcases (show o = 2 ∨ o = 3 ∨ o = 4 ∨ o = 5 ∨ o = 6 by omega) with rfl | rfl | rfl | rfl | rfl
  · obtain ⟨k, hk, rfl⟩ := hx (Or.inl rfl)
    obtain ⟨g, q, ok, ag⟩ := id p
    have l28 : aI 100 (some (r + 26)) (nI k) h = some (s.2 k) := by
      have := aM28 q (i := k) (by omega); rw [TT28, ag _ (by omega)] at this; exact this
    have hv : vT (cn (τ 0 0)) (s.2 k) := ok.2 k (by omega)
    rw [if_pos (by decide), gRM28 q, obs, l28, obs]
    have E : fitS τ L P m 2 (nI k) Y s = if s.2 k = 99 then none else psh L P (s.2 k) s := by
      show (if s.2 (cn (nI k)) = 99 then none else psh L P (s.2 (cn (nI k))) s) = _
      rw [cn_nI (by omega)]
    rw [E]
    by_cases z : s.2 k = 99
    · exact ⟨0, h, by rw [if_pos z], Mfr.rf, by rw [if_pos z]; exact Or.inr ⟨rfl, rfl, p.b⟩⟩
    · obtain ⟨b, h1, e1, f1, c1⟩ := pushM B p hv
      refine ⟨b, h1, ?_, f1, by rw [if_neg z]; exact c1⟩
      rw [if_neg z, obs, l28, obs, p.c, obs, e1, obs]; exact c1.f
  · obtain ⟨k, hk, rfl⟩ := hx (Or.inr rfl)
    obtain ⟨v, h1, e1, f1, c1⟩ := popM B p
    rw [if_neg (by decide), if_pos (by decide), p.c, obs, e1, obs]
    have E : fitS τ L P m 3 (nI k) Y s = (pp L s).bind fun q => some (q.2.1, fun i => if i = k then q.1 else q.2.2 i) := by
      show ((pp L s).bind fun q => some (q.2.1, fun i => if i = cn (nI k) then q.1 else q.2.2 i)) = _
      rw [cn_nI (by omega)]
    rw [E]
    unfold fX9_places_b94
    rcases c1 with ⟨q, ep, rfl, hv, g1⟩ | ⟨ep, rfl, bb⟩
    · obtain ⟨g, q1, ok, ag⟩ := id g1
      have ne := vT_ne hn hv
      obtain ⟨h2, t2, q2, f2⟩ := eM28 q1 (i := k) (by omega) q.1
      refine ⟨1, h2, by rw [gRM28 q1, obs, if_neg ne, t2, obs, if_neg ne], f1.tr f2, Or.inl ⟨_, pp_bind ep _, rfl, _, TT_s28 q2, ⟨ok.1, fun i hi => ?_⟩, fun i hi => ?_⟩⟩
      · show vT _ (if i = k then q.1 else q.2.2 i)
        by_cases z : i = k
        · rw [if_pos z]; exact hv
        · rw [if_neg z]; exact ok.2 i hi
      · show (if i = k then q.1 else g i) = if i = k then q.1 else q.2.2 i
        by_cases z : i = k
        · rw [if_pos z, if_pos z]
        · rw [if_neg z, if_neg z]; exact ag i hi
    · obtain ⟨g, t, q1⟩ := id bb
      have l28 : aI 100 (some (r + 26)) (nI k) h1 = some (g k) := aM28 q1 (i := k) (by omega)
      obtain ⟨h2, t2, q2, f2⟩ := eM28 q1 (i := k) (by omega) (g k)
      refine ⟨0, h2, by rw [gRM28 q1, obs, if_pos rfl, obs, l28, obs, t2, obs, if_pos rfl], f1.tr f2, Or.inr ⟨by rw [ep]; rfl, rfl, _, _, TT_s28 q2⟩⟩
  · obtain ⟨v, h1, e1, f1, c1⟩ := popM B p
    rw [if_neg (by decide), if_neg (by decide), if_pos (by decide), p.c, obs, e1, obs]
    show ∃ b h', _ ∧ _ ∧ MO r τ L P ((pp L s).bind fun q => some q.2) b h'
    rcases c1 with ⟨q, ep, rfl, hv, g1⟩ | ⟨ep, rfl, bb⟩
    · exact ⟨1, h1, by rw [if_neg (vT_ne hn hv)], f1, Or.inl ⟨q.2, pp_bind ep _, rfl, g1⟩⟩
    · exact ⟨0, h1, by rw [if_pos rfl], f1, Or.inr ⟨by rw [ep]; rfl, rfl, bb⟩⟩
  · obtain ⟨v, h1, e1, f1, c1⟩ := popM B p
    rw [if_neg (by decide), if_neg (by decide), if_neg (by decide), if_pos (by decide), p.c, obs, e1, obs]
    show ∃ b h', _ ∧ _ ∧ MO r τ L P ((pp L s).bind fun q => (psh L P q.1 q.2).bind (psh L P q.1)) b h'
    rcases c1 with ⟨q, ep, rfl, hv, g1⟩ | ⟨ep, rfl, bb⟩
    · obtain ⟨b2, h2, e2, f2, c2⟩ := pushM B g1 hv
      rw [if_neg (vT_ne hn hv), g1.c, obs, e2, obs, pp_bind ep]
      rcases c2 with ⟨s2, ep2, rfl, g2⟩ | ⟨ep2, rfl, bb⟩
      · obtain ⟨b3, h3, e3, f3, c3⟩ := pushM B g2 hv
        exact ⟨b3, h3, by rw [if_neg n10, g2.c, obs, e3, obs]; exact c3.f, (f1.tr f2).tr f3, by rw [ep2]; exact c3⟩
      · exact ⟨0, h2, by rw [if_pos rfl], f1.tr f2, Or.inr ⟨by rw [ep2]; rfl, rfl, bb⟩⟩
    · exact ⟨0, h1, by rw [if_pos rfl], f1, Or.inr ⟨by rw [ep]; rfl, rfl, bb⟩⟩
  · obtain ⟨v, h1, e1, f1, c1⟩ := popM B p
    rw [if_neg (by decide), if_neg (by decide), if_neg (by decide), if_neg (by decide), p.c, obs, e1, obs]
    show ∃ b h', _ ∧ _ ∧ MO r τ L P ((pp L s).bind fun q => (pp L q.2).bind fun s => (psh L P q.1 s.2).bind (psh L P s.1)) b h'
    unfold fX9_places_b177
    rcases c1 with ⟨q, ep, rfl, hv, g1⟩ | ⟨ep, rfl, bb⟩
    · obtain ⟨v2, h2, e2, f2, c2⟩ := popM B g1
      rw [if_neg (vT_ne hn hv), g1.c, obs, e2, obs, pp_bind ep]
      rcases c2 with ⟨q2, ep2, rfl, hv2, g2⟩ | ⟨ep2, rfl, bb⟩
      · obtain ⟨b3, h3, e3, f3, c3⟩ := pushM B g2 hv
        rw [if_neg (vT_ne hn hv2), g2.c, obs, e3, obs, pp_bind ep2]
        rcases c3 with ⟨s3, ep3, rfl, g3⟩ | ⟨ep3, rfl, bb⟩
        · obtain ⟨b4, h4, e4, f4, c4⟩ := pushM B g3 hv2
          exact ⟨b4, h4, by rw [if_neg n10, g3.c, obs, e4, obs]; exact c4.f, ((f1.tr f2).tr f3).tr f4, by rw [ep3]; exact c4⟩
        · exact ⟨0, h3, by rw [if_pos rfl], (f1.tr f2).tr f3, Or.inr ⟨by rw [ep3]; rfl, rfl, bb⟩⟩
      · exact ⟨0, h2, by rw [if_pos rfl], f1.tr f2, Or.inr ⟨by rw [ep2]; rfl, rfl, bb⟩⟩
    · exact ⟨0, h1, by rw [if_pos rfl, if_pos rfl], f1, Or.inr ⟨by rw [ep]; rfl, rfl, bb⟩⟩
theorem rowsM (N : Nat) (hN : 40 ≤ N) (w : WF τ) (B : MB τ m L P) (p : GM r τ L P s h) {o : Nat} (h2 : 31 ≤ o) (h6 : o ≤ 34) {X Y : Int32} (hx : o = 31 → ∃ c, c ≤ cn (τ 0 0) ∧ X = nI c) : ∃ b h', fX9_rows N (some r) (nI o) X h = some (b, h') ∧ Mfr r h h' ∧ MO r τ L P (fitS τ L P m o X Y s) b h' := by
  have hn := w.1.2
  unfold fX9_rows
  -- the row itself: for 32 and 33
  have R : ∀ (o : Nat) (s : Row) (h : zH), o = 32 ∨ o = 33 → GM r τ L P s h → ∃ b h', fX9_rows_b125 N (some r) (nI o) h = some (b, h') ∧ Mfr r h h' ∧ MO r τ L P ((prw L s).bind fun q => psh L P (if o = 32 then 0 else if q.1 = 97 then 97 else q.1 - 64) q.2) b h' := by
    intro o s h ho p
    obtain ⟨v, h1, e1, f1, c1⟩ := popM B p
    unfold fX9_rows_b125 fX9_rows_b130
    rw [if_neg n10, p.c, obs, e1, obs]
    unfold fX9_rows_b143 fX9_rows_b160 fX9_rows_b165
    rcases c1 with ⟨q, ep, rfl, hv, g1⟩ | ⟨ep, rfl, bb⟩
    · have gm := isRwM (h := h1) q.1
      have Ep : prw L s = if (decide (q.1 = 97) || isRw q.1) = true then some q else none := by unfold prw; rw [ep]; rfl
      by_cases hr : (decide (q.1 = 97) || isRw q.1) = true
      · rw [if_pos hr] at Ep
        have hv2 : vT (cn (τ 0 0)) (if o = 32 then 0 else if q.1 = 97 then 97 else q.1 - 64) := by
          by_cases z : o = 32
          · rw [if_pos z]; exact vT0
          · rw [if_neg z]
            by_cases z7 : q.1 = 97
            · rw [if_pos z7]; exact vT97
            · rw [if_neg z7]; exact rw_elem hn hv hr z7
        obtain ⟨b2, h2, e2, f2, c2⟩ := pushM B g1 hv2
        refine ⟨b2, h2, ?_, f1.tr f2, by rw [Ep]; exact c2⟩
        have X0 : (if q.1 = 97 then (if (1 : Int32) = 0 then some ((0 : Int32), h1) else if nI o = 32 then fX9_rows_b200 N 0 (some r) h1 else if q.1 = 97 then fX9_rows_b200 N 97 (some r) h1 else fX9_rows_b200 N (q.1 - 64) (some r) h1) else (fX9_isRow q.1 h1).bind fun q2 => if q2.1 = 0 then (if (0 : Int32) = 0 then some (0, q2.2) else if nI o = 32 then fX9_rows_b200 N 0 (some r) q2.2 else if q.1 = 97 then fX9_rows_b200 N 97 (some r) q2.2 else fX9_rows_b200 N (q.1 - 64) (some r) q2.2) else (if (1 : Int32) = 0 then some (0, q2.2) else if nI o = 32 then fX9_rows_b200 N 0 (some r) q2.2 else if q.1 = 97 then fX9_rows_b200 N 97 (some r) q2.2 else fX9_rows_b200 N (q.1 - 64) (some r) q2.2)) = fX9_rows_b200 N (if o = 32 then 0 else if q.1 = 97 then 97 else q.1 - 64) (some r) h1 := by
          have Y0 : (if nI o = 32 then fX9_rows_b200 N 0 (some r) h1 else if q.1 = 97 then fX9_rows_b200 N 97 (some r) h1 else fX9_rows_b200 N (q.1 - 64) (some r) h1) = fX9_rows_b200 N (if o = 32 then 0 else if q.1 = 97 then 97 else q.1 - 64) (some r) h1 := by
            rcases ho with rfl | rfl
            · rw [if_pos (by decide), if_pos rfl]
            · rw [if_neg (by decide), if_neg (show ¬ (33 : Nat) = 32 by decide)]
              by_cases z7 : q.1 = 97
              · rw [if_pos z7, if_pos z7]
              · rw [if_neg z7, if_neg z7]
          by_cases z7 : q.1 = 97
          · rw [if_pos z7, if_neg n10]; exact Y0
          · have er : isRw q.1 = true := by rw [decide_eq_false z7, Bool.false_or] at hr; exact hr
            rw [er, bT] at gm
            rw [if_neg z7, gm, obs, if_neg n10, if_neg n10]; exact Y0
        rw [X0]
        unfold fX9_rows_b200
        rw [g1.c, obs, e2, obs]; exact c2.f
      · rw [if_neg hr] at Ep
        have z7 : ¬ q.1 = 97 := fun z => hr (by rw [decide_eq_true z]; rfl)
        have er : isRw q.1 = false := by
          cases ei : isRw q.1
          · rfl
          · exact absurd (by rw [ei, Bool.or_true]) hr
        rw [er, bF] at gm
        exact ⟨0, h1, by rw [if_neg z7, gm, obs, if_pos rfl, if_pos rfl], f1, Or.inr ⟨by rw [Ep]; rfl, rfl, g1.b⟩⟩
    · have Ep : prw L s = none := by unfold prw; rw [ep]; rfl
      have gm : fX9_isRow (-1) h1 = some (0, h1) := by unfold fX9_isRow; rw [if_pos (by decide)]
      exact ⟨0, h1, by rw [if_neg (show ¬ (-1 : Int32) = 97 by decide), gm, obs, if_pos rfl, if_pos rfl], f1, Or.inr ⟨by rw [Ep]; rfl, rfl, bb⟩⟩
  rcases (show o = 31 ∨ o = 32 ∨ o = 33 ∨ o = 34 by omega) with rfl | rfl | rfl | rfl
  · obtain ⟨c, hc, rfl⟩ := hx rfl
    obtain ⟨b1, h1, e1, f1, c1⟩ := ints1M N hN B p
    rw [if_pos (by decide), p.c, obs, e1, obs]
    show ∃ b h', _ ∧ _ ∧ MO r τ L P ((pI1 L s).bind (psh L P (64 + nI c))) b h'
    rcases c1 with ⟨s1, ep, rfl, g1⟩ | ⟨ep, rfl, bb⟩
    · obtain ⟨b2, h2, e2, f2, c2⟩ := pushM B g1 (v := 64 + nI c) (vT64 hc)
      exact ⟨b2, h2, by rw [if_neg n10, g1.c, obs, e2, obs]; exact c2.f, f1.tr f2, by rw [ep]; exact c2⟩
    · exact ⟨0, h1, by rw [if_pos rfl], f1, Or.inr ⟨by rw [ep]; rfl, rfl, bb⟩⟩
  · rw [if_neg (by decide), if_neg (by decide), if_pos (by decide)]
    exact R 32 s h (Or.inl rfl) p
  · obtain ⟨b1, h1, e1, f1, c1⟩ := ints1M N hN B p
    rw [if_neg (by decide), if_neg (by decide), if_neg (by decide), p.c, obs, e1, obs]
    show ∃ b h', _ ∧ _ ∧ MO r τ L P ((pI1 L s).bind fun s => (prw L s).bind fun q => psh L P (if q.1 = 97 then 97 else q.1 - 64) q.2) b h'
    rcases c1 with ⟨s1, ep, rfl, g1⟩ | ⟨ep, rfl, bb⟩
    · obtain ⟨b2, h2, e2, f2, c2⟩ := R 33 s1 h1 (Or.inr rfl) g1
      exact ⟨b2, h2, by rw [if_neg n10]; exact e2, f1.tr f2, by rw [ep]; exact c2⟩
    · refine ⟨0, h1, ?_, f1, Or.inr ⟨by rw [ep]; rfl, rfl, bb⟩⟩
      have gm : fX9_isRow (-1) h1 = some (0, h1) := by unfold fX9_isRow; rw [if_pos (by decide)]
      rw [if_pos rfl]
      unfold fX9_rows_b130
      rw [if_pos rfl]
      unfold fX9_rows_b143 fX9_rows_b165
      rw [if_neg (by decide), gm, obs, if_pos rfl, if_pos rfl]
  · obtain ⟨v, h1, e1, f1, c1⟩ := popM B p
    rw [if_neg (by decide), if_pos (by decide), p.c, obs, e1, obs]
    show ∃ b h', _ ∧ _ ∧ MO r τ L P ((pp L s).bind fun v => (pI1 L v.2).bind fun s => (prw L s).bind fun q => if (decide (q.1 = 97) || gT τ v.1 (q.1 - 64)) = true then some q.2 else none) b h'
    have N1 : ∀ (u : Int32) (h1 : zH), fX9_rows_b59 N (some r) u h1 = some (0, h1) := fun u h1 => by
      have gm : fX9_isRow (-1) h1 = some (0, h1) := by unfold fX9_isRow; rw [if_pos (by decide)]
      unfold fX9_rows_b59 fX9_rows_b60
      rw [if_pos rfl]
      unfold fX9_rows_b75
      rw [if_neg (by decide), gm, obs, if_pos rfl]
    rcases c1 with ⟨q, ep, rfl, hv, g1⟩ | ⟨ep, rfl, bb⟩
    · obtain ⟨b2, h2, e2, f2, c2⟩ := ints1M N hN B g1
      rw [if_neg (vT_ne hn hv), g1.c, obs, e2, obs, pp_bind ep]
      rcases c2 with ⟨s2, ep2, rfl, g2⟩ | ⟨ep2, rfl, bb⟩
      · obtain ⟨u, h3, e3, f3, c3⟩ := popM B g2
        unfold fX9_rows_b60
        rw [if_neg n10, if_neg n10, g2.c, obs, e3, obs, ep2, obs]
        unfold fX9_rows_b75 fX9_rows_b105
        rcases c3 with ⟨q3, ep3, rfl, hv3, g3⟩ | ⟨ep3, rfl, bb⟩
        · have gm := isRwM (h := h3) q3.1
          have Ep : prw L s2 = if (decide (q3.1 = 97) || isRw q3.1) = true then some q3 else none := by unfold prw; rw [ep3]; rfl
          by_cases z7 : q3.1 = 97
          · rw [if_pos (by rw [decide_eq_true z7]; rfl)] at Ep
            exact ⟨1, h3, by rw [if_pos z7], (f1.tr f2).tr f3, Or.inl ⟨q3.2, by rw [Ep, obs, if_pos (by rw [decide_eq_true z7]; rfl)], rfl, g3⟩⟩
          · cases er : isRw q3.1
            · rw [er, bF] at gm
              rw [if_neg (by rw [decide_eq_false z7, er]; decide)] at Ep
              exact ⟨0, h3, by rw [if_neg z7, gm, obs, if_pos rfl], (f1.tr f2).tr f3, Or.inr ⟨by rw [Ep]; rfl, rfl, g3.b⟩⟩
            · rw [er, bT] at gm
              have hr : (decide (q3.1 = 97) || isRw q3.1) = true := by rw [er, Bool.or_true]
              rw [if_pos hr] at Ep
              obtain ⟨g, q4, ok, ag⟩ := id g3
              have gg := goesM N hN q4 w.TT (a := q.1) (b := q3.1 - 64) hv (rw_elem hn hv3 hr z7)
              rw [gT_T (fun i => TTo (by omega) (by omega))] at gg
              rw [Ep, obs, decide_eq_false z7, Bool.false_or]
              cases eg : gT τ q.1 (q3.1 - 64)
              · rw [eg, bF] at gg
                exact ⟨0, h3, by rw [if_neg z7, gm, obs, if_neg n10, g3.c, obs, gg, obs, if_pos rfl], (f1.tr f2).tr f3, Or.inr ⟨rfl, rfl, g3.b⟩⟩
              · rw [eg, bT] at gg
                exact ⟨1, h3, by rw [if_neg z7, gm, obs, if_neg n10, g3.c, obs, gg, obs, if_neg n10], (f1.tr f2).tr f3, Or.inl ⟨q3.2, rfl, rfl, g3⟩⟩
        · have Ep : prw L s2 = none := by unfold prw; rw [ep3]; rfl
          have gm : fX9_isRow (-1) h3 = some (0, h3) := by unfold fX9_isRow; rw [if_pos (by decide)]
          exact ⟨0, h3, by rw [if_neg (show ¬ (-1 : Int32) = 97 by decide), gm, obs, if_pos rfl], (f1.tr f2).tr f3, Or.inr ⟨by rw [Ep]; rfl, rfl, bb⟩⟩
      · exact ⟨0, h2, by rw [if_pos rfl]; exact N1 _ _, f1.tr f2, Or.inr ⟨by rw [ep2]; rfl, rfl, bb⟩⟩
    · exact ⟨0, h1, by rw [if_pos rfl]; exact N1 _ _, f1, Or.inr ⟨by rw [ep]; rfl, rfl, bb⟩⟩

theorem fitsM (N : Nat) (hN : 40 ≤ N) (w : WF τ) (B : MB τ m L P) (hL : L = cn (τ 9 m)) (hm : m < cn (τ 6 0)) (p : GM r τ L P s h) {i : Nat} (hi : i < cn (τ 14 m)) : ∃ b h', fX9_fits N (some r) (nI m) (τ 15 (200 * m + i)) (τ 16 (200 * m + i)) (τ 17 (200 * m + i)) h = some (b, h') ∧ Mfr r h h' ∧ MO r τ L P (fitS τ L P m (cn (τ 15 (200 * m + i))) (τ 16 (200 * m + i)) (τ 17 (200 * m + i)) s) b h' := by
  have hn := w.1.2
  have h6 := w.2.1.2
  obtain ⟨o, ho, eo, q1, q2, q3, q4, q5, q6, q7⟩ := (w.2.2.2.1 m hm).2.2.2.2.2.2.2.2.2.1 i hi
  rw [eo, cn_nI (by omega)]
  generalize τ 16 (200 * m + i) = X at *
  generalize τ 17 (200 * m + i) = Y at *
  rw [← hL] at q1
  have l8 : ∀ {s h}, GM r τ L P s h → gR 9 8 (some r) h = some (some (r + 7)) ∧ aI 100 (some (r + 7)) (nI m) h = some (τ 8 m) := fun p => by
    obtain ⟨g, q, -⟩ := p
    have := aM8 q (i := m) (by omega); rw [TTo (by omega) (by omega)] at this; exact ⟨gRM8 q, this⟩
  have l4 : ∀ {s h} (c k : Nat), c < 32 → k < 15 → GM r τ L P s h → gR 9 4 (some r) h = some (some (r + 4)) ∧ aI 100 (some (r + 4)) (15 * nI c + nI k) h = some (τ 4 (15 * c + k)) := fun c k hc hk p => by
    obtain ⟨g, q, -⟩ := p
    have := aM4 q (i := 15 * c + k) (by omega); rw [TTo (by omega) (by omega)] at this
    exact ⟨gRM4 q, by rw [show (15 : Int32) * nI c + nI k = nI (15 * c + k) from lin trivial]; exact this⟩
  have l5 : ∀ {s h} (c k : Nat), c < 32 → k < 16 → GM r τ L P s h → gR 9 5 (some r) h = some (some (r + 5)) ∧ aI 100 (some (r + 5)) (16 * nI c + nI k) h = some (τ 5 (16 * c + k)) := fun c k hc hk p => by
    obtain ⟨g, q, -⟩ := p
    have := aM5 q (i := 16 * c + k) (by omega); rw [TTo (by omega) (by omega)] at this
    exact ⟨gRM5 q, by rw [show (16 : Int32) * nI c + nI k = nI (16 * c + k) from lin trivial]; exact this⟩
  have g8 := (w.2.2.2.1 m hm).2.1
  unfold fX9_fits
  rcases (show o = 0 ∨ o = 1 ∨ o = 2 ∨ o = 3 ∨ o = 4 ∨ o = 5 ∨ o = 6 ∨ o = 7 ∨ o = 8 ∨ o = 9 ∨ o = 10 ∨ o = 11 ∨ o = 12 ∨ o = 13 ∨ o = 14 ∨ o = 15 ∨ o = 16 ∨ o = 17 ∨ o = 18 ∨ o = 19 ∨ o = 20 ∨ o = 21 ∨ o = 22 ∨ o = 23 ∨ o = 24 ∨ o = 25 ∨ o = 26 ∨ o = 27 ∨ o = 28 ∨ o = 29 ∨ o = 30 ∨ o = 31 ∨ o = 32 ∨ o = 33 ∨ o = 34 ∨ o = 35 ∨ o = 36 ∨ o = 37 ∨ o = 38 ∨ o = 39 ∨ o = 40 ∨ o = 41 by omega) with rfl | rfl | rfl | rfl | rfl | rfl | rfl | rfl | rfl | rfl | rfl | rfl | rfl | rfl | rfl | rfl | rfl | rfl | rfl | rfl | rfl | rfl | rfl | rfl | rfl | rfl | rfl | rfl | rfl | rfl | rfl | rfl | rfl | rfl | rfl | rfl | rfl | rfl | rfl | rfl | rfl | rfl
  · rw [if_pos (by decide)]
    obtain ⟨b1, h1, e1, f1, c1⟩ := pushM B p (v := 0) vT0
    exact ⟨b1, h1, by rw [fX9_fits_b10, p.c, obs, e1, obs]; exact c1.z, f1, c1⟩
  · rw [if_neg (by decide), if_neg (by decide), if_pos (by decide)]
    obtain ⟨b1, h1, e1, f1, c1⟩ := pushM B p (v := 97) vT97
    exact ⟨b1, h1, by rw [p.c, obs, e1, obs]; exact c1.z, f1, c1⟩
  · rw [if_neg (by decide), if_neg (by decide), if_neg (by decide), if_neg (by decide)]
    obtain ⟨b1, h1, e1, f1, c1⟩ := placesM hn B p (o := 2) (Y := Y) (by omega) (by omega) q1
    exact ⟨b1, h1, by rw [p.c, obs, e1, obs]; exact c1.z, f1, c1⟩
  · rw [if_neg (by decide), if_neg (by decide), if_neg (by decide), if_neg (by decide)]
    obtain ⟨b1, h1, e1, f1, c1⟩ := placesM hn B p (o := 3) (Y := Y) (by omega) (by omega) q1
    exact ⟨b1, h1, by rw [p.c, obs, e1, obs]; exact c1.z, f1, c1⟩
  · rw [if_neg (by decide), if_neg (by decide), if_neg (by decide), if_neg (by decide)]
    obtain ⟨b1, h1, e1, f1, c1⟩ := placesM hn B p (o := 4) (Y := Y) (by omega) (by omega) q1
    exact ⟨b1, h1, by rw [p.c, obs, e1, obs]; exact c1.z, f1, c1⟩
  · rw [if_neg (by decide), if_neg (by decide), if_neg (by decide), if_neg (by decide)]
    obtain ⟨b1, h1, e1, f1, c1⟩ := placesM hn B p (o := 5) (Y := Y) (by omega) (by omega) q1
    exact ⟨b1, h1, by rw [p.c, obs, e1, obs]; exact c1.z, f1, c1⟩
  · rw [if_neg (by decide), if_neg (by decide), if_neg (by decide), if_neg (by decide)]
    obtain ⟨b1, h1, e1, f1, c1⟩ := placesM hn B p (o := 6) (Y := Y) (by omega) (by omega) q1
    exact ⟨b1, h1, by rw [p.c, obs, e1, obs]; exact c1.z, f1, c1⟩
  · rw [if_neg (by decide), if_neg (by decide), if_neg (by decide), if_pos (by decide), if_neg (by decide), if_neg (by decide)]
    obtain ⟨b1, h1, e1, f1, c1⟩ := ints2M N hN B p
    unfold fX9_fits_b60
    rw [p.c, obs, e1, obs]
    show ∃ b h', _ ∧ _ ∧ MO r τ L P (((pI1 L s).bind (pI1 L)).bind (psh L P 0)) b h'
    rcases c1 with ⟨s1, ep, rfl, g1⟩ | ⟨ep, rfl, bb⟩
    · obtain ⟨b2, h2, e2, f2, c2⟩ := pushM B g1 (v := 0) vT0
      exact ⟨b2, h2, by rw [if_neg n10, g1.c, obs, e2, obs]; exact c2.f, f1.tr f2, by rw [ep]; exact c2⟩
    · exact ⟨0, h1, by rw [if_pos rfl], f1, Or.inr ⟨by rw [ep]; rfl, rfl, bb⟩⟩
  · rw [if_neg (by decide), if_neg (by decide), if_neg (by decide), if_pos (by decide), if_neg (by decide), if_neg (by decide)]
    obtain ⟨b1, h1, e1, f1, c1⟩ := ints2M N hN B p
    unfold fX9_fits_b60
    rw [p.c, obs, e1, obs]
    show ∃ b h', _ ∧ _ ∧ MO r τ L P (((pI1 L s).bind (pI1 L)).bind (psh L P 0)) b h'
    rcases c1 with ⟨s1, ep, rfl, g1⟩ | ⟨ep, rfl, bb⟩
    · obtain ⟨b2, h2, e2, f2, c2⟩ := pushM B g1 (v := 0) vT0
      exact ⟨b2, h2, by rw [if_neg n10, g1.c, obs, e2, obs]; exact c2.f, f1.tr f2, by rw [ep]; exact c2⟩
    · exact ⟨0, h1, by rw [if_pos rfl], f1, Or.inr ⟨by rw [ep]; rfl, rfl, bb⟩⟩
  · rw [if_neg (by decide), if_neg (by decide), if_neg (by decide), if_pos (by decide), if_neg (by decide), if_neg (by decide)]
    obtain ⟨b1, h1, e1, f1, c1⟩ := ints2M N hN B p
    unfold fX9_fits_b60
    rw [p.c, obs, e1, obs]
    show ∃ b h', _ ∧ _ ∧ MO r τ L P (((pI1 L s).bind (pI1 L)).bind (psh L P 0)) b h'
    rcases c1 with ⟨s1, ep, rfl, g1⟩ | ⟨ep, rfl, bb⟩
    · obtain ⟨b2, h2, e2, f2, c2⟩ := pushM B g1 (v := 0) vT0
      exact ⟨b2, h2, by rw [if_neg n10, g1.c, obs, e2, obs]; exact c2.f, f1.tr f2, by rw [ep]; exact c2⟩
    · exact ⟨0, h1, by rw [if_pos rfl], f1, Or.inr ⟨by rw [ep]; rfl, rfl, bb⟩⟩
  · rw [if_neg (by decide), if_neg (by decide), if_neg (by decide), if_pos (by decide), if_neg (by decide), if_neg (by decide)]
    obtain ⟨b1, h1, e1, f1, c1⟩ := ints2M N hN B p
    unfold fX9_fits_b60
    rw [p.c, obs, e1, obs]
    show ∃ b h', _ ∧ _ ∧ MO r τ L P (((pI1 L s).bind (pI1 L)).bind (psh L P 0)) b h'
    rcases c1 with ⟨s1, ep, rfl, g1⟩ | ⟨ep, rfl, bb⟩
    · obtain ⟨b2, h2, e2, f2, c2⟩ := pushM B g1 (v := 0) vT0
      exact ⟨b2, h2, by rw [if_neg n10, g1.c, obs, e2, obs]; exact c2.f, f1.tr f2, by rw [ep]; exact c2⟩
    · exact ⟨0, h1, by rw [if_pos rfl], f1, Or.inr ⟨by rw [ep]; rfl, rfl, bb⟩⟩
  · rw [if_neg (by decide), if_neg (by decide), if_neg (by decide), if_pos (by decide), if_neg (by decide), if_neg (by decide)]
    obtain ⟨b1, h1, e1, f1, c1⟩ := ints2M N hN B p
    unfold fX9_fits_b60
    rw [p.c, obs, e1, obs]
    show ∃ b h', _ ∧ _ ∧ MO r τ L P (((pI1 L s).bind (pI1 L)).bind (psh L P 0)) b h'
    rcases c1 with ⟨s1, ep, rfl, g1⟩ | ⟨ep, rfl, bb⟩
    · obtain ⟨b2, h2, e2, f2, c2⟩ := pushM B g1 (v := 0) vT0
      exact ⟨b2, h2, by rw [if_neg n10, g1.c, obs, e2, obs]; exact c2.f, f1.tr f2, by rw [ep]; exact c2⟩
    · exact ⟨0, h1, by rw [if_pos rfl], f1, Or.inr ⟨by rw [ep]; rfl, rfl, bb⟩⟩
  · rw [if_neg (by decide), if_neg (by decide), if_neg (by decide), if_pos (by decide), if_neg (by decide), if_neg (by decide)]
    obtain ⟨b1, h1, e1, f1, c1⟩ := ints2M N hN B p
    unfold fX9_fits_b60
    rw [p.c, obs, e1, obs]
    show ∃ b h', _ ∧ _ ∧ MO r τ L P (((pI1 L s).bind (pI1 L)).bind (psh L P 0)) b h'
    rcases c1 with ⟨s1, ep, rfl, g1⟩ | ⟨ep, rfl, bb⟩
    · obtain ⟨b2, h2, e2, f2, c2⟩ := pushM B g1 (v := 0) vT0
      exact ⟨b2, h2, by rw [if_neg n10, g1.c, obs, e2, obs]; exact c2.f, f1.tr f2, by rw [ep]; exact c2⟩
    · exact ⟨0, h1, by rw [if_pos rfl], f1, Or.inr ⟨by rw [ep]; rfl, rfl, bb⟩⟩
  · rw [if_neg (by decide), if_neg (by decide), if_neg (by decide), if_pos (by decide), if_neg (by decide), if_neg (by decide)]
    obtain ⟨b1, h1, e1, f1, c1⟩ := ints2M N hN B p
    unfold fX9_fits_b60
    rw [p.c, obs, e1, obs]
    show ∃ b h', _ ∧ _ ∧ MO r τ L P (((pI1 L s).bind (pI1 L)).bind (psh L P 0)) b h'
    rcases c1 with ⟨s1, ep, rfl, g1⟩ | ⟨ep, rfl, bb⟩
    · obtain ⟨b2, h2, e2, f2, c2⟩ := pushM B g1 (v := 0) vT0
      exact ⟨b2, h2, by rw [if_neg n10, g1.c, obs, e2, obs]; exact c2.f, f1.tr f2, by rw [ep]; exact c2⟩
    · exact ⟨0, h1, by rw [if_pos rfl], f1, Or.inr ⟨by rw [ep]; rfl, rfl, bb⟩⟩
  · rw [if_neg (by decide), if_neg (by decide), if_neg (by decide), if_pos (by decide), if_neg (by decide), if_neg (by decide)]
    obtain ⟨b1, h1, e1, f1, c1⟩ := ints2M N hN B p
    unfold fX9_fits_b60
    rw [p.c, obs, e1, obs]
    show ∃ b h', _ ∧ _ ∧ MO r τ L P (((pI1 L s).bind (pI1 L)).bind (psh L P 0)) b h'
    rcases c1 with ⟨s1, ep, rfl, g1⟩ | ⟨ep, rfl, bb⟩
    · obtain ⟨b2, h2, e2, f2, c2⟩ := pushM B g1 (v := 0) vT0
      exact ⟨b2, h2, by rw [if_neg n10, g1.c, obs, e2, obs]; exact c2.f, f1.tr f2, by rw [ep]; exact c2⟩
    · exact ⟨0, h1, by rw [if_pos rfl], f1, Or.inr ⟨by rw [ep]; rfl, rfl, bb⟩⟩
  · rw [if_neg (by decide), if_neg (by decide), if_neg (by decide), if_pos (by decide), if_neg (by decide), if_neg (by decide)]
    obtain ⟨b1, h1, e1, f1, c1⟩ := ints2M N hN B p
    unfold fX9_fits_b60
    rw [p.c, obs, e1, obs]
    show ∃ b h', _ ∧ _ ∧ MO r τ L P (((pI1 L s).bind (pI1 L)).bind (psh L P 0)) b h'
    rcases c1 with ⟨s1, ep, rfl, g1⟩ | ⟨ep, rfl, bb⟩
    · obtain ⟨b2, h2, e2, f2, c2⟩ := pushM B g1 (v := 0) vT0
      exact ⟨b2, h2, by rw [if_neg n10, g1.c, obs, e2, obs]; exact c2.f, f1.tr f2, by rw [ep]; exact c2⟩
    · exact ⟨0, h1, by rw [if_pos rfl], f1, Or.inr ⟨by rw [ep]; rfl, rfl, bb⟩⟩
  · rw [if_neg (by decide), if_neg (by decide), if_neg (by decide), if_pos (by decide), if_neg (by decide), if_neg (by decide)]
    obtain ⟨b1, h1, e1, f1, c1⟩ := ints2M N hN B p
    unfold fX9_fits_b60
    rw [p.c, obs, e1, obs]
    show ∃ b h', _ ∧ _ ∧ MO r τ L P (((pI1 L s).bind (pI1 L)).bind (psh L P 0)) b h'
    rcases c1 with ⟨s1, ep, rfl, g1⟩ | ⟨ep, rfl, bb⟩
    · obtain ⟨b2, h2, e2, f2, c2⟩ := pushM B g1 (v := 0) vT0
      exact ⟨b2, h2, by rw [if_neg n10, g1.c, obs, e2, obs]; exact c2.f, f1.tr f2, by rw [ep]; exact c2⟩
    · exact ⟨0, h1, by rw [if_pos rfl], f1, Or.inr ⟨by rw [ep]; rfl, rfl, bb⟩⟩
  · rw [if_neg (by decide), if_neg (by decide), if_neg (by decide), if_pos (by decide), if_neg (by decide), if_neg (by decide)]
    obtain ⟨b1, h1, e1, f1, c1⟩ := ints2M N hN B p
    unfold fX9_fits_b60
    rw [p.c, obs, e1, obs]
    show ∃ b h', _ ∧ _ ∧ MO r τ L P (((pI1 L s).bind (pI1 L)).bind (psh L P 0)) b h'
    rcases c1 with ⟨s1, ep, rfl, g1⟩ | ⟨ep, rfl, bb⟩
    · obtain ⟨b2, h2, e2, f2, c2⟩ := pushM B g1 (v := 0) vT0
      exact ⟨b2, h2, by rw [if_neg n10, g1.c, obs, e2, obs]; exact c2.f, f1.tr f2, by rw [ep]; exact c2⟩
    · exact ⟨0, h1, by rw [if_pos rfl], f1, Or.inr ⟨by rw [ep]; rfl, rfl, bb⟩⟩
  · rw [if_neg (by decide), if_neg (by decide), if_neg (by decide), if_pos (by decide), if_neg (by decide), if_pos (by decide)]
    obtain ⟨b1, h1, e1, f1, c1⟩ := ints1M N hN B p
    unfold fX9_fits_b60
    rw [p.c, obs, e1, obs]
    show ∃ b h', _ ∧ _ ∧ MO r τ L P ((pI1 L s).bind (psh L P 0)) b h'
    rcases c1 with ⟨s1, ep, rfl, g1⟩ | ⟨ep, rfl, bb⟩
    · obtain ⟨b2, h2, e2, f2, c2⟩ := pushM B g1 (v := 0) vT0
      exact ⟨b2, h2, by rw [if_neg n10, g1.c, obs, e2, obs]; exact c2.f, f1.tr f2, by rw [ep]; exact c2⟩
    · exact ⟨0, h1, by rw [if_pos rfl], f1, Or.inr ⟨by rw [ep]; rfl, rfl, bb⟩⟩
  · rw [if_neg (by decide), if_neg (by decide), if_neg (by decide), if_pos (by decide), if_pos (by decide), if_pos (by decide)]
    obtain ⟨b1, h1, e1, f1, c1⟩ := ints1M N hN B p
    exact ⟨b1, h1, by rw [p.c, obs, e1, obs]; exact c1.z, f1, c1⟩
  · rw [if_neg (by decide), if_neg (by decide), if_neg (by decide), if_pos (by decide), if_pos (by decide), if_neg (by decide), if_pos (by decide)]
    obtain ⟨b1, h1, e1, f1, c1⟩ := ints2M N hN B p
    exact ⟨b1, h1, by rw [p.c, obs, e1, obs]; exact c1.z, f1, c1⟩
  · rw [if_neg (by decide), if_neg (by decide), if_neg (by decide), if_pos (by decide), if_pos (by decide), if_neg (by decide), if_neg (by decide), if_pos (by decide)]
    obtain ⟨b1, h1, e1, f1, c1⟩ := popRefM hn B p
    exact ⟨b1, h1, by rw [p.c, obs, e1, obs]; exact c1.z, f1, c1⟩
  · rw [if_neg (by decide), if_neg (by decide), if_neg (by decide), if_pos (by decide), if_pos (by decide), if_neg (by decide), if_neg (by decide), if_neg (by decide), if_pos (by decide)]
    obtain ⟨b1, h1, e1, f1, c1⟩ := popRefM hn B p
    exact ⟨b1, h1, by rw [p.c, obs, e1, obs]; exact c1.z, f1, c1⟩
  · rw [if_neg (by decide), if_neg (by decide), if_neg (by decide), if_pos (by decide), if_pos (by decide), if_neg (by decide), if_neg (by decide), if_neg (by decide), if_neg (by decide), if_pos (by decide)]
    obtain ⟨b1, h1, e1, f1, c1⟩ := popRefM hn B p
    rw [p.c, obs, e1, obs]
    show ∃ b h', _ ∧ _ ∧ MO r τ L P ((pRf L s).bind (pRf L)) b h'
    rcases c1 with ⟨s1, ep, rfl, g1⟩ | ⟨ep, rfl, bb⟩
    · obtain ⟨b2, h2, e2, f2, c2⟩ := popRefM hn B g1
      exact ⟨b2, h2, by rw [if_neg n10, g1.c, obs, e2, obs]; exact c2.f, f1.tr f2, by rw [ep]; exact c2⟩
    · exact ⟨0, h1, by rw [if_pos rfl], f1, Or.inr ⟨by rw [ep]; rfl, rfl, bb⟩⟩
  · rw [if_neg (by decide), if_neg (by decide), if_neg (by decide), if_pos (by decide), if_pos (by decide), if_neg (by decide), if_neg (by decide), if_neg (by decide), if_neg (by decide), if_neg (by decide), if_pos (by decide)]
    obtain ⟨b1, h1, e1, f1, c1⟩ := popRefM hn B p
    rw [p.c, obs, e1, obs]
    show ∃ b h', _ ∧ _ ∧ MO r τ L P ((pRf L s).bind (pRf L)) b h'
    rcases c1 with ⟨s1, ep, rfl, g1⟩ | ⟨ep, rfl, bb⟩
    · obtain ⟨b2, h2, e2, f2, c2⟩ := popRefM hn B g1
      exact ⟨b2, h2, by rw [if_neg n10, g1.c, obs, e2, obs]; exact c2.f, f1.tr f2, by rw [ep]; exact c2⟩
    · exact ⟨0, h1, by rw [if_pos rfl], f1, Or.inr ⟨by rw [ep]; rfl, rfl, bb⟩⟩
  · rw [if_neg (by decide), if_neg (by decide), if_neg (by decide), if_pos (by decide), if_pos (by decide), if_neg (by decide), if_neg (by decide), if_neg (by decide), if_neg (by decide), if_neg (by decide), if_neg (by decide), if_pos (by decide)]
    exact ⟨1, h, rfl, Mfr.rf, Or.inl ⟨s, rfl, rfl, p⟩⟩
  · rw [if_neg (by decide), if_neg (by decide), if_neg (by decide), if_pos (by decide), if_pos (by decide), if_neg (by decide), if_neg (by decide), if_neg (by decide), if_neg (by decide), if_neg (by decide), if_neg (by decide), if_neg (by decide), if_pos (by decide)]
    obtain ⟨c, hc, rfl⟩ := q2 (by omega)
    obtain ⟨b1, h1, e1, f1, c1⟩ := pushM B p (v := 1 + nI c) (vT1 hc)
    exact ⟨b1, h1, by rw [p.c, obs, e1, obs]; exact c1.z, f1, c1⟩
  · rw [if_neg (by decide), if_neg (by decide), if_neg (by decide), if_pos (by decide), if_pos (by decide), if_neg (by decide), if_neg (by decide), if_neg (by decide), if_neg (by decide), if_neg (by decide), if_neg (by decide), if_neg (by decide), if_neg (by decide), if_pos (by decide)]
    obtain ⟨c, k, hc, rfl, hk, rfl⟩ := q3 (by omega)
    have wc := w.2.2.1 c hc
    have hk15 := wc.2.1.2
    have ft : vT (cn (τ 0 0)) (τ 4 (15 * c + k)) := Or.inl (wc.2.2.1 k hk)
    obtain ⟨b1, h1, e1, f1, c1⟩ := popIntoM N hN w B p (t := 1 + nI c) (vT1 hc)
    rw [p.c, obs, e1, obs]
    have E : fitS τ L P m 27 (nI c) (nI k) s = (pT τ L (1 + nI c) s).bind (psh L P (τ 4 (15 * c + k))) := by
      show (pT τ L (1 + nI c) s).bind (psh L P (τ 4 (15 * cn (nI c) + cn (nI k)))) = _
      rw [cn_nI (by omega), cn_nI (by omega)]
    rw [E]
    rcases c1 with ⟨s1, ep, rfl, g1⟩ | ⟨ep, rfl, bb⟩
    · obtain ⟨y1, y2⟩ := l4 c k (by omega) (by omega) g1
      obtain ⟨b2, h2, e2, f2, c2⟩ := pushM B g1 ft
      exact ⟨b2, h2, by rw [if_neg n10, y1, obs, y2, obs, g1.c, obs, e2, obs]; exact c2.f, f1.tr f2, by rw [ep]; exact c2⟩
    · exact ⟨0, h1, by rw [if_pos rfl], f1, Or.inr ⟨by rw [ep]; rfl, rfl, bb⟩⟩
  · rw [if_neg (by decide), if_neg (by decide), if_neg (by decide), if_pos (by decide), if_pos (by decide), if_neg (by decide), if_neg (by decide), if_neg (by decide), if_neg (by decide), if_neg (by decide), if_neg (by decide), if_neg (by decide), if_neg (by decide), if_neg (by decide), if_pos (by decide)]
    obtain ⟨c, k, hc, rfl, hk, rfl⟩ := q3 (by omega)
    have wc := w.2.2.1 c hc
    have hk15 := wc.2.1.2
    have ft : vT (cn (τ 0 0)) (τ 4 (15 * c + k)) := Or.inl (wc.2.2.1 k hk)
    obtain ⟨y1, y2⟩ := l4 c k (by omega) (by omega) p
    obtain ⟨b1, h1, e1, f1, c1⟩ := popIntoM N hN w B p ft
    rw [y1, obs, y2, obs, p.c, obs, e1, obs]
    have E : fitS τ L P m 28 (nI c) (nI k) s = (pT τ L (τ 4 (15 * c + k)) s).bind (pT τ L (1 + nI c)) := by
      show (pT τ L (τ 4 (15 * cn (nI c) + cn (nI k))) s).bind (pT τ L (1 + nI c)) = _
      rw [cn_nI (by omega), cn_nI (by omega)]
    rw [E]
    rcases c1 with ⟨s1, ep, rfl, g1⟩ | ⟨ep, rfl, bb⟩
    · obtain ⟨b2, h2, e2, f2, c2⟩ := popIntoM N hN w B g1 (t := 1 + nI c) (vT1 hc)
      exact ⟨b2, h2, by rw [if_neg n10, g1.c, obs, e2, obs]; exact c2.f, f1.tr f2, by rw [ep]; exact c2⟩
    · exact ⟨0, h1, by rw [if_pos rfl], f1, Or.inr ⟨by rw [ep]; rfl, rfl, bb⟩⟩
  · rw [if_neg (by decide), if_neg (by decide), if_neg (by decide), if_pos (by decide), if_pos (by decide), if_neg (by decide), if_neg (by decide), if_neg (by decide), if_neg (by decide), if_neg (by decide), if_neg (by decide), if_neg (by decide), if_neg (by decide), if_neg (by decide), if_neg (by decide), if_pos (by decide)]
    obtain ⟨b1, h1, e1, f1, c1⟩ := popRefM hn B p
    rw [p.c, obs, e1, obs]
    show ∃ b h', _ ∧ _ ∧ MO r τ L P ((pRf L s).bind (psh L P 0)) b h'
    rcases c1 with ⟨s1, ep, rfl, g1⟩ | ⟨ep, rfl, bb⟩
    · obtain ⟨b2, h2, e2, f2, c2⟩ := pushM B g1 (v := 0) vT0
      exact ⟨b2, h2, by rw [if_neg n10, g1.c, obs, e2, obs]; exact c2.f, f1.tr f2, by rw [ep]; exact c2⟩
    · exact ⟨0, h1, by rw [if_pos rfl], f1, Or.inr ⟨by rw [ep]; rfl, rfl, bb⟩⟩
  · rw [if_neg (by decide), if_neg (by decide), if_neg (by decide), if_pos (by decide), if_pos (by decide), if_neg (by decide), if_neg (by decide), if_neg (by decide), if_neg (by decide), if_neg (by decide), if_neg (by decide), if_neg (by decide), if_neg (by decide), if_neg (by decide), if_neg (by decide), if_neg (by decide), if_pos (by decide)]
    obtain ⟨c, hc, rfl⟩ := q2 (by omega)
    obtain ⟨b1, h1, e1, f1, c1⟩ := popRefM hn B p
    rw [p.c, obs, e1, obs]
    show ∃ b h', _ ∧ _ ∧ MO r τ L P ((pRf L s).bind (psh L P (1 + nI c))) b h'
    rcases c1 with ⟨s1, ep, rfl, g1⟩ | ⟨ep, rfl, bb⟩
    · obtain ⟨b2, h2, e2, f2, c2⟩ := pushM B g1 (v := 1 + nI c) (vT1 hc)
      exact ⟨b2, h2, by rw [if_neg n10, g1.c, obs, e2, obs]; exact c2.f, f1.tr f2, by rw [ep]; exact c2⟩
    · exact ⟨0, h1, by rw [if_pos rfl], f1, Or.inr ⟨by rw [ep]; rfl, rfl, bb⟩⟩
  · rw [if_neg (by decide), if_neg (by decide), if_neg (by decide), if_pos (by decide), if_pos (by decide), if_neg (by decide), if_neg (by decide), if_neg (by decide), if_neg (by decide), if_neg (by decide), if_neg (by decide), if_neg (by decide), if_neg (by decide), if_neg (by decide), if_neg (by decide), if_neg (by decide), if_neg (by decide), if_neg (by decide), if_neg (by decide), if_neg (by decide), if_neg (by decide), if_neg (by decide), if_neg (by decide)]
    obtain ⟨b1, h1, e1, f1, c1⟩ := rowsM N hN w B p (o := 31) (X := X) (Y := Y) (by omega) (by omega) q4
    exact ⟨b1, h1, by rw [p.c, obs, e1, obs]; exact c1.z, f1, c1⟩
  · rw [if_neg (by decide), if_neg (by decide), if_neg (by decide), if_pos (by decide), if_pos (by decide), if_neg (by decide), if_neg (by decide), if_neg (by decide), if_neg (by decide), if_neg (by decide), if_neg (by decide), if_neg (by decide), if_neg (by decide), if_neg (by decide), if_neg (by decide), if_neg (by decide), if_neg (by decide), if_neg (by decide), if_neg (by decide), if_neg (by decide), if_neg (by decide), if_neg (by decide), if_neg (by decide)]
    obtain ⟨b1, h1, e1, f1, c1⟩ := rowsM N hN w B p (o := 32) (X := X) (Y := Y) (by omega) (by omega) q4
    exact ⟨b1, h1, by rw [p.c, obs, e1, obs]; exact c1.z, f1, c1⟩
  · rw [if_neg (by decide), if_neg (by decide), if_neg (by decide), if_pos (by decide), if_pos (by decide), if_neg (by decide), if_neg (by decide), if_neg (by decide), if_neg (by decide), if_neg (by decide), if_neg (by decide), if_neg (by decide), if_neg (by decide), if_neg (by decide), if_neg (by decide), if_neg (by decide), if_neg (by decide), if_neg (by decide), if_neg (by decide), if_neg (by decide), if_neg (by decide), if_neg (by decide), if_neg (by decide)]
    obtain ⟨b1, h1, e1, f1, c1⟩ := rowsM N hN w B p (o := 33) (X := X) (Y := Y) (by omega) (by omega) q4
    exact ⟨b1, h1, by rw [p.c, obs, e1, obs]; exact c1.z, f1, c1⟩
  · rw [if_neg (by decide), if_neg (by decide), if_neg (by decide), if_pos (by decide), if_pos (by decide), if_neg (by decide), if_neg (by decide), if_neg (by decide), if_neg (by decide), if_neg (by decide), if_neg (by decide), if_neg (by decide), if_neg (by decide), if_neg (by decide), if_neg (by decide), if_neg (by decide), if_neg (by decide), if_neg (by decide), if_neg (by decide), if_neg (by decide), if_neg (by decide), if_neg (by decide), if_neg (by decide)]
    obtain ⟨b1, h1, e1, f1, c1⟩ := rowsM N hN w B p (o := 34) (X := X) (Y := Y) (by omega) (by omega) q4
    exact ⟨b1, h1, by rw [p.c, obs, e1, obs]; exact c1.z, f1, c1⟩
  · rw [if_neg (by decide), if_neg (by decide), if_neg (by decide), if_pos (by decide), if_pos (by decide), if_neg (by decide), if_neg (by decide), if_neg (by decide), if_neg (by decide), if_neg (by decide), if_neg (by decide), if_neg (by decide), if_neg (by decide), if_neg (by decide), if_neg (by decide), if_neg (by decide), if_neg (by decide), if_pos (by decide)]
    obtain ⟨u, hu, rfl⟩ := q5 rfl
    obtain ⟨b1, h1, e1, f1, c1⟩ := parametersM N hN w B hu (fr := 0) (by omega) p
    rw [nI_0] at e1
    rw [p.c, obs, e1, obs]
    have E : fitS τ L P m 35 (nI u) Y s = (pars τ L u 0 (cn (τ 11 u)) s).bind (givn τ L P u) := by
      show (pars τ L (cn (nI u)) 0 (cn (τ 11 (cn (nI u)))) s).bind (givn τ L P (cn (nI u))) = _
      rw [cn_nI (by omega)]
    rw [E]
    rcases c1 with ⟨s1, ep, rfl, g1⟩ | ⟨ep, rfl, bb⟩
    · obtain ⟨b2, h2, e2, f2, c2⟩ := givenM w B hu g1
      exact ⟨b2, h2, by rw [if_neg n10, g1.c, obs, e2, obs]; exact c2.f, f1.tr f2, by rw [ep]; exact c2⟩
    · exact ⟨0, h1, by rw [if_pos rfl], f1, Or.inr ⟨by rw [ep]; rfl, rfl, bb⟩⟩
  · rw [if_neg (by decide), if_neg (by decide), if_neg (by decide), if_pos (by decide), if_pos (by decide), if_neg (by decide), if_neg (by decide), if_neg (by decide), if_neg (by decide), if_neg (by decide), if_neg (by decide), if_neg (by decide), if_neg (by decide), if_neg (by decide), if_neg (by decide), if_neg (by decide), if_neg (by decide), if_neg (by decide), if_pos (by decide)]
    obtain ⟨c, k, u, hc, rfl, hk, rfl, hu, e5⟩ := q6 rfl
    obtain ⟨y1, y2⟩ := l5 c k (by omega) (by omega) p
    rw [e5] at y2
    obtain ⟨b1, h1, e1, f1, c1⟩ := parametersM N hN w B hu (fr := 1) (by omega) p
    rw [show nI 1 = (1 : Int32) from rfl] at e1
    rw [y1, obs, y2, obs, p.c, obs, e1, obs]
    have E : fitS τ L P m 36 (nI c) (nI k) s = (pars τ L u 1 (cn (τ 11 u)) s).bind fun s => (pT τ L (1 + nI c) s).bind (givn τ L P u) := by
      show ((pars τ L (cn (τ 5 (16 * cn (nI c) + cn (nI k)))) 1 (cn (τ 11 (cn (τ 5 (16 * cn (nI c) + cn (nI k)))))) s).bind fun s => (pT τ L (1 + nI c) s).bind (givn τ L P (cn (τ 5 (16 * cn (nI c) + cn (nI k)))))) = _
      rw [cn_nI (by omega), cn_nI (by omega), e5, cn_nI (by omega)]
    rw [E]
    rcases c1 with ⟨s1, ep, rfl, g1⟩ | ⟨ep, rfl, bb⟩
    · obtain ⟨b2, h2, e2, f2, c2⟩ := popIntoM N hN w B g1 (t := 1 + nI c) (vT1 hc)
      rw [if_neg n10, g1.c, obs, e2, obs, ep, obs]
      rcases c2 with ⟨s2, ep2, rfl, g2⟩ | ⟨ep2, rfl, bb⟩
      · obtain ⟨y3, y4⟩ := l5 c k (by omega) (by omega) g2
        rw [e5] at y4
        obtain ⟨b3, h3, e3, f3, c3⟩ := givenM w B hu g2
        exact ⟨b3, h3, by rw [if_neg n10, y3, obs, y4, obs, g2.c, obs, e3, obs]; exact c3.f, (f1.tr f2).tr f3, by rw [ep2]; exact c3⟩
      · exact ⟨0, h2, by rw [if_pos rfl], f1.tr f2, Or.inr ⟨by rw [ep2]; rfl, rfl, bb⟩⟩
    · exact ⟨0, h1, by rw [if_pos rfl], f1, Or.inr ⟨by rw [ep]; rfl, rfl, bb⟩⟩
  · rw [if_neg (by decide), if_neg (by decide), if_neg (by decide), if_pos (by decide), if_pos (by decide), if_neg (by decide), if_neg (by decide), if_neg (by decide), if_neg (by decide), if_neg (by decide), if_neg (by decide), if_neg (by decide), if_neg (by decide), if_neg (by decide), if_neg (by decide), if_neg (by decide), if_neg (by decide), if_neg (by decide), if_neg (by decide), if_pos (by decide)]
    obtain ⟨y1, y2⟩ := l8 p
    show ∃ b h', _ ∧ _ ∧ MO r τ L P (if τ 8 m < 0 then some s else none) b h'
    rw [y1, obs, y2, obs]
    rcases g8 with e | ok
    · exact ⟨1, h, by rw [e, if_neg (by decide)], Mfr.rf, Or.inl ⟨s, by rw [e, if_pos m1neg], rfl, p⟩⟩
    · have okn := okT_ne hn ok
      exact ⟨0, h, by rw [if_pos (Int32.not_lt.mp okn.2)], Mfr.rf, Or.inr ⟨by rw [if_neg okn.2], rfl, p.b⟩⟩
  · rw [if_neg (by decide), if_neg (by decide), if_neg (by decide), if_pos (by decide), if_pos (by decide), if_neg (by decide), if_neg (by decide), if_neg (by decide), if_neg (by decide), if_neg (by decide), if_neg (by decide), if_neg (by decide), if_neg (by decide), if_neg (by decide), if_neg (by decide), if_neg (by decide), if_neg (by decide), if_neg (by decide), if_neg (by decide), if_neg (by decide), if_pos (by decide)]
    obtain ⟨y1, y2⟩ := l8 p
    show ∃ b h', _ ∧ _ ∧ MO r τ L P (if τ 8 m < 0 then none else pT τ L (τ 8 m) s) b h'
    rw [y1, obs, y2, obs]
    rcases g8 with e | ok
    · exact ⟨0, h, by rw [e, if_pos m1neg], Mfr.rf, Or.inr ⟨by rw [e, if_pos m1neg], rfl, p.b⟩⟩
    · have okn := okT_ne hn ok
      obtain ⟨b1, h1, e1, f1, c1⟩ := popIntoM N hN w B p (t := τ 8 m) (Or.inl ok)
      exact ⟨b1, h1, by rw [if_neg okn.2, obs, y2, obs, p.c, obs, e1, obs]; exact c1.f, f1, by rw [if_neg okn.2]; exact c1⟩
  · rw [if_neg (by decide), if_neg (by decide), if_neg (by decide), if_pos (by decide), if_pos (by decide), if_neg (by decide), if_neg (by decide), if_neg (by decide), if_neg (by decide), if_neg (by decide), if_neg (by decide), if_neg (by decide), if_neg (by decide), if_neg (by decide), if_neg (by decide), if_neg (by decide), if_neg (by decide), if_neg (by decide), if_neg (by decide), if_neg (by decide), if_neg (by decide), if_pos (by decide)]
    obtain ⟨v, h1, e1, f1, c1⟩ := popM B p
    rw [p.c, obs, e1, obs]
    unfold fX9_fits_b491
    show ∃ b h', _ ∧ _ ∧ MO r τ L P (ppc L (fun v => decide (v = 97) || isCl v) s) b h'
    rcases c1 with ⟨q, ep, rfl, hv, g1⟩ | ⟨ep, rfl, bb⟩
    · have E : ppc L (fun v => decide (v = 97) || isCl v) s = if (decide (q.1 = 97) || isCl q.1) = true then some q.2 else none := by unfold ppc; rw [ep]; rfl
      rw [E]
      by_cases z : q.1 = 97
      · exact ⟨1, h1, by rw [if_pos z], f1, Or.inl ⟨q.2, by rw [decide_eq_true z]; rfl, rfl, g1⟩⟩
      · rw [if_neg z, someM, obs, decide_eq_false z, Bool.false_or]
        cases isCl q.1
        · exact ⟨0, h1, rfl, f1, Or.inr ⟨rfl, rfl, g1.b⟩⟩
        · exact ⟨1, h1, rfl, f1, Or.inl ⟨q.2, rfl, rfl, g1⟩⟩
    · have E : ppc L (fun v => decide (v = 97) || isCl v) s = none := by unfold ppc; rw [ep]; rfl
      have e7 : ¬ (-1 : Int32) = 97 := by decide
      rw [E, if_neg e7, someM, obs]
      exact ⟨0, h1, rfl, f1, Or.inr ⟨rfl, rfl, bb⟩⟩
  · rw [if_neg (by decide), if_pos (by decide)]
    obtain ⟨b1, h1, e1, f1, c1⟩ := pushM B p (v := 0) vT0
    exact ⟨b1, h1, by rw [fX9_fits_b10, p.c, obs, e1, obs]; exact c1.z, f1, c1⟩
  · rw [if_neg (by decide), if_neg (by decide), if_neg (by decide), if_pos (by decide), if_pos (by decide), if_neg (by decide), if_neg (by decide), if_neg (by decide), if_neg (by decide), if_neg (by decide), if_neg (by decide), if_neg (by decide), if_neg (by decide), if_neg (by decide), if_neg (by decide), if_neg (by decide), if_neg (by decide), if_neg (by decide), if_neg (by decide), if_neg (by decide), if_neg (by decide), if_neg (by decide), if_pos (by decide)]
    obtain ⟨b1, h1, e1, f1, c1⟩ := ints1M N hN B p
    exact ⟨b1, h1, by rw [p.c, obs, e1, obs]; exact c1.z, f1, c1⟩
end
