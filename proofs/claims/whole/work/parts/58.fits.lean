/-! The reference's row: now and top. -/
def TT (τ : Nat → Nat → Int32) (g : Nat → Int32) (t : Int32) : Nat → Nat → Int32 := fun c i => if c = 28 then g i else if c = 29 ∧ i = 0 then t else τ c i
section
variable {τ : Nat → Nat → Int32} {g : Nat → Int32} {t : Int32}
theorem TT28 (i : Nat) : TT τ g t 28 i = g i := rfl
theorem TT29 : TT τ g t 29 0 = t := rfl
theorem TTo {c i : Nat} (h1 : c ≠ 28) (h2 : c ≠ 29) : TT τ g t c i = τ c i := by unfold TT; rw [if_neg h1, if_neg (fun q => h2 q.1)]
theorem TT_s28 {r k : Nat} {v : Int32} {h : zH} (p : RM (u2 (TT τ g t) 28 k v) r h) : RM (TT τ (fun i => if i = k then v else g i) t) r h := by
  refine p.ext (fun c i _ => ?_)
  rw [u2_at]
  by_cases e : c = 28
  · subst e
    rw [TT28, TT28]
    by_cases q : i = k
    · rw [if_pos q, if_pos ⟨rfl, q⟩]
    · rw [if_neg q, if_neg (fun z => q z.2)]
  · rw [if_neg (fun q => e q.1)]
    unfold TT
    rw [if_neg e, if_neg e]
theorem TT_s29 {r : Nat} {v : Int32} {h : zH} (p : RM (u2 (TT τ g t) 29 0 v) r h) : RM (TT τ g v) r h := by
  refine p.ext (fun c i _ => ?_)
  rw [u2_at]
  by_cases e : c = 29 ∧ i = 0
  · rw [if_pos e, e.1, e.2]; rfl
  · rw [if_neg e]
    unfold TT
    by_cases q : c = 28
    · rw [if_pos q, if_pos q]
    · rw [if_neg q, if_neg q, if_neg e, if_neg e]
theorem anc_T {τ τ' : Nat → Nat → Int32} (e : ∀ i, τ' 1 i = τ 1 i) (n : Nat) : ∀ c j, anc τ' n c j = anc τ n c j := by
  induction n with
  | zero => intro c j; rfl
  | succ n ih =>
    intro c j
    unfold anc
    rw [e c, ih]
theorem gT_T {τ τ' : Nat → Nat → Int32} (e : ∀ i, τ' 1 i = τ 1 i) (a b : Int32) : gT τ' a b = gT τ a b := by
  unfold gT
  rw [anc_T e]
theorem mt_T {τ τ' : Nat → Nat → Int32} (e : ∀ i, τ' 1 i = τ 1 i) (a b : Int32) : mt τ' a b = mt τ a b := by
  unfold mt low
  simp only [anc_T e]
/-- goodness looks at no column from 24 to 31 but 24 -/
theorem WF.cols {τ τ' : Nat → Nat → Int32} (w : WF τ) (e : ∀ c i, (c < 24 ∨ 40 ≤ c) → τ' c i = τ c i) (e24 : ∀ m, m < cn (τ 6 0) → τ 23 m ≠ 0 → ∀ i, i < cn (τ 14 m) → τ' 24 (200 * m + i) < 0 ∨ cn (τ' 24 (200 * m + i)) ≤ cn (τ 10 m)) : WF τ' := by
  have z0 := e 0 0 (by omega)
  have z6 := e 6 0 (by omega)
  refine ⟨by rw [z0]; exact w.1, by rw [z6]; exact w.2.1, fun c hc => ?_, fun m hm => ?_, fun m h1 h2 => ?_⟩
  · rw [z0] at hc
    refine WFc.mono w hc z0 (by rw [z6]; exact Nat.le_refl _) (fun i _ => e 1 i (by omega)) (fun q hq k hk => e _ _ ?_)
    exact (by decide : ∀ q ∈ tW, q.1 < 24 ∨ 40 ≤ q.1) q hq
  · rw [z6] at hm
    obtain ⟨p1, p2, p3, p4, p5, p6, p7, p8, p9, p10, p11, p12⟩ := w.2.2.2.1 m hm
    refine ⟨by rw [e 7 m (by omega), z0]; exact p1, by rw [e 8 m (by omega), z0]; exact p2, by rw [e 9 m (by omega), e 10 m (by omega)]; exact p3, by rw [e 11 m (by omega), e 9 m (by omega)]; exact p4, fun k hk => ?_, by rw [e 13 m (by omega)]; exact p6, by rw [e 23 m (by omega)]; exact p7, by rw [e 14 m (by omega)]; exact p8, by rw [e 18 m (by omega)]; exact p9, fun i hi => ?_, fun k hk => ?_, fun hv i hi => ?_⟩
    · rw [e 11 m (by omega)] at hk
      rw [e 12 _ (by omega), z0]; exact p5 k hk
    · rw [e 14 m (by omega)] at hi
      rw [e 15 _ (by omega), e 16 _ (by omega), e 17 _ (by omega)]
      exact (p10 i hi).mono (by rw [z0]; exact Nat.le_refl _) (by rw [z6]; exact Nat.le_refl _) (by rw [e 9 m (by omega)]) (fun c hc => by rw [e 3 c (by omega)]; exact Nat.le_refl _) (fun c s hc hs => by rw [z6, e 5 _ (by omega)]; exact fun q => q)
    · rw [e 18 m (by omega)] at hk
      rw [e 21 _ (by omega), e 22 _ (by omega), z0]; exact p11 k hk
    · rw [e 23 m (by omega)] at hv
      rw [e 14 m (by omega)] at hi
      rw [e 10 m (by omega)]; exact e24 m hm hv i hi
  · rw [z6] at h1
    rw [e 13 m (by omega), e 14 m (by omega), e 18 m (by omega), e 23 m (by omega)]
    exact w.2.2.2.2 m h1 h2
theorem WF.TT (w : WF τ) : WF (TT τ g t) := w.cols (fun c i hc => TTo (by omega) (by omega)) (fun m hm hv i hi => by rw [TTo (by omega) (by omega)]; exact (w.2.2.2.1 m hm).2.2.2.2.2.2.2.2.2.2.2 hv i hi)
end
/-- the method that the reference is at -/
def MB (τ : Nat → Nat → Int32) (m L P : Nat) : Prop := τ 30 0 = nI m ∧ m < 64 ∧ τ 9 m = nI L ∧ τ 10 m = nI P ∧ L + P ≤ 12
/-- its row stands for s -/
def GM (r : Nat) (τ : Nat → Nat → Int32) (L P : Nat) (s : Row) (h : zH) : Prop := ∃ g, RM (TT τ g (nI s.1)) r h ∧ okR L P (cn (τ 0 0)) s ∧ ∀ k, k < L + s.1 → g k = s.2 k
def BM (r : Nat) (τ : Nat → Nat → Int32) (h : zH) : Prop := ∃ g t, RM (TT τ g t) r h
theorem GM.b {r : Nat} {τ : Nat → Nat → Int32} {L P : Nat} {s : Row} {h : zH} (p : GM r τ L P s h) : BM r τ h := by
  obtain ⟨g, q, -⟩ := p; exact ⟨g, _, q⟩
/-- what a step of the reference says and leaves -/
def MO (r : Nat) (τ : Nat → Nat → Int32) (L P : Nat) (o : Option Row) (b : Int32) (h : zH) : Prop := (∃ s, o = some s ∧ b = 1 ∧ GM r τ L P s h) ∨ (o = none ∧ b = 0 ∧ BM r τ h)
section
variable {τ : Nat → Nat → Int32} {r m L P : Nat} {h : zH} {s : Row}
theorem GM.c (p : GM r τ L P s h) : rc 9 (some r) h = some r := by
  obtain ⟨g, q, -⟩ := p; exact rcM q
theorem BM.c (p : BM r τ h) : rc 9 (some r) h = some r := by
  obtain ⟨g, t, q⟩ := p; exact rcM q
theorem pushM (B : MB τ m L P) (p : GM r τ L P s h) {v : Int32} (hv : vT (cn (τ 0 0)) v) : ∃ b h', fX9_push (some r) v h = some (b, h') ∧ Mfr r h h' ∧ MO r τ L P (psh L P v s) b h' := by
  obtain ⟨b1, b2, b3, b4, b5⟩ := B
  obtain ⟨g, q, ok, ag⟩ := p
  have g29 : gI 9 29 (some r) h = some (nI s.1) := gM29 q
  have g30 : ∀ {g t h}, RM (TT τ g t) r h → gI 9 30 (some r) h = some (nI m) := fun q => by
    have := gM30 q; rw [TTo (by omega) (by omega), b1] at this; exact this
  have l10 : aI 100 (some (r + 9)) (nI m) h = some (nI P) := by
    have := aM10 q (i := m) b2; rw [TTo (by omega) (by omega), b4] at this; exact this
  have l9 : aI 100 (some (r + 8)) (nI m) h = some (nI L) := by
    have := aM9 q (i := m) b2; rw [TTo (by omega) (by omega), b3] at this; exact this
  have okp := ok.1
  unfold psh
  by_cases e : s.1 < P
  · rw [if_pos e]
    obtain ⟨h1, t1, q1, f1⟩ := eM28 q (i := L + s.1) (by omega) v
    obtain ⟨h2, t2, q2, f2⟩ := eS29 (TT_s28 q1) (nI (s.1 + 1))
    have e1 : ¬ nI s.1 = nI P := nI_lit (by omega) (by omega) (by omega)
    have g29b : gI 9 29 (some r) h1 = some (nI s.1) := gM29 (TT_s28 q1)
    refine ⟨1, h2, ?_, f1.tr f2, Or.inl ⟨_, rfl, rfl, _, TT_s29 q2, ok.psh hv (by unfold psh; rw [if_pos e]), fun k hk => ?_⟩⟩
    · simp only [fX9_push, g29, gRM10 q, g30 q, l10, e1, gRM28 q, gRM9 q, l9, nI_add, t1, g29b, nI_1, t2, obs, ↓reduceIte]
    · simp only at hk ⊢
      by_cases z : k = L + s.1
      · rw [if_pos z, if_pos z]
      · rw [if_neg z, if_neg z]; exact ag k (by omega)
  · rw [if_neg e]
    have e1 : nI s.1 = nI P := by rw [show s.1 = P by omega]
    rw [e1] at g29
    refine ⟨0, h, ?_, Mfr.rf, Or.inr ⟨rfl, rfl, g, _, q⟩⟩
    simp only [fX9_push, g29, gRM10 q, g30 q, l10, obs, ↓reduceIte]
theorem popM (B : MB τ m L P) (p : GM r τ L P s h) : ∃ v h', fX9_pop (some r) h = some (v, h') ∧ Mfr r h h' ∧ ((∃ q, pp L s = some q ∧ v = q.1 ∧ vT (cn (τ 0 0)) q.1 ∧ GM r τ L P q.2 h') ∨ (pp L s = none ∧ v = -1 ∧ BM r τ h')) := by
  obtain ⟨b1, b2, b3, b4, b5⟩ := B
  obtain ⟨g, q, ok, ag⟩ := p
  have g29 : gI 9 29 (some r) h = some (nI s.1) := gM29 q
  have okp := ok.1
  by_cases e : 0 < s.1
  · have ep : pp L s = some (s.2 (L + (s.1 - 1)), (s.1 - 1, s.2)) := by unfold pp; rw [if_pos e]
    obtain ⟨h1, t1, q1, f1⟩ := eS29 q (nI (s.1 - 1))
    have q1 := TT_s29 q1
    have g30 : gI 9 30 (some r) h1 = some (nI m) := by
      have := gM30 q1; rw [TTo (by omega) (by omega), b1] at this; exact this
    have l9 : aI 100 (some (r + 8)) (nI m) h1 = some (nI L) := by
      have := aM9 q1 (i := m) b2; rw [TTo (by omega) (by omega), b3] at this; exact this
    have g29b : gI 9 29 (some r) h1 = some (nI (s.1 - 1)) := gM29 q1
    have l28 : aI 100 (some (r + 26)) (nI (L + (s.1 - 1))) h1 = some (s.2 (L + (s.1 - 1))) := by
      have := aM28 q1 (i := L + (s.1 - 1)) (by omega); rw [TT28, ag _ (by omega)] at this; exact this
    have e1 : ¬ nI s.1 = 0 := nI_ne0 e (by omega)
    have e2 : nI s.1 - 1 = nI (s.1 - 1) := by rw [show s.1 = (s.1 - 1) + 1 by omega, nI_pred, Nat.add_sub_cancel]
    refine ⟨_, h1, ?_, f1, Or.inl ⟨_, ep, rfl, (ok.pp ep).2, g, q1, (ok.pp ep).1, fun k hk => ag k (by simp only at hk; omega)⟩⟩
    simp only [fX9_pop, g29, e1, e2, t1, gRM28 q1, gRM9 q1, g30, l9, g29b, nI_add, l28, obs, ↓reduceIte]
  · have ep : pp L s = none := by unfold pp; rw [if_neg e]
    have e1 : nI s.1 = 0 := by rw [show s.1 = 0 by omega]; rfl
    rw [e1] at g29
    refine ⟨-1, h, ?_, Mfr.rf, Or.inr ⟨ep, rfl, g, _, q⟩⟩
    simp only [fX9_pop, g29, obs, ↓reduceIte]
theorem popIntoM (N : Nat) (hN : 40 ≤ N) (w : WF τ) (B : MB τ m L P) (p : GM r τ L P s h) {t : Int32} (ht : vT (cn (τ 0 0)) t) : ∃ b h', fX9_popInto N (some r) t h = some (b, h') ∧ Mfr r h h' ∧ MO r τ L P (pT τ L t s) b h' := by
  obtain ⟨v, h1, e1, f1, c1⟩ := popM B p
  rcases c1 with ⟨q, ep, rfl, hv, g1⟩ | ⟨ep, rfl, b1⟩
  · obtain ⟨g, q1, ok, ag⟩ := id g1
    have gm := goesM N hN q1 w.TT (a := q.1) (b := t) hv ht
    rw [gT_T (fun i => TTo (by omega) (by omega))] at gm
    have ne := vT_ne w.1.2 hv
    have E : pT τ L t s = if gT τ q.1 t = true then some q.2 else none := by unfold pT ppc; rw [ep]; rfl
    rw [E]
    cases eg : gT τ q.1 t
    · rw [eg, bF] at gm
      refine ⟨0, h1, ?_, f1, Or.inr ⟨rfl, rfl, g1.b⟩⟩
      simp only [fX9_popInto, p.c, e1, ne, g1.c, gm, obs, ↓reduceIte]
    · rw [eg, bT] at gm
      refine ⟨1, h1, ?_, f1, Or.inl ⟨q.2, rfl, rfl, g1⟩⟩
      simp only [fX9_popInto, p.c, e1, ne, g1.c, gm, n10, obs, ↓reduceIte]
  · have E : pT τ L t s = none := by unfold pT ppc; rw [ep]; rfl
    rw [E]
    refine ⟨0, h1, ?_, f1, Or.inr ⟨rfl, rfl, b1⟩⟩
    simp only [fX9_popInto, p.c, e1, obs, ↓reduceIte]
theorem popRefM (hn : cn (τ 0 0) ≤ 32) (B : MB τ m L P) (p : GM r τ L P s h) : ∃ b h', fX9_popReference (some r) h = some (b, h') ∧ Mfr r h h' ∧ MO r τ L P (pRf L s) b h' := by
  obtain ⟨v, h1, e1, f1, c1⟩ := popM B p
  unfold pRf ppc
  rcases c1 with ⟨q, ep, rfl, hv, g1⟩ | ⟨ep, rfl, b1⟩
  · have ne := vT_ne hn hv
    have gm := refM (h := h1) q.1
    rw [ep, obs]
    cases eg : rf q.1
    · rw [eg, bF] at gm
      refine ⟨0, h1, ?_, f1, Or.inr ⟨rfl, rfl, g1.b⟩⟩
      simp only [fX9_popReference, p.c, e1, ne, gm, obs, ↓reduceIte]
    · rw [eg, bT] at gm
      refine ⟨1, h1, ?_, f1, Or.inl ⟨q.2, rfl, rfl, g1⟩⟩
      simp only [fX9_popReference, p.c, e1, ne, gm, n10, obs, ↓reduceIte]
  · rw [ep]
    refine ⟨0, h1, ?_, f1, Or.inr ⟨rfl, rfl, b1⟩⟩
    simp only [fX9_popReference, p.c, e1, obs, ↓reduceIte]
/-- one int: the pop that the loop of ints does -/
theorem popIntM (B : MB τ m L P) (p : GM r τ L P s h) : ∃ v h', fX9_pop (some r) h = some (v, h') ∧ Mfr r h h' ∧ ((∃ s', pI1 L s = some s' ∧ v = 0 ∧ GM r τ L P s' h') ∨ (pI1 L s = none ∧ ¬ v = 0 ∧ BM r τ h')) := by
  obtain ⟨v, h1, e1, f1, c1⟩ := popM B p
  refine ⟨v, h1, e1, f1, ?_⟩
  rcases c1 with ⟨q, ep, rfl, hv, g1⟩ | ⟨ep, rfl, b1⟩
  · have E : pI1 L s = if decide (q.1 = 0) = true then some q.2 else none := by unfold pI1 ppc; rw [ep]; rfl
    rw [E]
    by_cases z : q.1 = 0
    · rw [decide_eq_true z]; exact Or.inl ⟨q.2, rfl, z, g1⟩
    · rw [decide_eq_false z]; exact Or.inr ⟨rfl, z, g1.b⟩
  · have E : pI1 L s = none := by unfold pI1 ppc; rw [ep]; rfl
    rw [E]; exact Or.inr ⟨rfl, by decide, b1⟩
theorem ints1M (N : Nat) (hN : 40 ≤ N) (B : MB τ m L P) (p : GM r τ L P s h) : ∃ b h', fX9_ints N (some r) 1 h = some (b, h') ∧ Mfr r h h' ∧ MO r τ L P (pI1 L s) b h' := by
  obtain ⟨N, rfl⟩ : ∃ k, N = k + 2 := ⟨N - 2, by omega⟩
  obtain ⟨v, h1, e1, f1, c1⟩ := popIntM B p
  unfold fX9_ints
  rw [fX9_ints_b2, if_neg (by decide), p.c, obs, e1, obs]
  rcases c1 with ⟨s', ep, rfl, g1⟩ | ⟨ep, z, b1⟩
  · refine ⟨1, h1, by rw [if_pos rfl, fX9_ints_b2, if_pos (by decide)], f1, Or.inl ⟨s', ep, rfl, g1⟩⟩
  · exact ⟨0, h1, by rw [if_neg z], f1, Or.inr ⟨ep, rfl, b1⟩⟩
theorem ints2M (N : Nat) (hN : 40 ≤ N) (B : MB τ m L P) (p : GM r τ L P s h) : ∃ b h', fX9_ints N (some r) 2 h = some (b, h') ∧ Mfr r h h' ∧ MO r τ L P ((pI1 L s).bind (pI1 L)) b h' := by
  obtain ⟨N, rfl⟩ : ∃ k, N = k + 3 := ⟨N - 3, by omega⟩
  obtain ⟨v, h1, e1, f1, c1⟩ := popIntM B p
  unfold fX9_ints
  rw [fX9_ints_b2, if_neg (by decide), p.c, obs, e1, obs]
  rcases c1 with ⟨s', ep, rfl, g1⟩ | ⟨ep, z, b1⟩
  · obtain ⟨u, h2, e2, f2, c2⟩ := popIntM B g1
    rw [if_pos rfl, fX9_ints_b2, if_neg (by decide), g1.c, obs, e2, obs, ep, obs]
    rcases c2 with ⟨s2, ep2, rfl, g2⟩ | ⟨ep2, z, b2⟩
    · exact ⟨1, h2, by rw [if_pos rfl, fX9_ints_b2, if_pos (by decide)], f1.tr f2, Or.inl ⟨s2, ep2, rfl, g2⟩⟩
    · exact ⟨0, h2, by rw [if_neg z], f1.tr f2, Or.inr ⟨ep2, rfl, b2⟩⟩
  · exact ⟨0, h1, by rw [if_neg z], f1, Or.inr ⟨by rw [ep]; rfl, rfl, b1⟩⟩
theorem parsM (N : Nat) (hN : 40 ≤ N) (w : WF τ) (B : MB τ m L P) {u fr : Nat} (hu : u < cn (τ 6 0)) (hfr : fr ≤ 1) (k : Nat) : ∀ (n : Nat) (s : Row) (h : zH), k < n → k ≤ cn (τ 11 u) → GM r τ L P s h → ∃ b h', fX9_parameters_b9 N n (some r) (nI u) (nI fr) (nI k - 1) h = some (b, h') ∧ Mfr r h h' ∧ MO r τ L P (pars τ L u fr k s) b h' := by
  have wm := w.2.2.2.1 u hu
  have h8 := wm.2.2.2.1.2.1
  have h6 := w.2.1.2
  induction k with
  | zero =>
    intro n s h hn hk p
    obtain ⟨n, rfl⟩ : ∃ m, n = m + 1 := ⟨n - 1, by omega⟩
    refine ⟨1, h, ?_, Mfr.rf, Or.inl ⟨s, rfl, rfl, p⟩⟩
    rw [fX9_parameters_b9, if_pos]
    rcases (show fr = 0 ∨ fr = 1 by omega) with rfl | rfl <;> decide
  | succ k ih =>
    intro n s h hn hk p
    obtain ⟨n, rfl⟩ : ∃ m, n = m + 1 := ⟨n - 1, by omega⟩
    unfold pars
    by_cases q : k < fr
    · refine ⟨1, h, ?_, Mfr.rf, Or.inl ⟨s, by rw [if_pos q], rfl, p⟩⟩
      rw [fX9_parameters_b9, nI_pred, if_pos (nI_lt q (by omega))]
    · rw [if_neg q]
      obtain ⟨g, q1, ok, ag⟩ := id p
      have l12 : aI 100 (some (r + 11)) (nI (8 * u + k)) h = some (τ 12 (8 * u + k)) := by
        have := aM12 q1 (i := 8 * u + k) (by omega); rw [TTo (by omega) (by omega)] at this; exact this
      have lin1 : (8 : Int32) * nI u + nI k = nI (8 * u + k) := lin trivial
      obtain ⟨b, h1, e1, f1, c1⟩ := popIntoM N hN w B p (t := τ 12 (8 * u + k)) (Or.inl (wm.2.2.2.2.1 k (by omega)))
      have E : fX9_parameters_b9 N (n + 1) (some r) (nI u) (nI fr) (nI (k + 1) - 1) h = if b = 0 then some (0, h1) else fX9_parameters_b9 N n (some r) (nI u) (nI fr) (nI k - 1) h1 := by
        rw [fX9_parameters_b9, nI_pred, if_neg (nI_nlt (by omega) (by omega)), gRM12 q1, obs, lin1, l12, obs, p.c, obs, e1, obs, show nI k + (-1) = nI k - 1 from (Int32.sub_eq_add_neg _ _).symm]
      rw [E]
      rcases c1 with ⟨s', ep, rfl, g1⟩ | ⟨ep, rfl, b1⟩
      · obtain ⟨b2, h2, e2, f2, c2⟩ := ih n s' h1 (by omega) (by omega) g1
        exact ⟨b2, h2, by rw [if_neg n10, e2], f1.tr f2, by rw [ep]; exact c2⟩
      · exact ⟨0, h1, by rw [if_pos rfl], f1, Or.inr ⟨by rw [ep]; rfl, rfl, b1⟩⟩
theorem parametersM (N : Nat) (hN : 40 ≤ N) (w : WF τ) (B : MB τ m L P) {u fr : Nat} (hu : u < cn (τ 6 0)) (hfr : fr ≤ 1) (p : GM r τ L P s h) : ∃ b h', fX9_parameters N (some r) (nI u) (nI fr) h = some (b, h') ∧ Mfr r h h' ∧ MO r τ L P (pars τ L u fr (cn (τ 11 u)) s) b h' := by
  have wm := w.2.2.2.1 u hu
  have h8 := wm.2.2.2.1.2.1
  have h6 := w.2.1.2
  obtain ⟨g, q1, ok, ag⟩ := id p
  have l11 : aI 100 (some (r + 10)) (nI u) h = some (nI (cn (τ 11 u))) := by
    have := aM11 q1 (i := u) (by omega); rw [TTo (by omega) (by omega), nI_of_cn wm.2.2.2.1.1] at this; exact this
  obtain ⟨b, h1, e1, f1, c1⟩ := parsM N hN w B hu hfr (cn (τ 11 u)) N s h (by omega) (Nat.le_refl _) p
  refine ⟨b, h1, ?_, f1, c1⟩
  unfold fX9_parameters
  rw [gRM11 q1, obs, l11, obs, e1]
theorem givenM (w : WF τ) (B : MB τ m L P) {u : Nat} (hu : u < cn (τ 6 0)) (p : GM r τ L P s h) : ∃ b h', fX9_given (some r) (nI u) h = some (b, h') ∧ Mfr r h h' ∧ MO r τ L P (givn τ L P u s) b h' := by
  have h6 := w.2.1.2
  obtain ⟨g, q1, ok, ag⟩ := id p
  have l8 : aI 100 (some (r + 7)) (nI u) h = some (τ 8 u) := by
    have := aM8 q1 (i := u) (by omega); rw [TTo (by omega) (by omega)] at this; exact this
  unfold givn
  rcases (w.2.2.2.1 u hu).2.1 with e | okt
  · rw [e] at l8
    refine ⟨1, h, ?_, Mfr.rf, Or.inl ⟨s, by rw [e, if_pos m1neg], rfl, p⟩⟩
    simp only [fX9_given, fX9_given_b22, gRM8 q1, l8, m1neg, obs, ↓reduceIte]
  · have okn := okT_ne w.1.2 okt
    obtain ⟨b, h1, e1, f1, c1⟩ := pushM B p (v := τ 8 u) (Or.inl okt)
    rw [if_neg okn.2]
    rcases c1 with ⟨s', ep, rfl, g1⟩ | ⟨ep, rfl, b1⟩
    · refine ⟨1, h1, ?_, f1, Or.inl ⟨s', ep, rfl, g1⟩⟩
      simp only [fX9_given, fX9_given_b22, gRM8 q1, l8, okn.2, p.c, e1, n10, obs, ↓reduceIte]
    · refine ⟨0, h1, ?_, f1, Or.inr ⟨ep, rfl, b1⟩⟩
      simp only [fX9_given, gRM8 q1, l8, okn.2, p.c, e1, obs, ↓reduceIte]
end
