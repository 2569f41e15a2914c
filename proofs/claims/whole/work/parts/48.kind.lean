section
variable {τ : Nat → Nat → Int32} {x : Nat} {h : zH}
theorem kind_go (N : Nat) (hN : 20 ≤ N) (I : Inv τ x h) {o : Int32} (ow : Option Nat) (hfo : ∃ kd md ib hd, RC τ kd md ib hd x h ∧ ((o = -1 ∧ ow = none) ∨ ∃ c, c < cn (τ 0 0) ∧ o = nI c ∧ ow = some (kd c))) : SameM τ (fX8_kind_b20 N (some x) ow) (fX9_kind_b15 N (some (x + 8)) o) x h := by
  obtain ⟨w, rM, -⟩ := id I
  obtain ⟨kd, md, ib, hd, p, ho⟩ := hfo
  have k8 : zk h x = 9 := p.1.1.1
  have k6 : zk h (x + 1) = 7 := p.1.1.2.1
  have r0 : zr h 8 0 x = some (x + 1) := p.1.2.1.1
  have hnk := w.1.2
  have v0 : τ 0 0 = nI (cn (τ 0 0)) := nI_of_cn w.1.1
  have i3 : zi h 6 2 (x + 1) = nI (cn (τ 0 0)) := p.2.2.1.1.trans v0
  have hx := p.2.1
  by_cases hfull : cn (τ 0 0) < 32
  · have hO : ∀ a, ow = some a → x + 35 ≤ a ∧ a + 3 ≤ zs h ∧ zk h a = 3 ∧ zk h (a + 1) = 100 ∧ zk h (a + 2) = 100 ∧ zr h 2 2 a = some (a + 1) ∧ zr h 2 3 a = some (a + 2) ∧ zl h (a + 1) = 15 ∧ zl h (a + 2) = 16 := by
      intro a e
      rcases ho with ⟨-, e2⟩ | ⟨c, hc, rfl, e2⟩
      · rw [e2] at e; cases e
      · rw [e2] at e; cases e
        obtain ⟨-, b1, b2, rk⟩ := p.2.2.2.1 c hc
        exact ⟨b1, b2, rk.1.1, rk.1.2.1, rk.1.2.2.1, rk.1.2.2.2.1, rk.1.2.2.2.2.1, rk.1.2.2.2.2.2.1, rk.1.2.2.2.2.2.2⟩
    obtain ⟨h1, c1, A, s1, kT, iT, fT, gT, ⟨f1, f2, f3, f4⟩, ⟨e1, e2, e3⟩, fa⟩ := addKindC N hN (x := x) h ow hfull hx hO k6 p.1.1.2.2.1 p.1.2.2.1 p.1.2.1.2.2.1 i3
    have hm1 : RM τ (x + 8) h1 := rM.ag (fun b b1 b2 => A b (by omega) (by omega) (by omega) (fun q => by have := (hO b q).1; omega))
    have ho' : o = -1 ∨ ∃ u, u < cn (τ 0 0) ∧ o = nI u := by
      rcases ho with ⟨e, -⟩ | ⟨c, hc, e, -⟩
      · exact Or.inl e
      · exact Or.inr ⟨c, hc, e⟩
    have hoc : ¬ o < 0 → cn o < cn (τ 0 0) ∧ ow = some (kd (cn o)) := fun q => by
      rcases ho with ⟨rfl, -⟩ | ⟨c, hc, rfl, e⟩
      · exact absurd m1neg q
      · rw [cn_nI (by omega)]; exact ⟨hc, e⟩
    obtain ⟨h2, τ', c2, hm2, fr, F⟩ := kindM N hN (o := o) hm1 hfull v0 ho' (fun q => (w.2.2.1 (cn o) (hoc q).1).2.1)
    have wf : WF τ' := F.WF w rfl hfull ho'
    have c1' : fX8_kind_b20 N (some x) ow h = some (nI (cn (τ 0 0)), h1) := by
      simp only [fX8_kind_b20, gR_at, rc_at, k8, k6, r0, c1, obs]
    obtain ⟨t0, t00, t1, t2, t3, t4, t4n, t5, t5n, t40, t41, t42⟩ := id F
    have hne : ∀ a, ow = some a → a ≠ x ∧ a ≠ x + 3 ∧ a ≠ x + 4 ∧ a ≠ x + 5 ∧ a ≠ x + 6 ∧ a ≠ x + 7 := fun a e => by have := (hO a e).1; exact ⟨by omega, by omega, by omega, by omega, by omega, by omega⟩
    have A0 := A x (by omega) (by omega) (by omega) (fun q => (hne _ q).1 rfl)
    have A3 := A (x + 3) (by omega) (by omega) (by omega) (fun q => (hne _ q).2.1 rfl)
    have A4 := A (x + 4) (by omega) (by omega) (by omega) (fun q => (hne _ q).2.2.1 rfl)
    have A5 := A (x + 5) (by omega) (by omega) (by omega) (fun q => (hne _ q).2.2.2.1 rfl)
    have A6 := A (x + 6) (by omega) (by omega) (by omega) (fun q => (hne _ q).2.2.2.2.1 rfl)
    have A7 := A (x + 7) (by omega) (by omega) (by omega) (fun q => (hne _ q).2.2.2.2.2 rfl)
    have hF : RF x h1 := by
      obtain ⟨⟨a1, a2, a3, a4, a5, a6, a7, a8⟩, ⟨b1, b2, b3, b4, b5, b6, b7, b8, b9, b10⟩, g1, g2, g3⟩ := p.1
      exact ⟨⟨A0.k.trans a1, f1, e1, A3.k.trans a4, A4.k.trans a5, A5.k.trans a6, A6.k.trans a7, A7.k.trans a8⟩, ⟨(A0.r 8 0).trans b1, (A0.r 8 1).trans b2, (f2 6 0).trans b3, (f2 6 1).trans b4, (A4.r 7 0).trans b5, (A4.r 7 1).trans b6, (A4.r 7 2).trans b7, (A5.r 4 0).trans b8, (A7.r 5 0).trans b9, (A7.r 5 1).trans b10⟩, e2, A3.l.trans g2, A6.l.trans g3⟩
    refine SameM.of c1' hm1 c2 wf hm2 fr (p.addK w s1 hF ow (fun a e => ?_) (fun b b1 b2 b3 => A b b2 (by omega) (by omega) b3) ⟨f4.trans t00.symm, f3.trans (p.2.2.1.2.1.trans (t0 6 0 (by decide)).symm), (A4.i 7 5).trans (p.2.2.1.2.2.trans (t0 27 0 (by decide)).symm)⟩ (by rw [t00, cn_nI (by omega)]) (by rw [t0 6 0 (by decide)]) (fun i => A3.q i) e3 (fun m => F.t tM (by decide) m) (fun j => F.t tI (by decide) j) (fun j => F.t tH (by decide) j) (fun c hc => ?_) ?_)
    · rcases ho with ⟨-, e2⟩ | ⟨c, hc, rfl, e2⟩
      · rw [e2] at e; cases e
      · rw [e2] at e; cases e; exact ⟨c, hc, rfl⟩
    · -- the classes
      obtain ⟨-, b1, b2, rk⟩ := p.2.2.2.1 c hc
      by_cases e : ow = some (kd c)
      · have oc : ¬ o < 0 ∧ cn o = c := by
          rcases ho with ⟨-, e2⟩ | ⟨c', hc', rfl, e2⟩
          · rw [e2] at e; cases e
          · rw [e2] at e
            have : c' = c := p.2.2.2.2.2.2.2.1 c' c hc' hc (Option.some.inj e)
            subst this
            exact ⟨nlt0 (by omega), cn_nI (by omega)⟩
        obtain ⟨y1, y2, y3⟩ := fa _ e
        obtain ⟨⟨a1, a2, a3, a4, a5, a6, a7⟩, ⟨d1, d2, d3, d4, d5⟩, z1, z2⟩ := id rk
        have B1 := A (kd c + 1) (by omega) (by omega) (by omega) (fun q => by rw [e] at q; have := Option.some.inj q; omega)
        have B2 := A (kd c + 2) (by omega) (by omega) (by omega) (fun q => by rw [e] at q; have := Option.some.inj q; omega)
        refine ⟨⟨y1, B1.k.trans a2, B2.k.trans a3, (y2 2 2).trans a4, (y2 2 3).trans a5, B1.l.trans a6, B2.l.trans a7⟩, ⟨?_, ?_, ?_, ?_, ?_⟩, fun k k1 k2 => ?_, fun k k1 => ?_⟩
        · rw [y3, if_neg (by decide)]; exact d1
        · rw [y3, if_neg (by decide), t42, if_neg (by omega)]; exact d2
        · rw [y3, if_neg (by decide), t3, if_neg (by omega)]; exact d3
        · rw [y3, if_pos rfl, t40, if_neg (by omega), if_pos ⟨oc.1, oc.2.symm⟩]
        · rw [y3, if_neg (by decide), t41, if_neg (by omega)]; exact d5
        · rw [t3, if_neg (by omega)] at k2
          rw [B1.a, t4 c k (by omega) k1]; exact z1 k k1 k2
        · rw [B2.a, t5 c k (by omega) k1]; exact z2 k k1
      · have oc : ¬ (¬ o < 0 ∧ c = cn o) := fun q => by
          rcases ho with ⟨rfl, -⟩ | ⟨c', hc', rfl, e2⟩
          · exact q.1 m1neg
          · rw [cn_nI (by omega)] at q
            exact e (by rw [e2, q.2])
        have dk : ∀ j, j < 3 → ow ≠ some (kd c + j) := fun j hj q => by
          rcases ho with ⟨-, e2⟩ | ⟨c', hc', rfl, e2⟩
          · rw [e2] at q; cases q
          · rw [e2] at q
            have q := Option.some.inj q
            by_cases ee : c' = c
            · subst ee; exact e e2
            · exact p.KK hc' hc ee 0 j (by omega) hj q
        refine rk.ag (A _ (by omega) (by omega) (by omega) (dk 0 (by omega))) (A _ (by omega) (by omega) (by omega) (dk 1 (by omega))) (A _ (by omega) (by omega) (by omega) (dk 2 (by omega))) ?_
        intro q hq k hk
        simp only [tK, List.mem_cons, List.not_mem_nil, or_false] at hq
        rcases hq with rfl | rfl | rfl | rfl | rfl | rfl <;> simp only at hk ⊢
        · rw [t3, if_neg (by omega)]
        · exact t4 c k (by omega) hk
        · exact t5 c k (by omega) hk
        · rw [t40, if_neg (by omega), if_neg (fun q => oc ⟨q.1, by omega⟩)]
        · rw [t41, if_neg (by omega)]
        · rw [t42, if_neg (by omega)]
    · -- the new one
      refine ⟨kT, ⟨iT.1, ?_, ?_, ?_, ?_⟩, fun k k1 k2 => ?_, fun k k1 => ?_⟩
      · rw [iT.2.1, t42, if_pos rfl]
        rcases ho with ⟨rfl, e2⟩ | ⟨c, hc, rfl, e2⟩
        · subst e2; rw [if_pos m1neg]
        · subst e2; rw [if_neg (nlt0 (by omega)), cn_nI (by omega)]
          show _ = _
          rw [← (p.2.2.2.1 c hc).2.2.2.2.1.2.1]
      · rw [iT.2.2.1, t3, if_pos rfl]
        rcases ho with ⟨rfl, e2⟩ | ⟨c, hc, rfl, e2⟩
        · subst e2; rw [if_pos m1neg]
        · subst e2; rw [if_neg (nlt0 (by omega)), cn_nI (by omega)]
          show _ = _
          rw [← (p.2.2.2.1 c hc).2.2.2.2.1.2.2.1]
      · rw [iT.2.2.2.1, t40, if_pos rfl]
      · rw [iT.2.2.2.2, t41, if_pos rfl]
      · rw [t3, if_pos rfl] at k2
        rw [fT k k1]
        rcases ho with ⟨rfl, e2⟩ | ⟨c, hc, rfl, e2⟩
        · rw [if_pos m1neg] at k2; exact absurd k2 (Nat.not_lt_zero _)
        · have q : ¬ nI c < 0 := nlt0 (by omega)
          rw [if_neg q] at k2
          have t := t4n k q k2
          rw [cn_nI (by omega)] at t k2
          subst e2; rw [t]
          exact (p.2.2.2.1 c hc).2.2.2.2.2.1 k k1 k2
      · rw [gT k k1, t5n k k1]
        rcases ho with ⟨rfl, e2⟩ | ⟨c, hc, rfl, e2⟩
        · subst e2; rw [if_pos m1neg]
        · subst e2; rw [if_neg (nlt0 (by omega)), cn_nI (by omega)]
          exact (p.2.2.2.1 c hc).2.2.2.2.2.2 k k1
  · have hv : τ 0 0 = 32 := by rw [v0, show cn (τ 0 0) = 32 by omega]; rfl
    refine SameM.no (r := -2) I ?_ ?_
    · have q1 : ¬ (32 : Int32) < 32 := by decide
      simp only [fX8_kind_b20, fX6_addKind, gR_at, gI_at, rc_at, k8, k6, r0, p.2.2.1.1, hv, q1, obs, ↓reduceIte]
    · have g0 := gM0 rM
      rw [hv] at g0
      simp only [fX9_kind_b15, g0, obs, ↓reduceIte]
theorem op_kind (N : Nat) (hN : 20 ≤ N) (I : Inv τ x h) (o : Int32) : Same (fX8_kind N (some x) o) (fX9_kind N (some (x + 8)) o) x h := by
  obtain ⟨w, rM, kd, md, ib, hd, p⟩ := id I
  have k8 : zk h x = 9 := p.1.1.1
  have k6 : zk h (x + 1) = 7 := p.1.1.2.1
  have r0 : zr h 8 0 x = some (x + 1) := p.1.2.1.1
  by_cases e : o = -1
  · refine SameM.same (kind_go N hN I none ⟨kd, md, ib, hd, p, Or.inl ⟨e, rfl⟩⟩) ?_ (fun h1 m1 => ?_)
    · have ka := kindAt_no p (v := o) (Or.inl (by rw [e]; exact m1neg))
      unfold fX8_kind
      rw [gR_at k8, r0, obs, rc_at k6, obs, ka, obs, if_pos e]
    · unfold fX9_kind; rw [if_pos e]
  · rcases kindIs p w o with ⟨c, hc, eo, ka⟩ | ⟨hno, ka⟩
    · refine SameM.same (kind_go N hN I (some (kd c)) ⟨kd, md, ib, hd, p, Or.inr ⟨c, hc, eo, rfl⟩⟩) ?_ (fun h1 m1 => ?_)
      · simp only [fX8_kind, gR_at, rc_at, k8, k6, r0, ka, e, obs, reduceCtorEq, ↓reduceIte]
      · have q := isClassM1 m1 w hc
        rw [← eo] at q
        simp only [fX9_kind, e, rcM m1, q, n10, obs, ↓reduceIte]
    · refine Same.no (r := -1) I ?_ ?_
      · simp only [fX8_kind, gR_at, rc_at, k8, k6, r0, ka, e, obs, ↓reduceIte]
      · simp only [fX9_kind, e, rcM rM, isClassM0 rM w hno, obs, ↓reduceIte]
end
