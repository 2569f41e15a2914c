section
variable {τ : Nat → Nat → Int32} {m n : Nat} {g l s : Int32} {h : zH}
theorem addMethodM0 (rM : RM τ m h) (hn : n < 64) (v6 : τ 6 0 = nI n) : ∃ h2, fX9_method_b67 (some m) (-1) g l s h = some (nI n, h2) ∧ RM (u2 (u2 (u2 (u2 (u2 (u2 τ 7 n (-1)) 8 n g) 9 n l) 10 n s) 11 n 0) 6 0 (nI (n + 1))) m h2 ∧ Mfr m h h2 := by
  obtain ⟨h1, t1, hm1, r1⟩ := eM7 rM (i := n) (by omega) (-1)
  obtain ⟨h2, t2, hm2, r2⟩ := eM8 hm1 (i := n) (by omega) g
  obtain ⟨h3, t3, hm3, r3⟩ := eM9 hm2 (i := n) (by omega) l
  obtain ⟨h4, t4, hm4, r4⟩ := eM10 hm3 (i := n) (by omega) s
  obtain ⟨h5, t5, hm5, r5⟩ := eM11 hm4 (i := n) (by omega) 0
  obtain ⟨h6, t6, hm6, r6⟩ := eS6 hm5 (nI (n + 1))
  have g6 := gM6 rM
  have g6b := gM6 hm5
  rw [v6] at g6
  have x1 : u2 (u2 (u2 (u2 (u2 τ 7 n (-1)) 8 n g) 9 n l) 10 n s) 11 n 0 6 0 = nI n := by simp [u2_at, v6]
  rw [x1] at g6b
  have q2 : ¬ nI n = (64 : Int32) := fun q => by have := nI_inj (a := n) (b := 64) (by omega) (by decide) q; omega
  refine ⟨h6, ?_, hm6, ((((r1.tr r2).tr r3).tr r4).tr r5).tr r6⟩
  simp only [fX9_method_b67, fX9_method_b158, g6, q2, gRM7 rM, t1, gRM8 hm1, t2, gRM9 hm2, t3, gRM10 hm3, t4, gRM11 hm4, t5, m1neg, g6b, nI_1, t6, obs, ↓reduceIte]
theorem addMethodM1 {c : Nat} (rM : RM τ m h) (hn : n < 64) (v6 : τ 6 0 = nI n) (hc : c < 32) : ∃ h2, fX9_method_b67 (some m) (nI c) g l s h = some (nI n, h2) ∧ RM (u2 (u2 (u2 (u2 (u2 (u2 (u2 (u2 (u2 (u2 τ 7 n (nI c)) 8 n g) 9 n l) 10 n s) 11 n 0) 12 (8 * n) (1 + nI c)) 11 n 1) 2 c 1) 6 0 (nI (n + 1))) 41 c 1) m h2 ∧ Mfr m h h2 := by
  obtain ⟨h1, t1, hm1, r1⟩ := eM7 rM (i := n) (by omega) (nI c)
  obtain ⟨h2, t2, hm2, r2⟩ := eM8 hm1 (i := n) (by omega) g
  obtain ⟨h3, t3, hm3, r3⟩ := eM9 hm2 (i := n) (by omega) l
  obtain ⟨h4, t4, hm4, r4⟩ := eM10 hm3 (i := n) (by omega) s
  obtain ⟨h5, t5, hm5, r5⟩ := eM11 hm4 (i := n) (by omega) 0
  obtain ⟨h6, t6, hm6, r6⟩ := eM12 hm5 (i := 8 * n) (by omega) (1 + nI c)
  obtain ⟨h7, t7, hm7, r7⟩ := eM11 hm6 (i := n) (by omega) 1
  obtain ⟨h8, t8, hm8, r8⟩ := eM2 hm7 (i := c) (by omega) (v := 1) (Or.inr rfl)
  obtain ⟨h9, t9, hm9, r9⟩ := eS6 hm8 (nI (n + 1))
  have g6 := gM6 rM
  have g6b := gM6 hm8
  rw [v6] at g6
  have x1 : u2 (u2 (u2 (u2 (u2 (u2 (u2 (u2 τ 7 n (nI c)) 8 n g) 9 n l) 10 n s) 11 n 0) 12 (8 * n) (1 + nI c)) 11 n 1) 2 c 1 6 0 = nI n := by simp [u2_at, v6]
  rw [x1] at g6b
  have q2 : ¬ nI n = (64 : Int32) := fun q => by have := nI_inj (a := n) (b := 64) (by omega) (by decide) q; omega
  have q3 : ¬ nI c < 0 := nlt0 (by omega)
  have lin1 : (8 : Int32) * nI n = nI (8 * n) := pk_mul 8 n
  refine ⟨h9, ?_, hm9.ghost (by omega), (((((((r1.tr r2).tr r3).tr r4).tr r5).tr r6).tr r7).tr r8).tr r9⟩
  simp only [fX9_method_b67, fX9_method_b158, g6, q2, gRM7 rM, t1, gRM8 hm1, t2, gRM9 hm2, t3, gRM10 hm3, t4, gRM11 hm4, t5, q3, gRM12 hm5, lin1, t6, gRM11 hm6, t7, gRM2 hm7, t8, g6b, nI_1, t9, obs, ↓reduceIte]
end
section
variable {τ : Nat → Nat → Int32} {x : Nat} {h : zH}
/-- locals and places in range -/
theorem room {l s : Int32} (h1 : ¬ l < 0) (h2 : ¬ s < 0) (h3 : ¬ 12 < l) (h4 : ¬ 12 < s) (h5 : ¬ 12 < l + s) : cn l + cn s ≤ 12 := by
  obtain ⟨a, ha, rfl⟩ := nI_of h1
  obtain ⟨b, hb, rfl⟩ := nI_of h2
  have h3' : ¬ nI 12 < nI a := h3
  have h4' : ¬ nI 12 < nI b := h4
  have h5' : ¬ nI 12 < nI a + nI b := h5
  rw [nI_ltI (by decide) ha] at h3'
  rw [nI_ltI (by decide) hb] at h4'
  rw [nI_add, nI_ltI (by decide) (by omega)] at h5'
  rw [cn_nI ha, cn_nI hb]; omega
theorem roomC (l s : Int32) : (fX8_isRoom l s h = some (1, h) ∧ ¬ l < 0 ∧ ¬ s < 0 ∧ ¬ 12 < l ∧ ¬ 12 < s ∧ ¬ 12 < l + s) ∨ (fX8_isRoom l s h = some (0, h) ∧ (l < 0 ∨ s < 0 ∨ 12 < l ∨ 12 < s ∨ 12 < l + s)) := by
  unfold fX8_isRoom
  by_cases h1 : l < 0
  · rw [if_pos h1]; exact Or.inr ⟨rfl, Or.inl h1⟩
  · rw [if_neg h1]
    by_cases h3 : 12 < l
    · rw [if_pos h3]; exact Or.inr ⟨rfl, Or.inr (Or.inr (Or.inl h3))⟩
    · rw [if_neg h3]
      by_cases h2 : s < 0
      · rw [if_pos h2]; exact Or.inr ⟨rfl, Or.inr (Or.inl h2)⟩
      · rw [if_neg h2]
        by_cases h4 : 12 < s
        · rw [if_pos h4]; exact Or.inr ⟨rfl, Or.inr (Or.inr (Or.inr (Or.inl h4)))⟩
        · rw [if_neg h4]
          by_cases h5 : 12 < l + s
          · rw [if_pos h5]; exact Or.inr ⟨rfl, Or.inr (Or.inr (Or.inr (Or.inr h5)))⟩
          · rw [if_neg h5]; exact Or.inl ⟨rfl, h1, h2, h3, h4, h5⟩
theorem method26_no (rM : RM τ x h) {o g l s : Int32} (hq : (l < 0 ∨ s < 0 ∨ 12 < l ∨ 12 < s ∨ 12 < l + s) ∨ (¬ o < 0 ∧ l = 0)) : fX9_method_b26 (some x) o g l s h = some (-1, h) := by
  unfold fX9_method_b26
  by_cases h1 : l < 0
  · rw [if_pos h1]
  · rw [if_neg h1]
    by_cases h2 : s < 0
    · rw [if_pos h2]
    · rw [if_neg h2]
      by_cases h3 : 12 < l
      · rw [if_pos h3]
      · rw [if_neg h3]
        by_cases h4 : 12 < s
        · rw [if_pos h4]
        · rw [if_neg h4]
          by_cases h5 : 12 < l + s
          · rw [if_pos h5]
          · rw [if_neg h5]
            rcases hq with hq | hq
            · exfalso; rcases hq with q | q | q | q | q <;> contradiction
            · rw [if_neg hq.1, if_pos hq.2]
/-- one call on both sides, and the reference's cells in between -/
def SameM (τ : Nat → Nat → Int32) (f g : zH → Option (Int32 × zH)) (x : Nat) (h : zH) : Prop := ∃ (r : Int32) (h1 h2 : zH) (τ' : Nat → Nat → Int32), f h = some (r, h1) ∧ RM τ (x + 8) h1 ∧ g h1 = some (r, h2) ∧ Inv τ' x h2
theorem SameM.no {f g : zH → Option (Int32 × zH)} {r : Int32} (I : Inv τ x h) (e1 : f h = some (r, h)) (e2 : g h = some (r, h)) : SameM τ f g x h := ⟨r, h, h, τ, e1, I.2.1, e2, I⟩
theorem SameM.of {τ' : Nat → Nat → Int32} {kd md : Nat → Nat} {ib hd : Nat → Nat → Nat} {f g : zH → Option (Int32 × zH)} {r : Int32} {h1 h2 : zH} (e1 : f h = some (r, h1)) (m1 : RM τ (x + 8) h1) (e2 : g h1 = some (r, h2)) (w : WF τ') (m2 : RM τ' (x + 8) h2) (fr : Mfr (x + 8) h1 h2) (p : RC τ' kd md ib hd x h1) : SameM τ f g x h := ⟨r, h1, h2, τ', e1, m1, e2, w, m2, kd, md, ib, hd, p.Mfr fr⟩
theorem SameM.same {f g f' g' : zH → Option (Int32 × zH)} (s : SameM τ f' g' x h) (ef : f h = f' h) (eg : ∀ h1, RM τ (x + 8) h1 → g h1 = g' h1) : Same f g x h := by
  obtain ⟨r, h1, h2, τ', a1, a2, a3, a4⟩ := s
  exact ⟨r, h1, h2, τ', by rw [ef]; exact a1, rcM a2, by rw [eg h1 a2]; exact a3, a4⟩
/-- behind all questions: the same method more on both sides -/
theorem method_go (I : Inv τ x h) {o g l s : Int32} (ow : Option Nat) (hfo : ∃ kd md ib hd, RC τ kd md ib hd x h ∧ ((o = -1 ∧ ow = none) ∨ ∃ c, c < cn (τ 0 0) ∧ o = nI c ∧ ow = some (kd c))) (hg : g = -1 ∨ okT (cn (τ 0 0)) g) (hl : ¬ l < 0) (hs : ¬ s < 0) (hls : cn l + cn s ≤ 12) (hol : ¬ o < 0 → 0 < cn l) : SameM τ (fX8_method_b60 (some x) g l s ow) (fX9_method_b67 (some (x + 8)) o g l s) x h := by
  obtain ⟨w, rM, -⟩ := id I
  obtain ⟨kd, md, ib, hd, p, ho⟩ := hfo
  have k8 : zk h x = 9 := p.1.1.1
  have k6 : zk h (x + 1) = 7 := p.1.1.2.1
  have r0 : zr h 8 0 x = some (x + 1) := p.1.2.1.1
  have hnk := w.1.2
  have v6 : τ 6 0 = nI (cn (τ 6 0)) := nI_of_cn w.2.1.1
  have hn6 := w.2.1.2
  have i3 : zi h 6 3 (x + 1) = nI (cn (τ 6 0)) := p.2.2.1.2.1.trans v6
  have hx := p.2.1
  by_cases hfull : cn (τ 6 0) < 64
  · have hO : ∀ a, ow = some a → x + 35 ≤ a ∧ a < zs h ∧ zk h a = 3 ∧ zi h 2 0 a = o := by
      intro a e
      rcases ho with ⟨-, e2⟩ | ⟨c, hc, rfl, e2⟩
      · rw [e2] at e; cases e
      · rw [e2] at e; cases e
        obtain ⟨-, b1, b2, rk⟩ := p.2.2.2.1 c hc
        exact ⟨b1, by omega, rk.1.1, rk.2.1.1⟩
    obtain ⟨h1, c1, A, s1, kT, iT, oT, ⟨f1, f2, f3, f4⟩, ⟨e1, e2, e3⟩, fa⟩ := addMethodC (x := x) h ow g l s o hfull hx hO k6 p.1.1.2.2.2.1 p.1.2.2.2.1 p.1.2.1.2.2.2.1 i3
    have hm1 : RM τ (x + 8) h1 := rM.ag (fun b b1 b2 => A b (by omega) (by omega) (by omega) (fun q => by have := (hO b q).1; omega))
    have M : ∃ h2 τ', fX9_method_b67 (some (x + 8)) o g l s h1 = some (nI (cn (τ 6 0)), h2) ∧ RM τ' (x + 8) h2 ∧ Mfr (x + 8) h1 h2 ∧ TF τ τ' (cn (τ 6 0)) o g l s := by
      rcases ho with ⟨rfl, -⟩ | ⟨c, hc, rfl, -⟩
      · obtain ⟨h2, a1, a2, a3⟩ := addMethodM0 (g := g) (l := l) (s := s) hm1 hfull v6
        exact ⟨h2, _, a1, a2, a3, TF.none⟩
      · obtain ⟨h2, a1, a2, a3⟩ := addMethodM1 (g := g) (l := l) (s := s) (c := c) hm1 hfull v6 (by omega)
        exact ⟨h2, _, a1, a2, a3, TF.some (by omega)⟩
    obtain ⟨h2, τ', c2, hm2, fr, F⟩ := M
    have wf : WF τ' := F.WF w rfl hfull (by rcases ho with ⟨e, -⟩ | ⟨c, hc, e, -⟩; exact Or.inl e; exact Or.inr ⟨c, hc, e⟩) hg hl hs hls hol
    have c1' : fX8_method_b60 (some x) g l s ow h = some (nI (cn (τ 6 0)), h1) := by
      simp only [fX8_method_b60, gR_at, rc_at, k8, k6, r0, c1, obs]
    obtain ⟨t0, t6, t7, t8, t9, t10, t11, t12, t2, t41⟩ := id F
    have hne : ∀ a, ow = some a → a ≠ x ∧ a ≠ x + 2 ∧ a ≠ x + 4 ∧ a ≠ x + 5 ∧ a ≠ x + 6 ∧ a ≠ x + 7 := fun a e => by have := (hO a e).1; exact ⟨by omega, by omega, by omega, by omega, by omega, by omega⟩
    have A0 := A x (by omega) (by omega) (by omega) (fun q => (hne _ q).1 rfl)
    have A2 := A (x + 2) (by omega) (by omega) (by omega) (fun q => (hne _ q).2.1 rfl)
    have A4 := A (x + 4) (by omega) (by omega) (by omega) (fun q => (hne _ q).2.2.1 rfl)
    have A5 := A (x + 5) (by omega) (by omega) (by omega) (fun q => (hne _ q).2.2.2.1 rfl)
    have A6 := A (x + 6) (by omega) (by omega) (by omega) (fun q => (hne _ q).2.2.2.2.1 rfl)
    have A7 := A (x + 7) (by omega) (by omega) (by omega) (fun q => (hne _ q).2.2.2.2.2 rfl)
    have wz := w.2.2.2.2 (cn (τ 6 0)) (Nat.le_refl _) hfull
    have hF : RF x h1 := by
      obtain ⟨⟨a1, a2, a3, a4, a5, a6, a7, a8⟩, ⟨b1, b2, b3, b4, b5, b6, b7, b8, b9, b10⟩, g1, g2, g3⟩ := p.1
      exact ⟨⟨A0.k.trans a1, f1, A2.k.trans a3, e1, A4.k.trans a5, A5.k.trans a6, A6.k.trans a7, A7.k.trans a8⟩, ⟨(A0.r 8 0).trans b1, (A0.r 8 1).trans b2, (f2 6 0).trans b3, (f2 6 1).trans b4, (A4.r 7 0).trans b5, (A4.r 7 1).trans b6, (A4.r 7 2).trans b7, (A5.r 4 0).trans b8, (A7.r 5 0).trans b9, (A7.r 5 1).trans b10⟩, A2.l.trans g1, e2, A6.l.trans g3⟩
    refine SameM.of c1' hm1 c2 wf hm2 fr (p.addT s1 hF ow (fun a e => ?_) (fun b b1 b2 b3 => A b b2 (by omega) (by omega) b3) ⟨f3.trans (p.2.2.1.1.trans (t0 0 0 (by decide)).symm), f4.trans t6.symm, (A4.i 7 5).trans (p.2.2.1.2.2.trans (t0 27 0 (by decide)).symm)⟩ (by rw [t0 0 0 (by decide)]) (by rw [t6, cn_nI (by omega)]) (fun i => A2.q i) e3 (fun m hm => F.tM hm) (fun j => F.t tI (by decide) j) (fun j => F.t tH (by decide) j) (fun c hc => ?_) (by rw [t0 14 _ (by decide), wz.2.1]; rfl) (by rw [t0 18 _ (by decide), wz.2.2.1]; rfl) ?_)
    · rcases ho with ⟨-, e2⟩ | ⟨c, hc, rfl, e2⟩
      · rw [e2] at e; cases e
      · rw [e2] at e; cases e; exact ⟨c, hc, rfl⟩
    · -- the classes
      obtain ⟨-, b1, b2, rk⟩ := p.2.2.2.1 c hc
      by_cases e : ow = some (kd c)
      · have oc : ¬ o < 0 ∧ cn o = c := by
          rcases ho with ⟨-, e2⟩ | ⟨c', hc', rfl, e2⟩
          · rw [e2] at e; cases e
          · rw [e2] at e
            have : c' = c := p.2.2.2.2.2.2.2.1 c' c hc' hc (Option.some.inj e)
            subst this
            exact ⟨nlt0 (by omega), cn_nI (by omega)⟩
        obtain ⟨y1, y2, y3⟩ := fa _ e
        obtain ⟨⟨a1, a2, a3, a4, a5, a6, a7⟩, ⟨d1, d2, d3, d4, d5⟩, z1, z2⟩ := id rk
        have B1 := A (kd c + 1) (by omega) (by omega) (by omega) (fun q => by rw [e] at q; have := Option.some.inj q; omega)
        have B2 := A (kd c + 2) (by omega) (by omega) (by omega) (fun q => by rw [e] at q; have := Option.some.inj q; omega)
        refine ⟨⟨y1, B1.k.trans a2, B2.k.trans a3, (y2 2 2).trans a4, (y2 2 3).trans a5, B1.l.trans a6, B2.l.trans a7⟩, ⟨?_, ?_, ?_, ?_, ?_⟩, fun k k1 k2 => ?_, fun k k1 => ?_⟩
        · rw [y3, if_neg (by decide)]; exact d1
        · rw [y3, if_neg (by decide), t0 42 c (by decide)]; exact d2
        · rw [y3, if_neg (by decide), t0 3 c (by decide)]; exact d3
        · rw [y3, if_neg (by decide), t0 40 c (by decide)]; exact d4
        · rw [y3, if_pos rfl, t41, if_pos ⟨oc.1, oc.2.symm⟩]
        · rw [t0 3 c (by decide)] at k2
          rw [B1.a, t0 4 _ (by decide)]; exact z1 k k1 k2
        · rw [B2.a, t0 5 _ (by decide)]; exact z2 k k1
      · have oc : ¬ (¬ o < 0 ∧ c = cn o) := fun q => by
          rcases ho with ⟨rfl, -⟩ | ⟨c', hc', rfl, e2⟩
          · exact q.1 m1neg
          · rw [cn_nI (by omega)] at q
            exact e (by rw [e2, q.2])
        have dk : ∀ j, j < 3 → ow ≠ some (kd c + j) := fun j hj q => by
          rcases ho with ⟨-, e2⟩ | ⟨c', hc', rfl, e2⟩
          · rw [e2] at q; cases q
          · rw [e2] at q
            have q := Option.some.inj q
            by_cases ee : c' = c
            · subst ee; exact e e2
            · exact p.KK hc' hc ee 0 j (by omega) hj q
        refine rk.ag (A _ (by omega) (by omega) (by omega) (dk 0 (by omega))) (A _ (by omega) (by omega) (by omega) (dk 1 (by omega))) (A _ (by omega) (by omega) (by omega) (dk 2 (by omega))) ?_
        intro q hq k hk
        simp only [tK, List.mem_cons, List.not_mem_nil, or_false] at hq
        rcases hq with rfl | rfl | rfl | rfl | rfl | rfl <;> simp only at hk ⊢
        · exact t0 3 _ (by decide)
        · exact t0 4 _ (by decide)
        · exact t0 5 _ (by decide)
        · exact t0 40 _ (by decide)
        · rw [t41, if_neg (fun q => oc ⟨q.1, by omega⟩)]
        · exact t0 42 _ (by decide)
    · -- the new one
      refine ⟨kT, ⟨?_, ?_, ?_, ?_, ?_, ?_, ?_, ?_, ?_⟩, fun k k1 k2 => ?_⟩
      · rw [iT.1, t7, if_pos rfl]
        rcases ho with ⟨rfl, e2⟩ | ⟨c, hc, rfl, e2⟩
        · rw [if_pos m1neg]; exact e2
        · rw [if_neg (nlt0 (by omega)), cn_nI (by omega)]; exact e2
      · rw [iT.2.1, t8, if_pos rfl]
      · rw [iT.2.2.1, t9, if_pos rfl]
      · rw [iT.2.2.2.1, t10, if_pos rfl]
      · rw [iT.2.2.2.2.1, t11, if_pos rfl]
        rcases ho with ⟨rfl, e2⟩ | ⟨c, hc, rfl, e2⟩
        · rw [if_pos e2, if_pos m1neg]
        · rw [if_neg (by rw [e2]; exact fun q => by cases q), if_neg (nlt0 (by omega))]
      · rw [iT.2.2.2.2.2.1, t0 14 _ (by decide), wz.2.1]
      · rw [iT.2.2.2.2.2.2.1, t0 18 _ (by decide), wz.2.2.1]
      · rw [iT.2.2.2.2.2.2.2.1, t0 13 _ (by decide), wz.1]
      · rw [iT.2.2.2.2.2.2.2.2, t0 23 _ (by decide), wz.2.2.2]
      · rw [t11, if_pos rfl] at k2
        rcases ho with ⟨rfl, e2⟩ | ⟨c, hc, rfl, e2⟩
        · rw [if_pos m1neg] at k2; exact absurd k2 (Nat.not_lt_zero _)
        · rw [if_neg (nlt0 (by omega))] at k2
          have : k = 0 := by
            have : cn (1 : Int32) = 1 := rfl
            omega
          subst this
          rw [oT (by rw [e2]; exact fun q => by cases q), t12, if_pos ⟨nlt0 (by omega), by omega⟩]
  · have hv : τ 6 0 = 64 := by rw [v6, show cn (τ 6 0) = 64 by omega]; rfl
    refine SameM.no (r := -2) I ?_ ?_
    · have q1 : ¬ (64 : Int32) < 64 := by decide
      simp only [fX8_method_b60, fX6_addMethod, gR_at, gI_at, rc_at, k8, k6, r0, p.2.2.1.2.1, hv, q1, obs, ↓reduceIte]
    · have g6 := gM6 rM
      rw [hv] at g6
      simp only [fX9_method_b67, g6, obs, ↓reduceIte]
end
section
variable {τ : Nat → Nat → Int32} {x : Nat} {h : zH}
theorem op_method (I : Inv τ x h) (o g l s : Int32) : Same (fX8_method (some x) o g l s) (fX9_method (some (x + 8)) o g l s) x h := by
  obtain ⟨w, rM, kd, md, ib, hd, p⟩ := id I
  have k8 : zk h x = 9 := p.1.1.1
  have k6 : zk h (x + 1) = 7 := p.1.1.2.1
  have r0 : zr h 8 0 x = some (x + 1) := p.1.2.1.1
  have hnk := w.1.2
  -- the owner
  have O : (∃ ow : Option Nat, ((o = -1 ∧ ow = none) ∨ ∃ c, c < cn (τ 0 0) ∧ o = nI c ∧ ow = some (kd c)) ∧ fX8_method (some x) o g l s h = fX8_method_b22 (some x) g l s ow h ∧ ∀ h1, RM τ (x + 8) h1 → fX9_method (some (x + 8)) o g l s h1 = fX9_method_b13 (some (x + 8)) o g l s h1) ∨ (fX8_method (some x) o g l s h = some (-1, h) ∧ fX9_method (some (x + 8)) o g l s h = some (-1, h)) := by
    by_cases e : o = -1
    · refine Or.inl ⟨none, Or.inl ⟨e, rfl⟩, ?_, fun h1 m1 => ?_⟩
      · have ka := kindAt_no p (v := o) (Or.inl (by rw [e]; exact m1neg))
        simp only [fX8_method, gR_at, rc_at, k8, k6, r0, ka, e, obs, ↓reduceIte]
        rw [← e, ka, obs]
      · unfold fX9_method; rw [if_pos e]
    · rcases kindIs p w o with ⟨c, hc, eo, ka⟩ | ⟨hno, ka⟩
      · refine Or.inl ⟨some (kd c), Or.inr ⟨c, hc, eo, rfl⟩, ?_, fun h1 m1 => ?_⟩
        · simp only [fX8_method, gR_at, rc_at, k8, k6, r0, ka, e, obs, reduceCtorEq, ↓reduceIte]
        · have q := isClassM1 m1 w hc
          rw [← eo] at q
          simp only [fX9_method, e, rcM m1, q, n10, obs, ↓reduceIte]
      · refine Or.inr ⟨?_, ?_⟩
        · simp only [fX8_method, gR_at, rc_at, k8, k6, r0, ka, e, obs, ↓reduceIte]
        · simp only [fX9_method, e, rcM rM, isClassM0 rM w hno, obs, ↓reduceIte]
  rcases O with ⟨ow, ho, ec, em⟩ | ⟨ec, em⟩
  · -- what it gives
    have G : (((g = -1 ∨ okT (cn (τ 0 0)) g) ∧ fX8_method_b22 (some x) g l s ow h = fX8_method_b40 (some x) g l s ow h ∧ ∀ h1, RM τ (x + 8) h1 → fX9_method_b13 (some (x + 8)) o g l s h1 = fX9_method_b26 (some (x + 8)) o g l s h1)) ∨ (fX8_method_b22 (some x) g l s ow h = some (-1, h) ∧ fX9_method_b13 (some (x + 8)) o g l s h = some (-1, h)) := by
      by_cases e : g = -1
      · refine Or.inl ⟨Or.inl e, ?_, fun h1 m1 => ?_⟩
        · unfold fX8_method_b22; rw [if_pos e]
        · unfold fX9_method_b13; rw [if_pos e]
      · rcases isTypeC p w g with ⟨e1, okt⟩ | ⟨e1, nt⟩
        · refine Or.inl ⟨Or.inr okt, ?_, fun h1 m1 => ?_⟩
          · simp only [fX8_method_b22, gR_at, rc_at, k8, k6, r0, e1, e, n10, obs, ↓reduceIte]
          · simp only [fX9_method_b13, e, rcM m1, isTypeM1 m1 w okt, n10, obs, ↓reduceIte]
        · refine Or.inr ⟨?_, ?_⟩
          · simp only [fX8_method_b22, gR_at, rc_at, k8, k6, r0, e1, e, obs, ↓reduceIte]
          · simp only [fX9_method_b13, e, rcM rM, isTypeM0 rM w nt, obs, ↓reduceIte]
    rcases G with ⟨hg, ec2, em2⟩ | ⟨ec2, em2⟩
    · rcases roomC (h := h) l s with ⟨er, a1, a2, a3, a4, a5⟩ | ⟨er, hr⟩
      · by_cases e0 : ow ≠ none ∧ l = 0
        · have oc : ¬ o < 0 := by
            rcases ho with ⟨-, e2⟩ | ⟨c, hc, rfl, e2⟩
            · exact absurd e2 e0.1
            · exact nlt0 (by omega)
          refine Same.no (r := -1) I ?_ ?_
          · rw [ec, ec2]
            unfold fX8_method_b40; rw [er, obs, if_neg n10, if_neg e0.1, if_pos e0.2]
          · rw [em h rM, em2 h rM]
            exact method26_no rM (Or.inr ⟨oc, e0.2⟩)
        · refine SameM.same (method_go I ow ⟨kd, md, ib, hd, p, ho⟩ hg a1 a2 (room a1 a2 a3 a4 a5) (fun q => ?_)) ?_ (fun h1 m1 => ?_)
          · have o1 : ow ≠ none := by
              rcases ho with ⟨rfl, e2⟩ | ⟨c, hc, rfl, e2⟩
              · exact absurd m1neg q
              · rw [e2]; exact fun q => by cases q
            have l1 : ¬ l = 0 := fun q => e0 ⟨o1, q⟩
            rcases Nat.eq_zero_or_pos (cn l) with z | z
            · exfalso; apply l1; rw [nI_of_cn a1, z]; rfl
            · exact z
          · rw [ec, ec2]
            by_cases o1 : ow = none
            · simp only [fX8_method_b40, er, n10, o1, obs, ↓reduceIte]
            · have l1 : ¬ l = 0 := fun q => e0 ⟨o1, q⟩
              simp only [fX8_method_b40, er, n10, o1, l1, obs, ↓reduceIte]
          · rw [em h1 m1, em2 h1 m1]
            rcases ho with ⟨rfl, e2⟩ | ⟨c, hc, rfl, e2⟩
            · simp only [fX9_method_b26, a1, a2, a3, a4, a5, m1neg, ↓reduceIte]
            · have o1 : ow ≠ none := by rw [e2]; exact fun q => by cases q
              have l1 : ¬ l = 0 := fun q => e0 ⟨o1, q⟩
              have o2 : ¬ nI c < 0 := nlt0 (by omega)
              simp only [fX9_method_b26, a1, a2, a3, a4, a5, o2, l1, ↓reduceIte]
      · refine Same.no (r := -1) I ?_ ?_
        · rw [ec, ec2]
          simp only [fX8_method_b40, er, obs, ↓reduceIte]
        · rw [em h rM, em2 h rM]
          exact method26_no rM (Or.inl hr)
    · exact Same.no (r := -1) I (by rw [ec]; exact ec2) (by rw [em h rM]; exact em2)
  · exact Same.no (r := -1) I ec em
end
