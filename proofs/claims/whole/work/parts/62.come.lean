section
variable {τ : Nat → Nat → Int32} {kd md : Nat → Nat} {ib hd : Nat → Nat → Nat} {x m L P lk : Nat} {h0 h h' : zH} {S S' : VS}
theorem CS.x4 (c : CS τ md ib x m L P h0 S h) (V : VC τ kd md ib hd x m L P h0) (sz : SZ h h') (hz : ∀ b, b ≠ x + 4 → iz h h' b) : CS τ md ib x m L P h0 S h' := by
  obtain ⟨c1, c2, c3, c4, c5, c6⟩ := c
  obtain ⟨p, w, hm, hL, hP, hb⟩ := V
  have bm := (p.2.2.2.2.1 m hm).2.1
  refine ⟨c1.tr sz, fun b hb => (c2 b hb).tr (hz b (fun q => hb (Or.inl (by omega)))), fun k => ?_, fun i hi => ?_, ?_, ?_⟩
  · rw [(hz (md m) (by omega)).1]; exact c3 k
  · obtain ⟨a1, a2⟩ := c4 i hi
    have bi := (p.2.2.2.2.2.1 m i hm hi).2.1
    exact ⟨fun k hk => by rw [(hz (ib m i) (by omega)).1]; exact a1 k hk, a2.iz (hz _ (by omega)) (hz _ (by omega)) (hz _ (by omega))⟩
  · rw [(hz (x + 5) (by omega)).1]; exact c5
  · rw [(hz (x + 5) (by omega)).1]; exact c6
theorem CS.row (c : CS τ md ib x m L P h0 S h) (V : VC τ kd md ib hd x m L P h0) (sz : SZ h h') (hz : ∀ b, b ≠ x + 5 → b ≠ x + 6 → b ≠ x + 7 → iz h h' b) (e1 : zi h' 4 1 (x + 5) = nI L) (e2 : zi h' 4 2 (x + 5) = nI P) : CS τ md ib x m L P h0 S h' := by
  obtain ⟨c1, c2, c3, c4, c5, c6⟩ := c
  obtain ⟨p, w, hm, hL, hP, hb⟩ := V
  have bm := (p.2.2.2.2.1 m hm).2.1
  refine ⟨c1.tr sz, fun b hb => (c2 b hb).tr (hz b (fun q => hb (Or.inl (by omega))) (fun q => hb (Or.inl (by omega))) (fun q => hb (Or.inl (by omega)))), fun k => ?_, fun i hi => ?_, e1, e2⟩
  · rw [(hz (md m) (by omega) (by omega) (by omega)).1]; exact c3 k
  · obtain ⟨a1, a2⟩ := c4 i hi
    have bi := (p.2.2.2.2.2.1 m i hm hi).2.1
    exact ⟨fun k hk => by rw [(hz (ib m i) (by omega) (by omega) (by omega)).1]; exact a1 k hk, a2.iz (hz _ (by omega) (by omega) (by omega)) (hz _ (by omega) (by omega) (by omega)) (hz _ (by omega) (by omega) (by omega))⟩
theorem MK.iz (k : MK τ ib m S h) (q : ∀ i, i < cn (τ 14 m) → iz h h' (ib m i)) : MK τ ib m S h' := fun i hi => ((q i hi).1 1 5).trans (k i hi)
/-- how the class's walk stands: all is well, or the instruction e is wrong -/
def WK (τ : Nat → Nat → Int32) (ib : Nat → Nat → Nat) (x m : Nat) (S : VS) (o : Option Nat) (h : zH) : Prop := (∃ e, o = some e ∧ zi h 7 4 (x + 4) = nI e) ∨ (o = none ∧ zi h 7 4 (x + 4) = -1 ∧ MK τ ib m S h ∧ ∃ lm, lm ≤ 200 ∧ zi h 7 3 (x + 4) = nI lm ∧ LM S lm)
theorem markC {a lm t : Nat} (hk : zk h a = 2) (hx : zk h (x + 4) = 8) (h3 : zi h 7 3 (x + 4) = nI lm) (hlm : lm ≤ 200) (ht : t ≤ 200) (hne : a ≠ x + 4) : ∃ h', fX7_mark (some (x + 4)) (some a) (nI t) h = some h' ∧ SZ h h' ∧ (∀ b, b ≠ a → b ≠ x + 4 → iz h h' b) ∧ (∀ c k, zi h' c k a = if c = 1 ∧ k = 5 then 1 else zi h c k a) ∧ (∀ k, zi h' 7 k (x + 4) = if k = 3 then nI (if t < lm then t else lm) else zi h 7 k (x + 4)) := by
  refine ⟨sti 7 3 (x + 4) (nI (if t < lm then t else lm)) (sti 1 5 a 1 h), ?_, SZ.sti.tr SZ.sti, fun b h1 h2 => (iz_sti h1).tr (iz_sti h2), fun c k => ?_, fun k => ?_⟩
  · have e : zi (sti 1 5 a 1 h) 7 3 (x + 4) = nI lm := by rw [zi_sti, if_neg (by omega)]; exact h3
    have e2 : (if nI t < nI lm then nI t else nI lm) = nI (if t < lm then t else lm) := by
      by_cases q : t < lm
      · rw [if_pos (nI_lt q (by omega)), if_pos q]
      · rw [if_neg (nI_nlt (by omega) (by omega)), if_neg q]
    simp only [fX7_mark, pZ1_at, hk, gI_at, zk_sti, hx, e, pI_at, e2, obs]
  · rw [zi_sti, if_neg (by omega), zi_sti]
    by_cases q : c = 1 ∧ k = 5
    · rw [if_pos ⟨q.1, q.2, rfl⟩, if_pos q]
    · rw [if_neg (fun z => q ⟨z.1, z.2.1⟩), if_neg q]
  · rw [zi_sti]
    by_cases q : k = 3
    · rw [if_pos ⟨rfl, q, rfl⟩, if_pos q]
    · rw [if_neg (fun z => q z.2.1), if_neg q, zi_sti, if_neg (by omega)]
theorem comeC (N : Nat) (hN : 40 ≤ N) (V : VC τ kd md ib hd x m L P h0) (c : CS τ md ib x m L P h0 S h) {r : Row} (rr : RR x L r h) (okr : okR L P (cn (τ 0 0)) r) (h5 : zi h 7 5 (x + 4) = nI lk) (wk : WK τ ib x m S none h) {fr t : Nat} (ht : t ≤ 200) : ∃ h', fX7_come N (some (x + 4)) (some (md m)) (nI fr) (nI t) h = some h' ∧ CS τ md ib x m L P h0 (comeS τ L (cn (τ 14 m)) fr t r S).1 h' ∧ zi h' 7 5 (x + 4) = nI lk ∧ SZ h h' ∧ (∀ b, x + 5 ≤ b → b ≤ x + 7 → iz h h' b) ∧ WK τ ib x m (comeS τ L (cn (τ 14 m)) fr t r S).1 (comeS τ L (cn (τ 14 m)) fr t r S).2 h' := by
  have V' := V
  obtain ⟨p, w, hm, hL, hP, hb⟩ := V'
  rcases wk with ⟨e, q, -⟩ | ⟨-, h4, mk, lm, hlm, h3, ll⟩
  · cases q
  obtain ⟨pr, wr, cr⟩ := c.rc' V h5
  have z14 : tv τ m lk S 14 m = τ 14 m := cr 14 m (by omega)
  have z6 : tv τ m lk S 6 0 = τ 6 0 := cr 6 0 (by omega)
  have h200 := (w.2.2.2.1 m hm).2.2.2.2.2.2.2.1
  have km : zk h (md m) = 4 := by rw [c.1.1]; exact (p.2.2.2.2.1 m hm).2.2.2.1.1
  have kx4 : zk h (x + 4) = 8 := by rw [c.1.1]; exact p.1.1.2.2.2.2.1
  have okp := okr.1
  unfold comeS
  by_cases hsz : cn (τ 14 m) ≤ t
  · have ia := instrAt_no pr (m := m) (by rw [z6]; exact hm) (v := nI t) (Or.inr ⟨nlt0 (by omega), by rw [z14, nI_of_cn h200.1]; exact nI_le hsz (by omega)⟩)
    rw [if_pos hsz]
    refine ⟨sti 7 4 (x + 4) (nI fr) h, ?_, c.x4 V SZ.sti (fun b hb => iz_sti hb), ?_, SZ.sti, fun b h1 h2 => iz_sti (by omega), Or.inl ⟨fr, rfl, ?_⟩⟩
    · simp only [fX7_come, rc_at, km, ia, pI_at, kx4, obs, ↓reduceIte]
    · rw [zi_sti, if_neg (by omega)]; exact h5
    · rw [zi_sti, if_pos ⟨rfl, rfl, rfl⟩]
  · rw [if_neg hsz]
    have ht' : t < cn (τ 14 m) := by omega
    have ia := instrAt_at pr wr (m := m) (i := t) (by rw [z6]; exact hm) (by rw [z14]; exact ht')
    obtain ⟨-, bt1, bt2, ri, -⟩ := p.2.2.2.2.2.1 m t hm ht'
    have ka : zk h (ib m t) = 2 := by rw [c.1.1]; exact ri.1.1
    have ka1 : zk h (ib m t + 1) = 5 := by rw [c.1.1]; exact ri.1.2.1
    have ka2 : zk h (ib m t + 2) = 100 := by rw [c.1.1]; exact ri.1.2.2.1
    have ra : zr h 1 3 (ib m t) = some (ib m t + 1) := by rw [c.1.2.1]; exact ri.1.2.2.2.1
    have ra1 : zr h 4 0 (ib m t + 1) = some (ib m t + 2) := by rw [c.1.2.1]; exact ri.1.2.2.2.2.1
    have la2 : zl h (ib m t + 2) = 12 := by rw [c.1.2.2.1]; exact ri.1.2.2.2.2.2
    have kx5 : zk h (x + 5) = 5 := by rw [c.1.1]; exact p.1.1.2.2.2.2.2.1
    have kx6 : zk h (x + 6) = 100 := by rw [c.1.1]; exact p.1.1.2.2.2.2.2.2.1
    have lx6 : zl h (x + 6) = 12 := by rw [c.1.2.2.1]; exact p.1.2.2.2.2
    have rx5 : zr h 4 0 (x + 5) = some (x + 6) := by rw [c.1.2.1]; exact p.1.2.1.2.2.2.2.2.2.2.1
    have rx4 : zr h 7 1 (x + 4) = some (x + 5) := by rw [c.1.2.1]; exact p.1.2.1.2.2.2.2.2.1
    have rx40 : zr h 7 0 (x + 4) = some (x + 1) := by rw [c.1.2.1]; exact p.1.2.1.2.2.2.2.1
    obtain ⟨ik, it⟩ := c.2.2.2.1 t ht'
    have dI : ∀ i, i < cn (τ 14 m) → i ≠ t → ∀ a b, a < 3 → b < 3 → ib m i + a ≠ ib m t + b := fun i hi e => p.II hm hi hm ht' (fun z => e z.2)
    cases eS : S.1 t with
    | none =>
      rw [eS] at it
      have it0 : zi h 1 4 (ib m t) = 0 := it
      obtain ⟨h2, e2, s2, z2, ⟨v1, v2, v3⟩, a2⟩ := copyC N (by omega) (a := ib m t + 1) (b := x + 5) (ta := ib m t + 2) (tb := x + 6) (sti 1 4 (ib m t) 1 h) ka1 ra1 kx5 rx5 ka2 la2 kx6 lx6 (by omega) (by omega) (by omega)
      have zx4 : iz h h2 (x + 4) := (iz_sti (by omega)).tr (z2 _ (by omega) (by omega))
      have kh2 : zk h2 (ib m t) = 2 := by rw [s2.1]; exact ka
      have kx42 : zk h2 (x + 4) = 8 := by rw [s2.1]; exact kx4
      obtain ⟨h3', e3, s3, z3, a3, x3⟩ := markC (x := x) (a := ib m t) (lm := lm) (t := t) kh2 kx42 ((zx4.1 7 3).trans h3) hlm (by omega) (by omega)
      have sA : SZ h h3' := (SZ.sti.tr s2).tr s3
      have zA : ∀ b, b ≠ x + 4 → b ≠ ib m t → b ≠ ib m t + 1 → b ≠ ib m t + 2 → iz h h3' b := fun b n0 n1 n2 n3 => ((iz_sti n1).tr (z2 b n2 n3)).tr (z3 b n1 n0)
      have az2 := z2 (ib m t) (by omega) (by omega)
      have z31 := z3 (ib m t + 1) (by omega) (by omega)
      have z32 := z3 (ib m t + 2) (by omega) (by omega)
      have x5 : ∀ k, zi (sti 1 4 (ib m t) 1 h) 4 k (x + 5) = zi h 4 k (x + 5) := fun k => by rw [zi_sti, if_neg (by omega)]
      refine ⟨h3', ?_, ?_, ?_, sA, fun b h1 h2 => zA b (by omega) (by omega) (by omega) (by omega), Or.inr ⟨rfl, ?_, fun i hi => ?_, if t < lm then t else lm, ?_, ?_, fun i hi => ?_⟩⟩
      · simp only [fX7_come, rc_at, km, ia, gI_at, ka, it0, pZ1_at, gR_at, zk_sti, zr_sti, ra, kx4, rx4, ka1, e2, kx42, e3, obs, reduceCtorEq, ↓reduceIte]
      · refine c.upd V ht' sA zA (fun k hk => ?_) (fun i hi => ⟨by show (if i = t then some r.1 else S.1 i) = S.1 i; rw [if_neg hi], by show (if i = t then r.2 else S.2.1 i) = S.2.1 i; rw [if_neg hi]⟩) ?_
        · rw [a3, if_neg (by omega), az2.1, zi_sti, if_neg (by omega)]
        · have e4 : (if t = t then some r.1 else S.1 t) = some r.1 := if_pos rfl
          have e5 : (if t = t then r.2 else S.2.1 t) = r.2 := if_pos rfl
          show IT L P _ (if t = t then some r.1 else S.1 t) (if t = t then r.2 else S.2.1 t) (ib m t) h3'
          rw [e4, e5]
          refine ⟨?_, okp, ?_, ?_, ?_, fun k hk => ?_⟩
          · rw [a3, if_neg (by omega), az2.1, zi_sti, if_pos ⟨rfl, rfl, rfl⟩]
          · rw [z31.1, v1, x5]; exact c.2.2.2.2.1
          · rw [z31.1, v2, x5]; exact c.2.2.2.2.2
          · rw [z31.1, v3, x5]; exact rr.1
          · rw [z32.2, a2 k (by omega), za_sti, rr.2 k (by omega)]; exact ⟨rfl, okr.2 k hk⟩
      · rw [x3, if_neg (by decide), zx4.1]; exact h5
      · rw [x3, if_neg (by decide), zx4.1]; exact h4
      · show _ = if (if i = t then true else S.2.2 i) = true then _ else _
        by_cases e : i = t
        · subst e
          rw [a3, if_pos ⟨rfl, rfl⟩, if_pos rfl]; rfl
        · have bi := (p.2.2.2.2.2.1 m i hm hi).2.1
          have d := dI i hi e
          rw [if_neg e, (zA (ib m i) (by omega) (d 0 0 (by omega) (by omega)) (d 0 1 (by omega) (by omega)) (d 0 2 (by omega) (by omega))).1]
          exact mk i hi
      · by_cases q : t < lm
        · rw [if_pos q]; omega
        · rw [if_neg q]; exact hlm
      · rw [x3, if_pos rfl]
      · show (if i = t then true else S.2.2 i) = false
        by_cases q : t < lm
        · rw [if_pos q] at hi
          rw [if_neg (by omega)]; exact ll i (by omega)
        · rw [if_neg q] at hi
          rw [if_neg (by omega)]; exact ll i hi
    | some q =>
      rw [eS] at it
      obtain ⟨i1, i2, i3, i4, i5, i6⟩ := it
      have n10' : ¬ zi h 1 4 (ib m t) = 0 := by rw [i1]; exact n10
      by_cases hq : q = r.1
      · have cc : CS τ md ib x m L P h0 (setT S t (S.2.1 t)) h := by
          have : setT S t (S.2.1 t) = S := by
            unfold setT
            refine Prod.ext rfl (Prod.ext ?_ rfl)
            funext i
            show (if i = t then S.2.1 t else S.2.1 i) = S.2.1 i
            by_cases z : i = t
            · rw [if_pos z, z]
            · rw [if_neg z]
          rw [this]; exact c
        obtain ⟨b, h1, e1, c1, eb, s1, z1⟩ := meetLoop N hN V ht' okr hq eS (L + q) 0 N false (S.2.1 t) h (by omega) (by omega) cc rr h5
        have zx4 := z1 (x + 4) (by omega)
        have EM : fX4_meet N (some (ib m t + 1)) (some (x + 5)) (some (x + 1)) h = some (b, h1) := by
          rw [nI_0] at e1
          unfold fX4_meet
          rw [gI_at ka1, obs, gI_at kx5, obs, i5, rr.1, if_pos (by rw [hq])]
          exact e1
        have kx41 : zk h1 (x + 4) = 8 := by rw [s1.1]; exact kx4
        have kh1 : zk h1 (ib m t) = 2 := by rw [s1.1]; exact ka
        have n1 : zi h1 1 4 (ib m t) = 1 := by rw [(z1 (ib m t) (by omega)).1]; exact i1
        have E1 : fX7_come N (some (x + 4)) (some (md m)) (nI fr) (nI t) h = if b = 2 then ((pI 7 4 (some (x + 4)) (nI t) h1).bind fun h12 => some h12) else if b = 1 then ((rc 7 (some (x + 4)) h1).bind fun _ => (fX7_mark (some (x + 4)) (some (ib m t)) (nI t) h1).bind fun h11 => some h11) else some h1 := by
          simp only [fX7_come, rc_at, km, ia, gI_at, ka, n10', gR_at, ra, kx4, rx4, rx40, ka1, EM, obs, reduceCtorEq, ↓reduceIte]
        dsimp only
        rw [if_pos hq, E1]
        have mk1 : MK τ ib m S h1 := mk.iz (fun i hi => by
          by_cases e : i = t
          · subst e; exact z1 _ (by omega)
          · exact z1 _ (dI i hi e 0 2 (by omega) (by omega)))
        generalize mtL τ L r.2 (L + q) 0 false (S.2.1 t) = G at *
        cases eg : G.2 with
        | none =>
          rw [eg] at eb
          refine ⟨sti 7 4 (x + 4) (nI t) h1, by rw [if_pos eb, pI_at kx41, obs], c1.x4 V SZ.sti (fun b hb => iz_sti hb), ?_, s1.tr SZ.sti, fun b h1 h2 => (z1 b (by omega)).tr (iz_sti (by omega)), Or.inl ⟨t, rfl, ?_⟩⟩
          · rw [zi_sti, if_neg (by omega), zx4.1]; exact h5
          · rw [zi_sti, if_pos ⟨rfl, rfl, rfl⟩]
        | some ch =>
          rw [eg] at eb
          cases ch with
          | false =>
            have eb' : b = 0 := eb
            subst eb'
            have cF : CS τ md ib x m L P h0 (S.1, fun i => if i = t then G.1 else S.2.1 i, fun i => if i = t then (S.2.2 t || false) else S.2.2 i) h1 := c1
            refine ⟨h1, by rw [if_neg (by decide), if_neg (by decide)], cF, (zx4.1 7 5).trans h5, s1, fun b h1 h2 => z1 b (by omega), Or.inr ⟨rfl, (zx4.1 7 4).trans h4, fun i hi => ?_, lm, hlm, (zx4.1 7 3).trans h3, fun i hi => ?_⟩⟩
            · show _ = if (if i = t then (S.2.2 t || false) else S.2.2 i) = true then _ else _
              rw [mk1 i hi]
              by_cases e : i = t
              · subst e; rw [if_pos rfl, Bool.or_false]
              · rw [if_neg e]
            · show (if i = t then (S.2.2 t || false) else S.2.2 i) = false
              by_cases e : i = t
              · subst e; rw [if_pos rfl, Bool.or_false]; exact ll i hi
              · rw [if_neg e]; exact ll i hi
          | true =>
            have eb' : b = 1 := eb
            subst eb'
            obtain ⟨h3', e3, s3, z3, a3, x3⟩ := markC (x := x) (a := ib m t) (lm := lm) (t := t) kh1 kx41 ((zx4.1 7 3).trans h3) hlm (by omega) (by omega)
            have c2 : CS τ md ib x m L P h0 (S.1, fun i => if i = t then G.1 else S.2.1 i, fun i => if i = t then (S.2.2 t || true) else S.2.2 i) h3' := by
              refine c1.upd V ht' s3 (fun b n0 n1 n2 n3 => z3 b n1 n0) (fun k hk => by rw [a3, if_neg (by omega)]) (fun i hi => ⟨rfl, rfl⟩) ?_
              obtain ⟨-, it1⟩ := c1.2.2.2.1 t ht'
              have f1 : (setT S t G.1).1 t = some q := eS
              rw [f1] at it1
              show IT L P _ (S.1 t) _ (ib m t) h3'
              rw [eS]
              obtain ⟨y1, y2, y3, y4, y5, y6⟩ := it1
              have w1 := z3 (ib m t + 1) (by omega) (by omega)
              have w2 := z3 (ib m t + 2) (by omega) (by omega)
              exact ⟨by rw [a3, if_neg (by omega)]; exact y1, y2, by rw [w1.1]; exact y3, by rw [w1.1]; exact y4, by rw [w1.1]; exact y5, fun k hk => by rw [w2.2]; exact y6 k hk⟩
            refine ⟨h3', by rw [if_neg (by decide), if_pos rfl, rc_at kx41, obs, e3, obs], c2, ?_, s1.tr s3, fun b h1 h2 => (z1 b (by omega)).tr (z3 b (by omega) (by omega)), Or.inr ⟨rfl, ?_, fun i hi => ?_, if t < lm then t else lm, ?_, ?_, fun i hi => ?_⟩⟩
            · rw [x3, if_neg (by decide), zx4.1]; exact h5
            · rw [x3, if_neg (by decide), zx4.1]; exact h4
            · show _ = if (if i = t then (S.2.2 t || true) else S.2.2 i) = true then _ else _
              by_cases e : i = t
              · subst e
                rw [a3, if_pos ⟨rfl, rfl⟩, if_pos rfl, Bool.or_true]; rfl
              · have bi := (p.2.2.2.2.2.1 m i hm hi).2.1
                rw [if_neg e, (z3 (ib m i) (dI i hi e 0 0 (by omega) (by omega)) (by omega)).1]
                exact mk1 i hi
            · by_cases q : t < lm
              · rw [if_pos q]; omega
              · rw [if_neg q]; exact hlm
            · rw [x3, if_pos rfl]
            · show (if i = t then (S.2.2 t || true) else S.2.2 i) = false
              by_cases q : t < lm
              · rw [if_pos q] at hi
                rw [if_neg (by omega)]; exact ll i (by omega)
              · rw [if_neg q] at hi
                rw [if_neg (by omega)]; exact ll i hi
      · have EM : fX4_meet N (some (ib m t + 1)) (some (x + 5)) (some (x + 1)) h = some (2, h) := by
          unfold fX4_meet
          rw [gI_at ka1, obs, gI_at kx5, obs, i5, rr.1, if_neg (nI_lit (by omega) (by omega) hq)]
        dsimp only
        rw [if_neg hq]
        refine ⟨sti 7 4 (x + 4) (nI t) h, ?_, c.x4 V SZ.sti (fun b hb => iz_sti hb), ?_, SZ.sti, fun b h1 h2 => iz_sti (by omega), Or.inl ⟨t, rfl, ?_⟩⟩
        · simp only [fX7_come, rc_at, km, ia, gI_at, ka, n10', gR_at, ra, kx4, rx4, rx40, ka1, EM, pI_at, obs, reduceCtorEq, ↓reduceIte]
        · rw [zi_sti, if_neg (by omega)]; exact h5
        · rw [zi_sti, if_pos ⟨rfl, rfl, rfl⟩]
end
