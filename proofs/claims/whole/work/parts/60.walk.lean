/-! Walking over a method's code: what stands before each instruction, which are marked. -/
abbrev VS : Type := (Nat → Option Nat) × (Nat → Nat → Int32) × (Nat → Bool)
theorem pT_T {τ τ' : Nat → Nat → Int32} (e : ∀ c i, c < 23 → τ' c i = τ c i) (L : Nat) (t : Int32) : pT τ' L t = pT τ L t := by
  unfold pT
  have : (fun v => gT τ' v t) = fun v => gT τ v t := funext (fun v => gT_T (fun i => e 1 i (by omega)) v t)
  rw [this]
theorem pars_T {τ τ' : Nat → Nat → Int32} (e : ∀ c i, c < 23 → τ' c i = τ c i) (L u fr : Nat) (k : Nat) : pars τ' L u fr k = pars τ L u fr k := by
  induction k with
  | zero => rfl
  | succ k ih =>
    funext r
    unfold pars
    rw [ih, pT_T e, e 12 _ (by omega)]
theorem givn_T {τ τ' : Nat → Nat → Int32} (e : ∀ c i, c < 23 → τ' c i = τ c i) (L P u : Nat) : givn τ' L P u = givn τ L P u := by
  funext r
  unfold givn
  rw [e 8 _ (by omega)]
theorem fitS_T {τ τ' : Nat → Nat → Int32} (e : ∀ c i, c < 23 → τ' c i = τ c i) (L P m o : Nat) (x y : Int32) (r : Row) : fitS τ' L P m o x y r = fitS τ L P m o x y r := by
  have e1 : ∀ i, τ' 1 i = τ 1 i := fun i => e 1 i (by omega)
  unfold fitS
  simp only [pT_T e, pars_T e, givn_T e, gT_T e1, e 4 _ (show 4 < 23 by omega), e 5 _ (show 5 < 23 by omega), e 8 _ (show 8 < 23 by omega), e 11 _ (show 11 < 23 by omega)]
theorem WF.cols2 {τ τ' : Nat → Nat → Int32} (w : WF τ) (e : ∀ c i, (c < 23 ∨ 40 ≤ c) → τ' c i = τ c i) (e23 : ∀ m, m < cn (τ 6 0) → τ' 23 m = 0 ∨ τ' 23 m = 1) (e23' : ∀ m, cn (τ 6 0) ≤ m → τ' 23 m = τ 23 m) (e24 : ∀ m, m < cn (τ 6 0) → τ' 23 m ≠ 0 → ∀ i, i < cn (τ 14 m) → τ' 24 (200 * m + i) < 0 ∨ cn (τ' 24 (200 * m + i)) ≤ cn (τ 10 m)) : WF τ' := by
  have z0 := e 0 0 (by omega)
  have z6 := e 6 0 (by omega)
  refine ⟨by rw [z0]; exact w.1, by rw [z6]; exact w.2.1, fun c hc => ?_, fun m hm => ?_, fun m h1 h2 => ?_⟩
  · rw [z0] at hc
    refine WFc.mono w hc z0 (by rw [z6]; exact Nat.le_refl _) (fun i _ => e 1 i (by omega)) (fun q hq k hk => e _ _ ?_)
    exact (by decide : ∀ q ∈ tW, q.1 < 23 ∨ 40 ≤ q.1) q hq
  · rw [z6] at hm
    obtain ⟨p1, p2, p3, p4, p5, p6, p7, p8, p9, p10, p11, p12⟩ := w.2.2.2.1 m hm
    refine ⟨by rw [e 7 m (by omega), z0]; exact p1, by rw [e 8 m (by omega), z0]; exact p2, by rw [e 9 m (by omega), e 10 m (by omega)]; exact p3, by rw [e 11 m (by omega), e 9 m (by omega)]; exact p4, fun k hk => ?_, by rw [e 13 m (by omega)]; exact p6, e23 m hm, by rw [e 14 m (by omega)]; exact p8, by rw [e 18 m (by omega)]; exact p9, fun i hi => ?_, fun k hk => ?_, fun hv i hi => ?_⟩
    · rw [e 11 m (by omega)] at hk
      rw [e 12 _ (by omega), z0]; exact p5 k hk
    · rw [e 14 m (by omega)] at hi
      rw [e 15 _ (by omega), e 16 _ (by omega), e 17 _ (by omega)]
      exact (p10 i hi).mono (by rw [z0]; exact Nat.le_refl _) (by rw [z6]; exact Nat.le_refl _) (by rw [e 9 m (by omega)]) (fun c hc => by rw [e 3 c (by omega)]; exact Nat.le_refl _) (fun c s hc hs => by rw [z6, e 5 _ (by omega)]; exact fun q => q)
    · rw [e 18 m (by omega)] at hk
      rw [e 21 _ (by omega), e 22 _ (by omega), z0]; exact p11 k hk
    · rw [e 14 m (by omega)] at hi
      rw [e 10 m (by omega)]; exact e24 m hm hv i hi
  · rw [z6] at h1
    rw [e 13 m (by omega), e 14 m (by omega), e 18 m (by omega), e23' m h1]
    exact w.2.2.2.2 m h1 h2
/-- tau' holds S for method m, looks lk; all else as tau -/
def MS (τ : Nat → Nat → Int32) (m L P lk : Nat) (S : VS) (τ' : Nat → Nat → Int32) : Prop :=
  (∀ c i, (c < 23 ∨ 40 ≤ c) → τ' c i = τ c i) ∧ (∀ i, τ' 23 i = if i = m then 1 else τ 23 i) ∧ (∀ j, ¬ (200 * m ≤ j ∧ j < 200 * m + 200) → τ' 24 j = τ 24 j) ∧ (∀ j, ¬ (2400 * m ≤ j ∧ j < 2400 * m + 2400) → τ' 25 j = τ 25 j) ∧
  (∀ i, i < cn (τ 14 m) → (S.1 i = none ∧ τ' 24 (200 * m + i) < 0) ∨ ∃ q, S.1 i = some q ∧ q ≤ P ∧ τ' 24 (200 * m + i) = nI q ∧ ∀ k, k < L + q → τ' 25 (12 * (200 * m + i) + k) = S.2.1 i k) ∧ τ' 27 0 = nI lk
theorem MS.WF {τ τ' : Nat → Nat → Int32} {m L P lk : Nat} {S : VS} (M : MS τ m L P lk S τ') (w : WF τ) (hm : m < cn (τ 6 0)) (hP : τ 10 m = nI P) (hb : P ≤ 12) : WF τ' := by
  obtain ⟨m1, m2, m3, m4, m5, m6⟩ := M
  refine w.cols2 m1 (fun i hi => ?_) (fun i hi => ?_) (fun i hi hv k hk => ?_)
  · rw [m2]
    by_cases e : i = m
    · rw [if_pos e]; exact Or.inr rfl
    · rw [if_neg e]; exact (w.2.2.2.1 i hi).2.2.2.2.2.2.1
  · rw [m2, if_neg (by omega)]
  · rw [m2] at hv
    by_cases e : i = m
    · subst e
      rcases m5 k hk with ⟨-, q⟩ | ⟨q, -, h1, h2, -⟩
      · exact Or.inl q
      · rw [h2, hP, cn_nI (by omega), cn_nI (by omega)]; exact Or.inr h1
    · rw [if_neg e] at hv
      have h200 := (w.2.2.2.1 i hi).2.2.2.2.2.2.2.1.2
      rw [m3 _ (by omega)]
      exact (w.2.2.2.1 i hi).2.2.2.2.2.2.2.2.2.2.2 hv k hk
/-- only ints change -/
def SZ (h h' : zH) : Prop := zk h' = zk h ∧ zr h' = zr h ∧ zl h' = zl h ∧ zq h' = zq h ∧ zs h' = zs h
theorem SZ.rf {h : zH} : SZ h h := ⟨rfl, rfl, rfl, rfl, rfl⟩
theorem SZ.tr {h h1 h2 : zH} (p : SZ h h1) (q : SZ h1 h2) : SZ h h2 := ⟨q.1.trans p.1, q.2.1.trans p.2.1, q.2.2.1.trans p.2.2.1, q.2.2.2.1.trans p.2.2.2.1, q.2.2.2.2.trans p.2.2.2.2⟩
theorem SZ.sti {h : zH} {c k a : Nat} {v : Int32} : SZ h (sti c k a v h) := ⟨rfl, rfl, rfl, rfl, rfl⟩
theorem SZ.sta {h : zH} {a k : Nat} {v : Int32} : SZ h (sta a k v h) := ⟨rfl, rfl, rfl, rfl, rfl⟩
theorem SZ.RW {x : Nat} {h : zH} {ht ft : Int32} {ty : Nat → Int32} : SZ h (RW x h ht ty ft) := ⟨rfl, rfl, rfl, rfl, rfl⟩
/-- a cell's ints stay -/
def iz (h h' : zH) (b : Nat) : Prop := (∀ c k, zi h' c k b = zi h c k b) ∧ ∀ j, za h' b j = za h b j
theorem iz.rf {h : zH} {b : Nat} : iz h h b := ⟨fun _ _ => rfl, fun _ => rfl⟩
theorem iz.tr {h h1 h2 : zH} {b : Nat} (p : iz h h1 b) (q : iz h1 h2 b) : iz h h2 b := ⟨fun c k => (q.1 c k).trans (p.1 c k), fun j => (q.2 j).trans (p.2 j)⟩
theorem iz_sti {h : zH} {c k a b : Nat} {v : Int32} (e : b ≠ a) : iz h (sti c k a v h) b := ⟨fun c' k' => by rw [zi_sti, if_neg (fun q => e q.2.2)], fun j => rfl⟩
theorem iz_sta {h : zH} {k a b : Nat} {v : Int32} (e : b ≠ a) : iz h (sta a k v h) b := ⟨fun c' k' => rfl, fun j => by rw [za_sta, if_neg (fun q => e q.1)]⟩
theorem iz_RW {x : Nat} {h : zH} {ht ft : Int32} {ty : Nat → Int32} {b : Nat} (h5 : b ≠ x + 5) (h6 : b ≠ x + 6) (h7 : b ≠ x + 7) : iz h (RW x h ht ty ft) b := ⟨fun c k => by rw [zi_RW, if_neg (fun q => h5 q.2.2), if_neg (fun q => h7 q.2.2)], fun j => by rw [za_RW, if_neg h6]⟩
theorem SZ.ag {h h' : zH} {b : Nat} (p : SZ h h') (q : iz h h' b) : ag h h' b := ⟨by rw [p.1], q.1, fun c k => by rw [p.2.1], by rw [p.2.2.1], funext q.2, by rw [p.2.2.2.1]⟩
/-- an instruction's cells hold what stands before it -/
def IT (L P n : Nat) (o : Option Nat) (f : Nat → Int32) (a : Nat) (h : zH) : Prop := match o with
  | none => zi h 1 4 a = 0
  | some q => zi h 1 4 a = 1 ∧ q ≤ P ∧ zi h 4 1 (a + 1) = nI L ∧ zi h 4 2 (a + 1) = nI P ∧ zi h 4 3 (a + 1) = nI q ∧ ∀ k, k < L + q → za h (a + 2) k = f k ∧ vT n (f k)
theorem IT.iz {L P n : Nat} {o : Option Nat} {f : Nat → Int32} {a : Nat} {h h' : zH} (p : IT L P n o f a h) (q0 : iz h h' a) (q1 : iz h h' (a + 1)) (q2 : iz h h' (a + 2)) : IT L P n o f a h' := by
  cases o with
  | none => exact (q0.1 1 4).trans p
  | some q =>
    obtain ⟨p1, p2, p3, p4, p5, p6⟩ := p
    exact ⟨(q0.1 1 4).trans p1, p2, (q1.1 4 1).trans p3, (q1.1 4 2).trans p4, (q1.1 4 3).trans p5, fun k hk => ⟨(q2.2 k).trans (p6 k hk).1, (p6 k hk).2⟩⟩
/-- the cells that a walk over method m may change -/
def Fp (md : Nat → Nat) (ib : Nat → Nat → Nat) (x m sz b : Nat) : Prop := (x + 4 ≤ b ∧ b ≤ x + 7) ∨ b = md m ∨ ∃ i j, i < sz ∧ j < 3 ∧ b = ib m i + j
/-- the class holds S (h0: the heap before verify) -/
def CS (τ : Nat → Nat → Int32) (md : Nat → Nat) (ib : Nat → Nat → Nat) (x m L P : Nat) (h0 : zH) (S : VS) (h : zH) : Prop :=
  SZ h0 h ∧ (∀ b, ¬ Fp md ib x m (cn (τ 14 m)) b → iz h0 h b) ∧ (∀ k, zi h 3 k (md m) = if k = 11 then 1 else zi h0 3 k (md m)) ∧ (∀ i, i < cn (τ 14 m) → (∀ k, k < 3 → zi h 1 k (ib m i) = zi h0 1 k (ib m i)) ∧ IT L P (cn (τ 0 0)) (S.1 i) (S.2.1 i) (ib m i) h) ∧ zi h 4 1 (x + 5) = nI L ∧ zi h 4 2 (x + 5) = nI P
def MK (τ : Nat → Nat → Int32) (ib : Nat → Nat → Nat) (m : Nat) (S : VS) (h : zH) : Prop := ∀ i, i < cn (τ 14 m) → zi h 1 5 (ib m i) = if S.2.2 i then 1 else 0
theorem CS.rc {τ τ' : Nat → Nat → Int32} {kd md : Nat → Nat} {ib hd : Nat → Nat → Nat} {x m L P lk : Nat} {h0 h : zH} {S : VS} (c : CS τ md ib x m L P h0 S h) (p : RC τ kd md ib hd x h0) (w : WF τ) (hm : m < cn (τ 6 0)) (hL : τ 9 m = nI L) (hP : τ 10 m = nI P) (hb : L + P ≤ 12) (M : MS τ m L P lk S τ') (h5 : zi h 7 5 (x + 4) = nI lk) : RC τ' kd md ib hd x h := by
  obtain ⟨c1, c2, c3, c4, c5, c6⟩ := c
  obtain ⟨m1, m2, m3, m4, m5, m6⟩ := M
  have ko : ∀ b, x ≤ b → b < x + 4 → ¬ Fp md ib x m (cn (τ 14 m)) b := fun b hb1 hb2 q => by
    rcases q with q | q | ⟨i, j, hi, hj, q⟩
    · omega
    · have := (p.2.2.2.2.1 m hm).2.1; omega
    · have := (p.2.2.2.2.2.1 m i hm hi).2.1; omega
  have tt : ∀ (tb : List (Nat × Nat)), (∀ q ∈ tb, q.1 < 23 ∨ 40 ≤ q.1) → ∀ i, tg tb τ τ' i := fun tb ht i q hq k hk => m1 _ _ (ht q hq)
  have hsz : ∀ m', m' < cn (τ 6 0) → cn (τ 14 m') ≤ 200 := fun m' hm' => (w.2.2.2.1 m' hm').2.2.2.2.2.2.2.1.2
  refine p.shape ?_ c1.2.2.2.2 (by rw [m1 0 0 (by omega)]) (by rw [m1 6 0 (by omega)]) (fun m' hm' => by rw [m1 14 m' (by omega)]) (fun m' hm' => by rw [m1 18 m' (by omega)]) ?_ (fun i => by rw [c1.2.2.2.1]) (fun i => by rw [c1.2.2.2.1]) (fun c hc => ?_) (fun m' hm' => ?_) (fun m' i hm' hi => ?_) (fun m' k hm' hk => ?_)
  · have f := p.1
    unfold RF at f ⊢
    rw [c1.1, c1.2.1, c1.2.2.1]; exact f
  · obtain ⟨s1, s2, s3⟩ := p.2.2.1
    have a1 := c2 (x + 1) (ko _ (by omega) (by omega))
    exact ⟨by rw [a1.1, m1 0 0 (by omega)]; exact s1, by rw [a1.1, m1 6 0 (by omega)]; exact s2, by rw [m6]; exact h5⟩
  · obtain ⟨-, b1, -, b2⟩ := p.2.2.2.1 c hc
    have nf : ∀ j, j < 3 → ag h0 h (kd c + j) := fun j hj => c1.ag (c2 _ (fun q => by
      rcases q with q | q | ⟨i, j', hi, hj', q⟩
      · omega
      · exact p.KT hc hm j 0 hj (by omega) q
      · exact p.KI hc hm hi j j' hj hj' q))
    exact b2.ag (nf 0 (by omega)) (nf 1 (by omega)) (nf 2 (by omega)) (tt tK (by decide) c)
  · obtain ⟨-, b1, -, b2⟩ := p.2.2.2.2.1 m' hm'
    refine ⟨?_, fun i => by rw [c1.2.2.2.1], fun i => by rw [c1.2.2.2.1]⟩
    have nf : ∀ j, j < 4 → (j = 0 → m' ≠ m) → ag h0 h (md m' + j) := fun j hj hj0 => c1.ag (c2 _ (fun q => by
      rcases q with q | q | ⟨i, j', hi, hj', q⟩
      · omega
      · by_cases e : m' = m
        · subst e
          have : j = 0 := by omega
          exact hj0 this rfl
        · exact p.TT hm' hm e j 0 hj (by omega) q
      · exact p.TI hm' hm hi j j' hj hj' q))
    by_cases e : m' = m
    · subst e
      obtain ⟨⟨a1, a2, a3, a4, a5, a6, a7, a8, a9, a10⟩, ⟨d0, d1, d2, d3, d4, d5, d6, d7, d8⟩, f1⟩ := b2
      have n1 := nf 1 (by omega) (fun q => by omega)
      refine ⟨by rw [c1.1, c1.2.1, c1.2.2.1]; exact ⟨a1, a2, a3, a4, a5, a6, a7, a8, a9, a10⟩, ⟨?_, ?_, ?_, ?_, ?_, ?_, ?_, ?_, ?_⟩, fun k h1 h2 => ?_⟩
      · rw [c1.2.1, m1 7 _ (by omega)]; exact d0
      · rw [c3, if_neg (by decide), m1 8 _ (by omega)]; exact d1
      · rw [c3, if_neg (by decide), m1 9 _ (by omega)]; exact d2
      · rw [c3, if_neg (by decide), m1 10 _ (by omega)]; exact d3
      · rw [c3, if_neg (by decide), m1 11 _ (by omega)]; exact d4
      · rw [c3, if_neg (by decide), m1 14 _ (by omega)]; exact d5
      · rw [c3, if_neg (by decide), m1 18 _ (by omega)]; exact d6
      · rw [c3, if_neg (by decide), m1 13 _ (by omega)]; exact d7
      · rw [c3, if_pos rfl, m2, if_pos rfl]
      · rw [m1 11 _ (by omega)] at h2
        rw [n1.a, m1 12 _ (by omega)]; exact f1 k h1 h2
    · refine b2.ag (nf 0 (by omega) (fun _ => e)) (nf 1 (by omega) (fun q => by omega)) (Or.inl (nf 2 (by omega) (fun q => by omega))) (Or.inl (nf 3 (by omega) (fun q => by omega))) (fun q hq k hk => ?_) (fun _ => rfl)
      simp only [tM, List.mem_cons, List.not_mem_nil, or_false] at hq
      rcases hq with rfl | rfl | rfl | rfl | rfl | rfl | rfl | rfl | rfl | rfl <;> simp only at hk ⊢
      · exact m1 7 _ (by omega)
      · exact m1 8 _ (by omega)
      · exact m1 9 _ (by omega)
      · exact m1 10 _ (by omega)
      · exact m1 11 _ (by omega)
      · exact m1 12 _ (by omega)
      · exact m1 13 _ (by omega)
      · exact m1 14 _ (by omega)
      · exact m1 18 _ (by omega)
      · rw [m2, if_neg (by omega)]
  · obtain ⟨-, b1, -, b2, b3⟩ := p.2.2.2.2.2.1 m' i hm' hi
    by_cases e : m' = m
    · subst e
      obtain ⟨⟨a1, a2, a3, a4, a5, a6⟩, d1, d2, d3⟩ := b2
      obtain ⟨k1, it⟩ := c4 i hi
      refine ⟨⟨by rw [c1.1, c1.2.1, c1.2.2.1]; exact ⟨a1, a2, a3, a4, a5, a6⟩, by rw [k1 0 (by omega), m1 15 _ (by omega)]; exact d1, by rw [k1 1 (by omega), m1 16 _ (by omega)]; exact d2, by rw [k1 2 (by omega), m1 17 _ (by omega)]; exact d3⟩, fun _ => ?_⟩
      rcases m5 i hi with ⟨e0, q⟩ | ⟨q, e0, h1, h2, h3⟩
      · rw [e0] at it
        exact Or.inl ⟨it, q⟩
      · rw [e0] at it
        obtain ⟨i1, i2, i3, i4, i5, i6⟩ := it
        refine Or.inr ⟨i1, by rw [h2]; exact nlt0 (by omega), by rw [m1 9 _ (by omega), hL]; exact i3, by rw [m1 10 _ (by omega), hP]; exact i4, by rw [h2]; exact i5, fun k hk1 hk2 => ?_⟩
        rw [m1 9 _ (by omega), hL, h2, cn_nI (by omega), cn_nI (by omega)] at hk2
        rw [h3 k hk2]; exact (i6 k hk2).1
    · have nf : ∀ j, j < 3 → ag h0 h (ib m' i + j) := fun j hj => c1.ag (c2 _ (fun q => by
        rcases q with q | q | ⟨i', j', hi', hj', q⟩
        · omega
        · exact p.TI hm hm' hi 0 j (by omega) hj q.symm
        · exact p.II hm' hi hm hi' (fun z => e z.1) j j' hj hj' q))
      have h200 := hsz m' hm'
      have ti : tg tI τ τ' (200 * m' + i) := fun q hq k hk => by
        simp only [tI, List.mem_cons, List.not_mem_nil, or_false] at hq
        rcases hq with rfl | rfl | rfl | rfl | rfl <;> simp only at hk ⊢
        · exact m1 15 _ (by omega)
        · exact m1 16 _ (by omega)
        · exact m1 17 _ (by omega)
        · exact m3 _ (by omega)
        · exact m4 _ (by omega)
      refine ⟨b2.ag (nf 0 (by omega)) (nf 1 (by omega)) (nf 2 (by omega)) ti, fun hv => ?_⟩
      rw [m2, if_neg e] at hv
      exact (b3 hv).ag (nf 0 (by omega)) (nf 1 (by omega)) (nf 2 (by omega)) ti (m1 9 _ (by omega)) (m1 10 _ (by omega))
  · obtain ⟨-, b1, -, b2⟩ := p.2.2.2.2.2.2.1 m' k hm' hk
    refine b2.ag (c1.ag (c2 _ (fun q => ?_))) (tt tH (by decide) _)
    rcases q with q | q | ⟨i', j', hi', hj', q⟩
    · omega
    · exact p.TH hm hm' hk 0 0 (by omega) (by omega) q.symm
    · exact p.IH hm hi' hm' hk j' 0 hj' (by omega) q.symm
/-- one such tau' -/
def tv (τ : Nat → Nat → Int32) (m lk : Nat) (S : VS) : Nat → Nat → Int32 := fun c i => if c = 23 then (if i = m then 1 else τ 23 i) else if c = 24 then (if 200 * m ≤ i ∧ i < 200 * m + 200 then (match S.1 (i - 200 * m) with | none => -1 | some q => nI q) else τ 24 i) else if c = 25 then (if 2400 * m ≤ i ∧ i < 2400 * m + 2400 then S.2.1 ((i - 2400 * m) / 12) ((i - 2400 * m) % 12) else τ 25 i) else if c = 27 then (if i = 0 then nI lk else τ 27 i) else τ c i
theorem tv_MS {τ : Nat → Nat → Int32} {m L P lk : Nat} {S : VS} (w : WF τ) (hm : m < cn (τ 6 0)) (hb : L + P ≤ 12) (hS : ∀ i, i < cn (τ 14 m) → ∀ q, S.1 i = some q → q ≤ P) : MS τ m L P lk S (tv τ m lk S) := by
  have h200 := (w.2.2.2.1 m hm).2.2.2.2.2.2.2.1.2
  refine ⟨fun c i hc => ?_, fun i => rfl, fun j hj => ?_, fun j hj => ?_, fun i hi => ?_, rfl⟩
  · unfold tv
    rw [if_neg (by omega), if_neg (by omega), if_neg (by omega), if_neg (by omega)]
  · show (if 200 * m ≤ j ∧ j < 200 * m + 200 then _ else τ 24 j) = τ 24 j
    rw [if_neg hj]
  · show (if 2400 * m ≤ j ∧ j < 2400 * m + 2400 then _ else τ 25 j) = τ 25 j
    rw [if_neg hj]
  · have e24 : tv τ m lk S 24 (200 * m + i) = match S.1 i with | none => -1 | some q => nI q := by
      show (if 200 * m ≤ 200 * m + i ∧ 200 * m + i < 200 * m + 200 then (match S.1 (200 * m + i - 200 * m) with | none => -1 | some q => nI q) else τ 24 (200 * m + i)) = _
      rw [if_pos (by omega), Nat.add_sub_cancel_left]
    cases e : S.1 i with
    | none => exact Or.inl ⟨rfl, by rw [e24, e]; exact m1neg⟩
    | some q =>
      have hq := hS i hi q e
      refine Or.inr ⟨q, rfl, hq, by rw [e24, e], fun k hk => ?_⟩
      show (if 2400 * m ≤ 12 * (200 * m + i) + k ∧ 12 * (200 * m + i) + k < 2400 * m + 2400 then S.2.1 ((12 * (200 * m + i) + k - 2400 * m) / 12) ((12 * (200 * m + i) + k - 2400 * m) % 12) else τ 25 _) = _
      rw [if_pos (by omega), show (12 * (200 * m + i) + k - 2400 * m) / 12 = i by omega, show (12 * (200 * m + i) + k - 2400 * m) % 12 = k by omega]
