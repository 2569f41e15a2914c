/-! The walk ends: each look takes a mark away, and only what climbs is marked anew. -/
def sm : Nat → (Nat → Nat) → Nat
  | 0, _ => 0
  | n + 1, f => sm n f + f n
theorem sm_upd {i : Nat} (n : Nat) {f g : Nat → Nat} (hi : i < n) (e : ∀ k, k < n → k ≠ i → f k = g k) : sm n f + g i = sm n g + f i := by
  induction n with
  | zero => omega
  | succ n ih =>
    unfold sm
    by_cases z : i = n
    · subst z
      have : sm i f = sm i g := by
        clear ih hi
        have e' : ∀ k, k < i → f k = g k := fun k hk => e k (by omega) (by omega)
        clear e
        have G : ∀ j, j ≤ i → sm j f = sm j g := by
          intro j hj
          induction j with
          | zero => rfl
          | succ j ihj =>
            unfold sm
            rw [ihj (by omega), e' j (by omega)]
        exact G i (Nat.le_refl _)
      omega
    · have := ih (by omega) (fun k hk => e k (by omega))
      have := e n (by omega) (fun q => z q.symm)
      omega
theorem sm_le {c : Nat} (n : Nat) {f : Nat → Nat} (h : ∀ k, k < n → f k ≤ c) : sm n f ≤ n * c := by
  induction n with
  | zero => exact Nat.zero_le _
  | succ n ih =>
    unfold sm
    have := ih (fun k hk => h k (by omega))
    have := h n (by omega)
    rw [Nat.succ_mul]; omega
def b1 (c : Bool) : Nat := if c then 1 else 0
def pf (n : Nat) (f : Nat → Int32) : Nat := sm n (fun k => 34 - rk (f k))
def wt (L : Nat) (S : VS) (i : Nat) : Nat := b1 (S.2.2 i) + (match S.1 i with | none => 410 | some q => pf (L + q) (S.2.1 i))
def Phi (L sz : Nat) (S : VS) : Nat := sm sz (wt L S)
theorem mtL_pf {τ : Nat → Nat → Int32} (w : WF τ) {L n : Nat} {g : Nat → Int32} (hg : ∀ k, k < n → vT (cn (τ 0 0)) (g k)) (d : Nat) : ∀ (k : Nat) (ch c : Bool) (f : Nat → Int32), k + d = n → (∀ j, j < n → vT (cn (τ 0 0)) (f j)) → (mtL τ L g d k ch f).2 = some c → pf n (mtL τ L g d k ch f).1 + b1 c ≤ pf n f + b1 ch := by
  induction d with
  | zero => intro k ch c f hk hf h; cases h; exact Nat.le_refl _
  | succ d ih =>
    intro k ch c f hk hf h
    unfold mtL at h ⊢
    by_cases q : L ≤ k ∧ mt τ (f k) (g k) = 99
    · rw [if_pos q] at h; cases h
    · rw [if_neg q] at h ⊢
      obtain ⟨mo, mr⟩ := mt_ok w (hf k (by omega)) (hg k (by omega))
      have I := ih (k + 1) _ c _ (by omega) (fun j hj => by
        show vT _ (if j = k then mt τ (f k) (g k) else f j)
        by_cases z : j = k
        · rw [if_pos z]; exact mo
        · rw [if_neg z]; exact hf j hj) h
      refine Nat.le_trans I ?_
      have U := sm_upd (i := k) n (f := fun j => 34 - rk (if j = k then mt τ (f k) (g k) else f j)) (g := fun j => 34 - rk (f j)) (by omega) (fun j hj hne => by rw [if_neg hne])
      simp only [↓reduceIte] at U
      show sm n (fun j => 34 - rk (if j = k then mt τ (f k) (g k) else f j)) + _ ≤ sm n (fun j => 34 - rk (f j)) + _
      by_cases e : mt τ (f k) (g k) = f k
      · rw [decide_eq_true e, show (ch || !true) = ch by simp]
        rw [e] at U ⊢
        omega
      · have r1 := mr e
        have r2 := rk_le (mt τ (f k) (g k))
        rw [decide_eq_false e, show (ch || !false) = true by simp]
        have : b1 true = 1 := rfl
        omega
theorem Phi_upd {L sz t : Nat} {S S' : VS} (ht : t < sz) (e : ∀ i, i ≠ t → wt L S' i = wt L S i) (h : wt L S' t ≤ wt L S t) : Phi L sz S' ≤ Phi L sz S := by
  have U := sm_upd (i := t) sz (f := wt L S') (g := wt L S) ht (fun k _ hne => e k hne)
  unfold Phi
  omega
theorem comeS_Phi {τ : Nat → Nat → Int32} (w : WF τ) {m L P fr t : Nat} {r : Row} {S : VS} (hb : L + P ≤ 12) (o : okS τ m L P S) (okr : okR L P (cn (τ 0 0)) r) (h : (comeS τ L (cn (τ 14 m)) fr t r S).2 = none) : Phi L (cn (τ 14 m)) (comeS τ L (cn (τ 14 m)) fr t r S).1 ≤ Phi L (cn (τ 14 m)) S := by
  unfold comeS at h ⊢
  by_cases hsz : cn (τ 14 m) ≤ t
  · rw [if_pos hsz] at h; cases h
  · rw [if_neg hsz] at h ⊢
    have okp := okr.1
    cases eS : S.1 t with
    | none =>
      refine Phi_upd (t := t) (by omega) (fun i hi => ?_) ?_
      · show b1 (if i = t then true else S.2.2 i) + (match (if i = t then some r.1 else S.1 i) with | none => 410 | some q => pf (L + q) (if i = t then r.2 else S.2.1 i)) = wt L S i
        rw [if_neg hi, if_neg hi, if_neg hi]; rfl
      · show b1 (if t = t then true else S.2.2 t) + (match (if t = t then some r.1 else S.1 t) with | none => 410 | some q => pf (L + q) (if t = t then r.2 else S.2.1 t)) ≤ wt L S t
        rw [if_pos rfl, if_pos rfl, if_pos rfl]
        unfold wt
        rw [eS]
        show b1 true + pf (L + r.1) r.2 ≤ b1 (S.2.2 t) + 410
        have : pf (L + r.1) r.2 ≤ (L + r.1) * 34 := sm_le _ (fun k hk => by omega)
        have : b1 true = 1 := rfl
        omega
    | some n =>
      rw [eS] at h
      dsimp only at h ⊢
      by_cases hn : n = r.1
      · rw [if_pos hn] at h ⊢
        have ot := o t (by omega) n eS
        have G := mtL_pf w (L := L) (n := L + n) (g := r.2) (fun k hk => okr.2 k (by omega)) (L + n) 0 false
        cases eg : (mtL τ L r.2 (L + n) 0 false (S.2.1 t)).2 with
        | none => rw [eg] at h; cases h
        | some c =>
          have G := G c (S.2.1 t) (by omega) ot.2 eg
          generalize mtL τ L r.2 (L + n) 0 false (S.2.1 t) = H at *
          refine Phi_upd (t := t) (by omega) (fun i hi => ?_) ?_
          · show b1 (if i = t then (S.2.2 t || c) else S.2.2 i) + (match S.1 i with | none => 410 | some q => pf (L + q) (if i = t then H.1 else S.2.1 i)) = wt L S i
            rw [if_neg hi, if_neg hi]; rfl
          · show b1 (if t = t then (S.2.2 t || c) else S.2.2 t) + (match S.1 t with | none => 410 | some q => pf (L + q) (if t = t then H.1 else S.2.1 t)) ≤ wt L S t
            rw [if_pos rfl, if_pos rfl]
            unfold wt
            rw [eS]
            show b1 (S.2.2 t || c) + pf (L + n) H.1 ≤ b1 (S.2.2 t) + pf (L + n) (S.2.1 t)
            have : b1 (S.2.2 t || c) ≤ b1 (S.2.2 t) + b1 c := by cases S.2.2 t <;> cases c <;> decide
            have : b1 false = 0 := rfl
            omega
      · rw [if_neg hn] at h; cases h
/-- marked only if reached -/
def mr (S : VS) : Prop := ∀ i, S.2.2 i = true → ∃ q, S.1 i = some q
theorem comeS_mr {τ : Nat → Nat → Int32} {L sz fr t : Nat} {r : Row} {S : VS} (o : mr S) : mr (comeS τ L sz fr t r S).1 := by
  unfold comeS
  by_cases hsz : sz ≤ t
  · rw [if_pos hsz]; exact o
  · rw [if_neg hsz]
    cases eS : S.1 t with
    | none =>
      intro i hi
      have hi' : (if i = t then true else S.2.2 i) = true := hi
      show ∃ q, (if i = t then some r.1 else S.1 i) = some q
      by_cases e : i = t
      · rw [if_pos e]; exact ⟨_, rfl⟩
      · rw [if_neg e] at hi' ⊢; exact o i hi'
    | some n =>
      dsimp only
      by_cases hn : n = r.1
      · rw [if_pos hn]
        cases (mtL τ L r.2 (L + n) 0 false (S.2.1 t)).2 with
        | none => exact o
        | some c =>
          intro i hi
          have hi' : (if i = t then (S.2.2 t || c) else S.2.2 i) = true := hi
          by_cases e : i = t
          · subst e; exact ⟨n, eS⟩
          · rw [if_neg e] at hi'; exact o i hi'
      · rw [if_neg hn]; exact o
section
variable {τ : Nat → Nat → Int32} {m L P : Nat}
theorem hndS_all (w : WF τ) (hm : m < cn (τ 6 0)) (hb : L + P ≤ 12) {i q : Nat} (hi : i < cn (τ 14 m)) (d : Nat) : ∀ (k : Nat) (S : VS), k + d ≤ cn (τ 18 m) → S.1 i = some q → okS τ m L P S → mr S → okS τ m L P (hndS τ L P m i d k S).1 ∧ mr (hndS τ L P m i d k S).1 ∧ ((hndS τ L P m i d k S).2 = none → Phi L (cn (τ 14 m)) (hndS τ L P m i d k S).1 ≤ Phi L (cn (τ 14 m)) S) := by
  induction d with
  | zero => intro k S hk e o r; exact ⟨o, r, fun _ => Nat.le_refl _⟩
  | succ d ih =>
    intro k S hk e o r
    unfold hndS
    cases cov τ (8 * m + k) i
    · rw [if_neg (by decide)]; exact ih _ _ (by omega) e o r
    · rw [if_pos rfl]
      obtain ⟨⟨kc, hkc, ekc⟩, -⟩ := (w.2.2.2.1 m hm).2.2.2.2.2.2.2.2.2.2.1 k (by omega)
      cases ep : psh L P (1 + τ 21 (8 * m + k)) (0, S.2.1 i) with
      | none => exact ⟨o, r, fun h => by cases h⟩
      | some s =>
        dsimp only
        obtain ⟨o1, o2⟩ := o i hi q e
        have okr : okR L P (cn (τ 0 0)) s := by
          have : okR L P (cn (τ 0 0)) ((0, S.2.1 i) : Row) := ⟨Nat.zero_le _, fun j hj => o2 j (by simp only at hj; omega)⟩
          exact this.psh (by rw [ekc]; exact vT1 hkc) ep
        have e2 := comeS_hi (τ := τ) (L := L) (sz := cn (τ 14 m)) (fr := i) (t := cn (τ 22 (8 * m + k))) (r := s) e
        have o3 := comeS_ok w (fr := i) (t := cn (τ 22 (8 * m + k))) o okr
        have r3 := comeS_mr (τ := τ) (L := L) (sz := cn (τ 14 m)) (fr := i) (t := cn (τ 22 (8 * m + k))) (r := s) r
        cases ee : (comeS τ L (cn (τ 14 m)) i (cn (τ 22 (8 * m + k))) s S).2 with
        | none =>
          have ph := comeS_Phi w hb o okr ee
          obtain ⟨a1, a2, a3⟩ := ih (k + 1) _ (by omega) e2 o3 r3
          exact ⟨a1, a2, fun h => Nat.le_trans (a3 h) ph⟩
        | some z => exact ⟨o3, r3, fun h => by cases h⟩
/-- a step's row is good -/
theorem fitS_ok (w : WF τ) (hm : m < cn (τ 6 0)) (hL : τ 9 m = nI L) (hb : L + P ≤ 12) {i : Nat} (hi : i < cn (τ 14 m)) {s s' : Row} (ok : okR L P (cn (τ 0 0)) s) (e : fitS τ L P m (cn (τ 15 (200 * m + i))) (τ 16 (200 * m + i)) (τ 17 (200 * m + i)) s = some s') (x : Nat) (h0 : zH) (kd md : Nat → Nat) (ib hd : Nat → Nat → Nat) (p : RC τ kd md ib hd x h0) : okR L P (cn (τ 0 0)) s' := by
  have hL' : cn (τ 9 m) = L := by rw [hL]; exact cn_nI (by omega)
  have E : RE x (sti 4 2 (x + 5) (nI P) (sti 4 1 (x + 5) (nI L) h0)) L P := ⟨p.1, by rw [zi_sti, if_neg (by omega), zi_sti, if_pos ⟨rfl, rfl, rfl⟩], by rw [zi_sti, if_pos ⟨rfl, rfl, rfl⟩], hb⟩
  have p2 : RC τ kd md ib hd x (sti 4 2 (x + 5) (nI P) (sti 4 1 (x + 5) (nI L) h0)) := by
    have A : ∀ b, b ≠ x + 5 → ag h0 (sti 4 2 (x + 5) (nI P) (sti 4 1 (x + 5) (nI L) h0)) b := fun b hb => (ag_sti hb).tr (ag_sti hb)
    have B : ∀ b, x + 35 ≤ b → ag h0 (sti 4 2 (x + 5) (nI P) (sti 4 1 (x + 5) (nI L) h0)) b := fun b hb => A b (by omega)
    have A1 := A (x + 1) (by omega)
    have A4 := A (x + 4) (by omega)
    refine p.shape p.1 rfl rfl rfl (fun m hm => rfl) (fun m hm => rfl) ?_ (fun c => rfl) (fun c => rfl) (fun c hc => ?_) (fun m hm => ?_) (fun m i hm hi => ?_) (fun m k hm hk => ?_)
    · obtain ⟨s1, s2, s3⟩ := p.2.2.1
      exact ⟨by rw [A1.i]; exact s1, by rw [A1.i]; exact s2, by rw [A4.i]; exact s3⟩
    · obtain ⟨-, b1, -, b2⟩ := p.2.2.2.1 c hc
      exact b2.ag (B _ b1) (B _ (by omega)) (B _ (by omega)) tg.rf
    · obtain ⟨-, b1, -, b2⟩ := p.2.2.2.2.1 m hm
      exact ⟨b2.ag (B _ b1) (B _ (by omega)) (Or.inl (B _ (by omega))) (Or.inl (B _ (by omega))) tg.rf (fun _ => rfl), fun i => rfl, fun i => rfl⟩
    · obtain ⟨-, b1, -, b2, b3⟩ := p.2.2.2.2.2.1 m i hm hi
      exact ⟨b2.ag (B _ b1) (B _ (by omega)) (B _ (by omega)) tg.rf, fun hv => (b3 hv).ag (B _ b1) (B _ (by omega)) (B _ (by omega)) tg.rf rfl rfl⟩
    · obtain ⟨-, b1, -, b2⟩ := p.2.2.2.2.2.2.1 m k hm hk
      exact b2.ag (B _ b1) tg.rf
  obtain ⟨h', -, j⟩ := perfJ 20 (by omega) p2 w (m := m) (i := i) (P := P) (by rw [hL']; exact E) hm hi (r := s) (by rw [hL']; exact ok) 0
  rw [hL', e] at j
  exact j.1
end
