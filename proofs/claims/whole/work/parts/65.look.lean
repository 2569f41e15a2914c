/-! Rows that agree where a type stands. -/
def agr (L : Nat) (r r' : Row) : Prop := r.1 = r'.1 ∧ ∀ k, k < L + r.1 → r.2 k = r'.2 k
def oA (L : Nat) (o o' : Option Row) : Prop := (o = none ∧ o' = none) ∨ ∃ s s', o = some s ∧ o' = some s' ∧ agr L s s'
section
variable {L P : Nat} {r r' : Row}
theorem oA.bind {o o' : Option Row} {f f' : Row → Option Row} (p : oA L o o') (q : ∀ s s', agr L s s' → oA L (f s) (f' s')) : oA L (o.bind f) (o'.bind f') := by
  rcases p with ⟨rfl, rfl⟩ | ⟨s, s', rfl, rfl, a⟩
  · exact Or.inl ⟨rfl, rfl⟩
  · exact q s s' a
theorem agr.rf : agr L r r := ⟨rfl, fun _ _ => rfl⟩
theorem oA_some (a : agr L r r') : oA L (some r) (some r') := Or.inr ⟨r, r', rfl, rfl, a⟩
theorem oA_none : oA L none none := Or.inl ⟨rfl, rfl⟩
theorem psh_A (a : agr L r r') (v : Int32) : oA L (psh L P v r) (psh L P v r') := by
  unfold psh
  rw [a.1]
  by_cases q : r'.1 < P
  · rw [if_pos q, if_pos q]
    refine oA_some ⟨rfl, fun k hk => ?_⟩
    simp only at hk ⊢
    by_cases z : k = L + r'.1
    · rw [if_pos z, if_pos z]
    · rw [if_neg z, if_neg z]; exact a.2 k (by rw [a.1]; omega)
  · rw [if_neg q, if_neg q]; exact oA_none
theorem pp_A (a : agr L r r') : (pp L r = none ∧ pp L r' = none) ∨ ∃ v s s', pp L r = some (v, s) ∧ pp L r' = some (v, s') ∧ agr L s s' := by
  unfold pp
  by_cases q : 0 < r.1
  · have q' : 0 < r'.1 := by rw [← a.1]; exact q
    rw [if_pos q, if_pos q', ← a.1, ← a.2 _ (by omega)]
    exact Or.inr ⟨_, _, _, rfl, rfl, rfl, fun k hk => a.2 k (by simp only at hk; omega)⟩
  · have q' : ¬ 0 < r'.1 := by rw [← a.1]; exact q
    rw [if_neg q, if_neg q']; exact Or.inl ⟨rfl, rfl⟩
theorem ppc_A (a : agr L r r') (c : Int32 → Bool) : oA L (ppc L c r) (ppc L c r') := by
  unfold ppc
  rcases pp_A a with ⟨e1, e2⟩ | ⟨v, s, s', e1, e2, b⟩
  · rw [e1, e2]; exact oA_none
  · rw [e1, e2, obs, obs]
    simp only
    cases c v
    · exact oA_none
    · exact oA_some b
theorem prw_A (a : agr L r r') : (prw L r = none ∧ prw L r' = none) ∨ ∃ v s s', prw L r = some (v, s) ∧ prw L r' = some (v, s') ∧ agr L s s' := by
  unfold prw
  rcases pp_A a with ⟨e1, e2⟩ | ⟨v, s, s', e1, e2, b⟩
  · rw [e1, e2]; exact Or.inl ⟨rfl, rfl⟩
  · rw [e1, e2, obs, obs]
    simp only
    by_cases c : (decide (v = 97) || isRw v) = true
    · rw [if_pos c, if_pos c]; exact Or.inr ⟨v, s, s', rfl, rfl, b⟩
    · rw [if_neg c, if_neg c]; exact Or.inl ⟨rfl, rfl⟩
theorem pars_A (τ : Nat → Nat → Int32) (u fr k : Nat) : ∀ {r r' : Row}, agr L r r' → oA L (pars τ L u fr k r) (pars τ L u fr k r') := by
  induction k with
  | zero => intro r r' a; exact oA_some a
  | succ k ih =>
    intro r r' a
    unfold pars
    by_cases q : k < fr
    · rw [if_pos q, if_pos q]; exact oA_some a
    · rw [if_neg q, if_neg q]
      exact (ppc_A a _).bind (fun s s' b => ih b)
theorem givn_A (τ : Nat → Nat → Int32) (u : Nat) (a : agr L r r') : oA L (givn τ L P u r) (givn τ L P u r') := by
  unfold givn
  by_cases q : τ 8 u < 0
  · rw [if_pos q, if_pos q]; exact oA_some a
  · rw [if_neg q, if_neg q]; exact psh_A a _
theorem fitS_A (τ : Nat → Nat → Int32) {m o : Nat} (ho : o ≤ 41) {x y : Int32} (a : agr L r r') (hx : o = 2 ∨ o = 3 → cn x < L) : oA L (fitS τ L P m o x y r) (fitS τ L P m o x y r') := by
  have I : ∀ {s s' : Row}, agr L s s' → oA L (pI1 L s) (pI1 L s') := fun b => ppc_A b _
  have F : ∀ {s s' : Row}, agr L s s' → oA L (pRf L s) (pRf L s') := fun b => ppc_A b _
  have T : ∀ {s s' : Row} (t : Int32), agr L s s' → oA L (pT τ L t s) (pT τ L t s') := fun t b => ppc_A b _
  have D : oA L (((pI1 L r).bind (pI1 L)).bind (psh L P 0)) (((pI1 L r').bind (pI1 L)).bind (psh L P 0)) := ((I a).bind (fun s s' b => I b)).bind (fun s s' b => psh_A b _)
  rcases (show o = 0 ∨ o = 1 ∨ o = 2 ∨ o = 3 ∨ o = 4 ∨ o = 5 ∨ o = 6 ∨ o = 7 ∨ o = 8 ∨ o = 9 ∨ o = 10 ∨ o = 11 ∨ o = 12 ∨ o = 13 ∨ o = 14 ∨ o = 15 ∨ o = 16 ∨ o = 17 ∨ o = 18 ∨ o = 19 ∨ o = 20 ∨ o = 21 ∨ o = 22 ∨ o = 23 ∨ o = 24 ∨ o = 25 ∨ o = 26 ∨ o = 27 ∨ o = 28 ∨ o = 29 ∨ o = 30 ∨ o = 31 ∨ o = 32 ∨ o = 33 ∨ o = 34 ∨ o = 35 ∨ o = 36 ∨ o = 37 ∨ o = 38 ∨ o = 39 ∨ o = 40 ∨ o = 41 by omega) with rfl | rfl | rfl | rfl | rfl | rfl | rfl | rfl | rfl | rfl | rfl | rfl | rfl | rfl | rfl | rfl | rfl | rfl | rfl | rfl | rfl | rfl | rfl | rfl | rfl | rfl | rfl | rfl | rfl | rfl | rfl | rfl | rfl | rfl | rfl | rfl | rfl | rfl | rfl | rfl | rfl | rfl
  · exact psh_A a _
  · exact psh_A a _
  · have e := a.2 (cn x) (by have := hx (Or.inl rfl); omega)
    show oA L (if r.2 (cn x) = 99 then none else psh L P (r.2 (cn x)) r) (if r'.2 (cn x) = 99 then none else psh L P (r'.2 (cn x)) r')
    rw [e]
    by_cases z : r'.2 (cn x) = 99
    · rw [if_pos z, if_pos z]; exact oA_none
    · rw [if_neg z, if_neg z]; exact psh_A a _
  · show oA L ((pp L r).bind fun q => some (q.2.1, fun k => if k = cn x then q.1 else q.2.2 k)) ((pp L r').bind fun q => some (q.2.1, fun k => if k = cn x then q.1 else q.2.2 k))
    rcases pp_A a with ⟨e1, e2⟩ | ⟨v, s, s', e1, e2, b⟩
    · rw [e1, e2]; exact oA_none
    · rw [e1, e2]
      refine oA_some ⟨b.1, fun k hk => ?_⟩
      simp only at hk ⊢
      by_cases z : k = cn x
      · rw [if_pos z, if_pos z]
      · rw [if_neg z, if_neg z]; exact b.2 k hk
  · show oA L ((pp L r).bind fun q => some q.2) ((pp L r').bind fun q => some q.2)
    rcases pp_A a with ⟨e1, e2⟩ | ⟨v, s, s', e1, e2, b⟩
    · rw [e1, e2]; exact oA_none
    · rw [e1, e2]; exact oA_some b
  · show oA L ((pp L r).bind fun q => (psh L P q.1 q.2).bind (psh L P q.1)) ((pp L r').bind fun q => (psh L P q.1 q.2).bind (psh L P q.1))
    rcases pp_A a with ⟨e1, e2⟩ | ⟨v, s, s', e1, e2, b⟩
    · rw [e1, e2]; exact oA_none
    · rw [e1, e2]; exact (psh_A b v).bind (fun t t' c => psh_A c v)
  · show oA L ((pp L r).bind fun q => (pp L q.2).bind fun s => (psh L P q.1 s.2).bind (psh L P s.1)) ((pp L r').bind fun q => (pp L q.2).bind fun s => (psh L P q.1 s.2).bind (psh L P s.1))
    rcases pp_A a with ⟨e1, e2⟩ | ⟨v, s, s', e1, e2, b⟩
    · rw [e1, e2]; exact oA_none
    · rw [e1, e2, obs, obs]
      rcases pp_A b with ⟨e3, e4⟩ | ⟨u, t, t', e3, e4, c⟩
      · rw [e3, e4]; exact oA_none
      · rw [e3, e4]; exact (psh_A c v).bind (fun t t' c => psh_A c u)
  all_goals try exact D
  · exact (I a).bind (fun s s' b => psh_A b _)
  · exact I a
  · exact (I a).bind (fun s s' b => I b)
  · exact F a
  · exact F a
  · exact (F a).bind (fun s s' b => F b)
  · exact (F a).bind (fun s s' b => F b)
  · exact oA_some a
  · exact psh_A a _
  · exact (T _ a).bind (fun s s' b => psh_A b _)
  · exact (T _ a).bind (fun s s' b => T _ b)
  · exact (F a).bind (fun s s' b => psh_A b _)
  · exact (F a).bind (fun s s' b => psh_A b _)
  · exact (I a).bind (fun s s' b => psh_A b _)
  · show oA L ((prw L r).bind fun q => psh L P 0 q.2) ((prw L r').bind fun q => psh L P 0 q.2)
    rcases prw_A a with ⟨e1, e2⟩ | ⟨v, s, s', e1, e2, b⟩
    · rw [e1, e2]; exact oA_none
    · rw [e1, e2]; exact psh_A b _
  · refine (I a).bind (fun s s' b => ?_)
    rcases prw_A b with ⟨e1, e2⟩ | ⟨v, t, t', e1, e2, c⟩
    · rw [e1, e2]; exact oA_none
    · rw [e1, e2]; exact psh_A c _
  · show oA L ((pp L r).bind fun v => (pI1 L v.2).bind fun s => (prw L s).bind fun q => if (decide (q.1 = 97) || gT τ v.1 (q.1 - 64)) = true then some q.2 else none) ((pp L r').bind fun v => (pI1 L v.2).bind fun s => (prw L s).bind fun q => if (decide (q.1 = 97) || gT τ v.1 (q.1 - 64)) = true then some q.2 else none)
    rcases pp_A a with ⟨e1, e2⟩ | ⟨v, s, s', e1, e2, b⟩
    · rw [e1, e2]; exact oA_none
    · rw [e1, e2, obs, obs]
      refine (I b).bind (fun t t' c => ?_)
      rcases prw_A c with ⟨e3, e4⟩ | ⟨u, y, y', e3, e4, d⟩
      · rw [e3, e4]; exact oA_none
      · rw [e3, e4, obs, obs]
        simp only
        by_cases z : (decide (u = 97) || gT τ v (u - 64)) = true
        · rw [if_pos z, if_pos z]; exact oA_some d
        · rw [if_neg z, if_neg z]; exact oA_none
  · exact (pars_A τ _ _ _ a).bind (fun s s' b => givn_A τ _ b)
  · exact (pars_A τ _ _ _ a).bind (fun s s' b => (T _ b).bind (fun t t' c => givn_A τ _ c))
  · show oA L (if τ 8 m < 0 then some r else none) (if τ 8 m < 0 then some r' else none)
    by_cases z : τ 8 m < 0
    · rw [if_pos z, if_pos z]; exact oA_some a
    · rw [if_neg z, if_neg z]; exact oA_none
  · show oA L (if τ 8 m < 0 then none else pT τ L (τ 8 m) r) (if τ 8 m < 0 then none else pT τ L (τ 8 m) r')
    by_cases z : τ 8 m < 0
    · rw [if_pos z, if_pos z]; exact oA_none
    · rw [if_neg z, if_neg z]; exact T _ a
  · exact ppc_A a (fun v => decide (v = 97) || isCl v)
  · exact psh_A a _
  · exact I a
end
/-- handler number j covers i -/
def cov (τ : Nat → Nat → Int32) (j i : Nat) : Bool := !(decide (nI i < τ 19 j)) && !(decide (τ 20 j ≤ nI i))
/-- what stands before i comes to the handlers that cover it, from handler k on (d of them) -/
def hndS (τ : Nat → Nat → Int32) (L P m i : Nat) : Nat → Nat → VS → VS × Option Nat
  | 0, _, S => (S, none)
  | d + 1, k, S => if cov τ (8 * m + k) i = true then (match psh L P (1 + τ 21 (8 * m + k)) (0, S.2.1 i) with
      | none => (S, some i)
      | some r => (match (comeS τ L (cn (τ 14 m)) i (cn (τ 22 (8 * m + k))) r S).2 with
          | none => hndS τ L P m i d (k + 1) (comeS τ L (cn (τ 14 m)) i (cn (τ 22 (8 * m + k))) r S).1
          | some e => ((comeS τ L (cn (τ 14 m)) i (cn (τ 22 (8 * m + k))) r S).1, some e))) else hndS τ L P m i d (k + 1) S
def unmark (S : VS) (i : Nat) : VS := (S.1, S.2.1, fun j => if j = i then false else S.2.2 j)
/-- behind the instruction: what comes on -/
def onS (τ : Nat → Nat → Int32) (L m i : Nat) (r : Row) (S : VS) : VS × Option Nat := if cn (τ 15 (200 * m + i)) = 25 ∨ cn (τ 15 (200 * m + i)) = 37 ∨ cn (τ 15 (200 * m + i)) = 38 ∨ cn (τ 15 (200 * m + i)) = 39 then (S, none) else comeS τ L (cn (τ 14 m)) i (i + 1) r S
def jmpS (τ : Nat → Nat → Int32) (L m i : Nat) (r : Row) (S : VS) : VS × Option Nat := if 19 ≤ cn (τ 15 (200 * m + i)) ∧ cn (τ 15 (200 * m + i)) ≤ 25 then comeS τ L (cn (τ 14 m)) i (cn (τ 16 (200 * m + i))) r S else (S, none)
/-- one look at i -/
def lookS (τ : Nat → Nat → Int32) (L P m i : Nat) (S : VS) : VS × Option Nat := match (hndS τ L P m i (cn (τ 18 m)) 0 (unmark S i)).2 with
  | some e => ((hndS τ L P m i (cn (τ 18 m)) 0 (unmark S i)).1, some e)
  | none => (match fitS τ L P m (cn (τ 15 (200 * m + i))) (τ 16 (200 * m + i)) (τ 17 (200 * m + i)) (((hndS τ L P m i (cn (τ 18 m)) 0 (unmark S i)).1.1 i).getD 0, (hndS τ L P m i (cn (τ 18 m)) 0 (unmark S i)).1.2.1 i) with
    | none => ((hndS τ L P m i (cn (τ 18 m)) 0 (unmark S i)).1, some i)
    | some r => (match (onS τ L m i r (hndS τ L P m i (cn (τ 18 m)) 0 (unmark S i)).1).2 with
      | some e => ((onS τ L m i r (hndS τ L P m i (cn (τ 18 m)) 0 (unmark S i)).1).1, some e)
      | none => jmpS τ L m i r (onS τ L m i r (hndS τ L P m i (cn (τ 18 m)) 0 (unmark S i)).1).1))
