def isRw (t : Int32) : Bool := decide (¬ t < 64) && decide (¬ 96 < t)
def pI1 (L : Nat) : Row → Option Row := ppc L (fun v => decide (v = 0))
def pRf (L : Nat) : Row → Option Row := ppc L rf
def pT (τ : Nat → Nat → Int32) (L : Nat) (t : Int32) : Row → Option Row := ppc L (fun v => gT τ v t)
def prw (L : Nat) (r : Row) : Option (Int32 × Row) := (pp L r).bind fun q => if (decide (q.1 = 97) || isRw q.1) = true then some q else none
def pars (τ : Nat → Nat → Int32) (L u fr : Nat) : Nat → Row → Option Row
  | 0, r => some r
  | k + 1, r => if k < fr then some r else (pT τ L (τ 12 (8 * u + k)) r).bind (pars τ L u fr k)
def givn (τ : Nat → Nat → Int32) (L P u : Nat) (r : Row) : Option Row := if τ 8 u < 0 then some r else psh L P (τ 8 u) r
/-- what instruction o does with a row -/
def fitS (τ : Nat → Nat → Int32) (L P m o : Nat) (x y : Int32) (r : Row) : Option Row := match o with
  | 0 => psh L P 0 r
  | 1 => psh L P 97 r
  | 2 => if r.2 (cn x) = 99 then none else psh L P (r.2 (cn x)) r
  | 3 => (pp L r).bind fun q => some (q.2.1, fun k => if k = cn x then q.1 else q.2.2 k)
  | 4 => (pp L r).bind fun q => some q.2
  | 5 => (pp L r).bind fun q => (psh L P q.1 q.2).bind (psh L P q.1)
  | 6 => (pp L r).bind fun q => (pp L q.2).bind fun s => (psh L P q.1 s.2).bind (psh L P s.1)
  | 18 => (pI1 L r).bind (psh L P 0)
  | 19 => pI1 L r
  | 20 => (pI1 L r).bind (pI1 L)
  | 21 => pRf L r
  | 22 => pRf L r
  | 23 => (pRf L r).bind (pRf L)
  | 24 => (pRf L r).bind (pRf L)
  | 25 => some r
  | 26 => psh L P (1 + x) r
  | 27 => (pT τ L (1 + x) r).bind (psh L P (τ 4 (15 * cn x + cn y)))
  | 28 => (pT τ L (τ 4 (15 * cn x + cn y)) r).bind (pT τ L (1 + x))
  | 29 => (pRf L r).bind (psh L P 0)
  | 30 => (pRf L r).bind (psh L P (1 + x))
  | 31 => (pI1 L r).bind (psh L P (64 + x))
  | 32 => (prw L r).bind fun q => psh L P 0 q.2
  | 33 => (pI1 L r).bind fun s => (prw L s).bind fun q => psh L P (if q.1 = 97 then 97 else q.1 - 64) q.2
  | 34 => (pp L r).bind fun v => (pI1 L v.2).bind fun s => (prw L s).bind fun q => if (decide (q.1 = 97) || gT τ v.1 (q.1 - 64)) = true then some q.2 else none
  | 35 => (pars τ L (cn x) 0 (cn (τ 11 (cn x))) r).bind (givn τ L P (cn x))
  | 36 => (pars τ L (cn (τ 5 (16 * cn x + cn y))) 1 (cn (τ 11 (cn (τ 5 (16 * cn x + cn y))))) r).bind fun s => (pT τ L (1 + x) s).bind (givn τ L P (cn (τ 5 (16 * cn x + cn y))))
  | 37 => if τ 8 m < 0 then some r else none
  | 38 => if τ 8 m < 0 then none else pT τ L (τ 8 m) r
  | 39 => ppc L (fun v => decide (v = 97) || isCl v) r
  | 40 => psh L P 0 r
  | 41 => pI1 L r
  | _ => ((pI1 L r).bind (pI1 L)).bind (psh L P 0)
theorem isRowIs (t : Int32) (h : zH) : fX8_isRowType t h = some (if isRw t then 1 else 0, h) := by
  unfold fX8_isRowType isRw
  by_cases h1 : t < 64
  · rw [if_pos h1, decide_eq_false (fun q => q h1)]; rfl
  · rw [if_neg h1, decide_eq_true h1]
    by_cases h2 : 96 < t
    · rw [if_pos h2, decide_eq_false (fun q => q h2)]; rfl
    · rw [if_neg h2, decide_eq_true h2]; rfl
/-- a row's element can stand -/
theorem rw_elem {n : Nat} {t : Int32} (hn : n ≤ 32) (hv : vT n t) (hr : (decide (t = 97) || isRw t) = true) (h7 : t ≠ 97) : vT n (t - 64) := by
  rw [decide_eq_false h7, Bool.false_or] at hr
  unfold isRw at hr
  simp only [Bool.and_eq_true, decide_eq_true_eq] at hr
  obtain ⟨k, h1, h2, rfl⟩ := rng (a := 64) (b := 96) hr.1 hr.2 (by decide) (by decide)
  have : ∃ j, j ≤ n ∧ k = 64 + j := by
    rcases hv with ⟨j, hj, e | e⟩ | e | e | e
    · have := nI_inj (by omega) (by omega) e; omega
    · have := nI_inj (by omega) (by omega) e; exact ⟨j, hj, by omega⟩
    · have := nI_inj (a := k) (b := 97) (by omega) (by omega) e; omega
    · have := nI_inj (a := k) (b := 98) (by omega) (by omega) e; omega
    · have := nI_inj (a := k) (b := 99) (by omega) (by omega) e; omega
  obtain ⟨j, hj, rfl⟩ := this
  rw [show (64 : Int32) = nI 64 from rfl, pk_sub (by omega), Nat.add_sub_cancel_left]
  exact Or.inl ⟨j, hj, Or.inl rfl⟩
section
variable {x L P n : Nat} {h0 h : zH}
theorem takeN (E : RE x h0 L P) (hn : n ≤ 32) {o : Option Row} (j : JC x h0 L P n o h) : ∃ v h1, fX5_take (some (x + 7)) h = some (v, h1) ∧ (∃ o1, JC x h0 L P n o1 h1) ∧ (∀ q, o.bind (pp L) = some q → v = q.1 ∧ vT n q.1) ∧ ∀ (c : Int32 → Bool) (b : Int32), (b = 0 ∨ b = 1) → (∀ q, o.bind (pp L) = some q → b = if c v then 1 else 0) → ∃ h2, fX5_need (some (x + 7)) b h1 = some h2 ∧ JC x h0 L P n (o.bind (ppc L c)) h2 := by
  obtain ⟨v, h1, e, j1, hq⟩ := takeJ E hn j
  refine ⟨v, h1, e, ⟨_, j1⟩, hq, fun c b hb hc => ?_⟩
  obtain ⟨h2, e2, j2⟩ := needJ E j1 hb
  refine ⟨h2, e2, ?_⟩
  have E2 : o.bind (ppc L c) = (o.bind (pp L)).bind fun q => if c q.1 then some q.2 else none := by
    cases o with
    | none => rfl
    | some r => rfl
  rw [E2]
  cases eq : o.bind (pp L) with
  | none =>
    rw [eq] at j2
    rcases hb with rfl | rfl
    · rw [if_pos rfl] at j2; exact j2
    · rw [if_neg n10] at j2; exact j2
  | some q =>
    rw [eq] at j2
    have h3 := hc q eq
    rw [(hq q eq).1] at h3
    rw [obs]
    cases ec : c q.1
    · rw [ec, bF] at h3
      rw [if_pos h3] at j2; exact j2
    · rw [ec, bT] at h3
      rw [if_neg (by rw [h3]; exact n10)] at j2; exact j2
theorem JC.z7 {o : Option Row} (E : RE x h0 L P) (j : JC x h0 L P n o h) : zk h (x + 7) = 6 := (j.k _).trans E.1.1.2.2.2.2.2.2.2
theorem JC.z5 {o : Option Row} (E : RE x h0 L P) (j : JC x h0 L P n o h) : zk h (x + 5) = 5 := (j.k _).trans E.1.1.2.2.2.2.2.1
theorem JC.z1 {o : Option Row} (E : RE x h0 L P) (j : JC x h0 L P n o h) : zk h (x + 1) = 7 := (j.k _).trans E.1.1.2.1
theorem JC.r51 {o : Option Row} (E : RE x h0 L P) (j : JC x h0 L P n o h) : zr h 5 1 (x + 7) = some (x + 5) := (j.r _ _ _).trans E.1.2.1.2.2.2.2.2.2.2.2.2
theorem JC.r50 {o : Option Row} (E : RE x h0 L P) (j : JC x h0 L P n o h) : zr h 5 0 (x + 7) = some (x + 1) := (j.r _ _ _).trans E.1.2.1.2.2.2.2.2.2.2.2.1
theorem takeIntJ (E : RE x h0 L P) (hn : n ≤ 32) {o : Option Row} (j : JC x h0 L P n o h) : ∃ h', fX5_takeInt (some (x + 7)) h = some h' ∧ JC x h0 L P n (o.bind (pI1 L)) h' := by
  obtain ⟨v, h1, e, ⟨o1, j1⟩, hq, hc⟩ := takeN E hn j
  by_cases q : v = 0
  · obtain ⟨h2, e2, j2⟩ := hc (fun v => decide (v = 0)) 1 (Or.inr rfl) (fun _ _ => by rw [decide_eq_true q]; rfl)
    exact ⟨h2, by simp only [fX5_takeInt, fX5_takeInt_b13, rc_at, j.z7 E, j1.z7 E, e, q, e2, obs, ↓reduceIte], j2⟩
  · obtain ⟨h2, e2, j2⟩ := hc (fun v => decide (v = 0)) 0 (Or.inl rfl) (fun _ _ => by rw [decide_eq_false q]; rfl)
    exact ⟨h2, by simp only [fX5_takeInt, fX5_takeInt_b13, rc_at, j.z7 E, j1.z7 E, e, q, e2, obs, ↓reduceIte], j2⟩
theorem takeRefJ (E : RE x h0 L P) (hn : n ≤ 32) {o : Option Row} (j : JC x h0 L P n o h) : ∃ h', fX5_takeReference (some (x + 7)) h = some h' ∧ JC x h0 L P n (o.bind (pRf L)) h' := by
  obtain ⟨v, h1, e, ⟨o1, j1⟩, hq, hc⟩ := takeN E hn j
  obtain ⟨b, eb, hb⟩ := refC_any (h := h1) v
  obtain ⟨h2, e2, j2⟩ := hc rf b hb (fun q hqq => by
    have := refC (h := h1) (t := v) hn (by rw [(hq q hqq).1]; exact (hq q hqq).2)
    rw [eb] at this
    exact congrArg (fun z => z.1) (Option.some.inj this))
  exact ⟨h2, by simp only [fX5_takeReference, rc_at, j.z7 E, j1.z7 E, e, eb, e2, obs], j2⟩
theorem takeIntoJ {τ : Nat → Nat → Int32} {kd md : Nat → Nat} {ib hd : Nat → Nat → Nat} (p : RC τ kd md ib hd x h0) (w : WF τ) (E : RE x h0 L P) {o : Option Row} (j : JC x h0 L P (cn (τ 0 0)) o h) {t : Int32} (ht : o ≠ none → vT (cn (τ 0 0)) t) : ∃ h', fX5_takeInto (some (x + 7)) t h = some h' ∧ JC x h0 L P (cn (τ 0 0)) (o.bind (pT τ L t)) h' := by
  obtain ⟨v, h1, e, ⟨o1, j1⟩, hq, hc⟩ := takeN E w.1.2 j
  obtain ⟨b, eb, hb, hg⟩ := goesC (j1.rc p) w v t
  obtain ⟨h2, e2, j2⟩ := hc (fun v => gT τ v t) b hb (fun q hqq => by
    have hv : vT (cn (τ 0 0)) v := by rw [(hq q hqq).1]; exact (hq q hqq).2
    exact hg hv (ht (fun z => by rw [z] at hqq; cases hqq)))
  exact ⟨h2, by simp only [fX5_takeInto, gR_at, rc_at, j.z7 E, j1.z7 E, j1.z1 E, j.r50 E, e, eb, e2, obs], j2⟩
theorem takeRowJ (E : RE x h0 L P) (hn : n ≤ 32) {o : Option Row} (j : JC x h0 L P n o h) : ∃ v h', fX5_takeRow (some (x + 7)) h = some (v, h') ∧ JC x h0 L P n ((o.bind (prw L)).map Prod.snd) h' ∧ ∀ q, o.bind (prw L) = some q → v = q.1 ∧ vT n q.1 ∧ (decide (q.1 = 97) || isRw q.1) = true := by
  obtain ⟨v, h1, e, ⟨o1, j1⟩, hq, hc⟩ := takeN E hn j
  have e97 : ∀ h, fX8_isRowType v h = some (if isRw v then 1 else 0, h) := fun h => isRowIs v h
  have key : ∃ h2, fX5_takeRow (some (x + 7)) h = some (v, h2) ∧ JC x h0 L P n (o.bind (ppc L (fun v => decide (v = 97) || isRw v))) h2 := by
    cases er : isRw v
    · have e97' := e97 h1
      rw [er, bF] at e97'
      by_cases q : v = 97
      · obtain ⟨h2, e2, j2⟩ := hc (fun v => decide (v = 97) || isRw v) 1 (Or.inr rfl) (fun _ _ => by simp [q])
        refine ⟨h2, ?_, j2⟩
        rw [q] at e97' e
        simp only [fX5_takeRow, fX5_takeRow_b19, fX5_takeRow_b24, rc_at, j.z7 E, j1.z7 E, e, e97', q, e2, obs, ↓reduceIte]
      · obtain ⟨h2, e2, j2⟩ := hc (fun v => decide (v = 97) || isRw v) 0 (Or.inl rfl) (fun _ _ => by simp [q, er])
        exact ⟨h2, by simp only [fX5_takeRow, fX5_takeRow_b24, rc_at, j.z7 E, j1.z7 E, e, e97', q, e2, obs, ↓reduceIte], j2⟩
    · have e97' := e97 h1
      rw [er, bT] at e97'
      obtain ⟨h2, e2, j2⟩ := hc (fun v => decide (v = 97) || isRw v) 1 (Or.inr rfl) (fun _ _ => by simp [er])
      exact ⟨h2, by simp only [fX5_takeRow, fX5_takeRow_b19, fX5_takeRow_b24, rc_at, j.z7 E, j1.z7 E, e, e97', n10, e2, obs, ↓reduceIte], j2⟩
  obtain ⟨h2, e2, j2⟩ := key
  have E2 : (o.bind (prw L)).map Prod.snd = o.bind (ppc L (fun v => decide (v = 97) || isRw v)) := by
    cases o with
    | none => rfl
    | some r =>
      show ((pp L r).bind _).map Prod.snd = (pp L r).bind _
      cases pp L r with
      | none => rfl
      | some q =>
        show Option.map Prod.snd (if (decide (q.1 = 97) || isRw q.1) = true then some q else none) = if (decide (q.1 = 97) || isRw q.1) = true then some q.2 else none
        by_cases c : (decide (q.1 = 97) || isRw q.1) = true
        · rw [if_pos c, if_pos c]; rfl
        · rw [if_neg c, if_neg c]; rfl
  refine ⟨v, h2, e2, by rw [E2]; exact j2, fun q hqq => ?_⟩
  cases o with
  | none => cases hqq
  | some r =>
    have hqq' : ((pp L r).bind fun q => if (decide (q.1 = 97) || isRw q.1) = true then some q else none) = some q := hqq
    cases ep : pp L r with
    | none => rw [ep] at hqq'; cases hqq'
    | some s =>
      rw [ep, obs] at hqq'
      by_cases c : (decide (s.1 = 97) || isRw s.1) = true
      · rw [if_pos c] at hqq'
        have es : s = q := Option.some.inj hqq'
        rw [← es]
        have hs := hq s ep
        exact ⟨hs.1, hs.2, c⟩
      · rw [if_neg c] at hqq'; cases hqq'
end
