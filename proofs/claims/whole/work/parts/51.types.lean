/-! Types that stand: how one goes into another, where two meet; class and reference agree. -/
def vT (n : Nat) (t : Int32) : Prop := okT n t ∨ t = 97 ∨ t = 98 ∨ t = 99
def isCl (t : Int32) : Bool := decide (0 < t) && decide (t ≤ 32)
def rf (t : Int32) : Bool := !(decide (t = 0)) && !(decide (t = 99))
def gT (τ : Nat → Nat → Int32) (a b : Int32) : Bool := decide (a = b) || (decide (a = 97) && rf b && !(decide (b = 98))) || (isCl a && isCl b && anc τ (cn a - 1 + 1) (cn a - 1) (cn b - 1))
def lowS (P : Nat → Bool) : Nat → Int32
  | 0 => 98
  | k + 1 => if P k then nI (k + 1) else lowS P k
def low (τ : Nat → Nat → Int32) (a b : Nat) : Int32 := lowS (fun c => anc τ (a + 1) a c && anc τ (b + 1) b c) 32
def mt (τ : Nat → Nat → Int32) (a b : Int32) : Int32 := if a = b then a else if rf a = false then 99 else if rf b = false then 99 else if a = 97 then b else if b = 97 then a else if isCl a && isCl b then low τ (cn a - 1) (cn b - 1) else 98
theorem isCl_at {c : Nat} (hc : c < 32) : isCl (nI (c + 1)) = true := by
  unfold isCl
  rw [decide_eq_true (show (0 : Int32) < nI (c + 1) from @nI_lt 0 (c + 1) (by omega) (by omega)), decide_eq_true (show nI (c + 1) ≤ (32 : Int32) from @nI_le (c + 1) 32 (by omega) (by omega))]; rfl
theorem isCl_row {j : Nat} (hj : j ≤ 32) : isCl (nI (64 + j)) = false := by
  unfold isCl
  rw [decide_eq_false (show ¬ nI (64 + j) ≤ (32 : Int32) from @nI_ge 32 (64 + j) (by omega) (by omega))]
  simp
theorem nI_lit {a b : Nat} (ha : a < 2 ^ 31) (hb : b < 2 ^ 31) (h : a ≠ b) : ¬ nI a = nI b := fun q => h (nI_inj ha hb q)
theorem vT_cases {n : Nat} {t : Int32} (hn : n ≤ 32) (h : vT n t) : (∃ c, c < n ∧ t = nI (c + 1) ∧ isCl t = true ∧ rf t = true) ∨ (isCl t = false ∧ (∀ c, c < n → t ≠ nI (c + 1)) ∧ (t = 0 ∨ t = 99 ∨ (rf t = true ∧ (t = 97 ∨ t = 98 ∨ ∃ j, j ≤ n ∧ t = nI (64 + j))))) := by
  rcases h with ⟨j, hj, rfl | rfl⟩ | rfl | rfl | rfl
  · rcases Nat.eq_zero_or_pos j with rfl | hp
    · exact Or.inr ⟨rfl, fun c hc q => by have := nI_inj (a := 0) (by omega) (by omega) q; omega, Or.inl rfl⟩
    · refine Or.inl ⟨j - 1, by omega, by rw [show j - 1 + 1 = j by omega], ?_, ?_⟩
      · have := @isCl_at (j - 1) (by omega)
        rw [show j - 1 + 1 = j by omega] at this; exact this
      · unfold rf
        rw [decide_eq_false (show ¬ nI j = 0 from @nI_lit j 0 (by omega) (by omega) (by omega)), decide_eq_false (show ¬ nI j = 99 from @nI_lit j 99 (by omega) (by omega) (by omega))]; rfl
  · refine Or.inr ⟨isCl_row (by omega), fun c hc => nI_lit (by omega) (by omega) (by omega), Or.inr (Or.inr ⟨?_, Or.inr (Or.inr ⟨j, hj, rfl⟩)⟩)⟩
    unfold rf
    rw [decide_eq_false (show ¬ nI (64 + j) = 0 from @nI_lit (64 + j) 0 (by omega) (by omega) (by omega)), decide_eq_false (show ¬ nI (64 + j) = 99 from @nI_lit (64 + j) 99 (by omega) (by omega) (by omega))]; rfl
  · exact Or.inr ⟨rfl, fun c hc => @nI_lit 97 (c + 1) (by omega) (by omega) (by omega), Or.inr (Or.inr ⟨rfl, Or.inl rfl⟩)⟩
  · exact Or.inr ⟨rfl, fun c hc => @nI_lit 98 (c + 1) (by omega) (by omega) (by omega), Or.inr (Or.inr ⟨rfl, Or.inr (Or.inl rfl)⟩)⟩
  · exact Or.inr ⟨rfl, fun c hc => @nI_lit 99 (c + 1) (by omega) (by omega) (by omega), Or.inr (Or.inl rfl)⟩
/-- what is no -1, nor below 0 -/
theorem vT_pos {n : Nat} {t : Int32} (hn : n ≤ 32) (h : vT n t) : ∃ k, k < 100 ∧ t = nI k := by
  rcases h with ⟨j, hj, rfl | rfl⟩ | rfl | rfl | rfl
  · exact ⟨j, by omega, rfl⟩
  · exact ⟨64 + j, by omega, rfl⟩
  · exact ⟨97, by omega, rfl⟩
  · exact ⟨98, by omega, rfl⟩
  · exact ⟨99, by omega, rfl⟩
theorem vT_ne {n : Nat} {t : Int32} (hn : n ≤ 32) (h : vT n t) : ¬ t = -1 := by
  obtain ⟨k, hk, rfl⟩ := vT_pos hn h
  intro q
  exact nlt0 (n := k) (by omega) (by rw [q]; exact m1neg)
theorem bF : (if false = true then (1 : Int32) else 0) = 0 := rfl
theorem bT : (if true = true then (1 : Int32) else 0) = 1 := rfl
section
variable {τ : Nat → Nat → Int32} {h : zH}
-- a reference, on both sides
theorem refC {n : Nat} {t : Int32} (hn : n ≤ 32) (hv : vT n t) : fX8_isReference t h = some (if rf t then 1 else 0, h) := by
  obtain ⟨k, hk, rfl⟩ := vT_pos hn hv
  unfold fX8_isReference rf
  by_cases h0 : k = 0
  · subst h0
    rw [if_pos (by decide)]; rfl
  · rw [if_neg (nI_nle (by omega) (by omega)), decide_eq_false (show ¬ nI k = 0 from @nI_lit k 0 (by omega) (by omega) h0)]
    by_cases h9 : k = 99
    · subst h9
      rw [if_pos (by decide)]; rfl
    · rw [if_neg (show ¬ (99 : Int32) ≤ nI k from @nI_ge k 99 (by omega) (by omega)), decide_eq_false (show ¬ nI k = 99 from @nI_lit k 99 (by omega) (by omega) h9)]; rfl
theorem refC_any (t : Int32) : ∃ v, fX8_isReference t h = some (v, h) ∧ (v = 0 ∨ v = 1) := by
  unfold fX8_isReference
  by_cases h1 : t ≤ 0
  · exact ⟨0, by rw [if_pos h1], Or.inl rfl⟩
  · rw [if_neg h1]
    by_cases h2 : 99 ≤ t
    · exact ⟨0, by rw [if_pos h2], Or.inl rfl⟩
    · exact ⟨1, by rw [if_neg h2], Or.inr rfl⟩
theorem refM (t : Int32) : fX9_isReference t h = some (if rf t then 1 else 0, h) := by
  unfold fX9_isReference rf
  by_cases h1 : t = 0
  · rw [if_pos h1, decide_eq_true h1]; rfl
  · rw [if_neg h1, decide_eq_false h1]
    by_cases h2 : t = 99
    · rw [if_pos h2, decide_eq_true h2]; rfl
    · rw [if_neg h2, decide_eq_false h2]; rfl
theorem someM (t : Int32) : fX9_isSome t h = some (if isCl t then 1 else 0, h) := by
  unfold fX9_isSome isCl
  by_cases h1 : t ≤ 0
  · rw [if_pos h1, decide_eq_false (Int32.not_lt.mpr h1)]; rfl
  · rw [if_neg h1, decide_eq_true (Int32.not_le.mp h1)]
    by_cases h2 : 32 < t
    · rw [if_pos h2, decide_eq_false (Int32.not_le.mpr h2)]; rfl
    · rw [if_neg h2, decide_eq_true (Int32.not_lt.mp h2)]; rfl
-- the chain, by the reference
theorem isUnderM (N : Nat) {r : Nat} (p : RM τ r h) (w : WF τ) {j : Nat} (hj : j < 32) (c : Nat) : ∀ n, c < n → c < cn (τ 0 0) → fX9_isUnder_b2 N (n + 1) (some r) (nI j) (nI c) h = some (if anc τ (c + 1) c j then 1 else 0, h) := by
  have hn := w.1.2
  induction c using Nat.strongRecOn with
  | _ c ih =>
    intro n hcn hc
    rw [fX9_isUnder_b2, if_neg (nlt0 (by omega)), anc]
    by_cases e : c = j
    · subst e
      rw [if_pos rfl, fX9_isUnder_b21, if_pos rfl]; simp
    · rw [if_neg (nI_lit (by omega) (by omega) e), gRM1 p, obs, aM1 p (by omega), obs]
      have eb : (c == j) = false := by simp [e]
      rw [eb, Bool.false_or]
      rcases w.chain c hc with q | ⟨u, hu, q⟩
      · obtain ⟨n, rfl⟩ : ∃ m, n = m + 1 := ⟨n - 1, by omega⟩
        rw [q, if_pos m1neg, fX9_isUnder_b2, if_pos m1neg, fX9_isUnder_b21, if_neg (fun z => nlt0 (n := j) (by omega) (by rw [← z]; exact m1neg))]; rfl
      · obtain ⟨n, rfl⟩ : ∃ m, n = m + 1 := ⟨n - 1, by omega⟩
        rw [q, if_neg (nlt0 (by omega)), ih u hu n (by omega) (by omega), cn_nI (by omega)]
        have a2 := anc_fuel (τ := τ) j u (c - u - 1) (fun i hi => w.chain i (by omega)) (by omega)
        rw [show u + 1 + (c - u - 1) = c by omega] at a2
        rw [a2]
theorem underM (N : Nat) (hN : 40 ≤ N) {r : Nat} (p : RM τ r h) (w : WF τ) {j c : Nat} (hj : j < 32) (hc : c < cn (τ 0 0)) : fX9_isUnder N (some r) (nI c) (nI j) h = some (if anc τ (c + 1) c j then 1 else 0, h) := by
  have hn := w.1.2
  obtain ⟨N', rfl⟩ : ∃ m, N = m + 1 := ⟨N - 1, by omega⟩
  exact isUnderM (N' + 1) p w hj c N' (by omega) hc
theorem goesM (N : Nat) (hN : 40 ≤ N) {r : Nat} (p : RM τ r h) (w : WF τ) {a b : Int32} (ha : vT (cn (τ 0 0)) a) (hb : vT (cn (τ 0 0)) b) : fX9_goes N (some r) a b h = some (if gT τ a b then 1 else 0, h) := by
  have hn := w.1.2
  have E24 : fX9_goes_b24 N (some r) a b h = some (if isCl a && isCl b && anc τ (cn a - 1 + 1) (cn a - 1) (cn b - 1) then 1 else 0, h) := by
    unfold fX9_goes_b24 fX9_goes_b51
    rw [someM, obs]
    rcases vT_cases hn ha with ⟨c, hc, rfl, e1, e2⟩ | ⟨e1, e2, e3⟩
    · rw [e1, if_pos rfl, if_neg n10, someM, obs]
      rcases vT_cases hn hb with ⟨d, hd, rfl, d1, d2⟩ | ⟨d1, d2, d3⟩
      · rw [d1, if_pos rfl, if_neg n10, rcM p, obs, nI_pred, nI_pred, underM N hN p w (by omega) hc, obs, cn_nI (by omega), cn_nI (by omega), Nat.add_sub_cancel, Nat.add_sub_cancel]
        cases anc τ (c + 1) c d <;> rfl
      · rw [d1]; simp
    · rw [e1]; simp
  unfold fX9_goes gT
  by_cases h1 : a = b
  · rw [if_pos h1, decide_eq_true h1]; rfl
  · rw [if_neg h1, decide_eq_false h1, Bool.false_or]
    by_cases h2 : a = 97
    · have c97 : isCl a = false := by rw [h2]; rfl
      rw [if_pos h2, decide_eq_true h2, refM, obs]
      cases e : rf b
      · rw [bF, if_pos rfl, E24, c97]; rfl
      · rw [if_pos rfl, if_neg n10]
        by_cases h3 : b = 98
        · rw [if_pos h3, E24, c97, decide_eq_true h3]; rfl
        · rw [if_neg h3, decide_eq_false h3]; rfl
    · rw [if_neg h2, decide_eq_false h2, E24]; rfl
theorem low_congr {P Q : Nat → Bool} (k : Nat) (e : ∀ j, j < k → P j = Q j) : lowS P k = lowS Q k := by
  induction k with
  | zero => rfl
  | succ k ih =>
    unfold lowS
    rw [e k (by omega), ih (fun j hj => e j (by omega))]
theorem low_false {P : Nat → Bool} (k : Nat) (e : ∀ j, j < k → P j = false) : lowS P k = 98 := by
  induction k with
  | zero => rfl
  | succ k ih =>
    unfold lowS
    rw [e k (by omega), ih (fun j hj => e j (by omega))]; rfl
theorem low_at {P : Nat → Bool} {c : Nat} (hc : P c = true) (k : Nat) (hk : c < k) (e : ∀ j, c < j → j < k → P j = false) : lowS P k = nI (c + 1) := by
  induction k with
  | zero => omega
  | succ k ih =>
    unfold lowS
    by_cases q : c = k
    · subst q; rw [hc]; rfl
    · rw [e k (by omega) (by omega)]
      exact ih (by omega) (fun j h1 h2 => e j h1 (by omega))
theorem anc_le {τ : Nat → Nat → Int32} (w : WF τ) (c : Nat) : c < cn (τ 0 0) → ∀ j, anc τ (c + 1) c j = true → j ≤ c := by
  have hn := w.1.2
  induction c using Nat.strongRecOn with
  | _ c ih =>
    intro hc j hj
    rw [anc] at hj
    by_cases e : c = j
    · omega
    · have eb : (c == j) = false := by simp [e]
      rw [eb, Bool.false_or] at hj
      rcases w.chain c hc with q | ⟨u, hu, q⟩
      · rw [q, if_pos m1neg] at hj; cases hj
      · have a2 := anc_fuel (τ := τ) j u (c - u - 1) (fun i hi => w.chain i (by omega)) (by omega)
        rw [show u + 1 + (c - u - 1) = c by omega] at a2
        rw [q, if_neg (nlt0 (by omega)), cn_nI (by omega), a2] at hj
        have := ih u hu (by omega) j hj
        omega
theorem meet66 (N : Nat) (hN : 40 ≤ N) {r : Nat} (p : RM τ r h) (w : WF τ) {b : Nat} (hb : b < cn (τ 0 0)) (c : Nat) : ∀ n, c < n → c < cn (τ 0 0) → fX9_meet_b66 N (n + 1) (some r) (nI (b + 1)) (nI c) h = some (low τ c b, h) := by
  have hn := w.1.2
  induction c using Nat.strongRecOn with
  | _ c ih =>
    intro n hcn hc
    rw [fX9_meet_b66, if_neg (nlt0 (by omega)), rcM p, obs, nI_pred, underM N hN p w (by omega) hb, obs]
    have self : anc τ (c + 1) c c = true := by rw [anc]; simp
    cases e : anc τ (b + 1) b c
    · rw [bF, if_pos rfl, gRM1 p, obs, aM1 p (by omega), obs]
      obtain ⟨n, rfl⟩ : ∃ m, n = m + 1 := ⟨n - 1, by omega⟩
      rcases w.chain c hc with q | ⟨u, hu, q⟩
      · rw [q, fX9_meet_b66, if_pos m1neg, fX9_meet_b91, if_neg (by decide)]
        unfold low
        rw [low_false]
        intro j hj
        rw [anc, q, if_pos m1neg, Bool.or_false]
        by_cases ej : c = j
        · subst ej; rw [e]; simp
        · simp [ej]
      · rw [q, ih u hu n (by omega) (by omega)]
        unfold low
        rw [low_congr 32 (Q := fun j => anc τ (c + 1) c j && anc τ (b + 1) b j)]
        intro j hj
        have a2 := anc_fuel (τ := τ) j u (c - u - 1) (fun i hi => w.chain i (by omega)) (by omega)
        rw [show u + 1 + (c - u - 1) = c by omega] at a2
        have a3 : anc τ (c + 1) c j = ((c == j) || anc τ (u + 1) u j) := by rw [anc, q, if_neg (nlt0 (by omega)), cn_nI (by omega), a2]
        rw [a3]
        by_cases ej : c = j
        · subst ej; rw [e]; simp
        · rw [show (c == j) = false by simp [ej], Bool.false_or]
    · rw [if_pos rfl, if_neg n10, fX9_meet_b91, if_pos (nI_pos' (by omega))]
      unfold low
      rw [low_at (c := c) (by rw [self, e]; rfl) 32 (by omega) (fun j h1 h2 => ?_)]
      · rw [show (1 : Int32) = nI 1 from rfl, nI_add, Nat.add_comm]
      · cases z : anc τ (c + 1) c j
        · rfl
        · have := anc_le w c hc j z; omega
theorem meetM (N : Nat) (hN : 40 ≤ N) {r : Nat} (p : RM τ r h) (w : WF τ) {a b : Int32} (ha : vT (cn (τ 0 0)) a) (hb : vT (cn (τ 0 0)) b) : fX9_meet N (some r) a b h = some (mt τ a b, h) := by
  have hn := w.1.2
  unfold fX9_meet mt
  by_cases h1 : a = b
  · rw [if_pos h1, if_pos h1]
  · rw [if_neg h1, if_neg h1, refM, obs]
    cases e1 : rf a
    · simp
    · rw [if_pos rfl, if_neg n10, if_neg (show ¬ (true = false) by decide), refM, obs]
      cases e2 : rf b
      · simp
      · rw [if_pos rfl, if_neg n10, if_neg (show ¬ (true = false) by decide)]
        unfold fX9_meet_b36
        by_cases h2 : a = 97
        · rw [if_pos h2, if_pos h2, if_pos h2]
        · rw [if_neg h2, if_neg h2, if_neg h2]
          by_cases h3 : b = 97
          · rw [if_pos h3, if_pos h3]
          · rw [if_neg h3, if_neg h3, someM, obs]
            rcases vT_cases hn ha with ⟨c, hc, rfl, c1, -⟩ | ⟨c1, -⟩
            · rw [c1, if_pos rfl, if_neg n10, someM, obs]
              rcases vT_cases hn hb with ⟨d, hd, rfl, d1, -⟩ | ⟨d1, -⟩
              · obtain ⟨N', rfl⟩ : ∃ m, N = m + 1 := ⟨N - 1, by omega⟩
                rw [d1, if_pos rfl, if_neg n10, if_pos (show (true && true) = true from rfl), nI_pred, meet66 (N' + 1) hN p w hd c N' (by omega) hc, cn_nI (by omega), cn_nI (by omega), Nat.add_sub_cancel, Nat.add_sub_cancel]
              · rw [d1]; simp
            · rw [c1]; simp
end
