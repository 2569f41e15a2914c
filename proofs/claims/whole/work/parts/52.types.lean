section
variable {τ : Nat → Nat → Int32} {kd md : Nat → Nat} {ib hd : Nat → Nat → Nat} {x : Nat} {h : zH}
theorem kindOfIs (p : RC τ kd md ib hd x h) (w : WF τ) (t : Int32) : (∃ c, c < cn (τ 0 0) ∧ t = nI (c + 1) ∧ fX6_kindOf (some (x + 1)) t h = some (some (kd c), h)) ∨ ((∀ c, c < cn (τ 0 0) → t ≠ nI (c + 1)) ∧ fX6_kindOf (some (x + 1)) t h = some (none, h)) := by
  by_cases q : ∃ c, c < cn (τ 0 0) ∧ t = nI (c + 1)
  · obtain ⟨c, hc, rfl⟩ := q
    exact Or.inl ⟨c, hc, rfl, kindOf_at p w hc⟩
  · have q2 : ∀ c, c < cn (τ 0 0) → t ≠ nI (c + 1) := fun c hc e => q ⟨c, hc, e⟩
    exact Or.inr ⟨q2, kindOf_no p w q2⟩
theorem goesC (p : RC τ kd md ib hd x h) (w : WF τ) (a b : Int32) : ∃ v, fX6_goesInto (some (x + 1)) a b h = some (v, h) ∧ (v = 0 ∨ v = 1) ∧ (vT (cn (τ 0 0)) a → vT (cn (τ 0 0)) b → v = if gT τ a b then 1 else 0) := by
  have hn := w.1.2
  have k6 : zk h (x + 1) = 7 := p.1.1.2.1
  unfold fX6_goesInto gT
  by_cases h1 : a = b
  · rw [if_pos h1, decide_eq_true h1]
    exact ⟨1, rfl, Or.inr rfl, fun _ _ => rfl⟩
  · rw [if_neg h1, decide_eq_false h1, Bool.false_or]
    by_cases h2 : a = 97
    · have c97 : isCl a = false := by rw [h2]; rfl
      rw [if_pos h2, decide_eq_true h2, c97]
      obtain ⟨v, e, hv⟩ := refC_any (h := h) b
      rw [e, obs]
      have ev : vT (cn (τ 0 0)) b → v = if rf b then 1 else 0 := fun q => by
        have := refC (h := h) hn q
        rw [e] at this
        exact congrArg (fun z => z.1) (Option.some.inj this)
      rcases hv with rfl | rfl
      · rw [if_pos rfl]
        refine ⟨0, rfl, Or.inl rfl, fun _ q => ?_⟩
        have := ev q
        cases er : rf b
        · simp
        · rw [er] at this; exact absurd this (by decide)
      · rw [if_neg n10]
        by_cases h3 : b = 98
        · rw [if_pos h3, decide_eq_true h3]; exact ⟨0, rfl, Or.inl rfl, fun _ q => by simp⟩
        · rw [if_neg h3, decide_eq_false h3]
          refine ⟨1, rfl, Or.inr rfl, fun _ q => ?_⟩
          have := ev q
          cases er : rf b
          · rw [er] at this; exact absurd this (by decide)
          · simp
    · rw [if_neg h2, decide_eq_false h2, rc_at k6, obs, Bool.false_and, Bool.false_and, Bool.false_or]
      rcases kindOfIs p w a with ⟨c, hc, rfl, ea⟩ | ⟨na, ea⟩
      · rw [ea, obs, rc_at k6, obs]
        rcases kindOfIs p w b with ⟨d, hd', rfl, eb⟩ | ⟨nb, eb⟩
        · obtain ⟨-, b1, b2, rk⟩ := p.2.2.2.1 c hc
          obtain ⟨-, b3, b4, rk2⟩ := p.2.2.2.1 d hd'
          rw [eb, obs, if_neg (fun q => by cases q), if_neg (fun q => by cases q), gI_at rk2.1.1, obs, rc_at rk.1.1, obs, rk2.2.1.1]
          unfold fX2_isOrIsUnder
          rw [gI_at rk.1.1, obs, rk.2.1.2.1]
          have wb := (w.2.2.1 c hc).2.2.2.2.2 d (by omega)
          rw [isCl_at (by omega), isCl_at (by omega), cn_nI (by omega), cn_nI (by omega), Nat.add_sub_cancel, Nat.add_sub_cancel, ← wb]
          by_cases hb : bt (τ 42 c) d = false
          · rw [if_pos ((bt_test _ (by omega)).mpr hb), obs, if_pos rfl, hb]
            exact ⟨0, rfl, Or.inl rfl, fun _ _ => rfl⟩
          · rw [if_neg (fun q => hb ((bt_test _ (by omega)).mp q)), obs, if_neg n10]
            have : bt (τ 42 c) d = true := by cases z : bt (τ 42 c) d <;> simp_all
            rw [this]
            exact ⟨1, rfl, Or.inr rfl, fun _ _ => rfl⟩
        · rw [eb, obs, if_neg (fun q => by cases q), if_pos rfl]
          refine ⟨0, rfl, Or.inl rfl, fun _ q => ?_⟩
          rcases vT_cases hn q with ⟨d, hd', e, -⟩ | ⟨e, -⟩
          · exact absurd e (nb d hd')
          · rw [e]; simp
      · rw [ea, obs, rc_at k6, obs]
        obtain ⟨q, eq⟩ : ∃ q, fX6_kindOf (some (x + 1)) b h = some (q, h) := by
          rcases kindOfIs p w b with ⟨d, -, -, eb⟩ | ⟨-, eb⟩
          · exact ⟨_, eb⟩
          · exact ⟨_, eb⟩
        rw [eq, obs, if_pos rfl]
        refine ⟨0, rfl, Or.inl rfl, fun q _ => ?_⟩
        rcases vT_cases hn q with ⟨d, hd', e, -⟩ | ⟨e, -⟩
        · exact absurd e (na d hd')
        · rw [e]; simp
theorem lowC (N : Nat) (v : Int32) (k : Nat) : ∀ n, k < n → k ≤ 32 → fX6_lowestAboveBoth_b24 N n v (nI k - 1) h = some (lowS (bt v) k, h) := by
  induction k with
  | zero =>
    intro n hn hk
    obtain ⟨n, rfl⟩ : ∃ m, n = m + 1 := ⟨n - 1, by omega⟩
    rw [fX6_lowestAboveBoth_b24, if_pos (by decide)]; rfl
  | succ k ih =>
    intro n hn hk
    obtain ⟨n, rfl⟩ : ∃ m, n = m + 1 := ⟨n - 1, by omega⟩
    rw [fX6_lowestAboveBoth_b24, nI_pred, if_neg (nlt0 (by omega)), lowS]
    by_cases hb : bt v k = false
    · rw [if_pos ((bt_test _ (by omega)).mpr hb), show nI k + (-1) = nI k - 1 from (Int32.sub_eq_add_neg _ _).symm, ih n (by omega) (by omega), hb]; rfl
    · have : bt v k = true := by cases z : bt v k <;> simp_all
      rw [if_neg (fun q => hb ((bt_test _ (by omega)).mp q)), this, if_pos rfl, show (1 : Int32) = nI 1 from rfl, nI_add, Nat.add_comm]
theorem meetC (N : Nat) (hN : 40 ≤ N) (p : RC τ kd md ib hd x h) (w : WF τ) {a b : Int32} (ha : vT (cn (τ 0 0)) a) (hb : vT (cn (τ 0 0)) b) : fX6_meeting N (some (x + 1)) a b h = some (mt τ a b, h) := by
  have hn := w.1.2
  have k6 : zk h (x + 1) = 7 := p.1.1.2.1
  unfold fX6_meeting mt
  by_cases h1 : a = b
  · rw [if_pos h1, if_pos h1]
  · rw [if_neg h1, if_neg h1, refC hn ha, obs]
    cases e1 : rf a
    · simp
    · rw [if_pos rfl, if_neg n10, if_neg (show ¬ (true = false) by decide), refC hn hb, obs]
      cases e2 : rf b
      · simp
      · rw [if_pos rfl, if_neg n10, if_neg (show ¬ (true = false) by decide)]
        by_cases h2 : a = 97
        · rw [if_pos h2, if_pos h2]
        · rw [if_neg h2, if_neg h2]
          by_cases h3 : b = 97
          · rw [if_pos h3, if_pos h3]
          · rw [if_neg h3, if_neg h3, rc_at k6, obs]
            unfold fX6_lowestAboveBoth
            rcases vT_cases hn ha with ⟨c, hc, rfl, c1, -⟩ | ⟨c1, c2, -⟩
            · rw [kindOf_at p w hc, obs, rc_at k6, obs, c1]
              rcases vT_cases hn hb with ⟨d, hd', rfl, d1, -⟩ | ⟨d1, d2, -⟩
              · obtain ⟨-, b1, b2, rk⟩ := p.2.2.2.1 c hc
                obtain ⟨-, b3, b4, rk2⟩ := p.2.2.2.1 d hd'
                rw [kindOf_at p w hd', obs, if_neg (fun q => by cases q), if_neg (fun q => by cases q), gI_at rk.1.1, obs, gI_at rk2.1.1, obs, rk.2.1.2.1, rk2.2.1.2.1, d1, if_pos (show (true && true) = true from rfl), cn_nI (by omega), cn_nI (by omega), Nat.add_sub_cancel, Nat.add_sub_cancel]
                have e31 : (31 : Int32) = nI 32 - 1 := by rw [nI_pred]; rfl
                rw [e31, lowC N _ 32 N (by omega) (by omega), obs]
                unfold low
                rw [low_congr 32 (Q := fun j => anc τ (c + 1) c j && anc τ (d + 1) d j)]
                intro j hj
                rw [b_and, (w.2.2.1 c hc).2.2.2.2.2 j hj, (w.2.2.1 d hd').2.2.2.2.2 j hj]
              · rw [kindOf_no p w d2, obs, if_neg (fun q => by cases q), if_pos rfl, obs, d1]; simp
            · rw [kindOf_no p w c2, obs, rc_at k6, obs, c1]
              obtain ⟨q, eq⟩ : ∃ q, fX6_kindOf (some (x + 1)) b h = some (q, h) := by
                rcases kindOfIs p w b with ⟨d, -, -, eb⟩ | ⟨-, eb⟩
                · exact ⟨_, eb⟩
                · exact ⟨_, eb⟩
              rw [eq, obs, if_pos rfl, obs]; simp
end
/-- how high a type stands: a meeting that differs stands higher -/
def rk (t : Int32) : Nat := if t = 97 then 0 else if isCl t then 33 - cn t else if t = 98 then 33 else if t = 99 then 34 else 1
theorem rk_le (t : Int32) : rk t ≤ 34 := by
  unfold rk
  split
  · omega
  · split
    · omega
    · split
      · omega
      · split <;> omega
theorem lowS_cases (P : Nat → Bool) (k : Nat) : lowS P k = 98 ∨ ∃ c, c < k ∧ P c = true ∧ lowS P k = nI (c + 1) := by
  induction k with
  | zero => exact Or.inl rfl
  | succ k ih =>
    unfold lowS
    cases e : P k
    · rcases ih with q | ⟨c, hc, h1, h2⟩
      · exact Or.inl q
      · exact Or.inr ⟨c, by omega, h1, h2⟩
    · exact Or.inr ⟨k, by omega, e, rfl⟩
theorem mt_ok {τ : Nat → Nat → Int32} (w : WF τ) {a b : Int32} (ha : vT (cn (τ 0 0)) a) (hb : vT (cn (τ 0 0)) b) : vT (cn (τ 0 0)) (mt τ a b) ∧ (mt τ a b ≠ a → rk a < rk (mt τ a b)) := by
  have hn := w.1.2
  have r97 : rk 97 = 0 := rfl
  have r98 : rk 98 = 33 := rfl
  have r99 : rk 99 = 34 := rfl
  have rlt : ∀ {t : Int32}, vT (cn (τ 0 0)) t → t ≠ 99 → rk t < 34 := fun {t} ht hne => by
    unfold rk
    split
    · omega
    · split
      · omega
      · split
        · omega
        · omega
  have rlt3 : ∀ {t : Int32}, t ≠ 99 → t ≠ 98 → rk t < 33 := fun {t} h9 h8 => by
    unfold rk
    split
    · omega
    · split
      · rename_i q
        have : cn t ≠ 0 := fun z => by
          unfold isCl at q
          simp only [Bool.and_eq_true, decide_eq_true_eq] at q
          have := nI_of_cn (v := t) (fun z => Int32.lt_irrefl (Int32.lt_trans q.1 z))
          rw [z] at this
          rw [this] at q
          exact absurd q.1 (by decide)
        omega
      · omega
  unfold mt
  by_cases h1 : a = b
  · rw [if_pos h1]; exact ⟨ha, fun q => absurd rfl q⟩
  · rw [if_neg h1]
    cases e1 : rf a
    · rw [if_pos rfl]
      exact ⟨Or.inr (Or.inr (Or.inr rfl)), fun q => by rw [r99]; exact rlt ha (fun z => q z.symm)⟩
    · have a9 : a ≠ 99 := fun z => by rw [z] at e1; exact absurd e1 (by decide)
      rw [if_neg (show ¬ (true = false) by decide)]
      cases e2 : rf b
      · rw [if_pos rfl]
        exact ⟨Or.inr (Or.inr (Or.inr rfl)), fun q => by rw [r99]; exact rlt ha a9⟩
      · rw [if_neg (show ¬ (true = false) by decide)]
        by_cases h2 : a = 97
        · rw [if_pos h2]
          refine ⟨hb, fun q => ?_⟩
          rw [h2, r97]
          have b7 : b ≠ 97 := fun z => h1 (by rw [h2, z])
          unfold rk
          rw [if_neg b7]
          split
          · rename_i q
            rcases vT_cases hn hb with ⟨c, hc, rfl, -⟩ | ⟨e, -⟩
            · rw [cn_nI (by omega)]; omega
            · rw [e] at q; cases q
          · split
            · omega
            · split <;> omega
        · rw [if_neg h2]
          by_cases h3 : b = 97
          · rw [if_pos h3]; exact ⟨ha, fun q => absurd rfl q⟩
          · rw [if_neg h3]
            rcases vT_cases hn ha with ⟨c, hc, rfl, c1, -⟩ | ⟨c1, -⟩
            · rcases vT_cases hn hb with ⟨d, hd', rfl, d1, -⟩ | ⟨d1, -⟩
              · rw [c1, d1, if_pos (show (true && true) = true from rfl), cn_nI (by omega), cn_nI (by omega), Nat.add_sub_cancel, Nat.add_sub_cancel]
                unfold low
                have rc : rk (nI (c + 1)) = 32 - c := by
                  unfold rk
                  rw [if_neg h2, c1, if_pos rfl, cn_nI (by omega)]; omega
                rcases lowS_cases (fun j => anc τ (c + 1) c j && anc τ (d + 1) d j) 32 with e | ⟨j, hj, hP, e⟩
                · rw [e]
                  exact ⟨Or.inr (Or.inr (Or.inl rfl)), fun q => by rw [r98, rc]; omega⟩
                · rw [e]
                  simp only [Bool.and_eq_true] at hP
                  have jc := anc_le w c hc j hP.1
                  refine ⟨Or.inl ⟨j + 1, by omega, Or.inl rfl⟩, fun q => ?_⟩
                  have jne : j ≠ c := fun z => q (by rw [z])
                  rw [rc]
                  unfold rk
                  rw [if_neg (show ¬ nI (j + 1) = 97 from @nI_lit (j + 1) 97 (by omega) (by omega) (by omega)), isCl_at hj, if_pos rfl, cn_nI (by omega)]
                  omega
              · rw [d1]; simp only [Bool.and_false, Bool.false_eq_true, ↓reduceIte]
                refine ⟨Or.inr (Or.inr (Or.inl rfl)), fun q => ?_⟩
                rw [r98]; exact rlt3 a9 (fun z => q z.symm)
            · rw [c1]; simp only [Bool.false_and, Bool.false_eq_true, ↓reduceIte]
              refine ⟨Or.inr (Or.inr (Or.inl rfl)), fun q => ?_⟩
              rw [r98]; exact rlt3 a9 (fun z => q z.symm)
