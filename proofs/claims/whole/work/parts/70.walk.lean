/-! One look: what it leaves is good, and the walk comes nearer to its end. -/
section
variable {τ : Nat → Nat → Int32} {kd md : Nat → Nat} {ib hd : Nat → Nat → Nat} {x m L P lk : Nat} {h0 h : zH}
theorem unmark_Phi {sz i : Nat} {S : VS} (hi : i < sz) (mk : S.2.2 i = true) : Phi L sz (unmark S i) + 1 = Phi L sz S := by
  have U := sm_upd (i := i) sz (f := wt L (unmark S i)) (g := wt L S) hi (fun k _ hne => by
    show b1 (if k = i then false else S.2.2 k) + (match S.1 k with | none => 410 | some q => pf (L + q) (S.2.1 k)) = wt L S k
    rw [if_neg hne]; rfl)
  have a : wt L S i = wt L (unmark S i) i + 1 := by
    show b1 (S.2.2 i) + (match S.1 i with | none => 410 | some q => pf (L + q) (S.2.1 i)) = b1 (if i = i then false else S.2.2 i) + (match S.1 i with | none => 410 | some q => pf (L + q) (S.2.1 i)) + 1
    rw [mk, if_pos rfl]
    have z1 : b1 true = 1 := rfl
    have z0 : b1 false = 0 := rfl
    omega
  unfold Phi
  omega
theorem unmark_mr {i : Nat} {S : VS} (r : mr S) : mr (unmark S i) := fun j hj => by
  have hj' : (if j = i then false else S.2.2 j) = true := hj
  by_cases e : j = i
  · rw [if_pos e] at hj'; cases hj'
  · rw [if_neg e] at hj'; exact r j hj'
theorem come_all (w : WF τ) (hb : L + P ≤ 12) {fr t : Nat} (hf : fr < 2 ^ 31) (ht : t < 2 ^ 31) {r : Row} {S : VS} (o : okS τ m L P S) (rm : mr S) (okr : okR L P (cn (τ 0 0)) r) : okS τ m L P (comeS τ L (cn (τ 14 m)) fr t r S).1 ∧ mr (comeS τ L (cn (τ 14 m)) fr t r S).1 ∧ ((comeS τ L (cn (τ 14 m)) fr t r S).2 = none → Phi L (cn (τ 14 m)) (comeS τ L (cn (τ 14 m)) fr t r S).1 ≤ Phi L (cn (τ 14 m)) S) ∧ ∀ z, (comeS τ L (cn (τ 14 m)) fr t r S).2 = some z → z < 2 ^ 31 :=
  ⟨comeS_ok w o okr, comeS_mr rm, fun h => comeS_Phi w hb o okr h, fun z hz => by rcases comeS_e hz with y | y <;> omega⟩
theorem lookS_all (V : VC τ kd md ib hd x m L P h0) {i q : Nat} (hi : i < cn (τ 14 m)) {S : VS} (e : S.1 i = some q) (o : okS τ m L P S) (r : mr S) (mk : S.2.2 i = true) : okS τ m L P (lookS τ L P m i S).1 ∧ mr (lookS τ L P m i S).1 ∧ ((lookS τ L P m i S).2 = none → Phi L (cn (τ 14 m)) (lookS τ L P m i S).1 + 1 ≤ Phi L (cn (τ 14 m)) S) ∧ ∀ z, (lookS τ L P m i S).2 = some z → z < 2 ^ 31 := by
  obtain ⟨p, w, hm, hL, hP, hb⟩ := V
  have h200 := (w.2.2.2.1 m hm).2.2.2.2.2.2.2.1.2
  have w9 := (w.2.2.2.1 m hm).2.2.2.2.2.2.2.2.1
  obtain ⟨o', ho, eo, -, -, -, -, -, -, q7⟩ := (w.2.2.2.1 m hm).2.2.2.2.2.2.2.2.2.1 i hi
  have co : cn (τ 15 (200 * m + i)) = o' := by rw [eo]; exact cn_nI (by omega)
  have U := unmark_Phi (L := L) hi mk
  have eB : (unmark S i).1 i = some q := e
  have oB : okS τ m L P (unmark S i) := o
  obtain ⟨a1, a2, a3⟩ := hndS_all w hm hb hi (cn (τ 18 m)) 0 (unmark S i) (by omega) eB oB (unmark_mr r)
  have eH := hndS_hi (τ := τ) (L := L) (P := P) (m := m) (i := i) (cn (τ 18 m)) 0 (unmark S i) eB
  have hlt : ∀ e, (hndS τ L P m i (cn (τ 18 m)) 0 (unmark S i)).2 = some e → e < 2 ^ 31 := fun e he => hndS_lt (by omega) (cn (τ 18 m)) 0 (unmark S i) (fun j hj => by
    obtain ⟨-, pl, hpl, epl⟩ := (w.2.2.2.1 m hm).2.2.2.2.2.2.2.2.2.2.1 j (by omega)
    rw [epl, cn_nI (by omega)]; omega) he
  unfold lookS
  generalize hndS τ L P m i (cn (τ 18 m)) 0 (unmark S i) = H at *
  cases eH2 : H.2 with
  | some z =>
    dsimp only
    exact ⟨a1, a2, fun y => (by cases y), fun y hy => by cases hy; exact hlt z eH2⟩
  | none =>
    dsimp only
    have a4 := a3 eH2
    have hget : (H.1.1 i).getD 0 = q := by rw [eH]; rfl
    rw [hget]
    obtain ⟨k1, k2⟩ := a1 i hi q eH
    cases ef : fitS τ L P m (cn (τ 15 (200 * m + i))) (τ 16 (200 * m + i)) (τ 17 (200 * m + i)) (q, H.1.2.1 i) with
    | none =>
      dsimp only
      exact ⟨a1, a2, fun y => (by cases y), fun y hy => by cases hy; omega⟩
    | some s =>
      dsimp only
      have oks : okR L P (cn (τ 0 0)) s := fitS_ok w hm hL hb hi (s := (q, H.1.2.1 i)) ⟨k1, k2⟩ ef x h0 kd md ib hd p
      have on : okS τ m L P (onS τ L m i s H.1).1 ∧ mr (onS τ L m i s H.1).1 ∧ ((onS τ L m i s H.1).2 = none → Phi L (cn (τ 14 m)) (onS τ L m i s H.1).1 ≤ Phi L (cn (τ 14 m)) H.1) ∧ ∀ z, (onS τ L m i s H.1).2 = some z → z < 2 ^ 31 := by
        unfold onS
        by_cases c : cn (τ 15 (200 * m + i)) = 25 ∨ cn (τ 15 (200 * m + i)) = 37 ∨ cn (τ 15 (200 * m + i)) = 38 ∨ cn (τ 15 (200 * m + i)) = 39
        · rw [if_pos c]; exact ⟨a1, a2, fun _ => Nat.le_refl _, fun z hz => by cases hz⟩
        · rw [if_neg c]; exact come_all w hb (by omega) (by omega) a1 a2 oks
      generalize onS τ L m i s H.1 = O at *
      obtain ⟨n1, n2, n3, n4⟩ := on
      cases eO : O.2 with
      | some z =>
        dsimp only
        exact ⟨n1, n2, fun y => (by cases y), fun y hy => by cases hy; exact n4 z eO⟩
      | none =>
        dsimp only
        have n5 := n3 eO
        unfold jmpS
        by_cases c : 19 ≤ cn (τ 15 (200 * m + i)) ∧ cn (τ 15 (200 * m + i)) ≤ 25
        · rw [if_pos c]
          rw [co] at c
          obtain ⟨pl, hpl, epl⟩ := q7 c.1 c.2
          obtain ⟨d1, d2, d3, d4⟩ := come_all (fr := i) (t := cn (τ 16 (200 * m + i))) w hb (by omega) (by rw [epl, cn_nI (by omega)]; omega) n1 n2 oks
          exact ⟨d1, d2, fun y => by have := d3 y; omega, d4⟩
        · rw [if_neg c]; exact ⟨n1, n2, fun _ => (by show Phi L (cn (τ 14 m)) O.1 + 1 ≤ _; omega), fun z hz => by cases hz⟩
/-- the class looks for the least mark -/
theorem leastC (N : Nat) {S : VS} (V : VC τ kd md ib hd x m L P h0) (c : CS τ md ib x m L P h0 S h) (h5 : zi h 7 5 (x + 4) = nI lk) (mk : MK τ ib m S h) (d : Nat) : ∀ (k n : Nat), cn (τ 14 m) ≤ k + d → k ≤ 200 → d < n →
    ((∀ j, k ≤ j → j < cn (τ 14 m) → S.2.2 j = false) → fX7_leastMarked_b5 N n (some (x + 4)) (some (md m)) (nI k) h = some (-1, h)) ∧
    ∀ i, k ≤ i → i < cn (τ 14 m) → S.2.2 i = true → (∀ j, k ≤ j → j < i → S.2.2 j = false) → fX7_leastMarked_b5 N n (some (x + 4)) (some (md m)) (nI k) h = some (nI i, sti 7 3 (x + 4) (nI i) h) := by
  have V' := V
  obtain ⟨p, w, hm, hL, hP, hb⟩ := V'
  have w8 := (w.2.2.2.1 m hm).2.2.2.2.2.2.2.1
  have rt := (p.2.2.2.2.1 m hm).2.2.2
  have km : zk h (md m) = 4 := by rw [c.1.1]; exact rt.1.1
  have kx4 : zk h (x + 4) = 8 := by rw [c.1.1]; exact p.1.1.2.2.2.2.1
  have e14 : zi h 3 8 (md m) = nI (cn (τ 14 m)) := by
    rw [c.2.2.1, if_neg (by decide), rt.2.1.2.2.2.2.2.1]; exact nI_of_cn w8.1
  obtain ⟨pr, wr, cr⟩ := c.rc' V h5
  have ki : ∀ i, i < cn (τ 14 m) → zk h (ib m i) = 2 := fun i hi => by rw [c.1.1]; exact (p.2.2.2.2.2.1 m i hm hi).2.2.2.1.1.1
  have ia : ∀ i, i < cn (τ 14 m) → fX3_instructionAt (some (md m)) (nI i) h = some (some (ib m i), h) := fun i hi => instrAt_at pr wr (m := m) (i := i) (by rw [cr 6 0 (by omega)]; exact hm) (by rw [cr 14 m (by omega)]; exact hi)
  have B : ∀ k n, cn (τ 14 m) ≤ k → k ≤ 200 → fX7_leastMarked_b5 N (n + 1) (some (x + 4)) (some (md m)) (nI k) h = some (-1, h) := fun k n hk hk2 => by
    rw [fX7_leastMarked_b5, gI_at km, obs, e14, if_pos (nI_le (by omega) (by omega))]
  induction d with
  | zero =>
    intro k n hk hk2 hn
    obtain ⟨n, rfl⟩ : ∃ n', n = n' + 1 := ⟨n - 1, by omega⟩
    exact ⟨fun _ => B k n (by omega) hk2, fun i h1 h2 => by omega⟩
  | succ d ih =>
    intro k n hk hk2 hn
    obtain ⟨n, rfl⟩ : ∃ n', n = n' + 1 := ⟨n - 1, by omega⟩
    by_cases hs : cn (τ 14 m) ≤ k
    · exact ⟨fun _ => B k n hs hk2, fun i h1 h2 => by omega⟩
    · obtain ⟨I1, I2⟩ := ih (k + 1) n (by omega) (by omega) (by omega)
      have ik := ia k (by omega)
      have kk := ki k (by omega)
      have mkk := mk k (by omega)
      have E : fX7_leastMarked_b5 N (n + 1) (some (x + 4)) (some (md m)) (nI k) h = if S.2.2 k = true then some (nI k, sti 7 3 (x + 4) (nI k) h) else fX7_leastMarked_b5 N n (some (x + 4)) (some (md m)) (nI (k + 1)) h := by
        rw [fX7_leastMarked_b5, gI_at km, obs, e14, if_neg (nI_ge (by omega) (by omega)), rc_at km, obs, ik, obs]
        dsimp only
        rw [if_neg (by simp), gI_at kk, obs, mkk]
        cases S.2.2 k
        · rw [if_pos (show (if false = true then (1 : Int32) else 0) = 0 from rfl), if_neg (show ¬ false = true by decide)]
          unfold fX7_leastMarked_b37
          rw [nI_1]
        · rw [if_neg (show ¬ (if true = true then (1 : Int32) else 0) = 0 by decide), if_pos rfl, pI_at kx4, obs]
      refine ⟨fun a => ?_, fun i h1 h2 h3 h4 => ?_⟩
      · rw [E, a k (by omega) (by omega), if_neg (by decide)]
        exact I1 (fun j hj => a j (by omega))
      · by_cases e : i = k
        · subst e
          rw [E, if_pos h3]
        · rw [E, h4 k (by omega) (by omega), if_neg (by decide)]
          exact I2 i (by omega) h2 h3 (fun j hj => h4 j (by omega))
end
