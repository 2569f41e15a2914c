section
variable {τ : Nat → Nat → Int32} {kd md : Nat → Nat} {ib hd : Nat → Nat → Nat} {x m L P lk : Nat} {h0 h h' : zH} {S : VS}
theorem hndS_hi {i j q : Nat} (d : Nat) : ∀ (k : Nat) (S : VS), S.1 j = some q → (hndS τ L P m i d k S).1.1 j = some q := by
  induction d with
  | zero => intro k S e; exact e
  | succ d ih =>
    intro k S e
    unfold hndS
    cases cov τ (8 * m + k) i
    · rw [if_neg (by decide)]; exact ih _ _ e
    · rw [if_pos rfl]
      cases psh L P (1 + τ 21 (8 * m + k)) (0, S.2.1 i) with
      | none => exact e
      | some r =>
        dsimp only
        have e2 := comeS_hi (τ := τ) (L := L) (sz := cn (τ 14 m)) (fr := i) (t := cn (τ 22 (8 * m + k))) (r := r) e
        cases (comeS τ L (cn (τ 14 m)) i (cn (τ 22 (8 * m + k))) r S).2 with
        | none => exact ih _ _ e2
        | some z => exact e2
theorem hndS_lt {i e : Nat} (hi : i < 2 ^ 31) (d : Nat) : ∀ (k : Nat) (S : VS), (∀ j, j < k + d → cn (τ 22 (8 * m + j)) < 2 ^ 31) → (hndS τ L P m i d k S).2 = some e → e < 2 ^ 31 := by
  induction d with
  | zero => intro k S _ h; cases h
  | succ d ih =>
    intro k S hp h
    unfold hndS at h
    cases ec : cov τ (8 * m + k) i
    · rw [ec, if_neg (by decide)] at h
      exact ih (k + 1) S (fun j hj => hp j (by omega)) h
    · rw [ec, if_pos rfl] at h
      cases ep : psh L P (1 + τ 21 (8 * m + k)) (0, S.2.1 i) with
      | none => rw [ep] at h; cases h; exact hi
      | some r =>
        rw [ep] at h
        dsimp only at h
        cases ee : (comeS τ L (cn (τ 14 m)) i (cn (τ 22 (8 * m + k))) r S).2 with
        | none =>
          rw [ee] at h
          exact ih (k + 1) _ (fun j hj => hp j (by omega)) h
        | some z =>
          rw [ee] at h
          cases h
          rcases comeS_e ee with y | y
          · rw [y]; exact hi
          · rw [y]; exact hp k (by omega)
theorem goesOnC {a o : Nat} (ka : zk h a = 2) (i0 : zi h 1 0 a = nI o) (ho : o ≤ 41) : fX1_goesOnBehind (some a) h = some (if o = 25 ∨ o = 37 ∨ o = 38 ∨ o = 39 then 0 else 1, h) := by
  have e : ∀ k : Nat, k < 100 → (nI o = nI k ↔ o = k) := fun k hk => nI_eq (by omega) (by omega)
  unfold fX1_goesOnBehind
  simp only [gI_at, ka, i0, obs]
  by_cases h1 : o = 25
  · rw [if_pos (show nI o = 25 from (e 25 (by omega)).mpr h1), if_pos (Or.inl h1)]
  · rw [if_neg (show ¬ nI o = 25 from fun q => h1 ((e 25 (by omega)).mp q))]
    by_cases h2 : o = 37
    · rw [if_pos (show nI o = 37 from (e 37 (by omega)).mpr h2), if_pos (by omega)]
    · rw [if_neg (show ¬ nI o = 37 from fun q => h2 ((e 37 (by omega)).mp q))]
      by_cases h3 : o = 38
      · rw [if_pos (show nI o = 38 from (e 38 (by omega)).mpr h3), if_pos (by omega)]
      · rw [if_neg (show ¬ nI o = 38 from fun q => h3 ((e 38 (by omega)).mp q))]
        by_cases h4 : o = 39
        · rw [if_pos (show nI o = 39 from (e 39 (by omega)).mpr h4), if_pos (by omega)]
        · rw [if_neg (show ¬ nI o = 39 from fun q => h4 ((e 39 (by omega)).mp q)), if_neg (by omega)]
theorem isJumpC {a o : Nat} (ka : zk h a = 2) (i0 : zi h 1 0 a = nI o) (ho : o ≤ 41) : fX1_isJump (some a) h = some (if 19 ≤ o ∧ o ≤ 25 then 1 else 0, h) := by
  unfold fX1_isJump
  simp only [gI_at, ka, i0, obs]
  by_cases h1 : o < 19
  · rw [if_pos (show nI o < 19 from @nI_lt o 19 h1 (by omega)), if_neg (by omega)]
  · rw [if_neg (show ¬ nI o < 19 from @nI_nlt o 19 (by omega) (by omega))]
    by_cases h2 : 25 < o
    · rw [if_pos (show 25 < nI o from @nI_lt 25 o h2 (by omega)), if_neg (by omega)]
    · rw [if_neg (show ¬ 25 < nI o from @nI_nlt 25 o (by omega) (by omega)), if_pos (by omega)]
theorem lookC (N : Nat) (hN : 40 ≤ N) (V : VC τ kd md ib hd x m L P h0) (c : CS τ md ib x m L P h0 S h) {i q : Nat} (hi : i < cn (τ 14 m)) (eS : S.1 i = some q) (h5 : zi h 7 5 (x + 4) = nI lk) (wk : WK τ ib x m S none h) : ∃ h', fX7_lookAt N (some (x + 4)) (some (md m)) (nI i) h = some h' ∧ CS τ md ib x m L P h0 (lookS τ L P m i S).1 h' ∧ zi h' 7 5 (x + 4) = nI (lk + 1) ∧ SZ h h' ∧ WK τ ib x m (lookS τ L P m i S).1 (lookS τ L P m i S).2 h' := by
  have V' := V
  obtain ⟨p, w, hm, hL, hP, hb⟩ := V'
  have h200 := (w.2.2.2.1 m hm).2.2.2.2.2.2.2.1.2
  have w9 := (w.2.2.2.1 m hm).2.2.2.2.2.2.2.2.1
  obtain ⟨-, bi1, bi2, ri, -⟩ := p.2.2.2.2.2.1 m i hm hi
  have ibz : ∀ j, j < cn (τ 14 m) → x + 35 ≤ ib m j := fun j hj => (p.2.2.2.2.2.1 m j hm hj).2.1
  obtain ⟨o, ho, eo, q1, -, -, -, -, -, q7⟩ := (w.2.2.2.1 m hm).2.2.2.2.2.2.2.2.2.1 i hi
  have co : cn (τ 15 (200 * m + i)) = o := by rw [eo]; exact cn_nI (by omega)
  have cnt : ∀ {h}, SZ h0 h → zk h (md m) = 4 ∧ zk h (x + 4) = 8 ∧ zr h 7 1 (x + 4) = some (x + 5) ∧ zk h (x + 5) = 5 ∧ zk h (ib m i) = 2 ∧ zr h 1 3 (ib m i) = some (ib m i + 1) ∧ zr h 7 2 (x + 4) = some (x + 7) ∧ zk h (x + 7) = 6 := fun {h} s => by
    have rt := (p.2.2.2.2.1 m hm).2.2.2
    exact ⟨by rw [s.1]; exact rt.1.1, by rw [s.1]; exact p.1.1.2.2.2.2.1, by rw [s.2.1]; exact p.1.2.1.2.2.2.2.2.1, by rw [s.1]; exact p.1.1.2.2.2.2.2.1, by rw [s.1]; exact ri.1.1, by rw [s.2.1]; exact ri.1.2.2.2.1, by rw [s.2.1]; exact p.1.2.1.2.2.2.2.2.2.1, by rw [s.1]; exact p.1.1.2.2.2.2.2.2.2⟩
  obtain ⟨km, kx4, rx4, kx5, ki, ri1, rx42, kx7⟩ := cnt c.1
  obtain ⟨pr, wr, cr⟩ := c.rc' V h5
  have ia := instrAt_at pr wr (m := m) (i := i) (by rw [cr 6 0 (by omega)]; exact hm) (by rw [cr 14 m (by omega)]; exact hi)
  -- the mark is taken off, the look is counted
  have F : ∃ hB, hB = sti 7 5 (x + 4) (nI (lk + 1)) (sti 1 5 (ib m i) 0 h) ∧ SZ h hB ∧ (∀ b, b ≠ x + 4 → b ≠ ib m i → iz h hB b) ∧ (∀ c k, zi hB c k (ib m i) = if c = 1 ∧ k = 5 then 0 else zi h c k (ib m i)) ∧ (∀ j, za hB (ib m i) j = za h (ib m i) j) ∧ ∀ k, zi hB 7 k (x + 4) = if k = 5 then nI (lk + 1) else zi h 7 k (x + 4) := by
    refine ⟨_, rfl, SZ.sti.tr SZ.sti, fun b h1 h2 => (iz_sti h2).tr (iz_sti h1), fun c k => ?_, fun j => rfl, fun k => ?_⟩
    · rw [zi_sti, if_neg (by omega), zi_sti]
      by_cases z : c = 1 ∧ k = 5
      · rw [if_pos ⟨z.1, z.2, rfl⟩, if_pos z]
      · rw [if_neg (fun y => z ⟨y.1, y.2.1⟩), if_neg z]
    · rw [zi_sti]
      by_cases z : k = 5
      · rw [if_pos ⟨rfl, z, rfl⟩, if_pos z]
      · rw [if_neg (fun y => z y.2.1), if_neg z, zi_sti, if_neg (by omega)]
  obtain ⟨hB, eB, sB, zB, iB, aB, xB⟩ := F
  have cB : CS τ md ib x m L P h0 (unmark S i) hB := by
    refine c.upd V hi sB (fun b n0 n1 n2 n3 => zB b n0 n1) (fun k hk => by rw [iB, if_neg (by omega)]) (fun j hj => ⟨rfl, rfl⟩) ?_
    obtain ⟨-, it⟩ := c.2.2.2.1 i hi
    show IT L P _ (S.1 i) (S.2.1 i) (ib m i) hB
    rw [eS] at it ⊢
    obtain ⟨i1, i2, i3, i4, i5, i6⟩ := it
    have y1 := zB (ib m i + 1) (by omega) (by omega)
    have y2 := zB (ib m i + 2) (by omega) (by omega)
    exact ⟨by rw [iB, if_neg (by omega)]; exact i1, i2, by rw [y1.1]; exact i3, by rw [y1.1]; exact i4, by rw [y1.1]; exact i5, fun k hk => by rw [y2.2]; exact i6 k hk⟩
  have h5B : zi hB 7 5 (x + 4) = nI (lk + 1) := by rw [xB, if_pos rfl]
  have wkB : WK τ ib x m (unmark S i) none hB := by
    rcases wk with ⟨e, z, -⟩ | ⟨-, z4, mk, lm, y1, y2, y3⟩
    · cases z
    · refine Or.inr ⟨rfl, by rw [xB, if_neg (by decide)]; exact z4, fun j hj => ?_, lm, y1, by rw [xB, if_neg (by decide)]; exact y2, fun j hj => ?_⟩
      · show _ = if (if j = i then false else S.2.2 j) = true then 1 else 0
        by_cases e : j = i
        · subst e
          rw [iB, if_pos ⟨rfl, rfl⟩, if_pos rfl]; rfl
        · have d := p.II hm hj hm hi (fun z => e z.2) 0 0 (by omega) (by omega)
          have b := ibz j hj
          rw [if_neg e, (zB (ib m j) (by omega) d).1]
          exact mk j hj
      · show (if j = i then false else S.2.2 j) = false
        by_cases e : j = i
        · rw [if_pos e]
        · rw [if_neg e]; exact y3 j hj
  have eSB : (unmark S i).1 i = some q := eS
  obtain ⟨h6, e6, c6, h56, s6, wk6⟩ := hndC N hN V (lk := lk + 1) hi (cn (τ 18 m)) 0 N (unmark S i) hB (by omega) (by omega) cB eSB h5B wkB
  have eS6 := hndS_hi (τ := τ) (L := L) (P := P) (m := m) (i := i) (cn (τ 18 m)) 0 (unmark S i) eSB
  rw [nI_0] at e6
  have kx4A : zk (sti 1 5 (ib m i) 0 h) (x + 4) = 8 := kx4
  have h5A : zi (sti 1 5 (ib m i) 0 h) 7 5 (x + 4) = nI lk := by rw [zi_sti, if_neg (by omega)]; exact h5
  obtain ⟨kmB, kx4B, -⟩ := cnt cB.1
  obtain ⟨km6, kx46, rx46, kx56, ki6, ri6, rx426, kx76⟩ := cnt c6.1
  have E0 : fX7_lookAt N (some (x + 4)) (some (md m)) (nI i) h = if zi h6 7 4 (x + 4) = -1 then ((fX4_copy N (some (x + 5)) (some (ib m i + 1)) h6).bind fun h11 => (gR 7 2 (some (x + 4)) h11).bind fun v12 => (rc 5 v12 h11).bind fun _ => (fX5_perform N v12 (some (md m)) (some (ib m i)) h11).bind fun q13 => if q13.1 = 0 then ((pI 7 4 (some (x + 4)) (nI i) q13.2).bind fun h18 => some h18) else ((rc 1 (some (ib m i)) q13.2).bind fun _ => (fX1_goesOnBehind (some (ib m i)) q13.2).bind fun q15 => if q15.1 = 0 then (fX7_lookAt_b87 N (some (x + 4)) (some (md m)) (nI i) (some (ib m i)) q15.2) else ((rc 7 (some (x + 4)) q15.2).bind fun _ => (fX7_come N (some (x + 4)) (some (md m)) (nI i) (nI i + 1) q15.2).bind fun h17 => fX7_lookAt_b87 N (some (x + 4)) (some (md m)) (nI i) (some (ib m i)) h17))) else some h6 := by
    simp only [fX7_lookAt, fX7_comeToHandlers, rc_at, km, ia, pZ0_at, ki, gI_at, kx4A, h5A, nI_1, pI_at, ← eB, kx4B, e6, kx46, gR_at, rx46, ki6, ri6, kx56, obs, reduceCtorEq, ↓reduceIte]
  rw [E0]
  unfold lookS
  have hlt : ∀ e, (hndS τ L P m i (cn (τ 18 m)) 0 (unmark S i)).2 = some e → e < 2 ^ 31 := fun e he => hndS_lt (by omega) (cn (τ 18 m)) 0 (unmark S i) (fun j hj => by
    obtain ⟨-, pl, hpl, epl⟩ := (w.2.2.2.1 m hm).2.2.2.2.2.2.2.2.2.2.1 j (by omega)
    rw [epl, cn_nI (by omega)]; omega) he
  generalize hndS τ L P m i (cn (τ 18 m)) 0 (unmark S i) = H at *
  cases eH : H.2 with
  | some e =>
    rw [eH] at wk6
    rcases wk6 with ⟨e', z, y⟩ | ⟨z, -⟩
    · cases z
      refine ⟨h6, ?_, c6, h56, sB.tr s6, Or.inl ⟨e, rfl, y⟩⟩
      rw [if_neg]
      intro z4
      rw [y] at z4
      exact absurd z4 (nIm1 e (hlt e eH))
    · cases z
  | none =>
    rw [eH] at wk6
    have h46 : zi h6 7 4 (x + 4) = -1 := by
      rcases wk6 with ⟨e, z, -⟩ | ⟨-, z, -⟩
      · cases z
      · exact z
    rw [if_pos h46]
    dsimp only
    obtain ⟨hC, eC, sC, zC, cC, yC, aC⟩ := takeC N (by omega) V c6 hi eS6
    obtain ⟨okq, okv⟩ := c6.ok i hi q eS6
    have h5C : zi hC 7 5 (x + 4) = nI (lk + 1) := ((zC (x + 4) (by omega) (by omega)).1 7 5).trans h56
    obtain ⟨pC, wC, crC⟩ := cC.rc' V h5C
    have cL : cn (tv τ m (lk + 1) H.1 9 m) = L := by rw [crC 9 m (by omega), hL]; exact cn_nI (by omega)
    have REC : RE x hC L P := by
      refine ⟨?_, cC.2.2.2.2.1, cC.2.2.2.2.2, hb⟩
      have f := p.1
      unfold RF at f ⊢
      rw [cC.1.1, cC.1.2.1, cC.1.2.2.1]; exact f
    have okC : okR L P (cn (τ 0 0)) ((q, za hC (x + 6)) : Row) := ⟨okq, fun k hk => by simp only at hk ⊢; rw [aC k hk]; exact okv k hk⟩
    have agC : agr L ((q, za hC (x + 6)) : Row) (q, H.1.2.1 i) := ⟨rfl, fun k hk => aC k hk⟩
    have self : RW x hC (nI q) (za hC (x + 6)) (zi hC 5 2 (x + 7)) = hC := by rw [← yC]; exact RW_self
    have z0 : tv τ m (lk + 1) H.1 0 0 = τ 0 0 := crC 0 0 (by omega)
    obtain ⟨hD, eD, jD⟩ := perfJ N (by omega) pC wC (m := m) (i := i) (P := P) (by rw [cL]; exact REC) (by rw [crC 6 0 (by omega)]; exact hm) (by rw [crC 14 m (by omega)]; exact hi) (r := (q, za hC (x + 6))) (by rw [cL, z0]; exact okC) (zi hC 5 2 (x + 7))
    rw [cL, z0, crC 15 _ (by omega), crC 16 _ (by omega), crC 17 _ (by omega), fitS_T (fun c i hc => crC c i (by omega))] at jD
    rw [cL, crC 15 _ (by omega), crC 16 _ (by omega), crC 17 _ (by omega), fitS_T (fun c i hc => crC c i (by omega))] at eD
    have self2 : RW x hC (nI ((q, za hC (x + 6)) : Row).1) ((q, za hC (x + 6)) : Row).2 (zi hC 5 2 (x + 7)) = hC := self
    rw [self2] at eD
    obtain ⟨-, kx4C, -, -, -, -, rx42C, kx7C⟩ := cnt cC.1
    rw [eC, obs, gR_at kx4C, rx42C, obs, rc_at kx7C, obs, eD, obs]
    have hget : (H.1.1 i).getD 0 = q := by rw [eS6]; rfl
    rw [hget]
    have A := fitS_A τ (L := L) (P := P) (m := m) (o := cn (τ 15 (200 * m + i))) (x := τ 16 (200 * m + i)) (y := τ 17 (200 * m + i)) (by rw [co]; exact ho) agC (fun z => by
      rw [co] at z
      obtain ⟨k, hk, e⟩ := q1 z
      rw [hL, cn_nI (by omega)] at hk
      rw [e, cn_nI (by omega)]; exact hk)
    -- the heap behind the step
    obtain ⟨ht, ty, ft, eR, -⟩ := jD.is
    have sD : SZ hC hD := by rw [eR]; exact SZ.RW
    have zD : ∀ b, b ≠ x + 5 → b ≠ x + 6 → b ≠ x + 7 → iz hC hD b := fun b n5 n6 n7 => by rw [eR]; exact iz_RW n5 n6 n7
    have cD : CS τ md ib x m L P h0 H.1 hD := cC.row V sD zD (by rw [eR, zi_RWo (by omega) (by omega)]; exact cC.2.2.2.2.1) (by rw [eR, zi_RWo (by omega) (by omega)]; exact cC.2.2.2.2.2)
    have h5D : zi hD 7 5 (x + 4) = nI (lk + 1) := ((zD (x + 4) (by omega) (by omega) (by omega)).1 7 5).trans h5C
    have wkD : WK τ ib x m H.1 none hD := wk6.iz ((zC _ (by omega) (by omega)).tr (zD _ (by omega) (by omega) (by omega))) (fun j hj => by have := ibz j hj; exact (zC _ (by omega) (by omega)).tr (zD _ (by omega) (by omega) (by omega)))
    obtain ⟨-, kx4D, -, -, kiD, -, -, -⟩ := cnt cD.1
    have sAll : SZ h hD := ((sB.tr s6).tr sC).tr sD
    have rki : ∀ {S' h'}, CS τ md ib x m L P h0 S' h' → zi h' 1 0 (ib m i) = nI o ∧ zi h' 1 1 (ib m i) = τ 16 (200 * m + i) := fun {S' h'} c' => by
      obtain ⟨k3, -⟩ := c'.2.2.2.1 i hi
      exact ⟨by rw [k3 0 (by omega)]; exact ri.2.1.trans eo, by rw [k3 1 (by omega)]; exact ri.2.2.1⟩
    rcases A with ⟨n1, n2⟩ | ⟨sc, ss, n1, n2, agS⟩
    · rw [n2]
      rw [n1] at eD ⊢
      refine ⟨sti 7 4 (x + 4) (nI i) hD, ?_, cD.x4 V SZ.sti (fun b hb => iz_sti hb), ?_, sAll.tr SZ.sti, Or.inl ⟨i, rfl, ?_⟩⟩
      · simp only [Option.isSome_none, Bool.false_eq_true, ↓reduceIte, pI_at, kx4D, obs]
      · rw [zi_sti, if_neg (by omega)]; exact h5D
      · rw [zi_sti, if_pos ⟨rfl, rfl, rfl⟩]
    · rw [n2]
      rw [n1] at jD ⊢
      have okS' : okR L P (cn (τ 0 0)) ss := ⟨by rw [← agS.1]; exact jD.1.1, fun k hk => by rw [← agS.2 k (by rw [agS.1]; exact hk)]; exact jD.1.2 k (by rw [agS.1]; exact hk)⟩
      have rrD : RR x L ss hD := by
        rw [jD.2]
        exact ⟨by rw [zi_RW43, agS.1], fun k hk => by rw [za_RW6]; exact agS.2 k (by rw [agS.1]; exact hk)⟩
      have go := goesOnC kiD (rki cD).1 ho
      -- the jump, on any heap behind
      have J : ∀ (S2 : VS) (h2 : zH), CS τ md ib x m L P h0 S2 h2 → zi h2 7 5 (x + 4) = nI (lk + 1) → WK τ ib x m S2 none h2 → RR x L ss h2 → SZ h h2 → ∃ h', fX7_lookAt_b87 N (some (x + 4)) (some (md m)) (nI i) (some (ib m i)) h2 = some h' ∧ CS τ md ib x m L P h0 (jmpS τ L m i ss S2).1 h' ∧ zi h' 7 5 (x + 4) = nI (lk + 1) ∧ SZ h h' ∧ WK τ ib x m (jmpS τ L m i ss S2).1 (jmpS τ L m i ss S2).2 h' := by
        intro S2 h2 c2 h52 wk2 rr2 s2
        obtain ⟨-, kx42, -, -, ki2, -, -, -⟩ := cnt c2.1
        have ij := isJumpC ki2 (rki c2).1 ho
        have h42 : zi h2 7 4 (x + 4) = -1 := by
          rcases wk2 with ⟨e, z, -⟩ | ⟨-, z, -⟩
          · cases z
          · exact z
        unfold fX7_lookAt_b87 jmpS
        rw [co, rc_at ki2, obs, ij, obs]
        by_cases hj : 19 ≤ o ∧ o ≤ 25
        · rw [if_pos hj, if_pos hj, if_neg n10]
          obtain ⟨t, ht200, et⟩ := q7 hj.1 hj.2
          rw [et, cn_nI (by omega)]
          obtain ⟨h3, e3, c3, h53, s3, z3, wk3⟩ := comeC N hN V c2 rr2 okS' h52 wk2 (fr := i) (t := t) (by omega)
          refine ⟨h3, ?_, c3, h53, s2.tr s3, wk3⟩
          rw [gI_at kx42, obs, h42, if_pos rfl, gI_at ki2, (rki c2).2, obs, rc_at kx42, obs, et, e3, obs]
        · rw [if_neg hj, if_neg hj, if_pos rfl]
          exact ⟨h2, rfl, c2, h52, s2, wk2⟩
      simp only [Option.isSome_some, ↓reduceIte]
      rw [if_neg n10, rc_at kiD, obs, go, obs]
      unfold onS
      rw [co]
      by_cases he : o = 25 ∨ o = 37 ∨ o = 38 ∨ o = 39
      · rw [if_pos he, if_pos he, if_pos rfl]
        exact J H.1 hD cD h5D wkD rrD sAll
      · rw [if_neg he, if_neg he, if_neg n10, rc_at kx4D, obs, nI_1]
        obtain ⟨h3, e3, c3, h53, s3, z3, wk3⟩ := comeC N hN V cD rrD okS' h5D wkD (fr := i) (t := i + 1) (by omega)
        rw [e3, obs]
        have sA3 := sAll.tr s3
        have rr3 : RR x L ss h3 := rrD.iz (z3 _ (by omega) (by omega)) (z3 _ (by omega) (by omega))
        cases ee : (comeS τ L (cn (τ 14 m)) i (i + 1) ss H.1).2 with
        | none =>
          rw [ee] at wk3
          exact J _ h3 c3 h53 wk3 rr3 sA3
        | some e =>
          rw [ee] at wk3
          obtain ⟨-, kx43, -, -, ki3, -, -, -⟩ := cnt c3.1
          have ij := isJumpC ki3 (rki c3).1 ho
          have he31 : e < 2 ^ 31 := by rcases comeS_e ee with z | z <;> omega
          have h43 : zi h3 7 4 (x + 4) = nI e := by
            rcases wk3 with ⟨e', z, y⟩ | ⟨z, -⟩
            · cases z; exact y
            · cases z
          refine ⟨h3, ?_, c3, h53, sA3, wk3⟩
          unfold fX7_lookAt_b87
          rw [rc_at ki3, obs, ij, obs]
          by_cases hj : 19 ≤ o ∧ o ≤ 25
          · rw [if_pos hj, if_neg n10, gI_at kx43, obs, h43, if_neg (nIm1 e he31)]
          · rw [if_neg hj, if_pos rfl]
end
