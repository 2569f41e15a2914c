section
variable {τ : Nat → Nat → Int32} {kd md : Nat → Nat} {ib hd : Nat → Nat → Nat} {x m L P lk : Nat} {h0 h h' : zH} {S : VS}
theorem comeS_hi {sz fr t j q : Nat} {r : Row} (e : S.1 j = some q) : (comeS τ L sz fr t r S).1.1 j = some q := by
  unfold comeS
  by_cases hsz : sz ≤ t
  · rw [if_pos hsz]; exact e
  · rw [if_neg hsz]
    cases eS : S.1 t with
    | none =>
      show (if j = t then some r.1 else S.1 j) = some q
      rw [if_neg (fun z => by rw [z, eS] at e; cases e)]; exact e
    | some n =>
      dsimp only
      by_cases hn : n = r.1
      · rw [if_pos hn]
        cases (mtL τ L r.2 (L + n) 0 false (S.2.1 t)).2 with
        | none => exact e
        | some c => exact e
      · rw [if_neg hn]; exact e
theorem CS.ok (c : CS τ md ib x m L P h0 S h) : okS τ m L P S := fun i hi q e => by
  have := (c.2.2.2.1 i hi).2
  rw [e] at this
  exact ⟨this.2.1, fun k hk => (this.2.2.2.2.2 k hk).2⟩
theorem WK.iz {o : Option Nat} (k : WK τ ib x m S o h) (q4 : iz h h' (x + 4)) (q : ∀ i, i < cn (τ 14 m) → iz h h' (ib m i)) : WK τ ib x m S o h' := by
  rcases k with ⟨e, h1, h2⟩ | ⟨h1, h2, h3, lm, h4, h5, h6⟩
  · exact Or.inl ⟨e, h1, (q4.1 7 4).trans h2⟩
  · exact Or.inr ⟨h1, (q4.1 7 4).trans h2, h3.iz q, lm, h4, (q4.1 7 3).trans h5, h6⟩
theorem handlerAt_at (p : RC τ kd md ib hd x h) (w : WF τ) {k : Nat} (hm : m < cn (τ 6 0)) (hk : k < cn (τ 18 m)) : fX3_handlerAt (some (md m)) (nI k) h = some (some (hd m k), h) := by
  obtain ⟨-, b1, b2, rt⟩ := p.2.2.2.2.1 m hm
  obtain ⟨⟨a1, a2, a3, a4, a5, a6, a7, a8, a9, a10⟩, ⟨d0, d1, d2, d3, d4, d5, d6, d7, d8⟩, f1⟩ := rt
  have w9 := (w.2.2.2.1 m hm).2.2.2.2.2.2.2.2.1
  unfold fX3_handlerAt
  rw [if_neg (nlt0 (by omega)), gI_at a1, d6, obs, if_neg (nle_cn w9.1 hk (by omega)), if_neg (show ¬ (8 : Int32) ≤ nI k from @nI_ge k 8 (by omega) (by decide)), gR_at a1, a7, obs, aQ_at 8 a4 a10 (by omega) (by decide), obs, (p.2.2.2.2.2.2.1 m k hm hk).1]
theorem coversC {a j i : Nat} (rh : RH τ h j a) : fX0_covers (some a) (nI i) h = some (if cov τ j i then 1 else 0, h) := by
  obtain ⟨k, c1, c2, c3, c4⟩ := rh
  unfold fX0_covers cov
  rw [gI_at k, c1, obs]
  by_cases q : nI i < τ 19 j
  · rw [if_pos q, decide_eq_true q]; rfl
  · rw [if_neg q, decide_eq_false q, gI_at k, c2, obs]
    by_cases q2 : τ 20 j ≤ nI i
    · rw [if_pos q2, decide_eq_true q2]; rfl
    · rw [if_neg q2, decide_eq_false q2]; rfl
theorem nIm1 (e : Nat) (he : e < 2 ^ 31) : ¬ nI e = -1 := fun q => nlt0 he (by rw [q]; exact m1neg)
/-- the row takes up what stands before i -/
theorem takeC (N : Nat) (hN : 20 ≤ N) (V : VC τ kd md ib hd x m L P h0) (c : CS τ md ib x m L P h0 S h) {i q : Nat} (hi : i < cn (τ 14 m)) (eS : S.1 i = some q) : ∃ h', fX4_copy N (some (x + 5)) (some (ib m i + 1)) h = some h' ∧ SZ h h' ∧ (∀ b, b ≠ x + 5 → b ≠ x + 6 → iz h h' b) ∧ CS τ md ib x m L P h0 S h' ∧ zi h' 4 3 (x + 5) = nI q ∧ ∀ k, k < L + q → za h' (x + 6) k = S.2.1 i k := by
  have V' := V
  obtain ⟨p, w, hm, hL, hP, hb⟩ := V'
  obtain ⟨-, bt1, bt2, ri, -⟩ := p.2.2.2.2.2.1 m i hm hi
  obtain ⟨-, it⟩ := c.2.2.2.1 i hi
  rw [eS] at it
  obtain ⟨i1, i2, i3, i4, i5, i6⟩ := it
  obtain ⟨h', e', s', z', ⟨v1, v2, v3⟩, a'⟩ := copyC N hN (a := x + 5) (b := ib m i + 1) (ta := x + 6) (tb := ib m i + 2) h (by rw [c.1.1]; exact p.1.1.2.2.2.2.2.1) (by rw [c.1.2.1]; exact p.1.2.1.2.2.2.2.2.2.2.1) (by rw [c.1.1]; exact ri.1.2.1) (by rw [c.1.2.1]; exact ri.1.2.2.2.2.1) (by rw [c.1.1]; exact p.1.1.2.2.2.2.2.2.1) (by rw [c.1.2.2.1]; exact p.1.2.2.2.2) (by rw [c.1.1]; exact ri.1.2.2.1) (by rw [c.1.2.2.1]; exact ri.1.2.2.2.2.2) (by omega) (by omega) (by omega)
  exact ⟨h', e', s', z', c.row V s' (fun b h5 h6 h7 => z' b h5 h6) (by rw [v1]; exact i3) (by rw [v2]; exact i4), by rw [v3]; exact i5, fun k hk => by rw [a' k (by omega)]; exact (i6 k hk).1⟩
theorem stopH (N : Nat) (V : VC τ kd md ib hd x m L P h0) (c : CS τ md ib x m L P h0 S h) (i : Nat) {e k n : Nat} (he : e < 2 ^ 31) (h4 : zi h 7 4 (x + 4) = nI e) : fX7_comeToHandlers_b3 N (n + 1) (some (x + 4)) (some (md m)) (nI i) (some (ib m i)) (nI k) h = some h := by
  obtain ⟨p, w, hm, hL, hP, hb⟩ := V
  have km : zk h (md m) = 4 := by rw [c.1.1]; exact (p.2.2.2.2.1 m hm).2.2.2.1.1
  have kx4 : zk h (x + 4) = 8 := by rw [c.1.1]; exact p.1.1.2.2.2.2.1
  rw [fX7_comeToHandlers_b3, gI_at km, obs]
  by_cases q : zi h 3 9 (md m) ≤ nI k
  · rw [if_pos q]
  · rw [if_neg q, gI_at kx4, obs, h4, if_neg (nIm1 e he)]
theorem comeS_e {sz fr t e : Nat} {r : Row} (he : (comeS τ L sz fr t r S).2 = some e) : e = fr ∨ e = t := by
  unfold comeS at he
  by_cases hsz : sz ≤ t
  · rw [if_pos hsz] at he; cases he; exact Or.inl rfl
  · rw [if_neg hsz] at he
    cases eS : S.1 t with
    | none => rw [eS] at he; cases he
    | some n =>
      rw [eS] at he
      dsimp only at he
      by_cases hn : n = r.1
      · rw [if_pos hn] at he
        cases eg : (mtL τ L r.2 (L + n) 0 false (S.2.1 t)).2 with
        | none => rw [eg] at he; cases he; exact Or.inr rfl
        | some c => rw [eg] at he; cases he
      · rw [if_neg hn] at he; cases he; exact Or.inr rfl
theorem hndC (N : Nat) (hN : 40 ≤ N) (V : VC τ kd md ib hd x m L P h0) {i q : Nat} (hi : i < cn (τ 14 m)) (d : Nat) : ∀ (k n : Nat) (S : VS) (h : zH), k + d = cn (τ 18 m) → d + 1 < n → CS τ md ib x m L P h0 S h → S.1 i = some q → zi h 7 5 (x + 4) = nI lk → WK τ ib x m S none h → ∃ h', fX7_comeToHandlers_b3 N n (some (x + 4)) (some (md m)) (nI i) (some (ib m i)) (nI k) h = some h' ∧ CS τ md ib x m L P h0 (hndS τ L P m i d k S).1 h' ∧ zi h' 7 5 (x + 4) = nI lk ∧ SZ h h' ∧ WK τ ib x m (hndS τ L P m i d k S).1 (hndS τ L P m i d k S).2 h' := by
  have V' := V
  obtain ⟨p, w, hm, hL, hP, hb⟩ := V'
  have w9 := (w.2.2.2.1 m hm).2.2.2.2.2.2.2.2.1
  have w11 := (w.2.2.2.1 m hm).2.2.2.2.2.2.2.2.2.2.1
  have h200 := (w.2.2.2.1 m hm).2.2.2.2.2.2.2.1.2
  have hn32 := w.1.2
  obtain ⟨-, bi1, bi2, ri, -⟩ := p.2.2.2.2.2.1 m i hm hi
  have cnt : ∀ {S h}, CS τ md ib x m L P h0 S h → zk h (md m) = 4 ∧ zi h 3 9 (md m) = nI (cn (τ 18 m)) ∧ zk h (x + 4) = 8 ∧ zr h 7 1 (x + 4) = some (x + 5) ∧ zk h (x + 5) = 5 ∧ zk h (ib m i) = 2 ∧ zr h 1 3 (ib m i) = some (ib m i + 1) := fun {S h} c => by
    have rt := (p.2.2.2.2.1 m hm).2.2.2
    refine ⟨by rw [c.1.1]; exact rt.1.1, ?_, by rw [c.1.1]; exact p.1.1.2.2.2.2.1, by rw [c.1.2.1]; exact p.1.2.1.2.2.2.2.2.1, by rw [c.1.1]; exact p.1.1.2.2.2.2.2.1, by rw [c.1.1]; exact ri.1.1, by rw [c.1.2.1]; exact ri.1.2.2.2.1⟩
    rw [c.2.2.1, if_neg (by decide), rt.2.1.2.2.2.2.2.2.1]; exact nI_of_cn w9.1
  have ibz : ∀ j, j < cn (τ 14 m) → x + 35 ≤ ib m j := fun j hj => (p.2.2.2.2.2.1 m j hm hj).2.1
  induction d with
  | zero =>
    intro k n S h hk hn c eS h5 wk
    obtain ⟨n, rfl⟩ : ∃ m, n = m + 1 := ⟨n - 1, by omega⟩
    obtain ⟨km, k9, -⟩ := cnt c
    refine ⟨h, ?_, c, h5, SZ.rf, wk⟩
    rw [fX7_comeToHandlers_b3, gI_at km, obs, k9, if_pos (nI_le (by omega) (by omega))]
  | succ d ih =>
    intro k n S h hk hn c eS h5 wk
    obtain ⟨n, rfl⟩ : ∃ m, n = m + 1 := ⟨n - 1, by omega⟩
    obtain ⟨km, k9, kx4, rx4, kx5, ki, ri1⟩ := cnt c
    have h4 : zi h 7 4 (x + 4) = -1 := by
      rcases wk with ⟨e, z, -⟩ | ⟨-, z, -⟩
      · cases z
      · exact z
    obtain ⟨pr, wr, cr⟩ := c.rc' V h5
    have z18 : tv τ m lk S 18 m = τ 18 m := cr 18 m (by omega)
    have z6 : tv τ m lk S 6 0 = τ 6 0 := cr 6 0 (by omega)
    have ha := handlerAt_at pr wr (m := m) (k := k) (by rw [z6]; exact hm) (by rw [z18]; omega)
    obtain ⟨-, bh1, bh2, rh⟩ := pr.2.2.2.2.2.2.1 m k (by rw [z6]; exact hm) (by rw [z18]; omega)
    have cv := coversC (i := i) rh
    have ecv : cov (tv τ m lk S) (8 * m + k) i = cov τ (8 * m + k) i := by unfold cov; rw [cr 19 _ (by omega), cr 20 _ (by omega)]
    rw [ecv] at cv
    obtain ⟨kh, -, -, ch2, ch3⟩ := rh
    rw [cr 21 _ (by omega)] at ch2
    rw [cr 22 _ (by omega)] at ch3
    obtain ⟨⟨kc, hkc, ekc⟩, pl, hpl, epl⟩ := w11 k (by omega)
    have E0 : fX7_comeToHandlers_b3 N (n + 1) (some (x + 4)) (some (md m)) (nI i) (some (ib m i)) (nI k) h = if (if cov τ (8 * m + k) i then (1 : Int32) else 0) = 0 then fX7_comeToHandlers_b3 N n (some (x + 4)) (some (md m)) (nI i) (some (ib m i)) (nI (k + 1)) h else ((fX4_copy N (some (x + 5)) (some (ib m i + 1)) h).bind fun h11 => (gR 7 1 (some (x + 4)) h11).bind fun v12 => (pI 4 3 v12 0 h11).bind fun h13 => (gR 7 1 (some (x + 4)) h13).bind fun v14 => (gI 0 2 (some (hd m k)) h13).bind fun v15 => (rc 4 v14 h13).bind fun _ => (fX4_put v14 (1 + v15) h13).bind fun q16 => if q16.1 = 0 then ((pI 7 4 (some (x + 4)) (nI i) q16.2).bind fun h18 => fX7_comeToHandlers_b3 N n (some (x + 4)) (some (md m)) (nI i) (some (ib m i)) (nI (k + 1)) h18) else ((gI 0 3 (some (hd m k)) q16.2).bind fun v19 => (rc 7 (some (x + 4)) q16.2).bind fun _ => (fX7_come N (some (x + 4)) (some (md m)) (nI i) v19 q16.2).bind fun h20 => fX7_comeToHandlers_b3 N n (some (x + 4)) (some (md m)) (nI i) (some (ib m i)) (nI (k + 1)) h20)) := by
      rw [fX7_comeToHandlers_b3]
      simp only [gI_at, km, k9, nI_ge (show k < cn (τ 18 m) by omega) (show cn (τ 18 m) < 2 ^ 31 by omega), kx4, h4, rc_at, ha, kh, cv, gR_at, rx4, ki, ri1, kx5, fX7_comeToHandlers_b100, nI_1, obs, reduceCtorEq, ↓reduceIte]
    rw [E0, hndS]
    cases ec : cov τ (8 * m + k) i
    · rw [bF, if_pos rfl, if_neg (show ¬ (false = true) by decide)]
      obtain ⟨h', e', r'⟩ := ih (k + 1) n S h (by omega) (by omega) c eS h5 wk
      exact ⟨h', e', r'⟩
    · rw [bT, if_neg n10, if_pos (show true = true from rfl)]
      obtain ⟨h11, e11, s11, z11, c11, y11, a11⟩ := takeC N (by omega) V c hi eS
      obtain ⟨okq, okv⟩ := c.ok i hi q eS
      obtain ⟨-, -, kx41, rx41, kx51, -, -⟩ := cnt c11
      -- the height is 0
      have F13 : ∃ h13, h13 = sti 4 3 (x + 5) 0 h11 ∧ SZ h11 h13 ∧ (∀ b, b ≠ x + 5 → iz h11 h13 b) ∧ zi h13 4 3 (x + 5) = nI 0 ∧ (∀ k, k ≠ 3 → zi h13 4 k (x + 5) = zi h11 4 k (x + 5)) ∧ ∀ j, za h13 (x + 6) j = za h11 (x + 6) j := ⟨_, rfl, SZ.sti, fun b hb => iz_sti hb, by rw [zi_sti, if_pos ⟨rfl, rfl, rfl⟩]; rfl, fun k hk => by rw [zi_sti, if_neg (fun z => hk z.2.1)], fun j => rfl⟩
      obtain ⟨h13, e13, s13, z13, y13, i13, a13⟩ := F13
      have c13 : CS τ md ib x m L P h0 S h13 := c11.row V s13 (fun b h5 h6 h7 => z13 b h5) (by rw [i13 1 (by decide)]; exact c11.2.2.2.2.1) (by rw [i13 2 (by decide)]; exact c11.2.2.2.2.2)
      obtain ⟨-, -, kx43, rx43, kx53, -, -⟩ := cnt c13
      have zA : ∀ b, b ≠ x + 5 → b ≠ x + 6 → iz h h13 b := fun b n5 n6 => (z11 b n5 n6).tr (z13 b n5)
      have RE13 : RE x h13 L P := by
        refine ⟨?_, c13.2.2.2.2.1, c13.2.2.2.2.2, hb⟩
        have f := p.1
        unfold RF at f ⊢
        rw [c13.1.1, c13.1.2.1, c13.1.2.2.1]; exact f
      have self : RW x h13 (nI 0) (za h13 (x + 6)) (zi h13 5 2 (x + 7)) = h13 := by rw [← y13]; exact RW_self
      have kh13 : zk h13 (hd m k) = 1 := by rw [s13.1, s11.1]; exact kh
      have zh := zA (hd m k) (by omega) (by omega)
      have ag0 : agr L ((0, za h13 (x + 6)) : Row) (0, S.2.1 i) := ⟨rfl, fun j hj => by simp only at hj ⊢; rw [a13, a11 j (by omega)]⟩
      have h513 : zi h13 7 5 (x + 4) = nI lk := ((zA (x + 4) (by omega) (by omega)).1 7 5).trans h5
      have vK : vT (cn (τ 0 0)) (1 + τ 21 (8 * m + k)) := by rw [ekc]; exact vT1 hkc
      have E1 : ∀ {β : Type} (F : zH → Option β), ((gR 7 1 (some (x + 4)) h11).bind fun v12 => (pI 4 3 v12 0 h11).bind F) = F h13 := fun F => by rw [gR_at kx41, rx41, obs, pI_at kx51, obs, ← e13]
      rw [e11, obs, E1, gR_at kx43, rx43, obs, gI_at kh13, (zh.1 0 2).trans ch2, obs, rc_at kx53, obs]
      rcases put4_at RE13 (r := (0, za h13 (x + 6))) (ft := zi h13 5 2 (x + 7)) (v := 1 + τ 21 (8 * m + k)) (Nat.zero_le _) with ⟨r', ep, e2⟩ | ⟨ep, e2⟩
      · -- there is room
        rcases psh_A (P := P) ag0 (1 + τ 21 (8 * m + k)) with ⟨z1, -⟩ | ⟨s, s', z1, z2, ags⟩
        · rw [z1] at ep; cases ep
        · have es : s = r' := by rw [z1] at ep; exact Option.some.inj ep
          subst es
          rw [z2]
          dsimp only
          have okr : okR L P (cn (τ 0 0)) s' := by
            have : okR L P (cn (τ 0 0)) ((0, S.2.1 i) : Row) := ⟨Nat.zero_le _, fun j hj => okv j (by simp only at hj; omega)⟩
            exact this.psh vK z2
          have self2 : (RW x h13 (nI ((0, za h13 (x + 6)) : Row).1) ((0, za h13 (x + 6)) : Row).2 (zi h13 5 2 (x + 7))) = h13 := self
          rw [self2] at e2
          generalize eG : RW x h13 (nI s.1) s.2 (zi h13 5 2 (x + 7)) = hG at e2
          have sG : SZ h13 hG := by rw [← eG]; exact SZ.RW
          have zG : ∀ b, b ≠ x + 5 → b ≠ x + 6 → b ≠ x + 7 → iz h13 hG b := fun b n5 n6 n7 => by rw [← eG]; exact iz_RW n5 n6 n7
          have cG : CS τ md ib x m L P h0 S hG := c13.row V sG zG (by rw [← eG, zi_RWo (by omega) (by omega)]; exact c13.2.2.2.2.1) (by rw [← eG, zi_RWo (by omega) (by omega)]; exact c13.2.2.2.2.2)
          have rrG : RR x L s' hG := ⟨by rw [← eG, zi_RW43, ags.1], fun j hj => by rw [← eG, za_RW6]; exact ags.2 j (by rw [ags.1]; exact hj)⟩
          have h5G : zi hG 7 5 (x + 4) = nI lk := ((zG (x + 4) (by omega) (by omega) (by omega)).1 7 5).trans h513
          have wkG : WK τ ib x m S none hG := wk.iz ((zA _ (by omega) (by omega)).tr (zG _ (by omega) (by omega) (by omega))) (fun j hj => by have := ibz j hj; exact (zA _ (by omega) (by omega)).tr (zG _ (by omega) (by omega) (by omega)))
          obtain ⟨-, -, kx4G, -, -, -, -⟩ := cnt cG
          have khG : zk hG (hd m k) = 1 := by rw [sG.1]; exact kh13
          have zhG := zh.tr (zG (hd m k) (by omega) (by omega) (by omega))
          have cpl : cn (τ 22 (8 * m + k)) = pl := by rw [epl]; exact cn_nI (by omega)
          obtain ⟨h20, e20, c20, h520, s20, z20, wk20⟩ := comeC N hN V cG rrG okr h5G wkG (fr := i) (t := pl) (by omega)
          rw [e2, obs, if_neg n10, gI_at khG, (zhG.1 0 3).trans ch3, obs, rc_at kx4G, obs, epl, e20, obs]
          rw [show cn (nI pl) = pl from cn_nI (by omega)]
          have eH := comeS_hi (τ := τ) (L := L) (sz := cn (τ 14 m)) (fr := i) (t := pl) (r := s') eS
          have sAll : SZ h h20 := ((s11.tr s13).tr sG).tr s20
          cases ee : (comeS τ L (cn (τ 14 m)) i pl s' S).2 with
          | none =>
            rw [ee] at wk20
            obtain ⟨h', e', c', y', s', w'⟩ := ih (k + 1) n _ h20 (by omega) (by omega) c20 eH h520 wk20
            exact ⟨h', e', c', y', sAll.tr s', w'⟩
          | some e =>
            rw [ee] at wk20
            have he : e < 2 ^ 31 := by rcases comeS_e ee with z | z <;> omega
            have h4' : zi h20 7 4 (x + 4) = nI e := by
              rcases wk20 with ⟨e', z, y⟩ | ⟨z, -⟩
              · cases z; exact y
              · cases z
            obtain ⟨n, rfl⟩ : ∃ m, n = m + 1 := ⟨n - 1, by omega⟩
            exact ⟨h20, stopH N V c20 i he h4', c20, h520, sAll, wk20⟩
      · -- there is none
        rcases psh_A (P := P) ag0 (1 + τ 21 (8 * m + k)) with ⟨-, z2⟩ | ⟨s, s', z1, z2, ags⟩
        · rw [z2]
          dsimp only
          have self2 : (RW x h13 (nI ((0, za h13 (x + 6)) : Row).1) ((0, za h13 (x + 6)) : Row).2 (zi h13 5 2 (x + 7))) = h13 := self
          rw [self2] at e2
          rw [e2, obs, if_pos rfl, pI_at kx43, obs]
          have c18 : CS τ md ib x m L P h0 S (sti 7 4 (x + 4) (nI i) h13) := c13.x4 V SZ.sti (fun b hb => iz_sti hb)
          have y4 : zi (sti 7 4 (x + 4) (nI i) h13) 7 4 (x + 4) = nI i := by rw [zi_sti, if_pos ⟨rfl, rfl, rfl⟩]
          obtain ⟨n, rfl⟩ : ∃ m, n = m + 1 := ⟨n - 1, by omega⟩
          exact ⟨_, stopH N V c18 i (e := i) (by omega) y4, c18, by rw [zi_sti, if_neg (by omega)]; exact h513, (s11.tr s13).tr SZ.sti, Or.inl ⟨i, rfl, y4⟩⟩
        · rw [z1] at ep; cases ep
end
