/-- two rows meet, place by place from k on (d of them): what stands then, and whether something changed; none: they can't -/
def mtL (τ : Nat → Nat → Int32) (L : Nat) (g : Nat → Int32) : Nat → Nat → Bool → (Nat → Int32) → (Nat → Int32) × Option Bool
  | 0, _, ch, f => (f, some ch)
  | d + 1, k, ch, f => if L ≤ k ∧ mt τ (f k) (g k) = 99 then (f, none) else mtL τ L g d (k + 1) (ch || !(decide (mt τ (f k) (g k) = f k))) (fun i => if i = k then mt τ (f k) (g k) else f i)
def setT (S : VS) (t : Nat) (f : Nat → Int32) : VS := (S.1, fun i => if i = t then f else S.2.1 i, S.2.2)
def comeS (τ : Nat → Nat → Int32) (L sz fr t : Nat) (r : Row) (S : VS) : VS × Option Nat := if sz ≤ t then (S, some fr) else match S.1 t with
  | none => ((fun i => if i = t then some r.1 else S.1 i, fun i => if i = t then r.2 else S.2.1 i, fun i => if i = t then true else S.2.2 i), none)
  | some n => if n = r.1 then (match (mtL τ L r.2 (L + n) 0 false (S.2.1 t)).2 with
      | none => (setT S t (mtL τ L r.2 (L + n) 0 false (S.2.1 t)).1, some t)
      | some ch => ((S.1, fun i => if i = t then (mtL τ L r.2 (L + n) 0 false (S.2.1 t)).1 else S.2.1 i, fun i => if i = t then (S.2.2 t || ch) else S.2.2 i), none)) else (S, some t)
/-- what stays while method m is walked -/
def VC (τ : Nat → Nat → Int32) (kd md : Nat → Nat) (ib hd : Nat → Nat → Nat) (x m L P : Nat) (h0 : zH) : Prop := RC τ kd md ib hd x h0 ∧ WF τ ∧ m < cn (τ 6 0) ∧ τ 9 m = nI L ∧ τ 10 m = nI P ∧ L + P ≤ 12
/-- none below lm is marked -/
def LM (S : VS) (lm : Nat) : Prop := ∀ i, i < lm → S.2.2 i = false
/-- the walk's row is r -/
def RR (x L : Nat) (r : Row) (h : zH) : Prop := zi h 4 3 (x + 5) = nI r.1 ∧ ∀ k, k < L + r.1 → za h (x + 6) k = r.2 k
theorem RR.iz {x L : Nat} {r : Row} {h h' : zH} (p : RR x L r h) (q5 : iz h h' (x + 5)) (q6 : iz h h' (x + 6)) : RR x L r h' := ⟨(q5.1 4 3).trans p.1, fun k hk => (q6.2 k).trans (p.2 k hk)⟩
theorem copyL (N : Nat) {a b ta tb : Nat} (d : Nat) : ∀ (k n : Nat) (h : zH), k + d = 12 → d < n → zk h a = 5 → zr h 4 0 a = some ta → zk h b = 5 → zr h 4 0 b = some tb → zk h ta = 100 → zl h ta = 12 → zk h tb = 100 → zl h tb = 12 → ta ≠ tb → ∃ h', fX4_copy_b26 N n (some a) (some b) (nI k) h = some h' ∧ SZ h h' ∧ (∀ c, c ≠ ta → iz h h' c) ∧ (∀ c k, zi h' c k ta = zi h c k ta) ∧ ∀ i, za h' ta i = if k ≤ i ∧ i < 12 then za h tb i else za h ta i := by
  induction d with
  | zero =>
    intro k n h hk hn a1 a2 b1 b2 t1 t2 u1 u2 hne
    obtain ⟨n, rfl⟩ : ∃ m, n = m + 1 := ⟨n - 1, by omega⟩
    have e : k = 12 := by omega
    subst e
    refine ⟨h, ?_, SZ.rf, fun _ _ => iz.rf, fun _ _ => rfl, fun i => by rw [if_neg (by omega)]⟩
    unfold fX4_copy_b26
    rw [if_pos (by decide)]
  | succ d ih =>
    intro k n h hk hn a1 a2 b1 b2 t1 t2 u1 u2 hne
    obtain ⟨n, rfl⟩ : ∃ m, n = m + 1 := ⟨n - 1, by omega⟩
    obtain ⟨h', e, sz, iz', iz2, ai⟩ := ih (k + 1) n (sta ta k (za h tb k) h) (by omega) (by omega) a1 a2 b1 b2 t1 t2 u1 u2 hne
    refine ⟨h', ?_, SZ.sta.tr sz, fun c hc => (iz_sta hc).tr (iz' c hc), fun c k => iz2 c k, fun i => ?_⟩
    · unfold fX4_copy_b26
      rw [if_neg (show ¬ (12 : Int32) ≤ nI k from @nI_ge k 12 (by omega) (by decide)), gR_at a1, obs, gR_at b1, obs, a2, b2, aI_at 12 u1 u2 (by omega) (by decide), obs, sI_at 12 t1 t2 (by omega) (by decide), obs, nI_1, e]
    · have eu : za (sta ta k (za h tb k) h) tb i = za h tb i := by rw [za_sta, if_neg (fun q => hne q.1.symm)]
      rw [ai, eu, za_sta]
      by_cases q : i = k
      · rw [if_neg (by omega), if_pos ⟨rfl, q⟩, if_pos (by omega), q]
      · by_cases q2 : k ≤ i ∧ i < 12
        · rw [if_pos (by omega), if_pos q2]
        · rw [if_neg (by omega), if_neg (by omega), if_neg q2]
theorem copyC (N : Nat) (hN : 20 ≤ N) {a b ta tb : Nat} (h : zH) (a1 : zk h a = 5) (a2 : zr h 4 0 a = some ta) (b1 : zk h b = 5) (b2 : zr h 4 0 b = some tb) (t1 : zk h ta = 100) (t2 : zl h ta = 12) (u1 : zk h tb = 100) (u2 : zl h tb = 12) (hne : ta ≠ tb) (hab : a ≠ b) (hta : ta ≠ a) : ∃ h', fX4_copy N (some a) (some b) h = some h' ∧ SZ h h' ∧ (∀ c, c ≠ a → c ≠ ta → iz h h' c) ∧ (zi h' 4 1 a = zi h 4 1 b ∧ zi h' 4 2 a = zi h 4 2 b ∧ zi h' 4 3 a = zi h 4 3 b) ∧ ∀ i, i < 12 → za h' ta i = za h tb i := by
  have F : ∃ h3, h3 = sti 4 3 a (zi h 4 3 b) (sti 4 2 a (zi h 4 2 b) (sti 4 1 a (zi h 4 1 b) h)) ∧ SZ h h3 ∧ (∀ c, c ≠ a → iz h h3 c) ∧ (zi h3 4 1 a = zi h 4 1 b ∧ zi h3 4 2 a = zi h 4 2 b ∧ zi h3 4 3 a = zi h 4 3 b) ∧ (∀ c j, za h3 c j = za h c j) := by
    refine ⟨_, rfl, (SZ.sti.tr SZ.sti).tr SZ.sti, fun c hc => ((iz_sti hc).tr (iz_sti hc)).tr (iz_sti hc), ⟨?_, ?_, ?_⟩, fun c j => by rw [za_sti, za_sti, za_sti]⟩
    · rw [zi_sti, if_neg (by omega), zi_sti, if_neg (by omega), zi_sti, if_pos ⟨rfl, rfl, rfl⟩]
    · rw [zi_sti, if_neg (by omega), zi_sti, if_pos ⟨rfl, rfl, rfl⟩]
    · rw [zi_sti, if_pos ⟨rfl, rfl, rfl⟩]
  obtain ⟨h3, e3, s3, z3, ⟨v1, v2, v3⟩, za3⟩ := F
  obtain ⟨h', e', s', z', zi', ai⟩ := copyL N (a := a) (b := b) (ta := ta) (tb := tb) 12 0 N h3 (by omega) (by omega) (by rw [s3.1]; exact a1) (by rw [s3.2.1]; exact a2) (by rw [s3.1]; exact b1) (by rw [s3.2.1]; exact b2) (by rw [s3.1]; exact t1) (by rw [s3.2.2.1]; exact t2) (by rw [s3.1]; exact u1) (by rw [s3.2.2.1]; exact u2) hne
  have za' := z' a (Ne.symm hta)
  refine ⟨h', ?_, s3.tr s', fun c h1 h2 => (z3 c h1).tr (z' c h2), ⟨(za'.1 4 1).trans v1, (za'.1 4 2).trans v2, (za'.1 4 3).trans v3⟩, fun i hi => by rw [ai, if_pos (by omega)]; exact za3 tb i⟩
  rw [nI_0, e3] at e'
  unfold fX4_copy
  rw [gI_at b1, obs, pI_at a1, obs, gI_at (by rw [zk_sti]; exact b1), obs, pI_at (by rw [zk_sti]; exact a1), obs, gI_at (by rw [zk_sti, zk_sti]; exact b1), obs, pI_at (by rw [zk_sti, zk_sti]; exact a1), obs]
  have w2 : zi (sti 4 1 a (zi h 4 1 b) h) 4 2 b = zi h 4 2 b := by rw [zi_sti, if_neg (by omega)]
  have w3 : zi (sti 4 2 a (zi h 4 2 b) (sti 4 1 a (zi h 4 1 b) h)) 4 3 b = zi h 4 3 b := by rw [zi_sti, if_neg (by omega), zi_sti, if_neg (by omega)]
  rw [w2, w3]; exact e'
section
variable {τ : Nat → Nat → Int32} {kd md : Nat → Nat} {ib hd : Nat → Nat → Nat} {x m L P lk : Nat} {h0 h h' : zH} {S S' : VS}
theorem CS.rc' (c : CS τ md ib x m L P h0 S h) (V : VC τ kd md ib hd x m L P h0) (h5 : zi h 7 5 (x + 4) = nI lk) : RC (tv τ m lk S) kd md ib hd x h ∧ WF (tv τ m lk S) ∧ ∀ c i, (c < 23 ∨ 40 ≤ c) → tv τ m lk S c i = τ c i := by
  obtain ⟨p, w, hm, hL, hP, hb⟩ := V
  have M : MS τ m L P lk S (tv τ m lk S) := tv_MS w hm hb (fun i hi q e => by
    have := (c.2.2.2.1 i hi).2
    rw [e] at this
    exact this.2.1)
  exact ⟨c.rc p w hm hL hP hb M h5, M.WF w hm hP (by omega), M.1⟩
/-- one instruction's cells change -/
theorem CS.upd (c : CS τ md ib x m L P h0 S h) (V : VC τ kd md ib hd x m L P h0) {t : Nat} (ht : t < cn (τ 14 m)) (sz : SZ h h') (hz : ∀ b, b ≠ x + 4 → b ≠ ib m t → b ≠ ib m t + 1 → b ≠ ib m t + 2 → iz h h' b) (hk : ∀ k, k < 3 → zi h' 1 k (ib m t) = zi h 1 k (ib m t)) (h1 : ∀ i, i ≠ t → S'.1 i = S.1 i ∧ S'.2.1 i = S.2.1 i) (it : IT L P (cn (τ 0 0)) (S'.1 t) (S'.2.1 t) (ib m t) h') : CS τ md ib x m L P h0 S' h' := by
  obtain ⟨c1, c2, c3, c4, c5, c6⟩ := c
  obtain ⟨p, w, hm, hL, hP, hb⟩ := V
  have bt := (p.2.2.2.2.2.1 m t hm ht).2.1
  have bm := (p.2.2.2.2.1 m hm).2.1
  refine ⟨c1.tr sz, fun b hb => (c2 b hb).tr (hz b ?_ ?_ ?_ ?_), fun k => ?_, fun i hi => ?_, ?_, ?_⟩
  · exact fun q => hb (Or.inl (by omega))
  · exact fun q => hb (Or.inr (Or.inr ⟨t, 0, ht, by omega, q⟩))
  · exact fun q => hb (Or.inr (Or.inr ⟨t, 1, ht, by omega, q⟩))
  · exact fun q => hb (Or.inr (Or.inr ⟨t, 2, ht, by omega, q⟩))
  · have d := p.TI hm hm ht
    rw [(hz (md m) (by omega) (d 0 0 (by omega) (by omega)) (d 0 1 (by omega) (by omega)) (d 0 2 (by omega) (by omega))).1]
    exact c3 k
  · obtain ⟨a1, a2⟩ := c4 i hi
    by_cases e : i = t
    · subst e
      exact ⟨fun k hk3 => (hk k hk3).trans (a1 k hk3), it⟩
    · have bi := (p.2.2.2.2.2.1 m i hm hi).2.1
      have d := p.II hm hi hm ht (fun z => e z.2)
      have q : ∀ j, j < 3 → iz h h' (ib m i + j) := fun j hj => hz _ (by omega) (d j 0 hj (by omega)) (d j 1 hj (by omega)) (d j 2 hj (by omega))
      rw [(h1 i e).1, (h1 i e).2]
      exact ⟨fun k hk3 => ((q 0 (by omega)).1 1 k).trans (a1 k hk3), a2.iz (q 0 (by omega)) (q 1 (by omega)) (q 2 (by omega))⟩
  · rw [(hz (x + 5) (by omega) (by omega) (by omega) (by omega)).1]; exact c5
  · rw [(hz (x + 5) (by omega) (by omega) (by omega) (by omega)).1]; exact c6
theorem meetLoop (N : Nat) (hN : 40 ≤ N) (V : VC τ kd md ib hd x m L P h0) {t q : Nat} (ht : t < cn (τ 14 m)) {r : Row} (okr : okR L P (cn (τ 0 0)) r) (hq : q = r.1) (eS : S.1 t = some q) (d : Nat) : ∀ (k n : Nat) (ch : Bool) (f : Nat → Int32) (h : zH), k + d = L + q → d < n → CS τ md ib x m L P h0 (setT S t f) h → RR x L r h → zi h 7 5 (x + 4) = nI lk → ∃ b h', fX4_meet_b18 N n (some (ib m t + 1)) (some (x + 5)) (some (x + 1)) (if ch then 1 else 0) (nI k) h = some (b, h') ∧ CS τ md ib x m L P h0 (setT S t (mtL τ L r.2 d k ch f).1) h' ∧ b = (match (mtL τ L r.2 d k ch f).2 with | none => 2 | some c => if c then 1 else 0) ∧ SZ h h' ∧ ∀ b, b ≠ ib m t + 2 → iz h h' b := by
  have V' := V
  obtain ⟨p, w, hm, hL, hP, hb⟩ := V'
  have hqP := okr.1
  obtain ⟨-, bt1, bt2, ri, -⟩ := p.2.2.2.2.2.1 m t hm ht
  induction d with
  | zero =>
    intro k n ch f h hk hn c rr h5
    obtain ⟨n, rfl⟩ : ∃ m, n = m + 1 := ⟨n - 1, by omega⟩
    obtain ⟨-, it⟩ := c.2.2.2.1 t ht
    have e1 : (setT S t f).1 t = some q := eS
    rw [e1] at it
    obtain ⟨i1, i2, i3, i4, i5, i6⟩ := it
    have k5 : zk h (ib m t + 1) = 5 := by rw [c.1.1]; exact ri.1.2.1
    refine ⟨if ch then 1 else 0, h, ?_, c, rfl, SZ.rf, fun _ _ => iz.rf⟩
    rw [fX4_meet_b18, gI_at k5, obs, gI_at k5, obs, i3, i5, nI_add, if_pos (nI_le (by omega) (by omega))]
  | succ d ih =>
    intro k n ch f h hk hn c rr h5
    obtain ⟨n, rfl⟩ : ∃ m, n = m + 1 := ⟨n - 1, by omega⟩
    obtain ⟨ik, it⟩ := c.2.2.2.1 t ht
    have e1 : (setT S t f).1 t = some q := eS
    have e2 : (setT S t f).2.1 t = f := by show (if t = t then f else S.2.1 t) = f; rw [if_pos rfl]
    rw [e1, e2] at it
    obtain ⟨i1, i2, i3, i4, i5, i6⟩ := it
    have k5 : zk h (ib m t + 1) = 5 := by rw [c.1.1]; exact ri.1.2.1
    have k6 : zk h (ib m t + 2) = 100 := by rw [c.1.1]; exact ri.1.2.2.1
    have l6 : zl h (ib m t + 2) = 12 := by rw [c.1.2.2.1]; exact ri.1.2.2.2.2.2
    have r5 : zr h 4 0 (ib m t + 1) = some (ib m t + 2) := by rw [c.1.2.1]; exact ri.1.2.2.2.2.1
    have kx5 : zk h (x + 5) = 5 := by rw [c.1.1]; exact p.1.1.2.2.2.2.2.1
    have kx6 : zk h (x + 6) = 100 := by rw [c.1.1]; exact p.1.1.2.2.2.2.2.2.1
    have kx1 : zk h (x + 1) = 7 := by rw [c.1.1]; exact p.1.1.2.1
    have lx6 : zl h (x + 6) = 12 := by rw [c.1.2.2.1]; exact p.1.2.2.2.2
    have rx5 : zr h 4 0 (x + 5) = some (x + 6) := by rw [c.1.2.1]; exact p.1.2.1.2.2.2.2.2.2.2.1
    obtain ⟨pr, wr, cr⟩ := c.rc' V h5
    have ef := (i6 k (by omega)).1
    have vf := (i6 k (by omega)).2
    have vr := okr.2 k (by omega)
    have z0 : tv τ m lk (setT S t f) 0 0 = τ 0 0 := cr 0 0 (by omega)
    have mc := meetC N hN pr wr (a := f k) (b := r.2 k) (by rw [z0]; exact vf) (by rw [z0]; exact vr)
    rw [mt_T (fun i => cr 1 i (by omega))] at mc
    obtain ⟨vm, -⟩ := mt_ok w vf vr
    have A1 := aI_at (κ := 100) (i := k) 12 k6 l6 (by omega) (by decide)
    have A2 := aI_at (κ := 100) (i := k) 12 kx6 lx6 (by omega) (by decide)
    rw [ef] at A1
    rw [rr.2 k (by omega)] at A2
    have E0 : fX4_meet_b18 N (n + 1) (some (ib m t + 1)) (some (x + 5)) (some (x + 1)) (if ch then 1 else 0) (nI k) h = if nI k < nI L then fX4_meet_b77 N (fX4_meet_b18 N n) (some (ib m t + 1)) (some (x + 5)) (some (x + 1)) (if ch then 1 else 0) (nI k) (mt τ (f k) (r.2 k)) h else if mt τ (f k) (r.2 k) = 99 then some (2, h) else fX4_meet_b77 N (fX4_meet_b18 N n) (some (ib m t + 1)) (some (x + 5)) (some (x + 1)) (if ch then 1 else 0) (nI k) (mt τ (f k) (r.2 k)) h := by
      rw [fX4_meet_b18, gI_at k5, obs, gI_at k5, obs, i3, i5, nI_add, if_neg (nI_ge (by omega) (by omega)), if_neg (show ¬ (12 : Int32) ≤ nI k from @nI_ge k 12 (by omega) (by decide)), gR_at k5, obs, r5, A1, obs, gR_at kx5, obs, rx5, A2, obs, rc_at kx1, obs, mc, obs, gI_at k5, obs, i3]
    rw [E0, mtL]
    by_cases hc : L ≤ k ∧ mt τ (f k) (r.2 k) = 99
    · refine ⟨2, h, by rw [if_neg (nI_nlt hc.1 (by omega)), if_pos hc.2], ?_, ?_, SZ.rf, fun _ _ => iz.rf⟩
      · rw [if_pos hc]; exact c
      · rw [if_pos hc]
    · have E1 : (if nI k < nI L then fX4_meet_b77 N (fX4_meet_b18 N n) (some (ib m t + 1)) (some (x + 5)) (some (x + 1)) (if ch then 1 else 0) (nI k) (mt τ (f k) (r.2 k)) h else if mt τ (f k) (r.2 k) = 99 then some (2, h) else fX4_meet_b77 N (fX4_meet_b18 N n) (some (ib m t + 1)) (some (x + 5)) (some (x + 1)) (if ch then 1 else 0) (nI k) (mt τ (f k) (r.2 k)) h) = fX4_meet_b77 N (fX4_meet_b18 N n) (some (ib m t + 1)) (some (x + 5)) (some (x + 1)) (if ch then 1 else 0) (nI k) (mt τ (f k) (r.2 k)) h := by
        by_cases z : k < L
        · rw [if_pos (nI_lt z (by omega))]
        · rw [if_neg (nI_nlt (by omega) (by omega)), if_neg (fun y => hc ⟨by omega, y⟩)]
      rw [E1, if_neg hc]
      unfold fX4_meet_b77 fX4_meet_b100
      rw [gR_at k5, obs, r5, A1, obs]
      by_cases ee : mt τ (f k) (r.2 k) = f k
      · have fe : (fun i => if i = k then mt τ (f k) (r.2 k) else f i) = f := by
          funext i
          by_cases z : i = k
          · rw [if_pos z, ee, z]
          · rw [if_neg z]
        rw [if_pos ee, fe, decide_eq_true ee]
        obtain ⟨b, h', e', c', eb, s', z'⟩ := ih (k + 1) n ch f h (by omega) (by omega) c rr h5
        rw [show (ch || !true) = ch by simp]
        exact ⟨b, h', by rw [nI_1]; exact e', c', eb, s', z'⟩
      · have s1 := sI_at (v := mt τ (f k) (r.2 k)) (i := k) 12 k6 l6 (by omega) (by decide)
        rw [if_neg ee, obs, s1, obs, decide_eq_false ee]
        rw [show (ch || !false) = true by simp]
        have c1 : CS τ md ib x m L P h0 (setT S t (fun i => if i = k then mt τ (f k) (r.2 k) else f i)) (sta (ib m t + 2) k (mt τ (f k) (r.2 k)) h) := by
          refine c.upd V ht SZ.sta (fun b _ _ _ h2 => iz_sta h2) (fun k' _ => rfl) (fun i hi => ⟨rfl, ?_⟩) ?_
          · show (if i = t then _ else S.2.1 i) = if i = t then f else S.2.1 i
            rw [if_neg hi, if_neg hi]
          · have e3 : (setT S t (fun i => if i = k then mt τ (f k) (r.2 k) else f i)).2.1 t = fun i => if i = k then mt τ (f k) (r.2 k) else f i := by
              show (if t = t then _ else S.2.1 t) = _; rw [if_pos rfl]
            have e4 : (setT S t (fun i => if i = k then mt τ (f k) (r.2 k) else f i)).1 t = some q := eS
            rw [e3, e4]
            refine ⟨i1, i2, i3, i4, i5, fun j hj => ?_⟩
            show za _ _ j = (if j = k then mt τ (f k) (r.2 k) else f j) ∧ vT _ (if j = k then mt τ (f k) (r.2 k) else f j)
            rw [za_sta]
            by_cases z : j = k
            · rw [if_pos ⟨rfl, z⟩, if_pos z]; exact ⟨rfl, vm⟩
            · rw [if_neg (fun y => z y.2), if_neg z]; exact i6 j hj
        have rr1 : RR x L r (sta (ib m t + 2) k (mt τ (f k) (r.2 k)) h) := rr.iz (iz_sta (by omega)) (iz_sta (by omega))
        obtain ⟨b, h', e', c', eb, s', z'⟩ := ih (k + 1) n true _ _ (by omega) (by omega) c1 rr1 h5
        exact ⟨b, h', by rw [nI_1]; exact e', c', eb, SZ.sta.tr s', fun b hb => (iz_sta hb).tr (z' b hb)⟩
end
