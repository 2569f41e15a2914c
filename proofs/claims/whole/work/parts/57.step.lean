section
variable {x L P : Nat} {h0 h : zH} {τ : Nat → Nat → Int32} {kd md : Nat → Nat} {ib hd : Nat → Nat → Nat}
/-- behind the parameters -/
def invEnd (N : Nat) (l0 l1 : Option Nat) (l2 : Int32) (l3 : Option Nat) (h : zH) : Option zH := if l2 = 0 then (fX5_invoke_b115 N l0 l3 h) else ((gI 1 1 l1 h).bind fun v3 => (rc 5 l0 h).bind fun _ => (fX5_takeInto l0 (1 + v3) h).bind fun h4 => fX5_invoke_b115 N l0 l3 h4)
theorem parsJ (N : Nat) (p : RC τ kd md ib hd x h0) (w : WF τ) (E : RE x h0 L P) {a u fr : Nat} (hu : u < cn (τ 6 0)) (hfr : fr ≤ 1) (l2 : Int32) (k : Nat) : ∀ (n : Nat) (o : Option Row) (h : zH), k < n → k ≤ cn (τ 11 u) → JC x h0 L P (cn (τ 0 0)) o h → ∃ h', fX5_invoke_b78 N n (some (x + 7)) (some a) l2 (some (md u)) (nI fr) (nI k - 1) h = invEnd N (some (x + 7)) (some a) l2 (some (md u)) h' ∧ JC x h0 L P (cn (τ 0 0)) (o.bind (pars τ L u fr k)) h' := by
  have wm := w.2.2.2.1 u hu
  have h8 := wm.2.2.2.1.2.1
  induction k with
  | zero =>
    intro n o h hn hk j
    obtain ⟨n, rfl⟩ : ∃ m, n = m + 1 := ⟨n - 1, by omega⟩
    refine ⟨h, ?_, ?_⟩
    · rw [fX5_invoke_b78, if_pos]
      · rfl
      · rcases (show fr = 0 ∨ fr = 1 by omega) with rfl | rfl <;> decide
    · cases o with
      | none => exact j
      | some r => exact j
  | succ k ih =>
    intro n o h hn hk j
    obtain ⟨n, rfl⟩ : ∃ m, n = m + 1 := ⟨n - 1, by omega⟩
    by_cases q : k < fr
    · refine ⟨h, ?_, ?_⟩
      · rw [fX5_invoke_b78, nI_pred, if_pos (nI_lt q (by omega))]
        rfl
      · cases o with
        | none => exact j
        | some r =>
          rw [obs, pars, if_pos q]; exact j
    · have pa := parAt_at (j.rc p) w hu (k := k) (by omega)
      obtain ⟨h1, e1, j1⟩ := takeIntoJ p w E j (t := τ 12 (8 * u + k)) (fun _ => Or.inl (wm.2.2.2.2.1 k (by omega)))
      obtain ⟨h', e', j'⟩ := ih n _ h1 (by omega) (by omega) j1
      have mu : zk h (md u) = 4 := (j.k _).trans (p.2.2.2.2.1 u hu).2.2.2.1.1
      refine ⟨h', ?_, ?_⟩
      · rw [fX5_invoke_b78, nI_pred, if_neg (nI_nlt (by omega) (by omega)), rc_at mu, obs, pa, obs, rc_at (j.z7 E), obs, e1, obs, show nI k + (-1) = nI k - 1 from (Int32.sub_eq_add_neg _ _).symm, e']
      · cases o with
        | none => exact j'
        | some r =>
          rw [obs, pars, if_neg q]; exact j'
theorem givJ (N : Nat) (p : RC τ kd md ib hd x h0) (w : WF τ) (E : RE x h0 L P) {u : Nat} (hu : u < cn (τ 6 0)) {o : Option Row} (j : JC x h0 L P (cn (τ 0 0)) o h) : ∃ h', fX5_invoke_b115 N (some (x + 7)) (some (md u)) h = some h' ∧ JC x h0 L P (cn (τ 0 0)) (o.bind (givn τ L P u)) h' := by
  have mu : zk h (md u) = 4 := (j.k _).trans (p.2.2.2.2.1 u hu).2.2.2.1.1
  have gu : zi h 3 1 (md u) = τ 8 u := (j.i 1 (md u) (by decide) (by decide)).trans (p.2.2.2.2.1 u hu).2.2.2.2.1.2.1
  unfold fX5_invoke_b115
  rw [gI_at mu, gu, obs]
  rcases (w.2.2.2.1 u hu).2.1 with e | ok
  · refine ⟨h, by rw [if_pos e], ?_⟩
    cases o with
    | none => exact j
    | some r =>
      rw [obs]; unfold givn; rw [e, if_pos m1neg]; exact j
  · have okn := okT_ne w.1.2 ok
    obtain ⟨h1, e1, j1⟩ := putJ E j (v := τ 8 u) (fun _ => Or.inl ok)
    refine ⟨h1, by rw [if_neg okn.1, obs, rc_at (j.z7 E), obs, e1, obs], ?_⟩
    cases o with
    | none => exact j1
    | some r =>
      rw [obs]; unfold givn; rw [if_neg okn.2]; exact j1
theorem invJ (N : Nat) (hN : 20 ≤ N) (p : RC τ kd md ib hd x h0) (w : WF τ) (E : RE x h0 L P) {r : Row} (j : JC x h0 L P (cn (τ 0 0)) (some r) h) {a m o : Nat} (ka : zk h0 a = 2) (h35 : 35 ≤ o) (h36 : o ≤ 36) (i0 : zi h0 1 0 a = nI o) {X Y : Int32} (i1 : zi h0 1 1 a = X) (i2 : zi h0 1 2 a = Y) (hx : o = 35 → ∃ u, u < cn (τ 6 0) ∧ X = nI u) (hy : o = 36 → ∃ c s q, c < cn (τ 0 0) ∧ X = nI c ∧ s < 16 ∧ Y = nI s ∧ q < cn (τ 6 0) ∧ τ 5 (16 * c + s) = nI q) : ∃ h', fX5_invoke N (some (x + 7)) (some a) h = some h' ∧ JC x h0 L P (cn (τ 0 0)) (fitS τ L P m o X Y r) h' := by
  have hn := w.1.2
  have h6 := w.2.1.2
  have ka' : ∀ {o h}, JC x h0 L P (cn (τ 0 0)) o h → zk h a = 2 := fun j => (j.k a).trans ka
  have i0' : zi h 1 0 a = nI o := (j.i 0 a (by decide) (by decide)).trans i0
  have i1' : ∀ {o h}, JC x h0 L P (cn (τ 0 0)) o h → zi h 1 1 a = X := fun j => (j.i 1 a (by decide) (by decide)).trans i1
  have i2' : ∀ {o h}, JC x h0 L P (cn (τ 0 0)) o h → zi h 1 2 a = Y := fun j => (j.i 2 a (by decide) (by decide)).trans i2
  have z7 := j.z7 E
  have m7 : ∀ u, u < cn (τ 6 0) → zk h (md u) = 4 ∧ zi h 3 7 (md u) = nI (cn (τ 11 u)) ∧ cn (τ 11 u) ≤ 8 := fun u hu => by
    have rt := (p.2.2.2.2.1 u hu).2.2.2
    have w4 := (w.2.2.2.1 u hu).2.2.2.1
    exact ⟨(j.k _).trans rt.1.1, (j.i 7 (md u) (by decide) (by decide)).trans (rt.2.1.2.2.2.2.1.trans (nI_of_cn w4.1)), w4.2.1⟩
  unfold fX5_invoke
  rw [gI_at (ka' j), i0', obs]
  rcases (show o = 35 ∨ o = 36 by omega) with rfl | rfl
  · obtain ⟨u, hu, rfl⟩ := hx rfl
    obtain ⟨mu, c7, c8⟩ := m7 u hu
    have ma := methodAt_at (j.rc p) w hu
    obtain ⟨h1, e1, j1⟩ := parsJ N p w E (a := a) hu (fr := 0) (by omega) 0 (cn (τ 11 u)) N _ h (by omega) (Nat.le_refl _) j
    obtain ⟨h2, e2, j2⟩ := givJ N p w E hu j1
    refine ⟨h2, ?_, ?_⟩
    · rw [if_neg (by decide), fX5_invoke_b14, if_pos rfl, gR_at z7, j.r50 E, obs, gI_at (ka' j), i1' j, obs, rc_at (j.z1 E), obs, ma, obs, fX5_invoke_b48, if_neg (fun q => by cases q), if_pos rfl, fX5_invoke_b68, gI_at mu, c7, obs]
      rw [nI_0] at e1
      rw [e1, invEnd, if_pos rfl, e2]
    · show JC x h0 L P _ ((pars τ L (cn (nI u)) 0 (cn (τ 11 (cn (nI u)))) r).bind (givn τ L P (cn (nI u)))) h2
      rw [cn_nI (by omega)]; exact j2
  · obtain ⟨c, s, u, hc, rfl, hs, rfl, hu, e5⟩ := hy rfl
    obtain ⟨mu, c7, c8⟩ := m7 u hu
    have ma := methodInSlot_at (j.rc p) w hc hs hu e5
    obtain ⟨h1, e1, j1⟩ := parsJ N p w E (a := a) hu (fr := 1) (by omega) 1 (cn (τ 11 u)) N _ h (by omega) (Nat.le_refl _) j
    obtain ⟨h2, e2, j2⟩ := takeIntoJ p w E j1 (t := 1 + nI c) (fun _ => vT1 hc)
    obtain ⟨h3, e3, j3⟩ := givJ N p w E hu j2
    refine ⟨h3, ?_, ?_⟩
    · rw [if_pos (by decide), fX5_invoke_b14, if_neg n10, gR_at z7, j.r50 E, obs, gI_at (ka' j), i1' j, obs, gI_at (ka' j), i2' j, obs, rc_at (j.z1 E), obs, ma, obs, fX5_invoke_b48, if_neg (fun q => by cases q), if_neg n10, fX5_invoke_b68, gI_at mu, c7, obs]
      rw [show nI 1 = (1 : Int32) from rfl] at e1
      rw [e1, invEnd, if_neg n10, gI_at (ka' j1), i1' j1, obs, rc_at (j1.z7 E), obs, e2, obs, e3]
    · show JC x h0 L P _ ((pars τ L (cn (τ 5 (16 * cn (nI c) + cn (nI s)))) 1 (cn (τ 11 (cn (τ 5 (16 * cn (nI c) + cn (nI s)))))) r).bind fun s' => (pT τ L (1 + nI c) s').bind (givn τ L P (cn (τ 5 (16 * cn (nI c) + cn (nI s)))))) h3
      rw [cn_nI (by omega), cn_nI (by omega), e5, cn_nI (by omega)]
      rw [obs] at j3
      cases ep : pars τ L u 1 (cn (τ 11 u)) r with
      | none => rw [ep] at j3; exact j3
      | some s' => rw [ep] at j3; exact j3
theorem leaveJ (p : RC τ kd md ib hd x h0) (w : WF τ) (E : RE x h0 L P) {r : Row} (j : JC x h0 L P (cn (τ 0 0)) (some r) h) {m o : Nat} (hm : m < cn (τ 6 0)) (h37 : 37 ≤ o) (h41 : o ≤ 41) {X Y : Int32} : ∃ h', fX5_leaveOrTalk (some (x + 7)) (some (md m)) (nI o) h = some h' ∧ JC x h0 L P (cn (τ 0 0)) (fitS τ L P m o X Y r) h' := by
  have hn := w.1.2
  have z7 := j.z7 E
  have rt := (p.2.2.2.2.1 m hm).2.2.2
  have mu : ∀ {o h}, JC x h0 L P (cn (τ 0 0)) o h → zk h (md m) = 4 := fun j => (j.k _).trans rt.1.1
  have gu : ∀ {o h}, JC x h0 L P (cn (τ 0 0)) o h → zi h 3 1 (md m) = τ 8 m := fun j => (j.i 1 (md m) (by decide) (by decide)).trans rt.2.1.2.1
  have g8 := (w.2.2.2.1 m hm).2.1
  unfold fX5_leaveOrTalk
  rcases (show o = 37 ∨ o = 38 ∨ o = 39 ∨ o = 40 ∨ o = 41 by omega) with rfl | rfl | rfl | rfl | rfl
  · rw [if_pos (by decide), gI_at (mu j), gu j, obs]
    rcases g8 with e | ok
    · obtain ⟨h1, e1, j1⟩ := needJ E j (b := 1) (Or.inr rfl)
      refine ⟨h1, by rw [if_pos e, fX5_leaveOrTalk_b46, rc_at z7, obs, e1, obs], ?_⟩
      show JC x h0 L P _ (if τ 8 m < 0 then some r else none) h1
      rw [e, if_pos m1neg]; exact j1
    · have okn := okT_ne hn ok
      obtain ⟨h1, e1, j1⟩ := needJ E j (b := 0) (Or.inl rfl)
      refine ⟨h1, by rw [if_neg okn.1, fX5_leaveOrTalk_b46, rc_at z7, obs, e1, obs], ?_⟩
      show JC x h0 L P _ (if τ 8 m < 0 then some r else none) h1
      rw [if_neg okn.2]; exact j1
  · rw [if_neg (by decide), if_pos (by decide), gI_at (mu j), gu j, obs]
    rcases g8 with e | ok
    · obtain ⟨h1, e1, j1⟩ := needJ E j (b := 0) (Or.inl rfl)
      rw [if_pos rfl] at j1
      obtain ⟨h2, e2, j2⟩ := takeIntoJ p w E j1 (t := τ 8 m) (fun z => absurd rfl z)
      refine ⟨h2, by rw [if_pos e, fX5_leaveOrTalk_b66, rc_at z7, obs, e1, obs, gI_at (mu j1), gu j1, obs, rc_at (j1.z7 E), obs, e2, obs], ?_⟩
      show JC x h0 L P _ (if τ 8 m < 0 then none else pT τ L (τ 8 m) r) h2
      rw [e, if_pos m1neg]; exact j2
    · have okn := okT_ne hn ok
      obtain ⟨h1, e1, j1⟩ := needJ E j (b := 1) (Or.inr rfl)
      rw [if_neg n10] at j1
      obtain ⟨h2, e2, j2⟩ := takeIntoJ p w E j1 (t := τ 8 m) (fun _ => Or.inl ok)
      refine ⟨h2, by rw [if_neg okn.1, fX5_leaveOrTalk_b66, rc_at z7, obs, e1, obs, gI_at (mu j1), gu j1, obs, rc_at (j1.z7 E), obs, e2, obs], ?_⟩
      show JC x h0 L P _ (if τ 8 m < 0 then none else pT τ L (τ 8 m) r) h2
      rw [if_neg okn.2]; exact j2
  · rw [if_neg (by decide), if_neg (by decide), if_pos (by decide), rc_at z7, obs]
    obtain ⟨v, h1, e1, ⟨o1, j1⟩, hq, hc⟩ := takeN E hn j
    rw [e1, obs]
    have kt : ∃ b, fX8_isKindType v h1 = some (b, h1) ∧ (b = 0 ∨ b = 1) ∧ (b = if isCl v then 1 else 0) := by
      unfold fX8_isKindType isCl
      by_cases q1 : v < 1
      · refine ⟨0, by rw [if_pos q1], Or.inl rfl, ?_⟩
        have : ¬ (0 : Int32) < v := by
          rw [Int32.lt_iff_toInt_lt] at q1 ⊢
          have e1 : (1 : Int32).toInt = 1 := rfl
          have e0 : (0 : Int32).toInt = 0 := rfl
          omega
        rw [decide_eq_false this]; rfl
      · rw [if_neg q1]
        have l1 : (0 : Int32) < v := by
          rw [Int32.lt_iff_toInt_lt] at q1 ⊢
          have e1 : (1 : Int32).toInt = 1 := rfl
          have e0 : (0 : Int32).toInt = 0 := rfl
          omega
        rw [decide_eq_true l1]
        by_cases q2 : 33 ≤ v
        · refine ⟨0, by rw [if_pos q2], Or.inl rfl, ?_⟩
          have : ¬ v ≤ 32 := by
            rw [Int32.le_iff_toInt_le] at q2 ⊢
            have e1 : (33 : Int32).toInt = 33 := rfl
            have e0 : (32 : Int32).toInt = 32 := rfl
            omega
          rw [decide_eq_false this]; rfl
        · refine ⟨1, by rw [if_neg q2], Or.inr rfl, ?_⟩
          have : v ≤ 32 := by
            rw [Int32.le_iff_toInt_le] at q2 ⊢
            have e1 : (33 : Int32).toInt = 33 := rfl
            have e0 : (32 : Int32).toInt = 32 := rfl
            omega
          rw [decide_eq_true this]; rfl
    obtain ⟨b, eb, hb, hbv⟩ := kt
    rw [eb, obs]
    cases ei : isCl v
    · rw [ei, bF] at hbv
      subst hbv
      by_cases q7 : v = 97
      · obtain ⟨h2, e2, j2⟩ := hc (fun v => decide (v = 97) || isCl v) 1 (Or.inr rfl) (fun _ _ => by rw [decide_eq_true q7]; rfl)
        exact ⟨h2, by rw [if_pos rfl, if_pos q7, fX5_leaveOrTalk_b99, fX5_leaveOrTalk_b104, rc_at (j1.z7 E), obs, e2, obs], j2⟩
      · obtain ⟨h2, e2, j2⟩ := hc (fun v => decide (v = 97) || isCl v) 0 (Or.inl rfl) (fun _ _ => by rw [decide_eq_false q7, ei]; rfl)
        exact ⟨h2, by rw [if_pos rfl, if_neg q7, fX5_leaveOrTalk_b104, rc_at (j1.z7 E), obs, e2, obs], j2⟩
    · rw [ei, bT] at hbv
      subst hbv
      obtain ⟨h2, e2, j2⟩ := hc (fun v => decide (v = 97) || isCl v) 1 (Or.inr rfl) (fun _ _ => by rw [ei, Bool.or_true]; rfl)
      exact ⟨h2, by rw [if_neg n10, fX5_leaveOrTalk_b99, fX5_leaveOrTalk_b104, rc_at (j1.z7 E), obs, e2, obs], j2⟩
  · obtain ⟨h1, e1, j1⟩ := putJ E j (v := 0) (fun _ => vT0)
    exact ⟨h1, by rw [if_neg (by decide), if_neg (by decide), if_neg (by decide), if_pos (by decide), rc_at z7, obs, e1, obs], j1⟩
  · obtain ⟨h1, e1, j1⟩ := takeIntJ E hn j
    exact ⟨h1, by rw [if_neg (by decide), if_neg (by decide), if_neg (by decide), if_neg (by decide), rc_at z7, obs, e1, obs], j1⟩
theorem endJ (N : Nat) {n : Nat} (E : RE x h0 L P) {o : Option Row} (j : JC x h0 L P n o h) : fX5_perform_b122 N (some (x + 7)) h = some (if o.isSome then 1 else 0, h) := by
  have z7 := j.z7 E
  unfold fX5_perform_b122
  rw [gI_at z7, obs]
  cases o with
  | none => obtain ⟨ht, ty, rfl⟩ := j; rw [zi_RW52]; exact rZ0
  | some r => obtain ⟨ok, rfl⟩ := j; rw [zi_RW52]; exact rZ1
theorem perfJ (N : Nat) (hN : 20 ≤ N) (p : RC τ kd md ib hd x h0) (w : WF τ) {m i : Nat} (E : RE x h0 (cn (τ 9 m)) P) (hm : m < cn (τ 6 0)) (hi : i < cn (τ 14 m)) {r : Row} (ok : okR (cn (τ 9 m)) P (cn (τ 0 0)) r) (ft : Int32) : ∃ h', fX5_perform N (some (x + 7)) (some (md m)) (some (ib m i)) (RW x h0 (nI r.1) r.2 ft) = some (if (fitS τ (cn (τ 9 m)) P m (cn (τ 15 (200 * m + i))) (τ 16 (200 * m + i)) (τ 17 (200 * m + i)) r).isSome then 1 else 0, h') ∧ JC x h0 (cn (τ 9 m)) P (cn (τ 0 0)) (fitS τ (cn (τ 9 m)) P m (cn (τ 15 (200 * m + i))) (τ 16 (200 * m + i)) (τ 17 (200 * m + i)) r) h' := by
  have hn := w.1.2
  obtain ⟨-, -, -, ri, -⟩ := p.2.2.2.2.2.1 m i hm hi
  obtain ⟨o, ho, eo, q1, q2, q3, q4, q5, q6, q7⟩ := (w.2.2.2.1 m hm).2.2.2.2.2.2.2.2.2.1 i hi
  have ka : zk h0 (ib m i) = 2 := ri.1.1
  have i0 : zi h0 1 0 (ib m i) = nI o := ri.2.1.trans eo
  have i1 : zi h0 1 1 (ib m i) = τ 16 (200 * m + i) := ri.2.2.1
  have i2 : zi h0 1 2 (ib m i) = τ 17 (200 * m + i) := ri.2.2.2
  have co : cn (τ 15 (200 * m + i)) = o := by rw [eo]; exact cn_nI (by omega)
  rw [co]
  generalize τ 16 (200 * m + i) = X at *
  generalize τ 17 (200 * m + i) = Y at *
  have j : JC x h0 (cn (τ 9 m)) P (cn (τ 0 0)) (some r) (RW x h0 (nI r.1) r.2 1) := ⟨ok, rfl⟩
  have z7 := j.z7 E
  have k7 : zk (RW x h0 (nI r.1) r.2 ft) (x + 7) = 6 := E.1.1.2.2.2.2.2.2.2
  have ka' : zk (RW x h0 (nI r.1) r.2 1) (ib m i) = 2 := ka
  have i0' : zi (RW x h0 (nI r.1) r.2 1) 1 0 (ib m i) = nI o := by rw [zi_RWo (by omega) (by omega)]; exact i0
  have P0 : fX5_perform N (some (x + 7)) (some (md m)) (some (ib m i)) (RW x h0 (nI r.1) r.2 ft) = (if 6 < nI o then (if 18 < nI o then (if 25 < nI o then (if 30 < nI o then (if 34 < nI o then (if 36 < nI o then (fX5_leaveOrTalk (some (x + 7)) (some (md m)) (nI o) (RW x h0 (nI r.1) r.2 1)).bind (fX5_perform_b122 N (some (x + 7))) else (fX5_invoke N (some (x + 7)) (some (ib m i)) (RW x h0 (nI r.1) r.2 1)).bind (fX5_perform_b122 N (some (x + 7)))) else (fX5_useRow (some (x + 7)) (some (ib m i)) (RW x h0 (nI r.1) r.2 1)).bind (fX5_perform_b122 N (some (x + 7)))) else (fX5_useObject (some (x + 7)) (some (ib m i)) (RW x h0 (nI r.1) r.2 1)).bind (fX5_perform_b122 N (some (x + 7)))) else (fX5_branch (some (x + 7)) (nI o) (RW x h0 (nI r.1) r.2 1)).bind (fX5_perform_b122 N (some (x + 7)))) else (fX5_reckon (some (x + 7)) (nI o) (RW x h0 (nI r.1) r.2 1)).bind (fX5_perform_b122 N (some (x + 7)))) else (fX5_move (some (x + 7)) (some (ib m i)) (RW x h0 (nI r.1) r.2 1)).bind (fX5_perform_b122 N (some (x + 7)))) := by
    unfold fX5_perform
    simp only [pZ1_at, k7, RW_f, gI_at, ka', i0', rc_at, z7, obs]
  have L0 : ∀ (k : Nat), k < 100 → o ≤ k → ¬ nI k < nI o := fun k hk h => nI_nlt h (by omega)
  have L1 : ∀ (k : Nat), k < 100 → k < o → nI k < nI o := fun k hk h => nI_lt h (by omega)
  rw [P0]
  by_cases h6 : o ≤ 6
  · obtain ⟨h', e, j'⟩ := moveJ τ E hn j (m := m) (X := X) (Y := Y) ka h6 i0 i1 q1
    exact ⟨h', by rw [if_neg (show ¬ (6 : Int32) < nI o from L0 6 (by omega) h6), e, obs, endJ N E j'], j'⟩
  · rw [if_pos (show (6 : Int32) < nI o from L1 6 (by omega) (by omega))]
    by_cases h18 : o ≤ 18
    · obtain ⟨h', e, j'⟩ := reckonJ τ E hn j (m := m) (X := X) (Y := Y) (o := o) (by omega) h18
      exact ⟨h', by rw [if_neg (show ¬ (18 : Int32) < nI o from L0 18 (by omega) h18), e, obs, endJ N E j'], j'⟩
    · rw [if_pos (show (18 : Int32) < nI o from L1 18 (by omega) (by omega))]
      by_cases h25 : o ≤ 25
      · obtain ⟨h', e, j'⟩ := branchJ τ E hn j (m := m) (X := X) (Y := Y) (o := o) (by omega) h25
        exact ⟨h', by rw [if_neg (show ¬ (25 : Int32) < nI o from L0 25 (by omega) h25), e, obs, endJ N E j'], j'⟩
      · rw [if_pos (show (25 : Int32) < nI o from L1 25 (by omega) (by omega))]
        by_cases h30 : o ≤ 30
        · obtain ⟨c, hc, rfl, hy⟩ : ∃ c, c < cn (τ 0 0) ∧ X = nI c ∧ (o = 27 ∨ o = 28 → ∃ k, k < cn (τ 3 c) ∧ Y = nI k) := by
            by_cases z : o = 27 ∨ o = 28
            · obtain ⟨c, k, hc, e1, hk, e2⟩ := q3 z
              exact ⟨c, hc, e1, fun _ => ⟨k, hk, e2⟩⟩
            · obtain ⟨c, hc, e1⟩ := q2 (by omega)
              exact ⟨c, hc, e1, fun y => absurd y z⟩
          obtain ⟨h', e, j'⟩ := objJ p w E j (m := m) (Y := Y) ka (by omega) h30 i0 i1 i2 hc hy
          exact ⟨h', by rw [if_neg (show ¬ (30 : Int32) < nI o from L0 30 (by omega) h30), e, obs, endJ N E j'], j'⟩
        · rw [if_pos (show (30 : Int32) < nI o from L1 30 (by omega) (by omega))]
          by_cases h34 : o ≤ 34
          · obtain ⟨h', e, j'⟩ := rowJ p w E j (m := m) (X := X) (Y := Y) ka (by omega) h34 i0 i1 q4
            exact ⟨h', by rw [if_neg (show ¬ (34 : Int32) < nI o from L0 34 (by omega) h34), e, obs, endJ N E j'], j'⟩
          · rw [if_pos (show (34 : Int32) < nI o from L1 34 (by omega) (by omega))]
            by_cases h36 : o ≤ 36
            · obtain ⟨h', e, j'⟩ := invJ N hN p w E j (m := m) (X := X) (Y := Y) ka (by omega) h36 i0 i1 i2 q5 q6
              exact ⟨h', by rw [if_neg (show ¬ (36 : Int32) < nI o from L0 36 (by omega) h36), e, obs, endJ N E j'], j'⟩
            · obtain ⟨h', e, j'⟩ := leaveJ p w E j (m := m) (o := o) (X := X) (Y := Y) hm (by omega) (by omega)
              exact ⟨h', by rw [if_pos (show (36 : Int32) < nI o from L1 36 (by omega) (by omega)), e, obs, endJ N E j'], j'⟩
end
