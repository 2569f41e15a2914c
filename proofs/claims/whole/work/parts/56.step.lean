section
variable {x L P : Nat} {h0 h : zH} {τ : Nat → Nat → Int32} {kd md : Nat → Nat} {ib hd : Nat → Nat → Nat}
theorem one_nI (c : Nat) : (1 : Int32) + nI c = nI (c + 1) := by rw [show (1 : Int32) = nI 1 from rfl, nI_add, Nat.add_comm]
theorem vT1 {n c : Nat} (hc : c < n) : vT n (1 + nI c) := Or.inl ⟨c + 1, by omega, Or.inl (one_nI c)⟩
theorem vT64 {n c : Nat} (hc : c ≤ n) : vT n (64 + nI c) := Or.inl ⟨c, hc, Or.inr (by rw [show (64 : Int32) = nI 64 from rfl, nI_add])⟩
theorem objJ (p : RC τ kd md ib hd x h0) (w : WF τ) (E : RE x h0 L P) {r : Row} (j : JC x h0 L P (cn (τ 0 0)) (some r) h) {a m o c : Nat} (ka : zk h0 a = 2) (h26 : 26 ≤ o) (h30 : o ≤ 30) (i0 : zi h0 1 0 a = nI o) {Y : Int32} (i1 : zi h0 1 1 a = nI c) (i2 : zi h0 1 2 a = Y) (hc : c < cn (τ 0 0)) (hy : o = 27 ∨ o = 28 → ∃ k, k < cn (τ 3 c) ∧ Y = nI k) : ∃ h', fX5_useObject (some (x + 7)) (some a) h = some h' ∧ JC x h0 L P (cn (τ 0 0)) (fitS τ L P m o (nI c) Y r) h' := by
  have hn := w.1.2
  have ka' : ∀ {o h}, JC x h0 L P (cn (τ 0 0)) o h → zk h a = 2 := fun j => (j.k a).trans ka
  have i0' : zi h 1 0 a = nI o := (j.i 0 a (by decide) (by decide)).trans i0
  have i1' : ∀ {o h}, JC x h0 L P (cn (τ 0 0)) o h → zi h 1 1 a = nI c := fun j => (j.i 1 a (by decide) (by decide)).trans i1
  have i2' : ∀ {o h}, JC x h0 L P (cn (τ 0 0)) o h → zi h 1 2 a = Y := fun j => (j.i 2 a (by decide) (by decide)).trans i2
  have z7 := j.z7 E
  unfold fX5_useObject
  rw [gI_at (ka' j), i1' j, obs, gI_at (ka' j), i0', obs]
  rcases (show o = 26 ∨ o = 27 ∨ o = 28 ∨ o = 29 ∨ o = 30 by omega) with rfl | rfl | rfl | rfl | rfl
  · obtain ⟨h1, e1, j1⟩ := putJ E j (v := 1 + nI c) (fun _ => vT1 hc)
    exact ⟨h1, by rw [if_pos (by decide), rc_at z7, obs, e1, obs], j1⟩
  · obtain ⟨k, hk, rfl⟩ := hy (Or.inl rfl)
    obtain ⟨h1, e1, j1⟩ := takeIntoJ p w E j (t := 1 + nI c) (fun _ => vT1 hc)
    have ft := fieldType_at (j1.rc p) w hc hk
    have wc := w.2.2.1 c hc
    obtain ⟨h2, e2, j2⟩ := putJ E j1 (v := τ 4 (15 * c + k)) (fun _ => Or.inl (wc.2.2.1 k hk))
    refine ⟨h2, by rw [if_neg (by decide), if_pos (by decide), rc_at z7, obs, e1, obs, gR_at (j1.z7 E), j1.r50 E, obs, gI_at (ka' j1), i1' j1, obs, gI_at (ka' j1), i2' j1, obs, rc_at (j1.z1 E), obs, ft, obs, rc_at (j1.z7 E), obs, e2, obs], ?_⟩
    show JC x h0 L P _ ((pT τ L (1 + nI c) r).bind (psh L P (τ 4 (15 * cn (nI c) + cn (nI k))))) h2
    rw [cn_nI (by omega), cn_nI (by have := wc.2.1.2; omega)]; exact j2
  · obtain ⟨k, hk, rfl⟩ := hy (Or.inr rfl)
    have ft := fieldType_at (j.rc p) w hc hk
    have wc := w.2.2.1 c hc
    obtain ⟨h1, e1, j1⟩ := takeIntoJ p w E j (t := τ 4 (15 * c + k)) (fun _ => Or.inl (wc.2.2.1 k hk))
    obtain ⟨h2, e2, j2⟩ := takeIntoJ p w E j1 (t := 1 + nI c) (fun _ => vT1 hc)
    refine ⟨h2, by rw [if_neg (by decide), if_neg (by decide), if_pos (by decide), gR_at z7, j.r50 E, obs, obs, gI_at (ka' j), i2' j, obs, rc_at (j.z1 E), obs, ft, obs, rc_at z7, obs, e1, obs, rc_at (j1.z7 E), obs, e2, obs], ?_⟩
    show JC x h0 L P _ ((pT τ L (τ 4 (15 * cn (nI c) + cn (nI k))) r).bind (pT τ L (1 + nI c))) h2
    rw [cn_nI (by omega), cn_nI (by have := wc.2.1.2; omega)]; exact j2
  · obtain ⟨h1, e1, j1⟩ := takeRefJ E hn j
    obtain ⟨h2, e2, j2⟩ := putJ E j1 (v := 0) (fun _ => vT0)
    exact ⟨h2, by rw [if_neg (by decide), if_neg (by decide), if_neg (by decide), if_pos (by decide), rc_at z7, obs, e1, obs, rc_at (j1.z7 E), obs, e2, obs], j2⟩
  · obtain ⟨h1, e1, j1⟩ := takeRefJ E hn j
    obtain ⟨h2, e2, j2⟩ := putJ E j1 (v := 1 + nI c) (fun _ => vT1 hc)
    exact ⟨h2, by rw [if_neg (by decide), if_neg (by decide), if_neg (by decide), if_neg (by decide), rc_at z7, obs, e1, obs, rc_at (j1.z7 E), obs, e2, obs], j2⟩
theorem rowJ (p : RC τ kd md ib hd x h0) (w : WF τ) (E : RE x h0 L P) {r : Row} (j : JC x h0 L P (cn (τ 0 0)) (some r) h) {a m o : Nat} (ka : zk h0 a = 2) (h31 : 31 ≤ o) (h34 : o ≤ 34) (i0 : zi h0 1 0 a = nI o) {X Y : Int32} (i1 : zi h0 1 1 a = X) (hx : o = 31 → ∃ c, c ≤ cn (τ 0 0) ∧ X = nI c) : ∃ h', fX5_useRow (some (x + 7)) (some a) h = some h' ∧ JC x h0 L P (cn (τ 0 0)) (fitS τ L P m o X Y r) h' := by
  have hn := w.1.2
  have ka' : ∀ {o h}, JC x h0 L P (cn (τ 0 0)) o h → zk h a = 2 := fun j => (j.k a).trans ka
  have i0' : zi h 1 0 a = nI o := (j.i 0 a (by decide) (by decide)).trans i0
  have i1' : ∀ {o h}, JC x h0 L P (cn (τ 0 0)) o h → zi h 1 1 a = X := fun j => (j.i 1 a (by decide) (by decide)).trans i1
  have z7 := j.z7 E
  unfold fX5_useRow
  rw [gI_at (ka' j), i0', obs]
  rcases (show o = 31 ∨ o = 32 ∨ o = 33 ∨ o = 34 by omega) with rfl | rfl | rfl | rfl
  · obtain ⟨c, hc, rfl⟩ := hx rfl
    obtain ⟨h1, e1, j1⟩ := takeIntJ E hn j
    obtain ⟨h2, e2, j2⟩ := putJ E j1 (v := 64 + nI c) (fun _ => vT64 hc)
    exact ⟨h2, by rw [if_pos (by decide), rc_at z7, obs, e1, obs, gI_at (ka' j1), i1' j1, obs, fX8_rowOf, obs, rc_at (j1.z7 E), obs, e2, obs], j2⟩
  · obtain ⟨v, h1, e1, j1, hq⟩ := takeRowJ E hn j
    obtain ⟨h2, e2, j2⟩ := putJ E j1 (v := 0) (fun _ => vT0)
    refine ⟨h2, by rw [if_neg (by decide), if_pos (by decide), rc_at z7, obs, e1, obs, rc_at (j1.z7 E), obs, e2, obs], ?_⟩
    show JC x h0 L P _ ((prw L r).bind fun q => psh L P 0 q.2) h2
    rw [obs] at j2
    cases ep : prw L r with
    | none => rw [ep] at j2; exact j2
    | some q => rw [ep] at j2; exact j2
  · obtain ⟨h1, e1, j1⟩ := takeIntJ E hn j
    obtain ⟨u, h2, e2, j2, hq⟩ := takeRowJ E hn j1
    have hv : (((some r).bind (pI1 L)).bind (prw L)).map Prod.snd ≠ none → vT (cn (τ 0 0)) (if u = 97 then 97 else u - 64) := fun z => by
      cases ep : ((some r).bind (pI1 L)).bind (prw L) with
      | none => rw [ep] at z; exact absurd rfl z
      | some q =>
        obtain ⟨a1, a2, a3⟩ := hq q ep
        by_cases q7 : u = 97
        · rw [if_pos q7]; exact vT97
        · rw [if_neg q7, a1]
          exact rw_elem hn a2 a3 (by rw [← a1]; exact q7)
    obtain ⟨h3, e3, j3⟩ := putJ E j2 (v := if u = 97 then 97 else u - 64) hv
    refine ⟨h3, ?_, ?_⟩
    · rw [if_neg (by decide), if_neg (by decide), if_pos (by decide), rc_at z7, obs, e1, obs, rc_at (j1.z7 E), obs, e2, obs]
      by_cases q7 : u = 97
      · rw [if_pos q7] at e3
        rw [if_pos q7, fX5_useRow_b88, rc_at (j2.z7 E), obs, e3, obs]
      · rw [if_neg q7] at e3
        rw [if_neg q7, fX8_elementOf, obs, fX5_useRow_b88, rc_at (j2.z7 E), obs, e3, obs]
    · show JC x h0 L P _ ((pI1 L r).bind fun s => (prw L s).bind fun q => psh L P (if q.1 = 97 then 97 else q.1 - 64) q.2) h3
      rw [obs] at j3 hq
      cases ep : pI1 L r with
      | none => rw [ep] at j3; exact j3
      | some s =>
        rw [ep, obs] at j3 hq
        rw [obs]
        cases ep2 : prw L s with
        | none => rw [ep2] at j3; exact j3
        | some q =>
          rw [ep2] at j3
          rw [(hq q ep2).1] at j3
          exact j3
  · obtain ⟨v, h1, e1, j1, hq1⟩ := takeJ E hn j
    obtain ⟨h2, e2, j2⟩ := takeIntJ E hn j1
    obtain ⟨u, h3, e3, j3, hq3⟩ := takeRowJ E hn j2
    by_cases q7 : u = 97
    · obtain ⟨h4, e4, j4⟩ := needJ E j3 (b := 1) (Or.inr rfl)
      refine ⟨h4, ?_, ?_⟩
      · rw [if_neg (by decide), if_neg (by decide), if_neg (by decide), rc_at z7, obs, e1, obs, rc_at (j1.z7 E), obs, e2, obs, rc_at (j2.z7 E), obs, e3, obs, if_pos q7, fX5_useRow_b133, fX5_useRow_b138, rc_at (j3.z7 E), obs, e4, obs]
      · show JC x h0 L P _ ((pp L r).bind fun v => (pI1 L v.2).bind fun s => (prw L s).bind fun q => if (decide (q.1 = 97) || gT τ v.1 (q.1 - 64)) = true then some q.2 else none) h4
        rw [if_neg n10, obs] at j4
        rw [obs] at hq3
        cases ep : pp L r with
        | none => rw [ep] at j4; exact j4
        | some v' =>
          rw [ep] at j4 hq3
          rw [obs]
          have hq3' : ∀ q, (pI1 L v'.2).bind (prw L) = some q → u = q.1 ∧ vT (cn (τ 0 0)) q.1 ∧ (decide (q.1 = 97) || isRw q.1) = true := hq3
          have j4' : JC x h0 L P (cn (τ 0 0)) (((pI1 L v'.2).bind (prw L)).map Prod.snd) h4 := j4
          cases ep2 : pI1 L v'.2 with
          | none => rw [ep2] at j4'; exact j4'
          | some s =>
            rw [ep2, obs] at j4' hq3'
            rw [obs]
            cases ep3 : prw L s with
            | none => rw [ep3] at j4'; exact j4'
            | some q =>
              rw [ep3] at j4'
              rw [obs, if_pos (by rw [← (hq3' q ep3).1, decide_eq_true q7]; rfl)]
              exact j4'
    · obtain ⟨b, eb, hb, hg⟩ := goesC (j3.rc p) w v (u - 64)
      obtain ⟨h4, e4, j4⟩ := needJ E j3 hb
      refine ⟨h4, ?_, ?_⟩
      · rw [if_neg (by decide), if_neg (by decide), if_neg (by decide), rc_at z7, obs, e1, obs, rc_at (j1.z7 E), obs, e2, obs, rc_at (j2.z7 E), obs, e3, obs, if_neg q7, gR_at (j3.z7 E), j3.r50 E, obs, fX8_elementOf, obs, rc_at (j3.z1 E), obs, eb, obs]
        rcases hb with rfl | rfl
        · rw [if_pos rfl, fX5_useRow_b138, rc_at (j3.z7 E), obs, e4, obs]
        · rw [if_neg n10, fX5_useRow_b133, fX5_useRow_b138, rc_at (j3.z7 E), obs, e4, obs]
      · show JC x h0 L P _ ((pp L r).bind fun v => (pI1 L v.2).bind fun s => (prw L s).bind fun q => if (decide (q.1 = 97) || gT τ v.1 (q.1 - 64)) = true then some q.2 else none) h4
        have nn : ∀ (o : Option Row), (if b = 0 then none else o) = if b = 0 then none else o := fun _ => rfl
        rw [obs] at j4 hq3
        cases ep : pp L r with
        | none =>
          rw [ep] at j4
          rcases hb with rfl | rfl
          · exact j4
          · exact j4
        | some v' =>
          rw [ep] at j4 hq3
          rw [obs]
          have hq3' : ∀ q, (pI1 L v'.2).bind (prw L) = some q → u = q.1 ∧ vT (cn (τ 0 0)) q.1 ∧ (decide (q.1 = 97) || isRw q.1) = true := hq3
          have j4' : JC x h0 L P (cn (τ 0 0)) (if b = 0 then none else (((pI1 L v'.2).bind (prw L)).map Prod.snd)) h4 := j4
          cases ep2 : pI1 L v'.2 with
          | none =>
            rw [ep2] at j4'
            rcases hb with rfl | rfl
            · exact j4'
            · exact j4'
          | some s =>
            rw [ep2, obs] at j4' hq3'
            rw [obs]
            cases ep3 : prw L s with
            | none =>
              rw [ep3] at j4'
              rcases hb with rfl | rfl
              · exact j4'
              · exact j4'
            | some q =>
              rw [ep3] at j4'
              obtain ⟨a1, a2, a3⟩ := hq3' q ep3
              obtain ⟨c1, c2⟩ := hq1 v' ep
              have q7' : q.1 ≠ 97 := by rw [← a1]; exact q7
              have gb := hg (by rw [c1]; exact c2) (by rw [a1]; exact rw_elem hn a2 a3 q7')
              rw [c1, a1] at gb
              rw [obs, decide_eq_false q7', Bool.false_or]
              cases eg : gT τ v'.1 (q.1 - 64)
              · rw [eg, bF] at gb
                rw [if_pos gb] at j4'
                exact j4'
              · rw [eg, bT] at gb
                rw [if_neg (by rw [gb]; exact n10)] at j4'
                exact j4'
end
