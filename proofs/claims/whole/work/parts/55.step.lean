section
variable {x L P n : Nat} {h0 h : zH}
theorem vT0 : vT n 0 := Or.inl ⟨0, Nat.zero_le _, Or.inl rfl⟩
theorem vT97 : vT n 97 := Or.inr (Or.inl rfl)
theorem setJ (E : RE x h0 L P) {o : Option Row} (j : JC x h0 L P n o h) {k : Nat} (hk : k < L) {v : Int32} (hv : o ≠ none → vT n v) : ∃ h', fX4_setLocal (some (x + 5)) (nI k) v h = some h' ∧ JC x h0 L P n (o.map fun s => (s.1, fun i => if i = k then v else s.2 i)) h' := by
  obtain ⟨hF, e1, e2, e3⟩ := id E
  have k5 : ∀ ht ty ft, zk (RW x h0 ht ty ft) (x + 5) = 5 := fun _ _ _ => hF.1.2.2.2.2.2.1
  have k6 : ∀ ht ty ft, zk (RW x h0 ht ty ft) (x + 6) = 100 := fun _ _ _ => hF.1.2.2.2.2.2.2.1
  have r5 : ∀ ht ty ft, zr (RW x h0 ht ty ft) 4 0 (x + 5) = some (x + 6) := fun _ _ _ => hF.2.1.2.2.2.2.2.2.2.1
  have l6 : ∀ ht ty ft, zl (RW x h0 ht ty ft) (x + 6) = 12 := fun _ _ _ => hF.2.2.2.2
  have i1 : ∀ ht ty ft, zi (RW x h0 ht ty ft) 4 1 (x + 5) = nI L := fun _ _ _ => by rw [zi_RWo (by omega) (by omega)]; exact e1
  have A : ∀ ht ty ft, fX4_setLocal (some (x + 5)) (nI k) v (RW x h0 ht ty ft) = some (RW x h0 ht (fun i => if i = k then v else ty i) ft) := fun ht ty ft => by
    unfold fX4_setLocal
    rw [if_neg (nlt0 (by omega)), gI_at (k5 _ _ _), obs, i1, if_neg (nI_ge hk (by omega)), if_neg (show ¬ (12 : Int32) ≤ nI k from @nI_ge k 12 (by omega) (by decide)), gR_at (k5 _ _ _), obs, r5, sI_at 12 (k6 _ _ _) (l6 _ _ _) (by omega) (by decide), obs, RW_t]
  cases o with
  | none =>
    obtain ⟨ht, ty, rfl⟩ := j
    exact ⟨_, A _ _ _, _, _, rfl⟩
  | some r =>
    obtain ⟨ok, rfl⟩ := j
    refine ⟨_, A _ _ _, ⟨ok.1, fun i hi => ?_⟩, rfl⟩
    show vT n (if i = k then v else r.2 i)
    by_cases q : i = k
    · rw [if_pos q]; exact hv (by simp)
    · rw [if_neg q]; exact ok.2 i hi
theorem moveJ (τ : Nat → Nat → Int32) (E : RE x h0 L P) (hn : n ≤ 32) {r : Row} (j : JC x h0 L P n (some r) h) {a m o : Nat} (ka : zk h0 a = 2) (ho : o ≤ 6) (i0 : zi h0 1 0 a = nI o) {X Y : Int32} (i1 : zi h0 1 1 a = X) (hx : o = 2 ∨ o = 3 → ∃ k, k < L ∧ X = nI k) : ∃ h', fX5_move (some (x + 7)) (some a) h = some h' ∧ JC x h0 L P n (fitS τ L P m o X Y r) h' := by
  have ka' : zk h a = 2 := (j.k a).trans ka
  have i0' : zi h 1 0 a = nI o := (j.i 0 a (by decide) (by decide)).trans i0
  have i1' : zi h 1 1 a = X := (j.i 1 a (by decide) (by decide)).trans i1
  have z7 := j.z7 E
  have z5 := j.z5 E
  have r51 := j.r51 E
  unfold fX5_move
  rw [gI_at ka', i0', obs]
  rcases (show o = 0 ∨ o = 1 ∨ o = 2 ∨ o = 3 ∨ o = 4 ∨ o = 5 ∨ o = 6 by omega) with rfl | rfl | rfl | rfl | rfl | rfl | rfl
  · obtain ⟨h', e, j'⟩ := putJ E j (v := 0) (fun _ => vT0)
    exact ⟨h', by rw [if_pos (by decide), rc_at z7, obs, e, obs], j'⟩
  · obtain ⟨h', e, j'⟩ := putJ E j (v := 97) (fun _ => vT97)
    exact ⟨h', by rw [if_neg (by decide), if_pos (by decide), rc_at z7, obs, e, obs], j'⟩
  · obtain ⟨k, hk, rfl⟩ := hx (Or.inl rfl)
    have hF := E.1
    have ev : fX4_localAt (some (x + 5)) (nI k) h = some (r.2 k, h) := by
      obtain ⟨ok, rfl⟩ := j
      rcases localAt_eq (v := nI k) (h := RW x h0 (nI r.1) r.2 1) (a := x + 5) (t := x + 6) (l := L) hF.1.2.2.2.2.2.1 hF.2.1.2.2.2.2.2.2.2.1 hF.1.2.2.2.2.2.2.1 hF.2.2.2.2 (by rw [zi_RWo (by omega) (by omega)]; exact E.2.1) (by have := E.2.2.2; omega) with ⟨k', hk', e1, e2⟩ | ⟨q, -⟩
      · have e3 := nI_inj (by have := E.2.2.2; omega) (by have := E.2.2.2; omega) e1
        rw [← e3] at e2
        rw [e2, za_RW6]
      · exfalso
        rcases q with q | q
        · exact nlt0 (by have := E.2.2.2; omega) q
        · exact nI_ge hk (by have := E.2.2.2; omega) q.2
    have hv : vT n (r.2 k) := j.1.2 k (by omega)
    have hk31 : k < 2 ^ 31 := by have := E.2.2.2; omega
    by_cases q : r.2 k = 99
    · obtain ⟨h1, e1, j1⟩ := needJ E j (b := 0) (Or.inl rfl)
      rw [if_pos rfl] at j1
      obtain ⟨h2, e2, j2⟩ := putJ E j1 (v := r.2 k) (fun z => absurd rfl z)
      refine ⟨h2, ?_, ?_⟩
      · rw [if_neg (by decide), if_neg (by decide), if_pos (by decide), gI_at ka', i1', obs, rc_at z7, obs]
        unfold fX5_load
        rw [gR_at z7, r51, obs, rc_at z5, obs, ev, obs, if_pos q, fX5_load_b25, fX5_load_b26, rc_at z7, obs, e1, obs, rc_at (j1.z7 E), obs, e2, obs, obs]
      · show JC x h0 L P n (if r.2 (cn (nI k)) = 99 then none else psh L P (r.2 (cn (nI k))) r) h2
        rw [cn_nI hk31, if_pos q]; exact j2
    · obtain ⟨h1, e1, j1⟩ := needJ E j (b := 1) (Or.inr rfl)
      rw [if_neg n10] at j1
      obtain ⟨h2, e2, j2⟩ := putJ E j1 (v := r.2 k) (fun _ => hv)
      refine ⟨h2, ?_, ?_⟩
      · rw [if_neg (by decide), if_neg (by decide), if_pos (by decide), gI_at ka', i1', obs, rc_at z7, obs]
        unfold fX5_load
        rw [gR_at z7, r51, obs, rc_at z5, obs, ev, obs, if_neg q, if_neg (vT_ne hn hv), fX5_load_b26, rc_at z7, obs, e1, obs, rc_at (j1.z7 E), obs, e2, obs, obs]
      · show JC x h0 L P n (if r.2 (cn (nI k)) = 99 then none else psh L P (r.2 (cn (nI k))) r) h2
        rw [cn_nI hk31, if_neg q]; exact j2
  · obtain ⟨k, hk, rfl⟩ := hx (Or.inr rfl)
    have hk31 : k < 2 ^ 31 := by have := E.2.2.2; omega
    obtain ⟨v, h1, e1, j1, hq⟩ := takeJ E hn j
    obtain ⟨h2, e2, j2⟩ := setJ E j1 hk (v := v) (fun z => by
      cases ep : (some r).bind (pp L) with
      | none => rw [ep] at z; exact absurd rfl z
      | some q => rw [(hq q ep).1]; exact (hq q ep).2)
    refine ⟨h2, ?_, ?_⟩
    · rw [if_neg (by decide), if_neg (by decide), if_neg (by decide), if_pos (by decide), gR_at z7, r51, obs, gI_at ka', i1', obs, rc_at z7, obs, e1, obs, rc_at (j1.z5 E), obs, e2, obs]
    · show JC x h0 L P n ((pp L r).bind fun q => some (q.2.1, fun i => if i = cn (nI k) then q.1 else q.2.2 i)) h2
      rw [cn_nI hk31]
      rw [obs] at j2
      cases ep : pp L r with
      | none => rw [ep] at j2; exact j2
      | some q =>
        rw [ep] at j2
        rw [(hq q ep).1] at j2
        exact j2
  · obtain ⟨v, h1, e1, j1, hq⟩ := takeJ E hn j
    refine ⟨h1, ?_, ?_⟩
    · rw [if_neg (by decide), if_neg (by decide), if_neg (by decide), if_neg (by decide), if_pos (by decide), rc_at z7, obs, e1, obs]
    · show JC x h0 L P n ((pp L r).bind fun q => some q.2) h1
      rw [obs] at j1
      cases ep : pp L r with
      | none => rw [ep] at j1; exact j1
      | some q => rw [ep] at j1; exact j1
  · obtain ⟨v, h1, e1, j1, hq⟩ := takeJ E hn j
    have hv : ∀ z : Option Row, ((some r).bind (pp L)).map Prod.snd ≠ none → vT n v := fun _ z => by
      cases ep : (some r).bind (pp L) with
      | none => rw [ep] at z; exact absurd rfl z
      | some q => rw [(hq q ep).1]; exact (hq q ep).2
    obtain ⟨h2, e2, j2⟩ := putJ E j1 (v := v) (hv none)
    obtain ⟨h3, e3, j3⟩ := putJ E j2 (v := v) (fun z => hv none (fun y => z (by rw [y]; rfl)))
    refine ⟨h3, ?_, ?_⟩
    · rw [if_neg (by decide), if_neg (by decide), if_neg (by decide), if_neg (by decide), if_neg (by decide), if_pos (by decide), rc_at z7, obs]
      unfold fX5_duplicate
      rw [rc_at z7, obs, e1, obs, rc_at (j1.z7 E), obs, e2, obs, rc_at (j2.z7 E), obs, e3, obs, obs]
    · show JC x h0 L P n ((pp L r).bind fun q => (psh L P q.1 q.2).bind (psh L P q.1)) h3
      rw [obs] at j3
      cases ep : pp L r with
      | none => rw [ep] at j3; exact j3
      | some q =>
        rw [ep] at j3
        rw [(hq q ep).1] at j3
        exact j3
  · obtain ⟨v, h1, e1, j1, hq⟩ := takeJ E hn j
    obtain ⟨u, h2, e2, j2, hq2⟩ := takeJ E hn j1
    have hv : ((some r).bind (pp L)).map Prod.snd ≠ none → vT n v := fun z => by
      cases ep : (some r).bind (pp L) with
      | none => rw [ep] at z; exact absurd rfl z
      | some q => rw [(hq q ep).1]; exact (hq q ep).2
    have hu : ((((some r).bind (pp L)).map Prod.snd).bind (pp L)).map Prod.snd ≠ none → vT n u := fun z => by
      cases ep : (((some r).bind (pp L)).map Prod.snd).bind (pp L) with
      | none => rw [ep] at z; exact absurd rfl z
      | some q => rw [(hq2 q ep).1]; exact (hq2 q ep).2
    obtain ⟨h3, e3, j3⟩ := putJ E j2 (v := v) (fun z => hv (fun y => z (by rw [y]; rfl)))
    obtain ⟨h4, e4, j4⟩ := putJ E j3 (v := u) (fun z => hu (fun y => z (by rw [y]; rfl)))
    refine ⟨h4, ?_, ?_⟩
    · rw [if_neg (by decide), if_neg (by decide), if_neg (by decide), if_neg (by decide), if_neg (by decide), if_neg (by decide), rc_at z7, obs]
      unfold fX5_swap
      rw [rc_at z7, obs, e1, obs, rc_at (j1.z7 E), obs, e2, obs, rc_at (j2.z7 E), obs, e3, obs, rc_at (j3.z7 E), obs, e4, obs, obs]
    · show JC x h0 L P n ((pp L r).bind fun q => (pp L q.2).bind fun s => (psh L P q.1 s.2).bind (psh L P s.1)) h4
      rw [obs] at j4 hq2
      cases ep : pp L r with
      | none => rw [ep] at j4; exact j4
      | some q =>
        rw [ep] at j4 hq2
        rw [(hq q ep).1] at j4
        rw [obs]
        have hq2' : ∀ s, pp L q.2 = some s → u = s.1 ∧ vT n s.1 := hq2
        have j4' : JC x h0 L P n (((((pp L q.2).map Prod.snd).bind (psh L P q.1))).bind (psh L P u)) h4 := j4
        cases ep2 : pp L q.2 with
        | none => rw [ep2] at j4'; exact j4'
        | some s =>
          rw [ep2] at j4'
          rw [(hq2' s ep2).1] at j4'
          exact j4'
theorem reckonJ (τ : Nat → Nat → Int32) (E : RE x h0 L P) (hn : n ≤ 32) {r : Row} (j : JC x h0 L P n (some r) h) {m o : Nat} (h7 : 7 ≤ o) (h18 : o ≤ 18) {X Y : Int32} : ∃ h', fX5_reckon (some (x + 7)) (nI o) h = some h' ∧ JC x h0 L P n (fitS τ L P m o X Y r) h' := by
  have z7 := j.z7 E
  obtain ⟨h1, e1, j1⟩ := takeIntJ E hn j
  unfold fX5_reckon
  rw [rc_at z7, obs, e1, obs]
  by_cases q : o = 18
  · subst q
    obtain ⟨h2, e2, j2⟩ := putJ E j1 (v := 0) (fun _ => vT0)
    exact ⟨h2, by rw [if_pos (by decide), fX5_reckon_b14, rc_at (j1.z7 E), obs, e2, obs], j2⟩
  · obtain ⟨h2, e2, j2⟩ := takeIntJ E hn j1
    obtain ⟨h3, e3, j3⟩ := putJ E j2 (v := 0) (fun _ => vT0)
    refine ⟨h3, by rw [if_neg (show ¬ (17 : Int32) < nI o from @nI_nlt 17 o (by omega) (by omega)), rc_at (j1.z7 E), obs, e2, obs, fX5_reckon_b14, rc_at (j2.z7 E), obs, e3, obs], ?_⟩
    rcases (show o = 7 ∨ o = 8 ∨ o = 9 ∨ o = 10 ∨ o = 11 ∨ o = 12 ∨ o = 13 ∨ o = 14 ∨ o = 15 ∨ o = 16 ∨ o = 17 by omega) with rfl | rfl | rfl | rfl | rfl | rfl | rfl | rfl | rfl | rfl | rfl <;> exact j3
theorem branchJ (τ : Nat → Nat → Int32) (E : RE x h0 L P) (hn : n ≤ 32) {r : Row} (j : JC x h0 L P n (some r) h) {m o : Nat} (h7 : 19 ≤ o) (h18 : o ≤ 25) {X Y : Int32} : ∃ h', fX5_branch (some (x + 7)) (nI o) h = some h' ∧ JC x h0 L P n (fitS τ L P m o X Y r) h' := by
  have z7 := j.z7 E
  unfold fX5_branch
  rcases (show o = 19 ∨ o = 20 ∨ o = 21 ∨ o = 22 ∨ o = 23 ∨ o = 24 ∨ o = 25 by omega) with rfl | rfl | rfl | rfl | rfl | rfl | rfl
  · obtain ⟨h1, e1, j1⟩ := takeIntJ E hn j
    exact ⟨h1, by rw [if_pos (by decide), rc_at z7, obs, e1, obs], j1⟩
  · obtain ⟨h1, e1, j1⟩ := takeIntJ E hn j
    obtain ⟨h2, e2, j2⟩ := takeIntJ E hn j1
    exact ⟨h2, by rw [if_neg (by decide), if_pos (by decide), rc_at z7, obs, e1, obs, rc_at (j1.z7 E), obs, e2, obs], j2⟩
  · obtain ⟨h1, e1, j1⟩ := takeRefJ E hn j
    exact ⟨h1, by rw [if_neg (by decide), if_neg (by decide), if_pos (by decide), rc_at z7, obs, e1, obs], j1⟩
  · obtain ⟨h1, e1, j1⟩ := takeRefJ E hn j
    exact ⟨h1, by rw [if_neg (by decide), if_neg (by decide), if_neg (by decide), if_pos (by decide), rc_at z7, obs, e1, obs], j1⟩
  · obtain ⟨h1, e1, j1⟩ := takeRefJ E hn j
    obtain ⟨h2, e2, j2⟩ := takeRefJ E hn j1
    exact ⟨h2, by rw [if_neg (by decide), if_neg (by decide), if_neg (by decide), if_neg (by decide), if_pos (by decide), rc_at z7, obs, e1, obs, rc_at (j1.z7 E), obs, e2, obs], j2⟩
  · obtain ⟨h1, e1, j1⟩ := takeRefJ E hn j
    obtain ⟨h2, e2, j2⟩ := takeRefJ E hn j1
    exact ⟨h2, by rw [if_neg (by decide), if_neg (by decide), if_neg (by decide), if_neg (by decide), if_neg (by decide), if_pos (by decide), rc_at z7, obs, e1, obs, rc_at (j1.z7 E), obs, e2, obs], j2⟩
  · exact ⟨h, by rw [if_neg (by decide), if_neg (by decide), if_neg (by decide), if_neg (by decide), if_neg (by decide), if_neg (by decide)], j⟩
end
