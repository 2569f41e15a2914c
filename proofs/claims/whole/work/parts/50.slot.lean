section
variable {τ : Nat → Nat → Int32} {x : Nat} {h : zH}
/-- tau with method m in slot s of class c -/
theorem slot_WF (w : WF τ) {m c s : Nat} (hm : m < cn (τ 6 0)) (hc : c < cn (τ 0 0)) (hs : s < 16) : WF (u2 (u2 τ 5 (16 * c + s) (nI m)) 13 m 1) := by
  have b0 : ∀ k i, (k ≠ 5 ∧ k ≠ 13) → u2 (u2 τ 5 (16 * c + s) (nI m)) 13 m 1 k i = τ k i := fun k i hk => by rw [u2_at, if_neg (fun q => hk.2 q.1), u2_at, if_neg (fun q => hk.1 q.1)]
  have b5 : ∀ i, u2 (u2 τ 5 (16 * c + s) (nI m)) 13 m 1 5 i = if i = 16 * c + s then nI m else τ 5 i := fun i => by simp [u2_at]
  have b13 : ∀ i, u2 (u2 τ 5 (16 * c + s) (nI m)) 13 m 1 13 i = if i = m then 1 else τ 13 i := fun i => by simp [u2_at]
  generalize u2 (u2 τ 5 (16 * c + s) (nI m)) 13 m 1 = τ' at b0 b5 b13 ⊢
  have z0 := b0 0 0 (by decide)
  have z6 := b0 6 0 (by decide)
  have h5' : ∀ c' k, c' < cn (τ 0 0) → k < 16 → (∃ q, q < cn (τ 6 0) ∧ τ 5 (16 * c' + k) = nI q) → ∃ q, q < cn (τ' 6 0) ∧ τ' 5 (16 * c' + k) = nI q := fun c' k hc' hk q => by
    rw [z6, b5]
    by_cases e : 16 * c' + k = 16 * c + s
    · rw [if_pos e]; exact ⟨m, hm, rfl⟩
    · rw [if_neg e]; exact q
  refine ⟨by rw [z0]; exact w.1, by rw [z6]; exact w.2.1, fun k hk => ?_, fun k hk => ?_, fun k h1 h2 => ?_⟩
  · rw [z0] at hk
    obtain ⟨p1, p2, p3, p4, ⟨p5, p6, p7⟩, p8⟩ := w.2.2.1 k hk
    have hb := w.1.2
    refine ⟨by rw [b0 1 k (by decide)]; exact p1, by rw [b0 3 k (by decide)]; exact p2, fun f hf => ?_, fun t ht => ?_, ⟨by rw [b0 2 k (by decide)]; exact p5, by rw [b0 2 k (by decide), b0 40 k (by decide), b0 41 k (by decide)]; exact p6, ?_⟩, fun j hj => ?_⟩
    · rw [b0 3 k (by decide)] at hf
      rw [b0 4 _ (by decide), z0]; exact p3 f hf
    · rw [b5, z6]
      by_cases e : 16 * k + t = 16 * c + s
      · rw [if_pos e]; exact Or.inr ⟨m, hm, rfl⟩
      · rw [if_neg e]; exact p4 t ht
    · rw [b0 40 k (by decide), z0, p7]
      exact ⟨fun q k hk => by rw [b0 1 k (by decide)]; exact q k hk, fun q k hk => by rw [← b0 1 k (by decide)]; exact q k hk⟩
    · rw [b0 42 k (by decide), p8 j hj, anc_congr (k + 1) k j (fun i hi => b0 1 i (by decide)) (fun i hi => w.chain i (by omega)) (by omega)]
  · rw [z6] at hk
    have tt : ∀ (tb : List (Nat × Nat)), (∀ q ∈ tb, q.1 ≠ 5 ∧ q.1 ≠ 13) → ∀ i, tg tb τ τ' i := fun tb ht i q hq k hk => b0 _ _ (ht q hq)
    by_cases e : k = m
    · subst e
      obtain ⟨w1, w2, w3, w4, w5, w6, w7, w8, w9, w10, w11, w12⟩ := w.2.2.2.1 k hk
      refine ⟨by rw [b0 7 k (by decide), z0]; exact w1, by rw [b0 8 k (by decide), z0]; exact w2, by rw [b0 9 k (by decide), b0 10 k (by decide)]; exact w3, by rw [b0 11 k (by decide), b0 9 k (by decide)]; exact w4, fun j hj => ?_, by rw [b13, if_pos rfl]; exact Or.inr rfl, by rw [b0 23 k (by decide)]; exact w7, by rw [b0 14 k (by decide)]; exact w8, by rw [b0 18 k (by decide)]; exact w9, fun i hi => ?_, fun j hj => ?_, fun hv i hi => ?_⟩
      · rw [b0 11 k (by decide)] at hj
        rw [b0 12 _ (by decide), z0]; exact w5 j hj
      · rw [b0 14 k (by decide)] at hi
        rw [b0 15 _ (by decide), b0 16 _ (by decide), b0 17 _ (by decide)]
        exact (w10 i hi).mono (by rw [z0]; exact Nat.le_refl _) (by rw [z6]; exact Nat.le_refl _) (by rw [b0 9 k (by decide)]) (fun c' hc' => by rw [b0 3 c' (by decide)]; exact Nat.le_refl _) h5'
      · rw [b0 18 k (by decide)] at hj
        rw [b0 21 _ (by decide), b0 22 _ (by decide), z0]; exact w11 j hj
      · rw [b0 23 k (by decide)] at hv
        rw [b0 14 k (by decide)] at hi
        rw [b0 24 _ (by decide), b0 10 _ (by decide)]; exact w12 hv i hi
    · refine (w.2.2.2.1 k hk).mono (by rw [z0]; exact Nat.le_refl _) (by rw [z6]; exact Nat.le_refl _) ?_ (fun i _ => tt tI (by decide) _) (fun i _ => tt tH (by decide) _) (fun c' hc' => by rw [b0 3 c' (by decide)]; exact Nat.le_refl _) h5'
      intro q hq j hj
      simp only [tM, List.mem_cons, List.not_mem_nil, or_false] at hq
      rcases hq with rfl | rfl | rfl | rfl | rfl | rfl | rfl | rfl | rfl | rfl <;> simp only at hj ⊢
      · exact b0 7 _ (by decide)
      · exact b0 8 _ (by decide)
      · exact b0 9 _ (by decide)
      · exact b0 10 _ (by decide)
      · exact b0 11 _ (by decide)
      · exact b0 12 _ (by decide)
      · rw [b13, if_neg (by omega)]
      · exact b0 14 _ (by decide)
      · exact b0 18 _ (by decide)
      · exact b0 23 _ (by decide)
  · rw [z6] at h1
    rw [b13, if_neg (by omega), b0 14 k (by decide), b0 18 k (by decide), b0 23 k (by decide)]
    exact w.2.2.2.2 k h1 h2
theorem slot_go (N : Nat) (I : Inv τ x h) {kd md : Nat → Nat} {ib hd : Nat → Nat → Nat} (p : RC τ kd md ib hd x h) {m c s : Nat} (hm : m < cn (τ 6 0)) (hc : c < cn (τ 0 0)) (hs : s < 16) : SameM τ (fX8_slot_b77 N (nI m) (nI s) (some (md m)) (some (kd c))) (fX9_slot_b97 N (some (x + 8)) (nI m) (nI s) (nI c)) x h := by
  obtain ⟨w, rM, -⟩ := id I
  have h6 := w.2.1.2
  have h0 := w.1.2
  obtain ⟨-, b1, b2, rk⟩ := p.2.2.2.1 c hc
  obtain ⟨⟨a1, a2, a3, a4, a5, a6, a7⟩, ⟨d1, d2, d3, d4, d5⟩, z1, z2⟩ := id rk
  obtain ⟨-, b3, b4, rt⟩ := p.2.2.2.2.1 m hm
  have am : zk h (md m) = 4 := rt.1.1
  have dKT := p.KT hc hm
  -- the class
  have e1 : fX8_slot_b77 N (nI m) (nI s) (some (md m)) (some (kd c)) h = some (1, sti 3 10 (md m) 1 (sta (kd c + 2) s (nI m) h)) := by
    have q2 := sI_at (v := nI m) 16 a3 a7 hs (by decide)
    simp only [fX8_slot_b77, gR_at, a1, a5, q2, pZ1_at, zk_sta, am, obs]
  have pA : RC (u2 τ 5 (16 * c + s) (nI m)) kd md ib hd x (sta (kd c + 2) s (nI m) h) := by
    refine p.modK hc rfl (fun b hb => ag_sta ?_) (by simp [u2_at]) (by simp [u2_at]) (by simp [u2_at]) (fun c' hc' => tg_u2 (fun q hq e => ?_)) (fun j => tg_u2 (fun q hq e => ?_)) (fun j => tg_u2 (fun q hq e => ?_)) (fun j => tg_u2 (fun q hq e => ?_)) ?_
    · rcases hb with hb | ⟨hb, hb2⟩
      · omega
      · exact (hb2 2 (by omega)).symm
    · simp only [tK, List.mem_cons, List.not_mem_nil, or_false] at hq
      rcases hq with rfl | rfl | rfl | rfl | rfl | rfl <;> simp only at e ⊢ <;> omega
    · exact absurd e ((by decide : ∀ q ∈ tM, q.1 ≠ 5) q hq)
    · exact absurd e ((by decide : ∀ q ∈ tI, q.1 ≠ 5) q hq)
    · exact absurd e ((by decide : ∀ q ∈ tH, q.1 ≠ 5) q hq)
    · refine ⟨⟨a1, a2, a3, a4, a5, a6, a7⟩, ⟨d1, ?_, ?_, ?_, ?_⟩, fun k h1 h2 => ?_, fun k h1 => ?_⟩
      · rw [u2_at, if_neg (by omega)]; exact d2
      · rw [u2_at, if_neg (by omega)]; exact d3
      · rw [u2_at, if_neg (by omega)]; exact d4
      · rw [u2_at, if_neg (by omega)]; exact d5
      · rw [u2_at, if_neg (by omega)] at h2
        rw [za_sta, if_neg (by omega), u2_at, if_neg (by omega)]; exact z1 k h1 h2
      · rw [za_sta, u2_at]
        by_cases e : k = s
        · rw [if_pos ⟨rfl, e⟩, if_pos ⟨rfl, by omega⟩]
        · rw [if_neg (fun q => e q.2), if_neg (by omega)]; exact z2 k h1
  have pB : RC (u2 (u2 τ 5 (16 * c + s) (nI m)) 13 m 1) kd md ib hd x (sti 3 10 (md m) 1 (sta (kd c + 2) s (nI m) h)) := by
    have hm' : m < cn (u2 τ 5 (16 * c + s) (nI m) 6 0) := by rw [u2_at, if_neg (by omega)]; exact hm
    obtain ⟨-, -, -, rt'⟩ := pA.2.2.2.2.1 m hm'
    obtain ⟨⟨r1, r2, r3, r4, r5, r6, r7, r8, r9, r10⟩, ⟨s0, s1, s2, s3, s4, s5, s6, s7, s8⟩, f1⟩ := rt'
    generalize u2 τ 5 (16 * c + s) (nI m) = τ1 at *
    generalize sta (kd c + 2) s (nI m) h = hA at *
    refine pA.modT hm' rfl (fun b hb => ag_sti ?_) (by simp [u2_at]) (by simp [u2_at]) (by simp [u2_at]) (fun j => tg_u2 (fun q hq e => ?_)) (fun m' hm' => tg_u2 (fun q hq e => ?_)) (fun j => tg_u2 (fun q hq e => ?_)) (fun j => tg_u2 (fun q hq e => ?_)) (by simp [u2_at]) (by simp [u2_at]) (by simp [u2_at]) (by simp [u2_at]) (fun q => by rw [u2_at, if_neg (by omega)] at q; exact q) (fun i => by rw [zq_sti]) (fun i => by rw [zq_sti]) ?_
    · rcases hb with hb | ⟨hb, hb2⟩
      · omega
      · exact (hb2 0 (by omega)).symm
    · exact absurd e ((by decide : ∀ q ∈ tK, q.1 ≠ 13) q hq)
    · simp only [tM, List.mem_cons, List.not_mem_nil, or_false] at hq
      rcases hq with rfl | rfl | rfl | rfl | rfl | rfl | rfl | rfl | rfl | rfl <;> simp only at e ⊢ <;> omega
    · exact absurd e ((by decide : ∀ q ∈ tI, q.1 ≠ 13) q hq)
    · exact absurd e ((by decide : ∀ q ∈ tH, q.1 ≠ 13) q hq)
    · refine ⟨⟨r1, r2, r3, r4, r5, r6, r7, r8, r9, r10⟩, ⟨?_, ?_, ?_, ?_, ?_, ?_, ?_, ?_, ?_⟩, fun k h1 h2 => ?_⟩
      · have e7 : u2 τ1 13 m 1 7 m = τ1 7 m := by rw [u2_at, if_neg (by omega)]
        rw [zr_sti, e7]; exact s0
      · rw [zi_sti, if_neg (by omega), u2_at, if_neg (by omega)]; exact s1
      · rw [zi_sti, if_neg (by omega), u2_at, if_neg (by omega)]; exact s2
      · rw [zi_sti, if_neg (by omega), u2_at, if_neg (by omega)]; exact s3
      · rw [zi_sti, if_neg (by omega), u2_at, if_neg (by omega)]; exact s4
      · rw [zi_sti, if_neg (by omega), u2_at, if_neg (by omega)]; exact s5
      · rw [zi_sti, if_neg (by omega), u2_at, if_neg (by omega)]; exact s6
      · rw [zi_sti, if_pos ⟨rfl, rfl, rfl⟩, u2_at, if_pos ⟨rfl, rfl⟩]
      · rw [zi_sti, if_neg (by omega), u2_at, if_neg (by omega)]; exact s8
      · rw [u2_at, if_neg (by omega)] at h2
        rw [za_sti, u2_at, if_neg (by omega)]; exact f1 k h1 h2
  have hm1 : RM τ (x + 8) (sti 3 10 (md m) 1 (sta (kd c + 2) s (nI m) h)) := rM.ag (fun b h1 h2 => (ag_sta (by omega)).tr (ag_sti (by omega)))
  generalize sti 3 10 (md m) 1 (sta (kd c + 2) s (nI m) h) = h1 at e1 pB hm1
  obtain ⟨h2, t1, rM1, fr1⟩ := eM5 hm1 (i := 16 * c + s) (by omega) (nI m)
  obtain ⟨h3, t2, rM2, fr2⟩ := eM13 rM1 (i := m) (by omega) (v := 1) (Or.inr rfl)
  have lin1 : (16 : Int32) * nI c + nI s = nI (16 * c + s) := lin trivial
  have e2 : fX9_slot_b97 N (some (x + 8)) (nI m) (nI s) (nI c) h1 = some (1, h3) := by
    simp only [fX9_slot_b97, gRM5 hm1, lin1, t1, gRM13 rM1, t2, obs]
  exact SameM.of e1 hm1 e2 (slot_WF w hm hc hs) rM2 (fr1.tr fr2) pB
theorem op_slot (N : Nat) (hN : 100 ≤ N) (I : Inv τ x h) (mv sv : Int32) : Same (fX8_slot N (some x) mv sv) (fX9_slot N (some (x + 8)) mv sv) x h := by
  obtain ⟨w, rM, kd, md, ib, hd, p⟩ := id I
  have k8 : zk h x = 9 := p.1.1.1
  have k6 : zk h (x + 1) = 7 := p.1.1.2.1
  have r0 : zr h 8 0 x = some (x + 1) := p.1.2.1.1
  have h6 := w.2.1.2
  have h0 := w.1.2
  rcases methodIs p w mv with ⟨m, hm, rfl, ma⟩ | ⟨hno, ma⟩
  · obtain ⟨-, b3, b4, rt⟩ := p.2.2.2.2.1 m hm
    have am : zk h (md m) = 4 := rt.1.1
    have ow : zr h 3 0 (md m) = if τ 7 m < 0 then none else some (kd (cn (τ 7 m))) := rt.2.1.1
    by_cases q1 : sv < 0
    · refine Same.no (r := 0) I ?_ ?_
      · simp only [fX8_slot, gR_at, rc_at, k8, k6, r0, ma, q1, obs, reduceCtorEq, ↓reduceIte]
      · simp only [fX9_slot, rcM rM, isMethodM1 rM w hm, n10, q1, obs, ↓reduceIte]
    · by_cases q2 : (16 : Int32) ≤ sv
      · have q3 : ¬ sv < 16 := Int32.not_lt.mpr q2
        refine Same.no (r := 0) I ?_ ?_
        · simp only [fX8_slot, gR_at, rc_at, k8, k6, r0, ma, q1, q3, obs, reduceCtorEq, ↓reduceIte]
        · simp only [fX9_slot, rcM rM, isMethodM1 rM w hm, n10, q1, q2, obs, ↓reduceIte]
      · have q3 : sv < 16 := Int32.not_le.mp q2
        obtain ⟨s, hs, rfl⟩ : ∃ s, s < 16 ∧ sv = nI s := by
          obtain ⟨k, hk, rfl⟩ := nI_of q1
          have q4 : nI k < nI 16 := q3
          rw [nI_ltI hk (by decide)] at q4
          exact ⟨k, q4, rfl⟩
        have l7 : ∀ h1, RM τ (x + 8) h1 → aI 100 (some (x + 8 + 6)) (nI m) h1 = some (τ 7 m) := fun h1 m1 => aM7 m1 (i := m) (by omega)
        rcases (w.2.2.2.1 m hm).1 with e7 | ⟨c, hc, e7⟩
        · rw [e7, if_pos m1neg] at ow
          have q4 : ¬ (0 : Int32) ≤ -1 := by decide
          have l := l7 h rM
          rw [e7] at l
          refine Same.no (r := 0) I ?_ ?_
          · simp only [fX8_slot, gR_at, rc_at, k8, k6, r0, ma, am, ow, q1, q3, obs, reduceCtorEq, ↓reduceIte]
          · simp only [fX9_slot, rcM rM, isMethodM1 rM w hm, n10, q1, q2, gRM7 rM, l, q4, obs, ↓reduceIte]
        · rw [e7, if_neg (nlt0 (by omega)), cn_nI (by omega)] at ow
          have q4 : (0 : Int32) ≤ nI c := nI_pos' (by omega)
          obtain ⟨-, b1, b2, rk⟩ := p.2.2.2.1 c hc
          obtain ⟨⟨a1, a2, a3, a4, a5, a6, a7⟩, ⟨d1, d2, d3, d4, d5⟩, z1, z2⟩ := id rk
          have wc := w.2.2.1 c hc
          have EM : ∀ h1, RM τ (x + 8) h1 → fX9_slot N (some (x + 8)) (nI m) (nI s) h1 = fX9_slot_b39 N N (some (x + 8)) (nI m) (nI s) (nI c) (nI 0) h1 := fun h1 m1 => by
            have l := l7 h1 m1
            rw [e7] at l
            rw [nI_0]
            simp only [fX9_slot, rcM m1, isMethodM1 m1 w hm, n10, q1, q2, gRM7 m1, l, q4, obs, ↓reduceIte]
          by_cases q5 : τ 40 c = 0
          · have hno := wc.2.2.2.2.1.2.2.mp q5
            have EM2 : ∀ h1, RM τ (x + 8) h1 → fX9_slot N (some (x + 8)) (nI m) (nI s) h1 = slotEnd N (x + 8) (nI m) (nI s) (nI c) h1 := fun h1 m1 => by
              rw [EM h1 m1]
              rcases slotLoop N m1 w hc (nI m) (nI s) (cn (τ 0 0)) 0 N (by omega) (by omega) with ⟨e, -⟩ | ⟨-, j, hj, e⟩
              · exact e
              · exact absurd e (hno j hj)
            have is := inSlot_at p hc hs
            have lin1 : (16 : Int32) * nI c + nI s = nI (16 * c + s) := lin trivial
            have l5 : ∀ h1, RM τ (x + 8) h1 → aI 100 (some (x + 8 + 5)) (nI (16 * c + s)) h1 = some (τ 5 (16 * c + s)) := fun h1 m1 => aM5 m1 (by omega)
            rcases wc.2.2.2.1 s hs with e5 | ⟨u, hu, e5⟩
            · rw [e5] at is
              have mn := methodAt_no p (v := -1) (Or.inl m1neg)
              refine SameM.same (slot_go N I p hm hc hs) ?_ (fun h1 m1 => ?_)
              · simp only [fX8_slot, gR_at, gI_at, rc_at, k8, k6, r0, ma, am, ow, a1, d4, q5, is, mn, q1, q3, obs, reduceCtorEq, ↓reduceIte]
              · have l := l5 h1 m1
                rw [e5] at l
                rw [EM2 h1 m1]
                simp only [slotEnd, gRM5 m1, lin1, l, m1neg, obs, ↓reduceIte]
            · rw [e5] at is
              have mu := methodAt_at p w hu
              have au : zk h (md u) = 4 := (p.2.2.2.2.1 u hu).2.2.2.1.1
              have q6 : ¬ nI u < 0 := nlt0 (by omega)
              rcases calledLike N (by omega) p w hm hu with ⟨ec, lke⟩ | ⟨ec, nlk⟩
              · refine SameM.same (slot_go N I p hm hc hs) ?_ (fun h1 m1 => ?_)
                · simp only [fX8_slot, gR_at, gI_at, rc_at, k8, k6, r0, ma, am, ow, a1, d4, q5, is, mu, au, ec, n10, q1, q3, obs, reduceCtorEq, ↓reduceIte]
                · have l := l5 h1 m1
                  rw [e5] at l
                  have em : fX9_isLike N (some (x + 8)) (nI m) (nI u) h1 = some (1, h1) := by
                    rcases isLikeM N (by omega) m1 w hm hu with ⟨e, -⟩ | ⟨-, e⟩
                    · exact e
                    · exact absurd lke e
                  rw [EM2 h1 m1]
                  simp only [slotEnd, gRM5 m1, lin1, l, q6, rcM m1, em, n10, obs, ↓reduceIte]
              · refine Same.no (r := 0) I ?_ ?_
                · simp only [fX8_slot, gR_at, gI_at, rc_at, k8, k6, r0, ma, am, ow, a1, d4, q5, is, mu, au, ec, q1, q3, obs, reduceCtorEq, ↓reduceIte]
                · have l := l5 h rM
                  rw [e5] at l
                  have em : fX9_isLike N (some (x + 8)) (nI m) (nI u) h = some (0, h) := by
                    rcases isLikeM N (by omega) rM w hm hu with ⟨-, e⟩ | ⟨e, -⟩
                    · exact absurd e nlk
                    · exact e
                  rw [EM2 h rM]
                  simp only [slotEnd, gRM5 rM, lin1, l, q6, rcM rM, em, obs, ↓reduceIte]
          · refine Same.no (r := 0) I ?_ ?_
            · simp only [fX8_slot, gR_at, gI_at, rc_at, k8, k6, r0, ma, am, ow, a1, d4, q5, q1, q3, obs, reduceCtorEq, ↓reduceIte]
            · rw [EM h rM]
              rcases slotLoop N rM w hc (nI m) (nI s) (cn (τ 0 0)) 0 N (by omega) (by omega) with ⟨-, e⟩ | ⟨e, -⟩
              · exact absurd (wc.2.2.2.2.1.2.2.mpr (fun k hk => e k (by omega) hk)) q5
              · exact e
  · refine Same.no (r := 0) I ?_ ?_
    · simp only [fX8_slot, gR_at, rc_at, k8, k6, r0, ma, obs, ↓reduceIte]
    · simp only [fX9_slot, rcM rM, isMethodM0 rM w hno, obs, ↓reduceIte]
end
