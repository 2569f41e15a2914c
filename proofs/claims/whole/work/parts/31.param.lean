theorem pZ0_at {c k a : Nat} {h : zH} (e : zk h a = c + 1) : pZ c k (some a) 0 h = some (sti c k a 0 h) := pZ_at e (Or.inl rfl)
theorem pZ1_at {c k a : Nat} {h : zH} (e : zk h a = c + 1) : pZ c k (some a) 1 h = some (sti c k a 1 h) := pZ_at e (Or.inr rfl)
section
variable {τ : Nat → Nat → Int32} {x : Nat} {h : zH}
theorem isMethodM1 {m j : Nat} (p : RM τ m h) (w : WF τ) (hj : j < cn (τ 6 0)) : fX9_isMethod (some m) (nI j) h = some (1, h) := by
  have hn := w.2.1.2
  rcases isMethodM p w (nI j) with ⟨q, -⟩ | ⟨-, q⟩
  · exact q
  · exfalso
    rcases q with q | q
    · exact nlt0 (by omega) q
    · exact nle_cn w.2.1.1 hj (by omega) q.2
theorem isClassM1 {m j : Nat} (p : RM τ m h) (w : WF τ) (hj : j < cn (τ 0 0)) : fX9_isClass (some m) (nI j) h = some (1, h) := by
  have hn := w.1.2
  rcases isClassM p w (nI j) with ⟨q, -⟩ | ⟨-, q⟩
  · exact q
  · exfalso
    rcases q with q | q
    · exact nlt0 (by omega) q
    · exact nle_cn w.1.1 hj (by omega) q.2
theorem isTypeM1 {m : Nat} {t : Int32} (p : RM τ m h) (w : WF τ) (ok : okT (cn (τ 0 0)) t) : fX9_isType (some m) t h = some (1, h) := by
  rcases isTypeM p w t with ⟨q, -⟩ | ⟨-, q⟩
  · exact q
  · exact absurd ok q
theorem isTypeM0 {m : Nat} {t : Int32} (p : RM τ m h) (w : WF τ) (ok : ¬ okT (cn (τ 0 0)) t) : fX9_isType (some m) t h = some (0, h) := by
  rcases isTypeM p w t with ⟨-, q⟩ | ⟨q, -⟩
  · exact absurd q ok
  · exact q
set_option maxHeartbeats 2000000 in
theorem op_parameter (I : Inv τ x h) (c t : Int32) : Same (fX8_parameter (some x) c t) (fX9_parameter (some (x + 8)) c t) x h := by
  obtain ⟨w, rM, kd, md, ib, hd, p⟩ := I
  have k8 : zk h x = 9 := p.1.1.1
  have k6 : zk h (x + 1) = 7 := p.1.1.2.1
  have r0 : zr h 8 0 x = some (x + 1) := p.1.2.1.1
  have I : Inv τ x h := ⟨w, rM, kd, md, ib, hd, p⟩
  have hn := w.2.1.2
  rcases isMethodM rM w c with ⟨m1, j, hj, rfl⟩ | ⟨m1, hc⟩
  · have ma := methodAt_at p w hj
    obtain ⟨-, b1, b2, rt⟩ := p.2.2.2.2.1 j hj
    obtain ⟨⟨a1, a2, a3, a4, a5, a6, a7, a8, a9, a10⟩, ⟨d0, d1, d2, d3, d4, d5, d6, d7, d8⟩, f1⟩ := id rt
    obtain ⟨w1, w2, w3, w4, w5, w6, w7, w8, w9, w10, w11, w12⟩ := w.2.2.2.1 j hj
    have v11 : τ 11 j = nI (cn (τ 11 j)) := nI_of_cn w4.1
    have v9 : τ 9 j = nI (cn (τ 9 j)) := nI_of_cn w3.1
    have v14 : τ 14 j = nI (cn (τ 14 j)) := nI_of_cn w8.1
    have i9 := aM9 rM (i := j) (by omega)
    have i11 := aM11 rM (i := j) (by omega)
    have i14 := aM14 rM (i := j) (by omega)
    have i13 := aM13 rM (i := j) (by omega)
    rcases isTypeC p w t with ⟨e1, okt⟩ | ⟨e1, nt⟩
    · have e2 := isTypeM1 rM w okt
      have key : ∀ (q : ¬ (cn (τ 11 j) < cn (τ 9 j) ∧ cn (τ 11 j) < 8 ∧ cn (τ 14 j) = 0 ∧ τ 13 j = 0)), Same (fX8_parameter (some x) (nI j) t) (fX9_parameter (some (x + 8)) (nI j) t) x h := by
        intro q
        refine Same.no (r := -1) I ?_ ?_
        · have e3 : fX3_isOpenForParameters (some (md j)) h = some (0, h) := by
            by_cases q1 : τ 9 j ≤ τ 11 j
            · simp only [fX3_isOpenForParameters, gI_at, a1, d4, d2, obs, q1, ↓reduceIte]
            · by_cases q2 : (8 : Int32) ≤ τ 11 j
              · simp only [fX3_isOpenForParameters, gI_at, a1, d4, d2, obs, q1, q2, ↓reduceIte]
              · by_cases q3 : τ 14 j = 0
                · have q4 : ¬ τ 13 j = 0 := fun q4 => q ⟨by rw [v9, v11, nI_leI (by omega) (by omega)] at q1; omega, by
                    rw [v11] at q2
                    have : ¬ nI 8 ≤ nI (cn (τ 11 j)) := q2
                    rw [nI_leI (by decide) (by omega)] at this; omega, by rw [q3]; rfl, q4⟩
                  simp only [fX3_isOpenForParameters, gI_at, a1, d4, d2, d5, d7, obs, q1, q2, q3, q4, ↓reduceIte]
                · simp only [fX3_isOpenForParameters, gI_at, a1, d4, d2, d5, obs, q1, q2, q3, ↓reduceIte]
          simp only [fX8_parameter, gR_at, rc_at, k8, k6, r0, a1, ma, e1, e3, n10, obs, reduceCtorEq, ↓reduceIte]
        · by_cases q1 : τ 9 j ≤ τ 11 j
          · simp only [fX9_parameter, rcM rM, m1, e2, n10, gRM11 rM, gRM9 rM, i9, i11, q1, obs, ↓reduceIte]
          · by_cases q2 : τ 11 j = 8
            · rw [q2] at q1 i11
              simp only [fX9_parameter, rcM rM, m1, e2, n10, gRM11 rM, gRM9 rM, i9, i11, q1, obs, ↓reduceIte]
            · by_cases q3 : 0 < τ 14 j
              · simp only [fX9_parameter, rcM rM, m1, e2, n10, gRM11 rM, gRM9 rM, gRM14 rM, i9, i11, i14, q1, q2, q3, obs, ↓reduceIte]
              · have q4 : ¬ τ 13 j = 0 := fun q4 => q ⟨by rw [v9, v11, nI_leI (by omega) (by omega)] at q1; omega, by
                    rcases Nat.lt_or_ge (cn (τ 11 j)) 8 with g | g
                    · exact g
                    · exact absurd (by rw [v11, show cn (τ 11 j) = 8 by omega]; rfl) q2, by
                    rw [v14] at q3
                    rcases Nat.eq_zero_or_pos (cn (τ 14 j)) with g | g
                    · exact g
                    · exact absurd (show nI 0 < nI (cn (τ 14 j)) from nI_lt g (by omega)) q3, q4⟩
                simp only [fX9_parameter, rcM rM, m1, e2, n10, gRM11 rM, gRM9 rM, gRM14 rM, gRM13 rM, i9, i11, i14, i13, q1, q2, q3, q4, obs, ↓reduceIte]
      by_cases hq : cn (τ 11 j) < cn (τ 9 j) ∧ cn (τ 11 j) < 8 ∧ cn (τ 14 j) = 0 ∧ τ 13 j = 0
      · obtain ⟨q9, q8, q14, q13⟩ := hq
        clear key
        have z14 : τ 14 j = 0 := by rw [v14, q14]; rfl
        generalize hfe : cn (τ 11 j) = f at *
        obtain ⟨s1, s2, s3⟩ := cn_succ w4.1 (by omega)
        rw [hfe] at s1 s2
        have g1 : ¬ τ 9 j ≤ τ 11 j := by rw [v9, v11, nI_leI (by omega) (by omega)]; omega
        have g2 : ¬ (8 : Int32) ≤ τ 11 j := by
          rw [v11]
          exact @nI_ge f 8 q8 (by decide)
        have c1 : fX8_parameter (some x) (nI j) t h = some (τ 11 j + 1, sti 3 11 (md j) 0 (sti 3 7 (md j) (τ 11 j + 1) (sta (md j + 1) f t h))) := by
          have g3 : τ 11 j < (8 : Int32) := by rw [v11]; exact @nI_lt f 8 q8 (by decide)
          have g4 := fun v => sI_at (v := v) 8 a2 a8 q8 (by decide)
          rw [← v11] at g4
          have g5 : (0 : Int32) = 0 ∨ (0 : Int32) = 1 := Or.inl rfl
          have g6 : fX3_isOpenForParameters (some (md j)) h = some (1, h) := by
            simp only [fX3_isOpenForParameters, gI_at, a1, d4, d2, d5, d7, z14, q13, obs, g1, g2, ↓reduceIte]
          have g7 : fX3_addParameter (some (md j)) t h = some (τ 11 j + 1, sti 3 11 (md j) 0 (sti 3 7 (md j) (τ 11 j + 1) (sta (md j + 1) f t h))) := by
            have e7 : zi (sti 3 11 (md j) 0 (sti 3 7 (md j) (τ 11 j + 1) (sta (md j + 1) f t h))) 3 7 (md j) = τ 11 j + 1 := by
              rw [zi_sti, if_neg (by omega), zi_sti, if_pos ⟨rfl, rfl, rfl⟩]
            simp only [fX3_addParameter, gR_at, gI_at, pI_at, pZ0_at, rc_at, a1, a5, d4, g3, g4, zk_sta, zk_sti, zi_sta, obs, e7, ↓reduceIte]
          simp only [fX8_parameter, gR_at, rc_at, k8, k6, a1, r0, ma, e1, n10, obs, g6, g7, reduceCtorEq, ↓reduceIte]
        have hm1 : RM τ (x + 8) (sti 3 11 (md j) 0 (sti 3 7 (md j) (τ 11 j + 1) (sta (md j + 1) f t h))) := rM.ag (fun b h1 h2 => ((ag_sta (by omega)).tr (ag_sti (by omega))).tr (ag_sti (by omega)))
        generalize hh1 : sti 3 11 (md j) 0 (sti 3 7 (md j) (τ 11 j + 1) (sta (md j + 1) f t h)) = h1 at c1 hm1
        obtain ⟨t1, hm2⟩ := sM12 hm1 (i := 8 * j + f) (by omega) t
        obtain ⟨t2, hm3⟩ := sM11 hm2 (i := j) (by omega) (τ 11 j + 1)
        obtain ⟨t3, hm4⟩ := sM23 hm3 (i := j) (by omega) (v := 0) (Or.inl rfl)
        have lin1 : (8 : Int32) * nI j + τ 11 j = nI (8 * j + f) := by rw [v11]; exact lin trivial
        have c2 : fX9_parameter (some (x + 8)) (nI j) t h1 = some (τ 11 j + 1, sta (x + 8 + 22) j 0 (sta (x + 8 + 10) j (τ 11 j + 1) (sta (x + 8 + 11) (8 * j + f) t h1))) := by
          have m2 := isMethodM1 hm1 w hj
          have m3 := isTypeM1 hm1 w okt
          have l9 := aM9 hm1 (i := j) (by omega)
          have l11 := aM11 hm1 (i := j) (by omega)
          have l14 := aM14 hm1 (i := j) (by omega)
          have l13 := aM13 hm1 (i := j) (by omega)
          have l11b := aM11 hm2 (i := j) (by omega)
          have l11c := aM11 hm4 (i := j) (by omega)
          rw [u2_at, if_neg (by omega)] at l11b
          rw [u2_at, if_neg (by omega), u2_at, if_pos ⟨rfl, rfl⟩] at l11c
          have q1 : ¬ τ 11 j = (8 : Int32) := fun q => by rw [v11] at q; have := nI_inj (a := f) (b := 8) (by omega) (by decide) q; omega
          have q2 : ¬ (0 : Int32) < 0 := by decide
          rw [z14] at l14
          rw [q13] at l13
          simp only [fX9_parameter, rcM hm1, m2, m3, n10, gRM9 hm1, gRM11 hm1, gRM14 hm1, gRM13 hm1, gRM12 hm1, l9, l11, l14, l13, g1, q1, q2, lin1, t1, gRM11 hm2, l11b, t2, gRM23 hm3, t3, gRM11 hm4, l11c, obs, ↓reduceIte]
        have b0 : ∀ c i, (c ≠ 11 ∧ c ≠ 12 ∧ c ≠ 23) → u2 (u2 (u2 τ 12 (8 * j + f) t) 11 j (τ 11 j + 1)) 23 j 0 c i = τ c i := fun c i hc => by rw [u2_at, if_neg (fun q => hc.2.2 q.1), u2_at, if_neg (fun q => hc.1 q.1), u2_at, if_neg (fun q => hc.2.1 q.1)]
        have b11 : ∀ i, u2 (u2 (u2 τ 12 (8 * j + f) t) 11 j (τ 11 j + 1)) 23 j 0 11 i = if i = j then τ 11 j + 1 else τ 11 i := fun i => by
          rw [u2_at, if_neg (by omega), u2_at]
          by_cases e : i = j
          · rw [if_pos ⟨rfl, e⟩, if_pos e]
          · rw [if_neg (fun q => e q.2), if_neg e, u2_at, if_neg (by omega)]
        have b12 : ∀ i, u2 (u2 (u2 τ 12 (8 * j + f) t) 11 j (τ 11 j + 1)) 23 j 0 12 i = if i = 8 * j + f then t else τ 12 i := fun i => by
          rw [u2_at, if_neg (by omega), u2_at, if_neg (by omega), u2_at]
          by_cases e : i = 8 * j + f
          · rw [if_pos ⟨rfl, e⟩, if_pos e]
          · rw [if_neg (fun q => e q.2), if_neg e]
        have b23 : ∀ i, u2 (u2 (u2 τ 12 (8 * j + f) t) 11 j (τ 11 j + 1)) 23 j 0 23 i = if i = j then 0 else τ 23 i := fun i => by
          rw [u2_at]
          by_cases e : i = j
          · rw [if_pos ⟨rfl, e⟩, if_pos e]
          · rw [if_neg (fun q => e q.2), if_neg e, u2_at, if_neg (by omega), u2_at, if_neg (by omega)]
        refine ⟨τ 11 j + 1, h1, _, _, c1, rcM hm1, c2, ?_, hm4, kd, md, ib, hd, ?_⟩
        · generalize u2 (u2 (u2 τ 12 (8 * j + f) t) 11 j (τ 11 j + 1)) 23 j 0 = τ' at b0 b11 b12 b23 ⊢
          have z0 := b0 0 0 (by decide)
          have z6 := b0 6 0 (by decide)
          have q1 : ∀ (tb : List (Nat × Nat)), (∀ q ∈ tb, q.1 ≠ 11 ∧ q.1 ≠ 12 ∧ q.1 ≠ 23) → ∀ i, tg tb τ τ' i := fun tb ht i q hq k hk => b0 _ _ (ht q hq)
          refine ⟨by rw [z0]; exact w.1, by rw [z6]; exact w.2.1, fun c hc => ?_, fun m hm => ?_, fun m h1 h2 => ?_⟩
          · rw [z0] at hc
            exact WFc.mono w hc z0 (by rw [z6]; exact Nat.le_refl _) (fun i hi => b0 1 i (by decide)) (q1 tW (by decide) c)
          · rw [z6] at hm
            by_cases e : m = j
            · subst e
              have e11 : τ' 11 m = τ 11 m + 1 := by rw [b11, if_pos rfl]
              have e9 := b0 9 m (by decide)
              refine ⟨by rw [b0 7 m (by decide), z0]; exact w1, by rw [b0 8 m (by decide), z0]; exact w2, by rw [e9, b0 10 m (by decide)]; exact w3, by rw [e11, e9, s2]; exact ⟨s3, by omega, by omega⟩, fun k hk => ?_, by rw [b0 13 m (by decide)]; exact w6, Or.inl (by rw [b23, if_pos rfl]), by rw [b0 14 m (by decide)]; exact w8, by rw [b0 18 m (by decide)]; exact w9, fun i hi => ?_, fun k hk => ?_, fun hv => absurd (by rw [b23, if_pos rfl]) hv⟩
              · rw [e11, s2] at hk
                rw [z0, b12]
                by_cases e : k = f
                · rw [if_pos (by omega)]; exact okt
                · rw [if_neg (by omega)]; exact w5 k (by omega)
              · rw [b0 14 m (by decide), q14] at hi; omega
              · rw [b0 18 m (by decide)] at hk
                rw [b0 21 _ (by decide), b0 22 _ (by decide), z0]; exact w11 k hk
            · refine (w.2.2.2.1 m hm).mono (by rw [z0]; exact Nat.le_refl _) (by rw [z6]; exact Nat.le_refl _) ?_ (fun i _ => q1 tI (by decide) _) (fun i _ => q1 tH (by decide) _) (fun c hc => by rw [b0 3 c (by decide)]; exact Nat.le_refl _) (fun c s hc hs => by rw [z6, b0 5 _ (by decide)]; exact fun q => q)
              intro q hq k hk
              simp only [tM, List.mem_cons, List.not_mem_nil, or_false] at hq
              rcases hq with rfl | rfl | rfl | rfl | rfl | rfl | rfl | rfl | rfl | rfl <;> simp only at hk ⊢
              · exact b0 7 _ (by decide)
              · exact b0 8 _ (by decide)
              · exact b0 9 _ (by decide)
              · exact b0 10 _ (by decide)
              · rw [b11, if_neg (by omega)]
              · rw [b12, if_neg (by omega)]
              · exact b0 13 _ (by decide)
              · exact b0 14 _ (by decide)
              · exact b0 18 _ (by decide)
              · rw [b23, if_neg (by omega)]
          · rw [z6] at h1
            rw [b0 13 m (by decide), b0 14 m (by decide), b0 18 m (by decide), b23, if_neg (by omega)]
            exact w.2.2.2.2 m h1 h2
        · have q1 : ∀ (tb : List (Nat × Nat)), (∀ q ∈ tb, q.1 ≠ 11 ∧ q.1 ≠ 12 ∧ q.1 ≠ 23) → ∀ i, tg tb τ (u2 (u2 (u2 τ 12 (8 * j + f) t) 11 j (τ 11 j + 1)) 23 j 0) i := fun tb ht i q hq k hk => b0 _ _ (ht q hq)
          subst hh1
          refine p.modT hj rfl (fun b hb => ?_) (b0 0 0 (by decide)) (b0 6 0 (by decide)) (b0 27 0 (by decide)) (q1 tK (by decide)) (fun m hm => ?_) (q1 tI (by decide)) (q1 tH (by decide)) (by rw [b0 14 j (by decide)]) (by rw [b0 18 j (by decide)]) (b0 9 j (by decide)) (b0 10 j (by decide)) (fun hv => absurd (by rw [b23, if_pos rfl]) hv) (fun i => rfl) (fun i => rfl) ?_
          · have n0 : b ≠ md j ∧ b ≠ md j + 1 ∧ b ≠ x + 8 + 22 ∧ b ≠ x + 8 + 10 ∧ b ≠ x + 8 + 11 := by
              rcases hb with hb | ⟨hb, hb2⟩
              · exact ⟨by omega, by omega, by omega, by omega, by omega⟩
              · have := hb2 0 (by omega); have := hb2 1 (by omega)
                exact ⟨by omega, by omega, by omega, by omega, by omega⟩
            exact (((((ag_sta n0.2.1).tr (ag_sti n0.1)).tr (ag_sti n0.1)).tr (ag_sta n0.2.2.2.2)).tr (ag_sta n0.2.2.2.1)).tr (ag_sta n0.2.2.1)
          · intro q hq k hk
            simp only [tM, List.mem_cons, List.not_mem_nil, or_false] at hq
            rcases hq with rfl | rfl | rfl | rfl | rfl | rfl | rfl | rfl | rfl | rfl <;> simp only at hk ⊢
            · exact b0 7 _ (by decide)
            · exact b0 8 _ (by decide)
            · exact b0 9 _ (by decide)
            · exact b0 10 _ (by decide)
            · rw [b11, if_neg (by omega)]
            · rw [b12, if_neg (by omega)]
            · exact b0 13 _ (by decide)
            · exact b0 14 _ (by decide)
            · exact b0 18 _ (by decide)
            · rw [b23, if_neg (by omega)]
          · refine ⟨⟨a1, a2, a3, a4, a5, a6, a7, a8, a9, a10⟩, ⟨?_, ?_, ?_, ?_, ?_, ?_, ?_, ?_, ?_⟩, fun k h1 h2 => ?_⟩
            · rw [b0 7 j (by decide)]; exact d0
            · rw [b0 8 j (by decide), zi_sta, zi_sta, zi_sta, zi_sti, if_neg (by omega), zi_sti, if_neg (by omega)]; exact d1
            · rw [b0 9 j (by decide), zi_sta, zi_sta, zi_sta, zi_sti, if_neg (by omega), zi_sti, if_neg (by omega)]; exact d2
            · rw [b0 10 j (by decide), zi_sta, zi_sta, zi_sta, zi_sti, if_neg (by omega), zi_sti, if_neg (by omega)]; exact d3
            · rw [b11, if_pos rfl, zi_sta, zi_sta, zi_sta, zi_sti, if_neg (by omega), zi_sti, if_pos ⟨rfl, rfl, rfl⟩]
            · rw [b0 14 j (by decide), zi_sta, zi_sta, zi_sta, zi_sti, if_neg (by omega), zi_sti, if_neg (by omega)]; exact d5
            · rw [b0 18 j (by decide), zi_sta, zi_sta, zi_sta, zi_sti, if_neg (by omega), zi_sti, if_neg (by omega)]; exact d6
            · rw [b0 13 j (by decide), zi_sta, zi_sta, zi_sta, zi_sti, if_neg (by omega), zi_sti, if_neg (by omega)]; exact d7
            · rw [b23, if_pos rfl, zi_sta, zi_sta, zi_sta, zi_sti, if_pos ⟨rfl, rfl, rfl⟩]
            · rw [b11, if_pos rfl, s2] at h2
              rw [b12, za_sta, if_neg (by omega), za_sta, if_neg (by omega), za_sta, if_neg (by omega), za_sti, za_sti, za_sta]
              by_cases e : k = f
              · rw [if_pos ⟨rfl, e⟩, if_pos (by omega)]
              · rw [if_neg (fun q => e q.2), if_neg (by omega)]; exact f1 k h1 (by omega)
      · exact key hq
    · refine Same.no (r := -1) I ?_ ?_
      · simp only [fX8_parameter, gR_at, rc_at, k8, k6, r0, ma, e1, obs, reduceCtorEq, ↓reduceIte]
      · simp only [fX9_parameter, rcM rM, m1, isTypeM0 rM w nt, n10, obs, ↓reduceIte]
  · refine Same.no (r := -1) I ?_ ?_
    · simp only [fX8_parameter, gR_at, rc_at, k8, k6, r0, methodAt_no p hc, obs, ↓reduceIte]
    · simp only [fX9_parameter, rcM rM, m1, obs, ↓reduceIte]
end
