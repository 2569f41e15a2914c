/-- one call on both sides: the same answer, and both hold one tau again -/
def Same (f g : zH → Option (Int32 × zH)) (x : Nat) (h : zH) : Prop := ∃ (r : Int32) (h1 h2 : zH) (τ' : Nat → Nat → Int32), f h = some (r, h1) ∧ rc 9 (some (x + 8)) h1 = some (x + 8) ∧ g h1 = some (r, h2) ∧ Inv τ' x h2
theorem Same.no {τ : Nat → Nat → Int32} {f g : zH → Option (Int32 × zH)} {x : Nat} {h : zH} {r : Int32} (I : Inv τ x h) (e1 : f h = some (r, h)) (e2 : g h = some (r, h)) : Same f g x h := ⟨r, h, h, τ, e1, rcM I.2.1, e2, I⟩
theorem n10 : ¬ (1 : Int32) = 0 := by decide
section
variable {τ : Nat → Nat → Int32} {x : Nat} {h : zH}
set_option maxHeartbeats 2000000 in
theorem op_field (I : Inv τ x h) (c t : Int32) : Same (fX8_field (some x) c t) (fX9_field (some (x + 8)) c t) x h := by
  obtain ⟨w, rM, kd, md, ib, hd, p⟩ := I
  have k8 : zk h x = 9 := p.1.1.1
  have k6 : zk h (x + 1) = 7 := p.1.1.2.1
  have r0 : zr h 8 0 x = some (x + 1) := p.1.2.1.1
  have I : Inv τ x h := ⟨w, rM, kd, md, ib, hd, p⟩
  have hn := w.1.2
  rcases isClassM rM w c with ⟨m1, j, hj, rfl⟩ | ⟨m1, hc⟩
  · have ka := kindAt_at p w hj
    obtain ⟨-, b1, b2, rk⟩ := p.2.2.2.1 j hj
    obtain ⟨⟨a1, a2, a3, a4, a5, a6, a7⟩, ⟨d1, d2, d3, d4, d5⟩, f1, f2⟩ := id rk
    have wc := w.2.2.1 j hj
    obtain ⟨w1, w2, w3, w4, ⟨w5, w6, w7⟩, w8⟩ := id wc
    have kk : zk h (kd j) = 2 + 1 := a1
    rcases isTypeC p w t with ⟨e1, okt⟩ | ⟨e1, nt⟩
    · have e2 : fX9_isType (some (x + 8)) t h = some (1, h) := by
        rcases isTypeM rM w t with ⟨q, -⟩ | ⟨-, q⟩
        · exact q
        · exact absurd okt q
      by_cases hu : τ 2 j = 0
      · obtain ⟨u1, u2'⟩ := w6.mp hu
        by_cases hf : cn (τ 3 j) < 15
        · -- one field more
          have hv : τ 3 j = nI (cn (τ 3 j)) := nI_of_cn w2.1
          generalize hfe : cn (τ 3 j) = f at *
          obtain ⟨s1, s2, s3⟩ := cn_succ w2.1 (by omega)
          rw [hfe] at s1 s2
          have c1 : fX8_field (some x) (nI j) t h = some (nI f, sti 2 4 (kd j) (τ 3 j + 1) (sta (kd j + 1) f t h)) := by
            have q1 : nI f < (15 : Int32) := @nI_lt f 15 hf (by decide)
            have q2 := fun v => sI_at (v := v) 15 a2 a6 hf (by decide)
            simp only [fX8_field, fX2_addField, gR_at, gI_at, pI_at, rc_at, k8, k6, a1, r0, a4, d3, d4, d5, u1, u2', hv, ka, e1, q1, q2, n10, obs, zk_sta, zk_sti, zi_sta, zi_sti, reduceCtorEq, ↓reduceIte, and_self, nI_1, nI_pred]
          have hm1 : RM τ (x + 8) (sti 2 4 (kd j) (τ 3 j + 1) (sta (kd j + 1) f t h)) := rM.ag (fun b h1 h2 => (ag_sta (by omega)).tr (ag_sti (by omega)))
          generalize hh1 : sti 2 4 (kd j) (τ 3 j + 1) (sta (kd j + 1) f t h) = h1 at c1 hm1
          obtain ⟨g1, hm2⟩ := sM4 hm1 (i := 15 * j + f) (by omega) t
          obtain ⟨g2, hm3⟩ := sM3 hm2 (i := j) (by omega) (τ 3 j + 1)
          have v2 : u2 τ 4 (15 * j + f) t 3 j = τ 3 j := by rw [u2_at, if_neg (fun q => by omega)]
          have lin1 : (15 : Int32) * nI j + τ 3 j = nI (15 * j + f) := by
            rw [hv]; exact lin trivial
          have c2 : fX9_field (some (x + 8)) (nI j) t h1 = some (nI f, sta (x + 8 + 3) j (τ 3 j + 1) (sta (x + 8 + 4) (15 * j + f) t h1)) := by
            have m2 : fX9_isClass (some (x + 8)) (nI j) h1 = some (1, h1) := by
              rcases isClassM hm1 w (nI j) with ⟨q, -⟩ | ⟨-, q⟩
              · exact q
              · exfalso
                rcases q with q | q
                · exact nlt0 (by omega) q
                · exact nle_cn w.1.1 hj (by omega) q.2
            have m3 : fX9_isType (some (x + 8)) t h1 = some (1, h1) := by
              rcases isTypeM hm1 w t with ⟨q, -⟩ | ⟨-, q⟩
              · exact q
              · exact absurd okt q
            have q1 : ¬ τ 3 j = (15 : Int32) := fun q => by rw [hv] at q; have := nI_inj (a := f) (b := 15) (by omega) (by decide) q; omega
            have l1 := aM2 hm1 (i := j) (by omega)
            have l2 := aM3 hm1 (i := j) (by omega)
            have l3 := aM3 hm2 (i := j) (by omega)
            have l4 := aM3 hm3 (i := j) (by omega)
            rw [v2] at l3
            rw [u2_at, if_pos ⟨rfl, rfl⟩] at l4
            have vf : τ 3 j + 1 - 1 = nI f := by rw [s1, nI_pred]
            simp only [fX9_field, rcM hm1, m2, m3, n10, gRM2 hm1, gRM3 hm1, gRM4 hm1, l1, l2, hu, q1, lin1, g1, gRM3 hm2, l3, g2, gRM3 hm3, l4, vf, obs, ↓reduceIte]
          refine ⟨nI f, h1, _, _, c1, rcM hm1, c2, ?_, hm3, kd, md, ib, hd, ?_⟩
          · -- tau stays good
            have b0 : ∀ c i, (c ≠ 3 ∧ c ≠ 4) → u2 (u2 τ 4 (15 * j + f) t) 3 j (τ 3 j + 1) c i = τ c i := fun c i hc => by rw [u2_at, if_neg (fun q => hc.1 q.1), u2_at, if_neg (fun q => hc.2 q.1)]
            have b3 : ∀ i, u2 (u2 τ 4 (15 * j + f) t) 3 j (τ 3 j + 1) 3 i = if i = j then τ 3 j + 1 else τ 3 i := fun i => by
              rw [u2_at]
              by_cases e : i = j
              · rw [if_pos ⟨rfl, e⟩, if_pos e]
              · rw [if_neg (fun q => e q.2), if_neg e, u2_at, if_neg (fun q => by omega)]
            have b4 : ∀ i, u2 (u2 τ 4 (15 * j + f) t) 3 j (τ 3 j + 1) 4 i = if i = 15 * j + f then t else τ 4 i := fun i => by
              rw [u2_at, if_neg (fun q => by omega), u2_at]
              by_cases e : i = 15 * j + f
              · rw [if_pos ⟨rfl, e⟩, if_pos e]
              · rw [if_neg (fun q => e q.2), if_neg e]
            generalize u2 (u2 τ 4 (15 * j + f) t) 3 j (τ 3 j + 1) = τ' at b0 b3 b4 ⊢
            have z0 := b0 0 0 (by decide)
            have z6 := b0 6 0 (by decide)
            refine ⟨by rw [z0]; exact w.1, by rw [z6]; exact w.2.1, fun c hc => ?_, fun m hm => ?_, fun m h1 h2 => ?_⟩
            · rw [z0] at hc
              by_cases e : c = j
              · subst e
                have e3 : τ' 3 c = τ 3 c + 1 := by rw [b3, if_pos rfl]
                refine ⟨by rw [b0 1 c (by decide)]; exact w1, by rw [e3]; exact ⟨s3, by rw [s2]; omega⟩, fun k hk => ?_, fun s hs => ?_, ⟨by rw [b0 2 c (by decide)]; exact w5, by rw [b0 2 c (by decide), b0 40 c (by decide), b0 41 c (by decide)]; exact w6, ?_⟩, fun j' hj' => ?_⟩
                · rw [e3, s2] at hk
                  rw [z0, b4]
                  by_cases e : k = f
                  · rw [if_pos (by rw [e])]; exact okt
                  · rw [if_neg (by omega)]; exact w3 k (by omega)
                · rw [b0 5 _ (by decide), z6]; exact w4 s hs
                · rw [b0 40 c (by decide), z0, w7]
                  exact ⟨fun q k hk => by rw [b0 1 k (by decide)]; exact q k hk, fun q k hk => by rw [← b0 1 k (by decide)]; exact q k hk⟩
                · rw [b0 42 c (by decide), w8 j' hj', anc_congr (c + 1) c j' (fun i hi => b0 1 i (by decide)) (fun i hi => w.chain i (by omega)) (by omega)]
              · refine WFc.mono w hc z0 (by rw [z6]; exact Nat.le_refl _) (fun i hi => b0 1 i (by decide)) ?_
                intro q hq k hk
                simp only [tW, List.mem_cons, List.not_mem_nil, or_false] at hq
                rcases hq with rfl | rfl | rfl | rfl | rfl | rfl | rfl | rfl
                · exact b0 1 _ (by decide)
                · exact b0 2 _ (by decide)
                · simp only at hk ⊢; rw [b3, if_neg (by omega)]
                · simp only at hk ⊢; rw [b4, if_neg (by omega)]
                · exact b0 5 _ (by decide)
                · exact b0 40 _ (by decide)
                · exact b0 41 _ (by decide)
                · exact b0 42 _ (by decide)
            · rw [z6] at hm
              have q1 : ∀ (tb : List (Nat × Nat)), (∀ q ∈ tb, q.1 ≠ 3 ∧ q.1 ≠ 4) → ∀ i, tg tb τ τ' i := fun tb ht i q hq k hk => b0 _ _ (ht q hq)
              refine (w.2.2.2.1 m hm).mono (by rw [z0]; exact Nat.le_refl _) (by rw [z6]; exact Nat.le_refl _) (q1 tM (by decide) m) (fun i _ => q1 tI (by decide) _) (fun i _ => q1 tH (by decide) _) (fun c hc => ?_) (fun c s hc hs => ?_)
              · rw [b3]
                by_cases e : c = j
                · rw [if_pos e, s2, e, hfe]; omega
                · rw [if_neg e]; exact Nat.le_refl _
              · rw [z6, b0 5 _ (by decide)]; exact fun q => q
            · rw [z6] at h1
              rw [b0 13 m (by decide), b0 14 m (by decide), b0 18 m (by decide), b0 23 m (by decide)]
              exact w.2.2.2.2 m h1 h2
          · -- the class holds it
            have pM : RC τ kd md ib hd x (sta (x + 8 + 3) j (τ 3 j + 1) (sta (x + 8 + 4) (15 * j + f) t h)) := (p.sta (by omega)).sta (by omega)
            have b0 : ∀ c i, (c ≠ 3 ∧ c ≠ 4) → u2 (u2 τ 4 (15 * j + f) t) 3 j (τ 3 j + 1) c i = τ c i := fun c i hc => by rw [u2_at, if_neg (fun q => hc.1 q.1), u2_at, if_neg (fun q => hc.2 q.1)]
            have q1 : ∀ (tb : List (Nat × Nat)), (∀ q ∈ tb, q.1 ≠ 3 ∧ q.1 ≠ 4) → ∀ i, tg tb τ (u2 (u2 τ 4 (15 * j + f) t) 3 j (τ 3 j + 1)) i := fun tb ht i q hq k hk => b0 _ _ (ht q hq)
            subst hh1
            refine p.modK hj rfl (fun b hb => ?_) (b0 0 0 (by decide)) (b0 6 0 (by decide)) (b0 27 0 (by decide)) (fun c hc => ?_) (q1 tM (by decide)) (q1 tI (by decide)) (q1 tH (by decide)) ?_
            · have n0 : b ≠ kd j ∧ b ≠ kd j + 1 ∧ b ≠ x + 8 + 3 ∧ b ≠ x + 8 + 4 := by
                rcases hb with hb | ⟨hb, hb2⟩
                · exact ⟨by omega, by omega, by omega, by omega⟩
                · have := hb2 0 (by omega); have := hb2 1 (by omega)
                  exact ⟨by omega, by omega, by omega, by omega⟩
              exact (((ag_sta n0.2.1).tr (ag_sti n0.1)).tr (ag_sta n0.2.2.2)).tr (ag_sta n0.2.2.1)
            · refine (tg_u2 (fun q hq e => ?_)).tr (tg_u2 (fun q hq e => ?_))
              · simp only [tK, List.mem_cons, List.not_mem_nil, or_false] at hq
                rcases hq with rfl | rfl | rfl | rfl | rfl | rfl <;> simp only at e ⊢ <;> omega
              · simp only [tK, List.mem_cons, List.not_mem_nil, or_false] at hq
                rcases hq with rfl | rfl | rfl | rfl | rfl | rfl <;> simp only at e ⊢ <;> omega
            · refine ⟨⟨a1, a2, a3, a4, a5, a6, a7⟩, ⟨?_, ?_, ?_, ?_, ?_⟩, fun k h1 h2 => ?_, fun k h1 => ?_⟩
              · simp only [zi_sta, zi_sti]; rw [if_neg (by omega)]; exact d1
              · simp only [zi_sta, zi_sti]; rw [if_neg (by omega), b0 42 j (by decide)]; exact d2
              · rw [zi_sta, zi_sta, zi_sti, if_pos ⟨rfl, rfl, rfl⟩, u2_at, if_pos ⟨rfl, rfl⟩]
              · simp only [zi_sta, zi_sti]; rw [if_neg (by omega), b0 40 j (by decide)]; exact d4
              · simp only [zi_sta, zi_sti]; rw [if_neg (by omega), b0 41 j (by decide)]; exact d5
              · rw [u2_at, if_pos ⟨rfl, rfl⟩, s2] at h2
                rw [za_sta, if_neg (by omega), za_sta, if_neg (by omega), za_sti, za_sta]
                by_cases e : k = f
                · rw [if_pos ⟨rfl, e⟩, u2_at, if_neg (by omega), u2_at, if_pos ⟨rfl, by omega⟩]
                · rw [if_neg (fun q => e q.2), u2_at, if_neg (by omega), u2_at, if_neg (by omega)]; exact f1 k h1 (by omega)
              · rw [za_sta, if_neg (by omega), za_sta, if_neg (by omega), za_sti, za_sta, if_neg (by omega), b0 5 _ (by decide)]; exact f2 k h1
        · -- fifteen already
          have hv : τ 3 j = 15 := by
            have : cn (τ 3 j) = 15 := by omega
            rw [nI_of_cn w2.1, this]; rfl
          refine Same.no (r := -2) I ?_ ?_
          · have q1 : ¬ (15 : Int32) < 15 := by decide
            simp only [fX8_field, fX2_addField, gR_at, gI_at, rc_at, k8, k6, a1, r0, d3, d4, d5, u1, u2', hv, ka, e1, q1, n10, obs, reduceCtorEq, ↓reduceIte]
          · simp only [fX9_field, rcM rM, m1, e2, n10, gRM2 rM, gRM3 rM, aM2 rM (i := j) (by omega), aM3 rM (i := j) (by omega), hu, hv, obs, ↓reduceIte]
      · -- a class has it above it, or a method owns it
        refine Same.no (r := -1) I ?_ ?_
        · by_cases u1 : τ 40 j = 0
          · have u2' : ¬ τ 41 j = 0 := fun q => hu (w6.mpr ⟨u1, q⟩)
            simp only [fX8_field, gR_at, gI_at, rc_at, k8, k6, a1, r0, d4, d5, u1, u2', ka, e1, n10, obs, reduceCtorEq, ↓reduceIte]
          · simp only [fX8_field, gR_at, gI_at, rc_at, k8, k6, a1, r0, d4, u1, ka, e1, n10, obs, reduceCtorEq, ↓reduceIte]
        · simp only [fX9_field, rcM rM, m1, e2, n10, gRM2 rM, aM2 rM (i := j) (by omega), hu, obs, ↓reduceIte]
    · -- no such type
      have e2 : fX9_isType (some (x + 8)) t h = some (0, h) := by
        rcases isTypeM rM w t with ⟨-, q⟩ | ⟨q, -⟩
        · exact absurd q nt
        · exact q
      refine Same.no (r := -1) I ?_ ?_
      · simp only [fX8_field, gR_at, rc_at, k8, k6, r0, ka, e1, obs, reduceCtorEq, ↓reduceIte]
      · simp only [fX9_field, rcM rM, m1, e2, n10, obs, ↓reduceIte]
  · -- no such class
    refine Same.no (r := -1) I ?_ ?_
    · simp only [fX8_field, gR_at, rc_at, k8, k6, r0, kindAt_no p hc, obs, ↓reduceIte]
    · simp only [fX9_field, rcM rM, m1, obs, ↓reduceIte]
end
