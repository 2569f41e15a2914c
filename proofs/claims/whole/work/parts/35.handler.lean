/-- tau with one handler more -/
def tauH (τ : Nat → Nat → Int32) (j n : Nat) (f t k pl : Int32) : Nat → Nat → Int32 := u2 (u2 (u2 (u2 (u2 (u2 τ 19 (8 * j + n) f) 20 (8 * j + n) t) 21 (8 * j + n) k) 22 (8 * j + n) pl) 18 j (nI (n + 1))) 23 j 0
section
variable {τ : Nat → Nat → Int32} {j n : Nat} {f t k pl : Int32}
theorem tauH0 {c i : Nat} (hc : c ≠ 18 ∧ c ≠ 19 ∧ c ≠ 20 ∧ c ≠ 21 ∧ c ≠ 22 ∧ c ≠ 23) : tauH τ j n f t k pl c i = τ c i := by
  simp only [tauH, u2_at, hc, false_and, ↓reduceIte]
theorem tauH18 (i : Nat) : tauH τ j n f t k pl 18 i = if i = j then nI (n + 1) else τ 18 i := by simp [tauH, u2_at]
theorem tauH23 (i : Nat) : tauH τ j n f t k pl 23 i = if i = j then 0 else τ 23 i := by simp [tauH, u2_at]
theorem tauH19 (i : Nat) : tauH τ j n f t k pl 19 i = if i = 8 * j + n then f else τ 19 i := by simp [tauH, u2_at]
theorem tauH20 (i : Nat) : tauH τ j n f t k pl 20 i = if i = 8 * j + n then t else τ 20 i := by simp [tauH, u2_at]
theorem tauH21 (i : Nat) : tauH τ j n f t k pl 21 i = if i = 8 * j + n then k else τ 21 i := by simp [tauH, u2_at]
theorem tauH22 (i : Nat) : tauH τ j n f t k pl 22 i = if i = 8 * j + n then pl else τ 22 i := by simp [tauH, u2_at]
theorem tauHt (tb : List (Nat × Nat)) (ht : ∀ q ∈ tb, q.1 ≠ 18 ∧ q.1 ≠ 19 ∧ q.1 ≠ 20 ∧ q.1 ≠ 21 ∧ q.1 ≠ 22 ∧ q.1 ≠ 23) (i : Nat) : tg tb τ (tauH τ j n f t k pl) i := fun q hq k hk => tauH0 (ht q hq)
theorem tauHM {m : Nat} (hm : m ≠ j) : tg tM τ (tauH τ j n f t k pl) m := by
  intro q hq k hk
  simp only [tM, List.mem_cons, List.not_mem_nil, or_false] at hq
  rcases hq with rfl | rfl | rfl | rfl | rfl | rfl | rfl | rfl | rfl | rfl <;> simp only at hk ⊢
  · exact tauH0 (by decide)
  · exact tauH0 (by decide)
  · exact tauH0 (by decide)
  · exact tauH0 (by decide)
  · exact tauH0 (by decide)
  · exact tauH0 (by decide)
  · exact tauH0 (by decide)
  · exact tauH0 (by decide)
  · rw [tauH18, if_neg (by omega)]
  · rw [tauH23, if_neg (by omega)]
theorem tauHH {i : Nat} (hi : i ≠ 8 * j + n) : tg tH τ (tauH τ j n f t k pl) i := by
  intro q hq k hk
  simp only [tH, List.mem_cons, List.not_mem_nil, or_false] at hq
  rcases hq with rfl | rfl | rfl | rfl <;> simp only at hk ⊢
  · rw [tauH19, if_neg (by omega)]
  · rw [tauH20, if_neg (by omega)]
  · rw [tauH21, if_neg (by omega)]
  · rw [tauH22, if_neg (by omega)]
theorem tauH_WF (w : WF τ) (hj : j < cn (τ 6 0)) (hn : n < 8) (en : cn (τ 18 j) = n) {kc pp : Nat} (hkc : kc < cn (τ 0 0)) (hpp : pp < 200) : WF (tauH τ j n f t (nI kc) (nI pp)) := by
  have z0 : tauH τ j n f t (nI kc) (nI pp) 0 0 = τ 0 0 := tauH0 (by decide)
  have z6 : tauH τ j n f t (nI kc) (nI pp) 6 0 = τ 6 0 := tauH0 (by decide)
  obtain ⟨w1, w2, w3, w4, w5, w6, w7, w8, w9, w10, w11, w12⟩ := w.2.2.2.1 j hj
  refine ⟨by rw [z0]; exact w.1, by rw [z6]; exact w.2.1, fun c hc => ?_, fun m hm => ?_, fun m h1 h2 => ?_⟩
  · rw [z0] at hc
    exact WFc.mono w hc z0 (by rw [z6]; exact Nat.le_refl _) (fun i hi => tauH0 (by decide)) (tauHt tW (by decide) c)
  · rw [z6] at hm
    by_cases e : m = j
    · subst e
      have e18 : tauH τ m n f t (nI kc) (nI pp) 18 m = nI (n + 1) := by rw [tauH18, if_pos rfl]
      refine ⟨by rw [tauH0 (by decide), z0]; exact w1, by rw [tauH0 (by decide), z0]; exact w2, by rw [tauH0 (by decide), tauH0 (by decide)]; exact w3, by rw [tauH0 (by decide), tauH0 (by decide)]; exact w4, fun k hk => ?_, by rw [tauH0 (by decide)]; exact w6, Or.inl (by rw [tauH23, if_pos rfl]), by rw [tauH0 (by decide)]; exact w8, by rw [e18, cn_nI (by omega)]; exact ⟨nlt0 (by omega), by omega⟩, fun i hi => ?_, fun k hk => ?_, fun hv => absurd (by rw [tauH23, if_pos rfl]) hv⟩
      · rw [tauH0 (by decide)] at hk
        rw [z0, tauH0 (by decide)]; exact w5 k hk
      · rw [tauH0 (by decide)] at hi
        rw [tauH0 (c := 15) (by decide), tauH0 (c := 16) (by decide), tauH0 (c := 17) (by decide)]
        exact (w10 i hi).mono (by rw [z0]; exact Nat.le_refl _) (by rw [z6]; exact Nat.le_refl _) (by rw [tauH0 (by decide)]) (fun c hc => by rw [tauH0 (c := 3) (by decide)]; exact Nat.le_refl _) (fun c s hc hs => by rw [z6, tauH0 (c := 5) (by decide)]; exact fun q => q)
      · rw [e18, cn_nI (by omega)] at hk
        rw [tauH21, tauH22, z0]
        by_cases e : k = n
        · rw [if_pos (by omega), if_pos (by omega)]; exact ⟨⟨kc, hkc, rfl⟩, pp, hpp, rfl⟩
        · rw [if_neg (by omega), if_neg (by omega)]; exact w11 k (by omega)
    · exact (w.2.2.2.1 m hm).mono (by rw [z0]; exact Nat.le_refl _) (by rw [z6]; exact Nat.le_refl _) (tauHM e) (fun i _ => tauHt tI (by decide) _) (fun i hi => tauHH (by omega)) (fun c hc => by rw [tauH0 (c := 3) (by decide)]; exact Nat.le_refl _) (fun c s hc hs => by rw [z6, tauH0 (c := 5) (by decide)]; exact fun q => q)
  · rw [z6] at h1
    rw [tauH0 (c := 13) (by decide), tauH0 (c := 14) (by decide), tauH18, tauH23, if_neg (by omega), if_neg (by omega)]
    exact w.2.2.2.2 m h1 h2
end
section
variable {τ : Nat → Nat → Int32} {x : Nat} {h : zH}
set_option maxHeartbeats 2000000 in
theorem op_handler (I : Inv τ x h) (c f t k pl : Int32) : Same (fX8_handler (some x) c f t k pl) (fX9_handler (some (x + 8)) c f t k pl) x h := by
  obtain ⟨w, rM, kd, md, ib, hd, p⟩ := I
  have k8 : zk h x = 9 := p.1.1.1
  have k6 : zk h (x + 1) = 7 := p.1.1.2.1
  have r0 : zr h 8 0 x = some (x + 1) := p.1.2.1.1
  have I : Inv τ x h := ⟨w, rM, kd, md, ib, hd, p⟩
  have hn := w.2.1.2
  have hnk := w.1.2
  rcases isMethodM rM w c with ⟨m1, j, hj, rfl⟩ | ⟨m1, hc⟩
  · have ma := methodAt_at p w hj
    rcases isClassM rM w k with ⟨m2, kc, hkc, rfl⟩ | ⟨m2, hk⟩
    · have ka := kindAt_at p w hkc
      rcases isPlaceC (h := h) pl with ⟨e1, g1, g2, pp, hpp, rfl⟩ | ⟨e1, g1⟩
      · by_cases g3 : f < 0
        · refine Same.no (r := -1) I ?_ ?_
          · simp only [fX8_handler, gR_at, rc_at, k8, k6, r0, ma, ka, e1, n10, g3, obs, reduceCtorEq, ↓reduceIte]
          · simp only [fX9_handler, rcM rM, m1, m2, n10, g3, obs, ↓reduceIte]
        · by_cases g4 : t ≤ f
          · refine Same.no (r := -1) I ?_ ?_
            · simp only [fX8_handler, gR_at, rc_at, k8, k6, r0, ma, ka, e1, n10, g3, g4, obs, reduceCtorEq, ↓reduceIte]
            · simp only [fX9_handler, rcM rM, m1, m2, n10, g3, g4, obs, ↓reduceIte]
          · by_cases g5 : t ≤ 200
            · have g6 : ¬ (200 : Int32) < t := Int32.not_lt.mpr g5
              obtain ⟨-, b1, b2, rt⟩ := p.2.2.2.2.1 j hj
              obtain ⟨⟨a1, a2, a3, a4, a5, a6, a7, a8, a9, a10⟩, ⟨d0, d1, d2, d3, d4, d5, d6, d7, d8⟩, f1⟩ := id rt
              have w9 := (w.2.2.2.1 j hj).2.2.2.2.2.2.2.2.1
              have v18 : τ 18 j = nI (cn (τ 18 j)) := nI_of_cn w9.1
              by_cases hfull : cn (τ 18 j) < 8
              · generalize hnn : cn (τ 18 j) = n at *
                have zs0 := p.2.1
                obtain ⟨h1, c1, A, s1, ⟨n0, n1, n2, n3, n4⟩, q3, iv, rv, kj, k3, l3⟩ := addHandlerC h f t (nI kc) (nI pp) n hfull b2 a1 a4 a7 a10 (d6.trans v18)
                have hm1 : RM τ (x + 8) h1 := rM.ag (fun b h1 h2 => A b (by omega) (by omega) (by omega))
                obtain ⟨h2, c2, hm2, fr⟩ := addHandlerM hm1 w hj kc hkc rfl hfull v18 g1 g2 g3 g4 g6
                have c1' : fX8_handler (some x) (nI j) f t (nI kc) (nI pp) h = some (nI n, h1) := by
                  simp only [fX8_handler, gR_at, rc_at, k8, k6, r0, a1, ma, ka, e1, n10, g3, g4, g5, c1, obs, reduceCtorEq, ↓reduceIte]
                have A1 := A (md j + 1) (by omega) (by omega) (by omega)
                have A2 := A (md j + 2) (by omega) (by omega) (by omega)
                have q : RC (tauH τ j n f t (nI kc) (nI pp)) kd md ib (up3 hd j (cn (τ 18 j)) (zs h)) x h1 := by
                  refine p.addH hj s1 (fun b hb => ?_) (tauH0 (by decide)) (tauH0 (by decide)) (tauH0 (by decide)) (fun c => tauHt tK (by decide) c) (fun m hm => tauHM hm) (fun i => tauHt tI (by decide) i) (fun i hi => tauHH (by rw [hnn] at hi; exact hi)) (fun m hm => (w.2.2.2.1 m hm).2.2.2.2.2.2.2.2.1.2) (by omega) (by rw [tauH0 (by decide)]) (by rw [tauH18, if_pos rfl, cn_nI (by omega), hnn]) (by rw [tauH23, if_pos rfl]) (fun i => A2.q i) (fun i => by rw [hnn]; exact q3 i) ?_ ?_
                  · rcases hb with hb | ⟨hb, hb3, hb2⟩
                    · exact A b (by omega) (by omega) (by omega)
                    · have := hb2 0 (by omega); have := hb2 3 (by omega)
                      exact A b (by omega) (by omega) (by omega)
                  · exact ⟨⟨kj, A1.k.trans a2, A2.k.trans a3, k3, (rv 4).trans a5, (rv 5).trans a6, (rv 6).trans a7, A1.l.trans a8, A2.l.trans a9, l3⟩,
                      ⟨by rw [tauH0 (by decide), rv]; exact d0, by rw [tauH0 (by decide), iv]; exact d1, by rw [tauH0 (by decide), iv]; exact d2, by rw [tauH0 (by decide), iv]; exact d3, by rw [tauH0 (by decide), iv]; exact d4, by rw [tauH0 (by decide), iv]; exact d5, by rw [tauH18, if_pos rfl, iv]; rfl, by rw [tauH0 (by decide), iv]; exact d7, by rw [tauH23, if_pos rfl, iv]; rfl⟩,
                      fun k h1 h2 => by rw [tauH0 (by decide)] at h2; rw [A1.a, tauH0 (by decide)]; exact f1 k h1 h2⟩
                  · rw [hnn]
                    exact ⟨n0, by rw [tauH19, if_pos rfl]; exact n1, by rw [tauH20, if_pos rfl]; exact n2, by rw [tauH21, if_pos rfl]; exact n3, by rw [tauH22, if_pos rfl]; exact n4⟩
                exact Same.of c1' hm1 c2 (tauH_WF w hj hfull hnn hkc hpp) hm2 fr q
              · have hv : τ 18 j = 8 := by
                  have : cn (τ 18 j) = 8 := by omega
                  rw [v18, this]; rfl
                refine Same.no (r := -2) I ?_ ?_
                · have q1 : ¬ (8 : Int32) < 8 := by decide
                  simp only [fX8_handler, fX3_addHandler, gR_at, gI_at, rc_at, k8, k6, r0, a1, d6, hv, q1, ma, ka, e1, n10, g3, g4, g5, obs, reduceCtorEq, ↓reduceIte]
                · simp only [fX9_handler, rcM rM, m1, m2, n10, g1, g2, g3, g4, g6, gRM18 rM, aM18 rM (i := j) (by omega), hv, obs, ↓reduceIte]
            · have g6 : (200 : Int32) < t := Int32.not_le.mp g5
              refine Same.no (r := -1) I ?_ ?_
              · simp only [fX8_handler, gR_at, rc_at, k8, k6, r0, ma, ka, e1, n10, g3, g4, g5, obs, reduceCtorEq, ↓reduceIte]
              · simp only [fX9_handler, rcM rM, m1, m2, n10, g3, g4, g6, obs, ↓reduceIte]
      · refine Same.no (r := -1) I ?_ ?_
        · simp only [fX8_handler, gR_at, rc_at, k8, k6, r0, ma, ka, e1, obs, reduceCtorEq, ↓reduceIte]
        · by_cases g3 : f < 0
          · simp only [fX9_handler, rcM rM, m1, m2, n10, g3, obs, ↓reduceIte]
          · by_cases g4 : t ≤ f
            · simp only [fX9_handler, rcM rM, m1, m2, n10, g3, g4, obs, ↓reduceIte]
            · by_cases g6 : (200 : Int32) < t
              · simp only [fX9_handler, rcM rM, m1, m2, n10, g3, g4, g6, obs, ↓reduceIte]
              · rcases g1 with g1 | ⟨g1, g2⟩
                · simp only [fX9_handler, rcM rM, m1, m2, n10, g3, g4, g6, g1, obs, ↓reduceIte]
                · simp only [fX9_handler, rcM rM, m1, m2, n10, g3, g4, g6, g1, g2, obs, ↓reduceIte]
    · refine Same.no (r := -1) I ?_ ?_
      · simp only [fX8_handler, gR_at, rc_at, k8, k6, r0, ma, kindAt_no p hk, obs, reduceCtorEq, ↓reduceIte]
      · simp only [fX9_handler, rcM rM, m1, m2, n10, obs, ↓reduceIte]
  · refine Same.no (r := -1) I ?_ ?_
    · simp only [fX8_handler, gR_at, rc_at, k8, k6, r0, methodAt_no p hc, obs, ↓reduceIte]
    · simp only [fX9_handler, rcM rM, m1, obs, ↓reduceIte]
end
