theorem newRow (h : zH) : ∃ hR, fX4_init (some (zs h)) (nwO 4 h) = some hR ∧ (zk hR (zs h) = 5 ∧ zk hR (zs h + 1) = 100 ∧ zl hR (zs h + 1) = 12 ∧ zr hR 4 0 (zs h) = some (zs h + 1)) ∧ zs hR = zs h + 2 ∧ (∀ b, b ≠ zs h → b ≠ zs h + 1 → ag h hR b) := by
  have z0 : zk (nwO 4 h) (zs h) = 5 := by rw [zk_nwO, if_pos rfl]
  have z1 : zk (nwA 100 12 (nwO 4 h)) (zs h) = 5 := by rw [zk_nwA, if_neg (by rw [zs_nwO]; omega)]; exact z0
  refine ⟨str 4 0 (zs h) (some (zs h + 1)) (nwA 100 12 (nwO 4 h)), ?_, ⟨?_, ?_, ?_, ?_⟩, ?_, ?_⟩
  · simp only [fX4_init, rc_at, pR_at, z0, z1, zs_nwO, obs]
  · rw [zk_str]; exact z1
  · rw [zk_str, zk_nwA, zs_nwO, if_pos rfl]
  · rw [zl_str, zl_nwA, zs_nwO, if_pos rfl]
  · rw [zr_str, if_pos ⟨rfl, rfl, rfl⟩]
  · rw [zs_str, zs_nwA, zs_nwO]
  · exact fun b h1 h2 => ((ag_nwO h1).tr (ag_nwA (by rw [zs_nwO]; exact h2))).tr (ag_str h1)
theorem newI (h : zH) (op a b : Int32) : ∃ hA, fX1_init (some (zs h)) op a b (nwO 1 h) = some hA ∧ (zk hA (zs h) = 2 ∧ zk hA (zs h + 1) = 5 ∧ zk hA (zs h + 2) = 100 ∧ zr hA 1 3 (zs h) = some (zs h + 1) ∧ zr hA 4 0 (zs h + 1) = some (zs h + 2) ∧ zl hA (zs h + 2) = 12) ∧ (zi hA 1 0 (zs h) = op ∧ zi hA 1 1 (zs h) = a ∧ zi hA 1 2 (zs h) = b) ∧ (∀ b, b ≠ zs h → b ≠ zs h + 1 → b ≠ zs h + 2 → ag h hA b) ∧ zs hA = zs h + 3 := by
  obtain ⟨hR, c0, ⟨k1, k2, l2, r1⟩, s1, A⟩ := newRow (nwO 1 h)
  rw [zs_nwO] at c0 k1 k2 l2 r1 s1 A
  have e3 : zs h + 1 + 1 = zs h + 2 := rfl
  rw [e3] at k2 l2 r1
  have z0 : zk (nwO 1 h) (zs h) = 2 := by rw [zk_nwO, if_pos rfl]
  have kR : zk hR (zs h) = 2 := (A (zs h) (by omega) (by omega)).k.trans z0
  refine ⟨sti 1 2 (zs h) b (sti 1 1 (zs h) a (sti 1 0 (zs h) op (str 1 3 (zs h) (some (zs h + 1)) hR))), ?_, ⟨?_, ?_, ?_, ?_, ?_, ?_⟩, ?_, ?_, ?_⟩
  · simp only [fX1_init, rc_at, pI_at, pR_at, zk_sti, zk_str, z0, kR, zs_nwO, c0, obs]
  · rw [zk_sti, zk_sti, zk_sti, zk_str]; exact kR
  · rw [zk_sti, zk_sti, zk_sti, zk_str]; exact k1
  · rw [zk_sti, zk_sti, zk_sti, zk_str]; exact k2
  · rw [zr_sti, zr_sti, zr_sti, zr_str, if_pos ⟨rfl, rfl, rfl⟩]
  · rw [zr_sti, zr_sti, zr_sti, zr_str, if_neg (by omega)]; exact r1
  · rw [zl_sti, zl_sti, zl_sti, zl_str]; exact l2
  · simp [zi_sti]
  · exact fun b h1 h2 h3 => (((((ag_nwO h1).tr (A b h2 (by omega))).tr (ag_str h1)).tr (ag_sti h1)).tr (ag_sti h1)).tr (ag_sti h1)
  · rw [zs_sti, zs_sti, zs_sti, zs_str, s1]
theorem addInstrC {a : Nat} (h : zH) (op u v : Int32) (n : Nat) (hn : n < 200) (ha : a + 4 ≤ zs h) (a1 : zk h a = 4) (a3 : zk h (a + 2) = 103) (a6 : zr h 3 5 a = some (a + 2)) (a9 : zl h (a + 2) = 200) (d5 : zi h 3 8 a = nI n) : ∃ h1, fX3_addInstruction (some a) op u v h = some (nI n, h1) ∧ (∀ b, b ≠ zs h → b ≠ zs h + 1 → b ≠ zs h + 2 → b ≠ a → b ≠ a + 2 → ag h h1 b) ∧ zs h1 = zs h + 3 ∧ ((zk h1 (zs h) = 2 ∧ zk h1 (zs h + 1) = 5 ∧ zk h1 (zs h + 2) = 100 ∧ zr h1 1 3 (zs h) = some (zs h + 1) ∧ zr h1 4 0 (zs h + 1) = some (zs h + 2) ∧ zl h1 (zs h + 2) = 12) ∧ zi h1 1 0 (zs h) = op ∧ zi h1 1 1 (zs h) = u ∧ zi h1 1 2 (zs h) = v) ∧ (∀ i, zq h1 (a + 2) i = if i = n then some (zs h) else zq h (a + 2) i) ∧ (∀ k, zi h1 3 k a = if k = 11 then 0 else if k = 8 then nI (n + 1) else zi h 3 k a) ∧ (∀ k, zr h1 3 k a = zr h 3 k a) ∧ zk h1 a = 4 ∧ zk h1 (a + 2) = 103 ∧ zl h1 (a + 2) = 200 := by
  obtain ⟨hA, c0, kA, iA, A1, sA⟩ := newI h op u v
  have A0 := A1 a (by omega) (by omega) (by omega)
  have A3 := A1 (a + 2) (by omega) (by omega) (by omega)
  have q1 : nI n < (200 : Int32) := @nI_lt n 200 hn (by decide)
  have qs := sQ_at (c := 1) (a := a + 2) (b := zs h) (i := n) (h := hA) 200 (A3.k.trans a3) (A3.l.trans a9) hn (by decide) kA.1
  have kj : zk hA a = 4 := A0.k.trans a1
  have ij : zi hA 3 8 a = nI n := (A0.i 3 8).trans d5
  have e7 : zi (sti 3 11 a 0 (sti 3 8 a (nI n + 1) (stq (a + 2) n (some (zs h)) hA))) 3 8 a = nI n + 1 := by rw [zi_sti, if_neg (by omega), zi_sti, if_pos ⟨rfl, rfl, rfl⟩]
  have vf : nI n + 1 - 1 = nI n := by rw [nI_1, nI_pred]
  refine ⟨sti 3 11 a 0 (sti 3 8 a (nI n + 1) (stq (a + 2) n (some (zs h)) hA)), ?_, ?_, ?_, ?_, ?_, ?_, ?_, ?_, ?_, ?_⟩
  · simp only [fX3_addInstruction, gI_at, gR_at, pI_at, pZ0_at, a1, a6, d5, q1, c0, qs, kj, ij, e7, vf, zk_sti, zk_stq, zi_stq, obs, ↓reduceIte]
  · exact fun b n1 n1' n1'' n2 n3 => (((A1 b n1 n1' n1'').tr (ag_stq n3)).tr (ag_sti n2)).tr (ag_sti n2)
  · rw [zs_sti, zs_sti, zs_stq]; exact sA
  · have B : ∀ b, b ≠ a → b ≠ a + 2 → ag hA (sti 3 11 a 0 (sti 3 8 a (nI n + 1) (stq (a + 2) n (some (zs h)) hA))) b := fun b n2 n3 => ((ag_stq n3).tr (ag_sti n2)).tr (ag_sti n2)
    have B0 := B (zs h) (by omega) (by omega)
    have B1 := B (zs h + 1) (by omega) (by omega)
    have B2 := B (zs h + 2) (by omega) (by omega)
    exact ⟨⟨B0.k.trans kA.1, B1.k.trans kA.2.1, B2.k.trans kA.2.2.1, (B0.r 1 3).trans kA.2.2.2.1, (B1.r 4 0).trans kA.2.2.2.2.1, B2.l.trans kA.2.2.2.2.2⟩, (B0.i 1 0).trans iA.1, (B0.i 1 1).trans iA.2.1, (B0.i 1 2).trans iA.2.2⟩
  · intro i
    rw [zq_sti, zq_sti, zq_stq]
    by_cases e : i = n
    · rw [if_pos ⟨rfl, e⟩, if_pos e]
    · rw [if_neg (fun q => e q.2), if_neg e]; exact A3.q i
  · intro k
    rw [zi_sti]
    by_cases e : k = 11
    · rw [if_pos ⟨rfl, e, rfl⟩, if_pos e]
    · rw [if_neg (fun q => e q.2.1), if_neg e, zi_sti]
      by_cases e2 : k = 8
      · rw [if_pos ⟨rfl, e2, rfl⟩, if_pos e2, nI_1]
      · rw [if_neg (fun q => e2 q.2.1), if_neg e2, zi_stq]; exact A0.i 3 k
  · intro k
    rw [zr_sti, zr_sti, zr_stq]; exact A0.r 3 k
  · rw [zk_sti, zk_sti, zk_stq]; exact kj
  · rw [zk_sti, zk_sti, zk_stq]; exact A3.k.trans a3
  · rw [zl_sti, zl_sti, zl_stq]; exact A3.l.trans a9
/-- tau with one instruction more -/
def tauI (τ : Nat → Nat → Int32) (j n : Nat) (op u v : Int32) : Nat → Nat → Int32 := u2 (u2 (u2 (u2 (u2 τ 15 (200 * j + n) op) 16 (200 * j + n) u) 17 (200 * j + n) v) 14 j (nI (n + 1))) 23 j 0
section
variable {τ : Nat → Nat → Int32} {j n : Nat} {op u v : Int32}
theorem tauI0 {c i : Nat} (hc : c ≠ 14 ∧ c ≠ 15 ∧ c ≠ 16 ∧ c ≠ 17 ∧ c ≠ 23) : tauI τ j n op u v c i = τ c i := by
  simp only [tauI, u2_at, hc, false_and, ↓reduceIte]
theorem tauI14 (i : Nat) : tauI τ j n op u v 14 i = if i = j then nI (n + 1) else τ 14 i := by simp [tauI, u2_at]
theorem tauI23 (i : Nat) : tauI τ j n op u v 23 i = if i = j then 0 else τ 23 i := by simp [tauI, u2_at]
theorem tauI15 (i : Nat) : tauI τ j n op u v 15 i = if i = 200 * j + n then op else τ 15 i := by simp [tauI, u2_at]
theorem tauI16 (i : Nat) : tauI τ j n op u v 16 i = if i = 200 * j + n then u else τ 16 i := by simp [tauI, u2_at]
theorem tauI17 (i : Nat) : tauI τ j n op u v 17 i = if i = 200 * j + n then v else τ 17 i := by simp [tauI, u2_at]
theorem tauIt (tb : List (Nat × Nat)) (ht : ∀ q ∈ tb, q.1 ≠ 14 ∧ q.1 ≠ 15 ∧ q.1 ≠ 16 ∧ q.1 ≠ 17 ∧ q.1 ≠ 23) (i : Nat) : tg tb τ (tauI τ j n op u v) i := fun q hq k hk => tauI0 (ht q hq)
theorem tauIM {m : Nat} (hm : m ≠ j) : tg tM τ (tauI τ j n op u v) m := by
  intro q hq k hk
  simp only [tM, List.mem_cons, List.not_mem_nil, or_false] at hq
  rcases hq with rfl | rfl | rfl | rfl | rfl | rfl | rfl | rfl | rfl | rfl <;> simp only at hk ⊢
  · exact tauI0 (by decide)
  · exact tauI0 (by decide)
  · exact tauI0 (by decide)
  · exact tauI0 (by decide)
  · exact tauI0 (by decide)
  · exact tauI0 (by decide)
  · exact tauI0 (by decide)
  · rw [tauI14, if_neg (by omega)]
  · exact tauI0 (by decide)
  · rw [tauI23, if_neg (by omega)]
theorem tauII {i : Nat} (hi : i ≠ 200 * j + n) : tg tI τ (tauI τ j n op u v) i := by
  intro q hq k hk
  simp only [tI, List.mem_cons, List.not_mem_nil, or_false] at hq
  rcases hq with rfl | rfl | rfl | rfl | rfl <;> simp only at hk ⊢
  · rw [tauI15, if_neg (by omega)]
  · rw [tauI16, if_neg (by omega)]
  · rw [tauI17, if_neg (by omega)]
  · exact tauI0 (by decide)
  · exact tauI0 (by decide)
theorem tauI_WF (w : WF τ) (hj : j < cn (τ 6 0)) (hn : n < 200) (en : cn (τ 14 j) = n) {o : Nat} (ho : o ≤ 41) (ok : okQ τ j o u v) : WF (tauI τ j n (nI o) u v) := by
  have z0 : tauI τ j n (nI o) u v 0 0 = τ 0 0 := tauI0 (by decide)
  have z6 : tauI τ j n (nI o) u v 6 0 = τ 6 0 := tauI0 (by decide)
  obtain ⟨w1, w2, w3, w4, w5, w6, w7, w8, w9, w10, w11, w12⟩ := w.2.2.2.1 j hj
  have omono : ∀ {op' u' v' : Int32}, okO τ j op' u' v' → okO (tauI τ j n (nI o) u v) j op' u' v' := fun q => q.mono (by rw [z0]; exact Nat.le_refl _) (by rw [z6]; exact Nat.le_refl _) (by rw [tauI0 (by decide)]) (fun c hc => by rw [tauI0 (c := 3) (by decide)]; exact Nat.le_refl _) (fun c s hc hs => by rw [z6, tauI0 (c := 5) (by decide)]; exact fun q => q)
  refine ⟨by rw [z0]; exact w.1, by rw [z6]; exact w.2.1, fun c hc => ?_, fun m hm => ?_, fun m h1 h2 => ?_⟩
  · rw [z0] at hc
    exact WFc.mono w hc z0 (by rw [z6]; exact Nat.le_refl _) (fun i hi => tauI0 (by decide)) (tauIt tW (by decide) c)
  · rw [z6] at hm
    by_cases e : m = j
    · subst e
      have e14 : tauI τ m n (nI o) u v 14 m = nI (n + 1) := by rw [tauI14, if_pos rfl]
      refine ⟨by rw [tauI0 (by decide), z0]; exact w1, by rw [tauI0 (by decide), z0]; exact w2, by rw [tauI0 (by decide), tauI0 (by decide)]; exact w3, by rw [tauI0 (by decide), tauI0 (by decide)]; exact w4, fun k hk => ?_, by rw [tauI0 (by decide)]; exact w6, Or.inl (by rw [tauI23, if_pos rfl]), by rw [e14, cn_nI (by omega)]; exact ⟨nlt0 (by omega), by omega⟩, by rw [tauI0 (by decide)]; exact w9, fun i hi => ?_, fun k hk => ?_, fun hv => absurd (by rw [tauI23, if_pos rfl]) hv⟩
      · rw [tauI0 (by decide)] at hk
        rw [z0, tauI0 (by decide)]; exact w5 k hk
      · rw [e14, cn_nI (by omega)] at hi
        rw [tauI15, tauI16, tauI17]
        by_cases e : i = n
        · rw [if_pos (by omega), if_pos (by omega), if_pos (by omega)]; exact omono ((okO_iff ho).mpr ok)
        · rw [if_neg (by omega), if_neg (by omega), if_neg (by omega)]; exact omono (w10 i (by omega))
      · rw [tauI0 (by decide)] at hk
        rw [tauI0 (c := 21) (by decide), tauI0 (c := 22) (by decide), z0]; exact w11 k hk
    · exact (w.2.2.2.1 m hm).mono (by rw [z0]; exact Nat.le_refl _) (by rw [z6]; exact Nat.le_refl _) (tauIM e) (fun i hi => tauII (by omega)) (fun i hi => tauIt tH (by decide) _) (fun c hc => by rw [tauI0 (c := 3) (by decide)]; exact Nat.le_refl _) (fun c s hc hs => by rw [z6, tauI0 (c := 5) (by decide)]; exact fun q => q)
  · rw [z6] at h1
    rw [tauI0 (c := 13) (by decide), tauI0 (c := 18) (by decide), tauI14, tauI23, if_neg (by omega), if_neg (by omega)]
    exact w.2.2.2.2 m h1 h2
theorem addInstrM {m o : Nat} {h : zH} (rM : RM τ m h) (w : WF τ) (hj : j < cn (τ 6 0)) (ho : o ≤ 41) (ok : okQ τ j o u v) (hn : n < 200) (v14 : τ 14 j = nI n) : ∃ h2, fX9_op (some m) (nI j) (nI o) u v h = some (nI n, h2) ∧ RM (tauI τ j n (nI o) u v) m h2 ∧ Mfr m h h2 := by
  have hn2 := w.2.1.2
  obtain ⟨h1, t1, hm2, r1⟩ := eM15 rM (i := 200 * j + n) (by omega) (nI o)
  obtain ⟨h2, t2, hm3, r2⟩ := eM16 hm2 (i := 200 * j + n) (by omega) u
  obtain ⟨h3, t3, hm4, r3⟩ := eM17 hm3 (i := 200 * j + n) (by omega) v
  obtain ⟨h4, t4, hm5, r4⟩ := eM14 hm4 (i := j) (by omega) (nI (n + 1))
  obtain ⟨h5, t5, hm6, r5⟩ := eM23 hm5 (i := j) (by omega) (v := 0) (Or.inl rfl)
  have lin1 : (200 : Int32) * nI j + nI n = nI (200 * j + n) := lin trivial
  have l14 := aM14 rM (i := j) (by omega)
  have l14b := aM14 hm4 (i := j) (by omega)
  have l14c := aM14 hm6 (i := j) (by omega)
  rw [v14] at l14
  have x1 : u2 (u2 (u2 τ 15 (200 * j + n) (nI o)) 16 (200 * j + n) u) 17 (200 * j + n) v 14 j = nI n := by
    rw [u2_at, if_neg (by omega), u2_at, if_neg (by omega), u2_at, if_neg (by omega), v14]
  have x2 : u2 (u2 (u2 (u2 (u2 τ 15 (200 * j + n) (nI o)) 16 (200 * j + n) u) 17 (200 * j + n) v) 14 j (nI (n + 1))) 23 j 0 14 j = nI (n + 1) := by
    rw [u2_at, if_neg (by omega), u2_at, if_pos ⟨rfl, rfl⟩]
  rw [x1] at l14b
  rw [x2] at l14c
  have q2 : ¬ nI n = (200 : Int32) := fun q => by have := nI_inj (a := n) (b := 200) (by omega) (by decide) q; omega
  have q3 : ¬ nI o < 0 := nlt0 (by omega)
  have q4 : ¬ (41 : Int32) < nI o := show ¬ nI 41 < nI o from nI_nlt (by omega) (by omega)
  have g1 : fX9_isGood (some m) (nI j) (nI o) u v h = some (1, h) := by
    rcases isGoodM rM w hj ho u v with ⟨q, -⟩ | ⟨-, q⟩
    · exact q
    · exact absurd ok q
  refine ⟨h5, ?_, hm6, (((r1.tr r2).tr r3).tr r4).tr r5⟩
  simp only [fX9_op, rcM rM, isMethodM1 rM w hj, n10, q3, q4, g1, gRM14 rM, gRM15 rM, l14, q2, lin1, t1, gRM16 hm2, t2, gRM17 hm3, t3, gRM14 hm4, l14b, nI_1, t4, gRM23 hm5, t5, gRM14 hm6, l14c, nI_pred, obs, ↓reduceIte]
end
section
variable {τ : Nat → Nat → Int32} {x : Nat} {h : zH}
set_option maxHeartbeats 2000000 in
theorem op_op (I : Inv τ x h) (c op u v : Int32) : Same (fX8_op (some x) c op u v) (fX9_op (some (x + 8)) c op u v) x h := by
  obtain ⟨w, rM, kd, md, ib, hd, p⟩ := I
  have k8 : zk h x = 9 := p.1.1.1
  have k6 : zk h (x + 1) = 7 := p.1.1.2.1
  have r0 : zr h 8 0 x = some (x + 1) := p.1.2.1.1
  have I : Inv τ x h := ⟨w, rM, kd, md, ib, hd, p⟩
  have hn := w.2.1.2
  rcases isMethodM rM w c with ⟨m1, j, hj, rfl⟩ | ⟨m1, hc⟩
  · have ma := methodAt_at p w hj
    obtain ⟨-, b1, b2, rt⟩ := p.2.2.2.2.1 j hj
    obtain ⟨⟨a1, a2, a3, a4, a5, a6, a7, a8, a9, a10⟩, ⟨d0, d1, d2, d3, d4, d5, d6, d7, d8⟩, f1⟩ := id rt
    by_cases hr : ∃ o, o ≤ 41 ∧ op = nI o
    · obtain ⟨o, ho, rfl⟩ := hr
      have q3 : ¬ nI o < 0 := nlt0 (by omega)
      have q4 : ¬ (41 : Int32) < nI o := show ¬ nI 41 < nI o from nI_nlt (by omega) (by omega)
      rcases areOpC p w hj ho u v with ⟨e1, ok⟩ | ⟨e1, nok⟩
      · have w8 := (w.2.2.2.1 j hj).2.2.2.2.2.2.2.1
        have v14 : τ 14 j = nI (cn (τ 14 j)) := nI_of_cn w8.1
        by_cases hfull : cn (τ 14 j) < 200
        · generalize hnn : cn (τ 14 j) = n at *
          have zs0 := p.2.1
          obtain ⟨h1, c1, A, s1, ni, q2, iv, rv, kj, k2, l2⟩ := addInstrC h (nI o) u v n hfull b2 a1 a3 a6 a9 (d5.trans v14)
          have hm1 : RM τ (x + 8) h1 := rM.ag (fun b h1 h2 => A b (by omega) (by omega) (by omega) (by omega) (by omega))
          obtain ⟨h2, c2, hm2, fr⟩ := addInstrM hm1 w hj ho ok hfull v14
          have c1' : fX8_op (some x) (nI j) (nI o) u v h = some (nI n, h1) := by
            simp only [fX8_op, gR_at, rc_at, k8, k6, r0, a1, ma, e1, n10, c1, obs, reduceCtorEq, ↓reduceIte]
          have A1 := A (md j + 1) (by omega) (by omega) (by omega) (by omega) (by omega)
          have A3 := A (md j + 3) (by omega) (by omega) (by omega) (by omega) (by omega)
          have q : RC (tauI τ j n (nI o) u v) kd md (up3 ib j (cn (τ 14 j)) (zs h)) hd x h1 := by
            refine p.addI hj s1 (fun b hb => ?_) (tauI0 (by decide)) (tauI0 (by decide)) (tauI0 (by decide)) (fun c => tauIt tK (by decide) c) (fun m hm => tauIM hm) (fun i hi => tauII (by rw [hnn] at hi; exact hi)) (fun i => tauIt tH (by decide) i) (fun m hm => (w.2.2.2.1 m hm).2.2.2.2.2.2.2.1.2) (by omega) (by rw [tauI14, if_pos rfl, cn_nI (by omega), hnn]) (by rw [tauI0 (by decide)]) (by rw [tauI23, if_pos rfl]) (fun i => by rw [hnn]; exact q2 i) (fun i => A3.q i) ?_ ?_
            · rcases hb with hb | ⟨hb, hb3, hb2⟩
              · exact A b (by omega) (by omega) (by omega) (by omega) (by omega)
              · have := hb2 0 (by omega); have := hb2 2 (by omega)
                exact A b (by omega) (by omega) (by omega) (by omega) (by omega)
            · exact ⟨⟨kj, A1.k.trans a2, k2, A3.k.trans a4, (rv 4).trans a5, (rv 5).trans a6, (rv 6).trans a7, A1.l.trans a8, l2, A3.l.trans a10⟩,
                ⟨by rw [tauI0 (by decide), rv]; exact d0, by rw [tauI0 (by decide), iv]; exact d1, by rw [tauI0 (by decide), iv]; exact d2, by rw [tauI0 (by decide), iv]; exact d3, by rw [tauI0 (by decide), iv]; exact d4, by rw [tauI14, if_pos rfl, iv]; rfl, by rw [tauI0 (by decide), iv]; exact d6, by rw [tauI0 (by decide), iv]; exact d7, by rw [tauI23, if_pos rfl, iv]; rfl⟩,
                fun k h1 h2 => by rw [tauI0 (by decide)] at h2; rw [A1.a, tauI0 (by decide)]; exact f1 k h1 h2⟩
            · rw [hnn]
              exact ⟨ni.1, by rw [tauI15, if_pos rfl]; exact ni.2.1, by rw [tauI16, if_pos rfl]; exact ni.2.2.1, by rw [tauI17, if_pos rfl]; exact ni.2.2.2⟩
          exact Same.of c1' hm1 c2 (tauI_WF w hj hfull hnn ho ok) hm2 fr q
        · have hv : τ 14 j = 200 := by
            have : cn (τ 14 j) = 200 := by omega
            rw [v14, this]; rfl
          have g1 : fX9_isGood (some (x + 8)) (nI j) (nI o) u v h = some (1, h) := by
            rcases isGoodM rM w hj ho u v with ⟨q, -⟩ | ⟨-, q⟩
            · exact q
            · exact absurd ok q
          refine Same.no (r := -2) I ?_ ?_
          · have q1 : ¬ (200 : Int32) < 200 := by decide
            simp only [fX8_op, fX3_addInstruction, gR_at, gI_at, rc_at, k8, k6, r0, a1, d5, hv, q1, ma, e1, n10, obs, reduceCtorEq, ↓reduceIte]
          · simp only [fX9_op, rcM rM, m1, n10, q3, q4, g1, gRM14 rM, aM14 rM (i := j) (by omega), hv, obs, ↓reduceIte]
      · have g1 : fX9_isGood (some (x + 8)) (nI j) (nI o) u v h = some (0, h) := by
          rcases isGoodM rM w hj ho u v with ⟨-, q⟩ | ⟨q, -⟩
          · exact absurd q nok
          · exact q
        refine Same.no (r := -1) I ?_ ?_
        · simp only [fX8_op, gR_at, rc_at, k8, k6, r0, ma, e1, obs, reduceCtorEq, ↓reduceIte]
        · simp only [fX9_op, rcM rM, m1, n10, q3, q4, g1, obs, ↓reduceIte]
    · -- no such op
      have hno : op < 0 ∨ (¬ op < 0 ∧ (41 : Int32) < op) := by
        by_cases q : op < 0
        · exact Or.inl q
        · refine Or.inr ⟨q, ?_⟩
          obtain ⟨k, hk, rfl⟩ := nI_of q
          refine Classical.byContradiction fun q2 => hr ⟨k, ?_, rfl⟩
          have q3 : ¬ nI 41 < nI k := q2
          rw [nI_ltI (by decide) hk] at q3; omega
      have ne : ∀ k, k ≤ 41 → ¬ op = nI k := fun k hk e => hr ⟨k, hk, e⟩
      have n2 : ¬ op = 2 := ne 2 (by decide)
      have n3 : ¬ op = 3 := ne 3 (by decide)
      have n26 : ¬ op = 26 := ne 26 (by decide)
      have n27 : ¬ op = 27 := ne 27 (by decide)
      have n28 : ¬ op = 28 := ne 28 (by decide)
      have n29 : ¬ op = 29 := ne 29 (by decide)
      have n30 : ¬ op = 30 := ne 30 (by decide)
      have n31 : ¬ op = 31 := ne 31 (by decide)
      have n35 : ¬ op = 35 := ne 35 (by decide)
      have n36 : ¬ op = 36 := ne 36 (by decide)
      have bl : fX6_areOperands_b17 (some (x + 1)) (some (md j)) op u v h = some (0, h) := by
        rcases hno with q | q
        · simp only [fX6_areOperands_b17, n2, n3, n26, n27, n28, n29, n30, n31, n35, n36, q, ↓reduceIte]
        · simp only [fX6_areOperands_b17, n2, n3, n26, n27, n28, n29, n30, n31, n35, n36, q.1, q.2, ↓reduceIte]
      have e1 : fX6_areOperands (some (x + 1)) (some (md j)) op u v h = some (0, h) := by
        by_cases q1 : op < 19
        · simp only [fX6_areOperands, q1, bl, ↓reduceIte]
        · by_cases q2 : (25 : Int32) < op
          · simp only [fX6_areOperands, q1, q2, bl, ↓reduceIte]
          · exfalso
            obtain ⟨k, hk1, hk2, e⟩ := rng (a := 19) (b := 25) q1 q2 (by decide) (by decide)
            exact ne k (by omega) e
      refine Same.no (r := -1) I ?_ ?_
      · simp only [fX8_op, gR_at, rc_at, k8, k6, r0, ma, e1, obs, reduceCtorEq, ↓reduceIte]
      · rcases hno with q | q
        · simp only [fX9_op, rcM rM, m1, n10, q, obs, ↓reduceIte]
        · simp only [fX9_op, rcM rM, m1, n10, q.1, q.2, obs, ↓reduceIte]
  · refine Same.no (r := -1) I ?_ ?_
    · simp only [fX8_op, gR_at, rc_at, k8, k6, r0, methodAt_no p hc, obs, ↓reduceIte]
    · simp only [fX9_op, rcM rM, m1, obs, ↓reduceIte]
end
