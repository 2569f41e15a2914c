section
variable {τ τ' : Nat → Nat → Int32} {kd md : Nat → Nat} {id hd : Nat → Nat → Nat} {x : Nat} {h h' : zH}
theorem RC.Mfr (p : RC τ kd md id hd x h) (q : Mfr (x + 8) h h') : RC τ kd md id hd x h' := p.agM q.1 (fun b hb => q.2 b (by omega))
/-- both sides after a call, out of each side's own -/
theorem Same.of {f g : zH → Option (Int32 × zH)} {r : Int32} {h1 h2 : zH} (e1 : f h = some (r, h1)) (m1 : RM τ (x + 8) h1) (e2 : g h1 = some (r, h2)) (w : WF τ') (m2 : RM τ' (x + 8) h2) (fr : Mfr (x + 8) h1 h2) (p : RC τ' kd md id hd x h1) : Same f g x h := ⟨r, h1, h2, τ', e1, rcM m1, e2, w, m2, kd, md, id, hd, p.Mfr fr⟩
theorem isPlaceC (v : Int32) : (fX8_isPlace v h = some (1, h) ∧ ¬ v < 0 ∧ v < 200 ∧ ∃ p, p < 200 ∧ v = nI p) ∨ (fX8_isPlace v h = some (0, h) ∧ (v < 0 ∨ (¬ v < 0 ∧ ¬ v < 200))) := by
  by_cases h1 : v < 0
  · exact Or.inr ⟨by simp only [fX8_isPlace, h1, ↓reduceIte], Or.inl h1⟩
  · by_cases h2 : v < 200
    · refine Or.inl ⟨?_, h1, h2, ?_⟩
      · have h3 : ¬ (200 : Int32) ≤ v := Int32.not_le.mpr h2
        simp only [fX8_isPlace, h1, h3, ↓reduceIte]
      · obtain ⟨k, hk, rfl⟩ := nI_of h1
        have h3 : nI k < nI 200 := h2
        rw [nI_ltI hk (by decide)] at h3
        exact ⟨k, h3, rfl⟩
    · refine Or.inr ⟨?_, Or.inr ⟨h1, h2⟩⟩
      have h3 : (200 : Int32) ≤ v := Int32.not_lt.mp h2
      simp only [fX8_isPlace, h1, h3, ↓reduceIte]
theorem newH (h : zH) (f t k p : Int32) : ∃ hA, fX0_init (some (zs h)) f t k p (nwO 0 h) = some hA ∧ zk hA (zs h) = 1 ∧ (zi hA 0 0 (zs h) = f ∧ zi hA 0 1 (zs h) = t ∧ zi hA 0 2 (zs h) = k ∧ zi hA 0 3 (zs h) = p) ∧ (∀ b, b ≠ zs h → ag h hA b) ∧ zs hA = zs h + 1 := by
  have z0 : zk (nwO 0 h) (zs h) = 1 := by rw [zk_nwO, if_pos rfl]
  refine ⟨sti 0 3 (zs h) p (sti 0 2 (zs h) k (sti 0 1 (zs h) t (sti 0 0 (zs h) f (nwO 0 h)))), ?_, ?_, ?_, ?_, ?_⟩
  · simp only [fX0_init, rc_at, pI_at, zk_sti, z0, obs]
  · simp only [zk_sti, zk_nwO, ↓reduceIte]
  · simp [zi_sti]
  · exact fun b hb => ((((ag_nwO hb).tr (ag_sti hb)).tr (ag_sti hb)).tr (ag_sti hb)).tr (ag_sti hb)
  · simp only [zs_sti, zs_nwO]
/-- what addHandler leaves of the method's own cells -/
theorem addHandlerC {a : Nat} (h : zH) (f t k pl : Int32) (n : Nat) (hn : n < 8) (ha : a + 4 ≤ zs h) (a1 : zk h a = 4) (a4 : zk h (a + 3) = 102) (a7 : zr h 3 6 a = some (a + 3)) (a10 : zl h (a + 3) = 8) (d6 : zi h 3 9 a = nI n) : ∃ h1, fX3_addHandler (some a) f t k pl h = some (nI n, h1) ∧ (∀ b, b ≠ zs h → b ≠ a → b ≠ a + 3 → ag h h1 b) ∧ zs h1 = zs h + 1 ∧ (zk h1 (zs h) = 1 ∧ zi h1 0 0 (zs h) = f ∧ zi h1 0 1 (zs h) = t ∧ zi h1 0 2 (zs h) = k ∧ zi h1 0 3 (zs h) = pl) ∧ (∀ i, zq h1 (a + 3) i = if i = n then some (zs h) else zq h (a + 3) i) ∧ (∀ k, zi h1 3 k a = if k = 11 then 0 else if k = 9 then nI (n + 1) else zi h 3 k a) ∧ (∀ k, zr h1 3 k a = zr h 3 k a) ∧ zk h1 a = 4 ∧ zk h1 (a + 3) = 102 ∧ zl h1 (a + 3) = 8 := by
  obtain ⟨hA, c0, kA, iA, A1, sA⟩ := newH h f t k pl
  have A0 := A1 a (by omega)
  have A3 := A1 (a + 3) (by omega)
  have q1 : nI n < (8 : Int32) := @nI_lt n 8 hn (by decide)
  have qs := sQ_at (c := 0) (a := a + 3) (b := zs h) (i := n) (h := hA) 8 (A3.k.trans a4) (A3.l.trans a10) hn (by decide) kA
  have kj : zk hA a = 4 := A0.k.trans a1
  have ij : zi hA 3 9 a = nI n := (A0.i 3 9).trans d6
  have e7 : zi (sti 3 11 a 0 (sti 3 9 a (nI n + 1) (stq (a + 3) n (some (zs h)) hA))) 3 9 a = nI n + 1 := by rw [zi_sti, if_neg (by omega), zi_sti, if_pos ⟨rfl, rfl, rfl⟩]
  have vf : nI n + 1 - 1 = nI n := by rw [nI_1, nI_pred]
  refine ⟨sti 3 11 a 0 (sti 3 9 a (nI n + 1) (stq (a + 3) n (some (zs h)) hA)), ?_, ?_, ?_, ?_, ?_, ?_, ?_, ?_, ?_, ?_⟩
  · simp only [fX3_addHandler, gI_at, gR_at, pI_at, pZ0_at, a1, a7, d6, q1, c0, qs, kj, ij, e7, vf, zk_sti, zk_stq, zi_stq, obs, ↓reduceIte]
  · exact fun b n1 n2 n3 => (((A1 b n1).tr (ag_stq n3)).tr (ag_sti n2)).tr (ag_sti n2)
  · simp only [zs_sti, zs_stq]; exact sA
  · have := (ag_stq (a := a + 3) (j := n) (v := some (zs h)) (h := hA) (b := zs h) (by omega)).tr ((ag_sti (c := 3) (k := 9) (v := nI n + 1) (a := a) (by omega)).tr (ag_sti (c := 3) (k := 11) (v := 0) (a := a) (by omega)))
    exact ⟨this.k.trans kA, (this.i 0 0).trans iA.1, (this.i 0 1).trans iA.2.1, (this.i 0 2).trans iA.2.2.1, (this.i 0 3).trans iA.2.2.2⟩
  · intro i
    rw [zq_sti, zq_sti, zq_stq]
    by_cases e : i = n
    · rw [if_pos ⟨rfl, e⟩, if_pos e]
    · rw [if_neg (fun q => e q.2), if_neg e]; exact A3.q i
  · intro k
    rw [zi_sti]
    by_cases e : k = 11
    · rw [if_pos ⟨rfl, e, rfl⟩, if_pos e]
    · rw [if_neg (fun q => e q.2.1), if_neg e, zi_sti]
      by_cases e2 : k = 9
      · rw [if_pos ⟨rfl, e2, rfl⟩, if_pos e2, nI_1]
      · rw [if_neg (fun q => e2 q.2.1), if_neg e2, zi_stq]; exact A0.i 3 k
  · intro k
    rw [zr_sti, zr_sti, zr_stq]; exact A0.r 3 k
  · rw [zk_sti, zk_sti, zk_stq]; exact kj
  · rw [zk_sti, zk_sti, zk_stq]; exact A3.k.trans a4
  · rw [zl_sti, zl_sti, zl_stq]; exact A3.l.trans a10
theorem addHandlerM {m j n : Nat} {f t k pl : Int32} (rM : RM τ m h) (w : WF τ) (hj : j < cn (τ 6 0)) (kc : Nat) (hkc : kc < cn (τ 0 0)) (hk : k = nI kc) (hn : n < 8) (v18 : τ 18 j = nI n) (g1 : ¬ pl < 0) (g2 : pl < 200) (g3 : ¬ f < 0) (g4 : ¬ t ≤ f) (g6 : ¬ (200 : Int32) < t) : ∃ h2, fX9_handler (some m) (nI j) f t k pl h = some (nI n, h2) ∧ RM (u2 (u2 (u2 (u2 (u2 (u2 τ 19 (8 * j + n) f) 20 (8 * j + n) t) 21 (8 * j + n) k) 22 (8 * j + n) pl) 18 j (nI (n + 1))) 23 j 0) m h2 ∧ Mfr m h h2 := by
  have hn2 := w.2.1.2
  subst hk
  obtain ⟨h1, t1, hm2, r1⟩ := eM19 rM (i := 8 * j + n) (by omega) f
  obtain ⟨h2, t2, hm3, r2⟩ := eM20 hm2 (i := 8 * j + n) (by omega) t
  obtain ⟨h3, t3, hm4, r3⟩ := eM21 hm3 (i := 8 * j + n) (by omega) (nI kc)
  obtain ⟨h4, t4, hm5, r4⟩ := eM22 hm4 (i := 8 * j + n) (by omega) pl
  obtain ⟨h5, t5, hm6, r5⟩ := eM18 hm5 (i := j) (by omega) (nI (n + 1))
  obtain ⟨h6, t6, hm7, r6⟩ := eM23 hm6 (i := j) (by omega) (v := 0) (Or.inl rfl)
  have lin1 : (8 : Int32) * nI j + nI n = nI (8 * j + n) := lin trivial
  have l18 := aM18 rM (i := j) (by omega)
  have l18b := aM18 hm5 (i := j) (by omega)
  have l18c := aM18 hm7 (i := j) (by omega)
  rw [v18] at l18
  have x1 : u2 (u2 (u2 (u2 τ 19 (8 * j + n) f) 20 (8 * j + n) t) 21 (8 * j + n) (nI kc)) 22 (8 * j + n) pl 18 j = nI n := by
    rw [u2_at, if_neg (by omega), u2_at, if_neg (by omega), u2_at, if_neg (by omega), u2_at, if_neg (by omega), v18]
  have x2 : u2 (u2 (u2 (u2 (u2 (u2 τ 19 (8 * j + n) f) 20 (8 * j + n) t) 21 (8 * j + n) (nI kc)) 22 (8 * j + n) pl) 18 j (nI (n + 1))) 23 j 0 18 j = nI (n + 1) := by
    rw [u2_at, if_neg (by omega), u2_at, if_pos ⟨rfl, rfl⟩]
  rw [x1] at l18b
  rw [x2] at l18c
  have q2 : ¬ nI n = (8 : Int32) := fun q => by have := nI_inj (a := n) (b := 8) (by omega) (by decide) q; omega
  refine ⟨h6, ?_, hm7, ((((r1.tr r2).tr r3).tr r4).tr r5).tr r6⟩
  simp only [fX9_handler, rcM rM, isMethodM1 rM w hj, isClassM1 rM w hkc, n10, g1, g2, g3, g4, g6, gRM18 rM, gRM19 rM, l18, q2, lin1, t1, gRM20 hm2, t2, gRM21 hm3, t3, gRM22 hm4, t4, gRM18 hm5, l18b, nI_1, t5, gRM23 hm6, t6, gRM18 hm7, l18c, nI_pred, obs, ↓reduceIte]
end
