/-- what addKind leaves -/
theorem addKindC (N : Nat) (hN : 20 ≤ N) {x n : Nat} (h : zH) (ab : Option Nat) (hn : n < 32) (hx : x + 35 ≤ zs h) (ho : ∀ a, ab = some a → x + 35 ≤ a ∧ a + 3 ≤ zs h ∧ zk h a = 3 ∧ zk h (a + 1) = 100 ∧ zk h (a + 2) = 100 ∧ zr h 2 2 a = some (a + 1) ∧ zr h 2 3 a = some (a + 2) ∧ zl h (a + 1) = 15 ∧ zl h (a + 2) = 16) (k6 : zk h (x + 1) = 7) (kq : zk h (x + 2) = 104) (lq : zl h (x + 2) = 32) (r1 : zr h 6 0 (x + 1) = some (x + 2)) (i3 : zi h 6 2 (x + 1) = nI n) :
    ∃ h1, fX6_addKind N (some (x + 1)) ab h = some (nI n, h1) ∧ (∀ b, b < zs h → b ≠ x + 1 → b ≠ x + 2 → ab ≠ some b → ag h h1 b) ∧ zs h1 = zs h + 3 ∧
      (zk h1 (zs h) = 3 ∧ zk h1 (zs h + 1) = 100 ∧ zk h1 (zs h + 2) = 100 ∧ zr h1 2 2 (zs h) = some (zs h + 1) ∧ zr h1 2 3 (zs h) = some (zs h + 2) ∧ zl h1 (zs h + 1) = 15 ∧ zl h1 (zs h + 2) = 16) ∧
      (zi h1 2 0 (zs h) = nI n ∧ zi h1 2 1 (zs h) = (match ab with | none => (1 <<< (nI n &&& 31)) | some a => (zi h 2 1 a ||| (1 <<< (nI n &&& 31)))) ∧ zi h1 2 4 (zs h) = (match ab with | none => 0 | some a => zi h 2 4 a) ∧ zi h1 2 5 (zs h) = 0 ∧ zi h1 2 6 (zs h) = 0) ∧
      (∀ k, k < 15 → za h1 (zs h + 1) k = (match ab with | none => 0 | some a => za h (a + 1) k)) ∧ (∀ k, k < 16 → za h1 (zs h + 2) k = (match ab with | none => -1 | some a => za h (a + 2) k)) ∧
      (zk h1 (x + 1) = 7 ∧ (∀ c k, zr h1 c k (x + 1) = zr h c k (x + 1)) ∧ zi h1 6 3 (x + 1) = zi h 6 3 (x + 1) ∧ zi h1 6 2 (x + 1) = nI (n + 1)) ∧ (zk h1 (x + 2) = 104 ∧ zl h1 (x + 2) = 32 ∧ ∀ i, zq h1 (x + 2) i = if i = n then some (zs h) else zq h (x + 2) i) ∧
      (∀ a, ab = some a → zk h1 a = 3 ∧ (∀ c k, zr h1 c k a = zr h c k a) ∧ ∀ k, zi h1 2 k a = if k = 5 then 1 else zi h 2 k a) := by
  obtain ⟨hA, c0, kA, iA, fA, gA, A, sA⟩ := newK N hN h (nI n) ab (fun a e => (ho a e).2)
  have A1 := A (x + 1) (by omega)
  have A2 := A (x + 2) (by omega)
  have q1 : nI n < (32 : Int32) := @nI_lt n 32 hn (by decide)
  have qs := sQ_at (c := 2) (a := x + 2) (b := zs h) (i := n) (h := hA) 32 (A2.k.trans kq) (A2.l.trans lq) hn (by decide) kA.1
  have kj : zk hA (x + 1) = 7 := A1.k.trans k6
  have ij : zi hA 6 2 (x + 1) = nI n := (A1.i 6 2).trans i3
  have k6o : zk (nwO 2 h) (x + 1) = 7 := by rw [zk_nwO, if_neg (by omega)]; exact k6
  have i3o : zi (nwO 2 h) 6 2 (x + 1) = nI n := by rw [zi_nwO, if_neg (by omega)]; exact i3
  have G : ∃ h8, h8 = sti 6 2 (x + 1) (nI (n + 1)) (stq (x + 2) n (some (zs h)) hA) ∧ (∀ b, b ≠ x + 1 → b ≠ x + 2 → ag hA h8 b) ∧ zs h8 = zs h + 3 ∧ (zk h8 (x + 1) = 7 ∧ (∀ c k, zr h8 c k (x + 1) = zr h c k (x + 1)) ∧ zi h8 6 3 (x + 1) = zi h 6 3 (x + 1) ∧ zi h8 6 2 (x + 1) = nI (n + 1)) ∧ (zk h8 (x + 2) = 104 ∧ zl h8 (x + 2) = 32 ∧ ∀ i, zq h8 (x + 2) i = if i = n then some (zs h) else zq h (x + 2) i) := by
    refine ⟨_, rfl, fun b n1 n2 => (ag_stq n2).tr (ag_sti n1), by rw [zs_sti, zs_stq]; exact sA, ⟨by rw [zk_sti, zk_stq]; exact kj, fun c k => by rw [zr_sti, zr_stq]; exact A1.r c k, by rw [zi_sti, if_neg (by omega), zi_stq]; exact A1.i 6 3, by rw [zi_sti, if_pos ⟨rfl, rfl, rfl⟩]⟩, by rw [zk_sti, zk_stq]; exact A2.k.trans kq, by rw [zl_sti, zl_stq]; exact A2.l.trans lq, fun i => ?_⟩
    rw [zq_sti, zq_stq]
    by_cases e : i = n
    · rw [if_pos ⟨rfl, e⟩, if_pos e]
    · rw [if_neg (fun q => e q.2), if_neg e]; exact A2.q i
  obtain ⟨h8, e8, B, s8, f1, f3⟩ := G
  have B0 := B (zs h) (by omega) (by omega)
  have B1 := B (zs h + 1) (by omega) (by omega)
  have B2 := B (zs h + 2) (by omega) (by omega)
  have vf : nI (n + 1) - 1 = nI n := nI_pred n
  have E : fX6_addKind N (some (x + 1)) ab h = if ab = none then fX6_addKind_b52 N (some (x + 1)) h8 else (pZ 2 5 ab 1 h8).bind fun h10 => fX6_addKind_b52 N (some (x + 1)) h10 := by
    rw [e8]
    simp only [fX6_addKind, gI_at, gR_at, pI_at, k6, r1, i3, k6o, i3o, q1, c0, qs, kj, ij, zk_stq, zi_stq, nI_1, obs, ↓reduceIte]
  cases ab with
  | none =>
    refine ⟨h8, ?_, fun b hb n1 n2 _ => (A b hb).tr (B b n1 n2), s8, ⟨B0.k.trans kA.1, B1.k.trans kA.2.1, B2.k.trans kA.2.2.1, (B0.r 2 2).trans kA.2.2.2.1, (B0.r 2 3).trans kA.2.2.2.2.1, B1.l.trans kA.2.2.2.2.2.1, B2.l.trans kA.2.2.2.2.2.2⟩, ⟨(B0.i 2 0).trans iA.1, (B0.i 2 1).trans iA.2.1, (B0.i 2 4).trans iA.2.2.1, (B0.i 2 5).trans iA.2.2.2.1, (B0.i 2 6).trans iA.2.2.2.2⟩, fun k hk => (B1.a k).trans (fA k hk), fun k hk => (B2.a k).trans (gA k hk), f1, f3, fun a e => by cases e⟩
    rw [E]
    simp only [fX6_addKind_b52, gI_at, f1.1, f1.2.2.2, vf, obs, ↓reduceIte]
  | some a =>
    obtain ⟨o0, o1, o2, -⟩ := ho a rfl
    have Aa := (A a (by omega)).tr (B a (by omega) (by omega))
    have ka : zk h8 a = 3 := Aa.k.trans o2
    have C : ∀ b, b ≠ a → ag h8 (sti 2 5 a 1 h8) b := fun b nb => ag_sti nb
    have C0 := B0.tr (C (zs h) (by omega))
    have C1 := B1.tr (C (zs h + 1) (by omega))
    have C2 := B2.tr (C (zs h + 2) (by omega))
    have D1 := C (x + 1) (by omega)
    have D2 := C (x + 2) (by omega)
    have d1 : zk (sti 2 5 a 1 h8) (x + 1) = 7 ∧ (∀ c k, zr (sti 2 5 a 1 h8) c k (x + 1) = zr h c k (x + 1)) ∧ zi (sti 2 5 a 1 h8) 6 3 (x + 1) = zi h 6 3 (x + 1) ∧ zi (sti 2 5 a 1 h8) 6 2 (x + 1) = nI (n + 1) := ⟨D1.k.trans f1.1, fun c k => (D1.r c k).trans (f1.2.1 c k), (D1.i 6 3).trans f1.2.2.1, (D1.i 6 2).trans f1.2.2.2⟩
    refine ⟨sti 2 5 a 1 h8, ?_, fun b hb n1 n2 n3 => ((A b hb).tr (B b n1 n2)).tr (C b (fun q => n3 (by rw [q]))), by rw [zs_sti]; exact s8, ⟨C0.k.trans kA.1, C1.k.trans kA.2.1, C2.k.trans kA.2.2.1, (C0.r 2 2).trans kA.2.2.2.1, (C0.r 2 3).trans kA.2.2.2.2.1, C1.l.trans kA.2.2.2.2.2.1, C2.l.trans kA.2.2.2.2.2.2⟩, ⟨(C0.i 2 0).trans iA.1, (C0.i 2 1).trans iA.2.1, (C0.i 2 4).trans iA.2.2.1, (C0.i 2 5).trans iA.2.2.2.1, (C0.i 2 6).trans iA.2.2.2.2⟩, fun k hk => (C1.a k).trans (fA k hk), fun k hk => (C2.a k).trans (gA k hk), d1, ⟨D2.k.trans f3.1, D2.l.trans f3.2.1, fun i => (D2.q i).trans (f3.2.2 i)⟩, fun a' e => ?_⟩
    · rw [E]
      simp only [fX6_addKind_b52, gI_at, pZ1_at, ka, d1.1, d1.2.2.2, vf, obs, reduceCtorEq, ↓reduceIte]
    · cases e
      refine ⟨by rw [zk_sti]; exact ka, fun c k => by rw [zr_sti]; exact Aa.r c k, fun k => ?_⟩
      rw [zi_sti]
      by_cases e : k = 5
      · rw [if_pos ⟨rfl, e, rfl⟩, if_pos e]
      · rw [if_neg (fun q => e q.2.1), if_neg e]; exact Aa.i 2 k
section
variable {τ τ' : Nat → Nat → Int32} {kd md : Nat → Nat} {id hd : Nat → Nat → Nat} {x : Nat} {h h' : zH}
set_option maxHeartbeats 1000000 in
/-- a class more -/
theorem RC.addK (p : RC τ kd md id hd x h) (w : WF τ) (hz : zs h' = zs h + 3) (hF : RF x h') (ow : Option Nat) (how : ∀ a, ow = some a → ∃ c, c < cn (τ 0 0) ∧ a = kd c) (hag : ∀ b, x + 35 ≤ b → b < zs h → ow ≠ some b → ag h h' b)
    (hs : zi h' 6 2 (x + 1) = τ' 0 0 ∧ zi h' 6 3 (x + 1) = τ' 6 0 ∧ zi h' 7 5 (x + 4) = τ' 27 0) (t00 : cn (τ' 0 0) = cn (τ 0 0) + 1) (t60 : cn (τ' 6 0) = cn (τ 6 0)) (hq3 : ∀ i, zq h' (x + 3) i = zq h (x + 3) i) (hq2 : ∀ i, zq h' (x + 2) i = if i = cn (τ 0 0) then some (zs h) else zq h (x + 2) i)
    (hM' : ∀ m, tg tM τ τ' m) (hI' : ∀ j, tg tI τ τ' j) (hH' : ∀ j, tg tH τ τ' j) (hK : ∀ c, c < cn (τ 0 0) → RK τ' h' c (kd c)) (hT : RK τ' h' (cn (τ 0 0)) (zs h)) : RC τ' (up1 kd (cn (τ 0 0)) (zs h)) md id hd x h' := by
  obtain ⟨p1, p2, p3, p4, p5, p6, p7, p8, p9, p10, p11⟩ := (show _ ∧ _ from p)
  have e14 : ∀ m, τ' 14 m = τ 14 m := fun m => (hM' m).at1 (by decide)
  have e18 : ∀ m, τ' 18 m = τ 18 m := fun m => (hM' m).at1 (by decide)
  refine ⟨hF, by omega, hs, fun c hc => ?_, fun m hm => ?_, fun m i hm hi => ?_, fun m k hm hk => ?_, ?_, ?_, ?_, ?_⟩
  · rw [t00] at hc
    rw [up1_at]
    by_cases e : c = cn (τ 0 0)
    · rw [if_pos e, e]
      exact ⟨by rw [hq2, if_pos rfl], by omega, by omega, hT⟩
    · rw [if_neg e]
      have hc : c < cn (τ 0 0) := by omega
      obtain ⟨b0, b1, b3, b2⟩ := p4 c hc
      exact ⟨by rw [hq2, if_neg e]; exact b0, b1, by omega, hK c hc⟩
  · rw [t60] at hm
    obtain ⟨b0, b1, b3, b2⟩ := p5 m hm
    have d : ∀ j, j < 4 → ow ≠ some (md m + j) := fun j hj q => by
      obtain ⟨c, hc, e⟩ := how _ q
      exact p.KT hc hm 0 j (by omega) hj e.symm
    refine ⟨by rw [hq3]; exact b0, b1, by omega, b2.ag (hag _ b1 (by omega) (d 0 (by omega))) (hag _ (by omega) (by omega) (d 1 (by omega))) (Or.inl (hag _ (by omega) (by omega) (d 2 (by omega)))) (Or.inl (hag _ (by omega) (by omega) (d 3 (by omega)))) (hM' m) (fun q => ?_)⟩
    have hn := w.1.2
    rcases (w.2.2.2.1 m hm).1 with e | ⟨c, hc, e⟩
    · rw [e] at q; exact absurd m1neg q
    · rw [e, cn_nI (by omega), up1_at, if_neg (by omega)]
  · rw [t60] at hm
    rw [e14 m] at hi
    obtain ⟨b0, b1, b4, b2, b3⟩ := p6 m i hm hi
    have b5 := (p5 m hm).2
    have d : ∀ j, j < 3 → ow ≠ some (id m i + j) := fun j hj q => by
      obtain ⟨c, hc, e⟩ := how _ q
      exact p.KI hc hm hi 0 j (by omega) hj e.symm
    have d2 : ow ≠ some (md m + 2) := fun q => by
      obtain ⟨c, hc, e⟩ := how _ q
      exact p.KT hc hm 0 2 (by omega) (by omega) e.symm
    have q0 := hag (id m i) (by omega) (by omega) (d 0 (by omega))
    have q1 := hag (id m i + 1) (by omega) (by omega) (d 1 (by omega))
    have q2 := hag (id m i + 2) (by omega) (by omega) (d 2 (by omega))
    refine ⟨by rw [(hag (md m + 2) (by omega) (by omega) d2).q]; exact b0, b1, by omega, b2.ag q0 q1 q2 (hI' _), fun hv => ?_⟩
    rw [(hM' m).at1 (c := 23) (by decide)] at hv
    exact (b3 hv).ag q0 q1 q2 (hI' _) ((hM' m).at1 (by decide)) ((hM' m).at1 (by decide))
  · rw [t60] at hm
    rw [e18 m] at hk
    obtain ⟨b0, b1, b3, b2⟩ := p7 m k hm hk
    have b5 := (p5 m hm).2
    have d : ow ≠ some (hd m k) := fun q => by
      obtain ⟨c, hc, e⟩ := how _ q
      exact p.KH hc hm hk 0 0 (by omega) (by omega) e.symm
    have d2 : ow ≠ some (md m + 3) := fun q => by
      obtain ⟨c, hc, e⟩ := how _ q
      exact p.KT hc hm 0 3 (by omega) (by omega) e.symm
    exact ⟨by rw [(hag (md m + 3) (by omega) (by omega) d2).q]; exact b0, b1, by omega, b2.ag (hag _ (by omega) (by omega) d) (hH' _)⟩
  · intro m m' hm hm' e
    rw [t00] at hm hm'
    rw [up1_at, up1_at] at e
    by_cases n1 : m = cn (τ 0 0)
    · by_cases n2 : m' = cn (τ 0 0)
      · omega
      · rw [if_pos n1, if_neg n2] at e
        have := (p4 m' (by omega)).2.2.1
        omega
    · by_cases n2 : m' = cn (τ 0 0)
      · rw [if_neg n1, if_pos n2] at e
        have := (p4 m (by omega)).2.2.1
        omega
      · rw [if_neg n1, if_neg n2] at e
        exact p8 m m' (by omega) (by omega) e
  · rw [t60]; exact p9
  · intro m i m' i' hm hi hm' hi'
    rw [t60] at hm hm'
    rw [e14 m] at hi
    rw [e14 m'] at hi'
    exact p10 m i m' i' (by omega) hi (by omega) hi'
  · intro m i m' i' hm hi hm' hi'
    rw [t60] at hm hm'
    rw [e18 m] at hi
    rw [e18 m'] at hi'
    exact p11 m i m' i' (by omega) hi (by omega) hi'
end
