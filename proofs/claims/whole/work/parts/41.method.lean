/-- what addMethod leaves -/
theorem addMethodC {x n : Nat} (h : zH) (ow : Option Nat) (g l s nb : Int32) (hn : n < 64) (hx : x + 35 ≤ zs h) (ho : ∀ a, ow = some a → x + 35 ≤ a ∧ a < zs h ∧ zk h a = 3 ∧ zi h 2 0 a = nb) (k6 : zk h (x + 1) = 7) (kq : zk h (x + 3) = 105) (lq : zl h (x + 3) = 64) (r1 : zr h 6 1 (x + 1) = some (x + 3)) (i3 : zi h 6 3 (x + 1) = nI n) :
    ∃ h1, fX6_addMethod (some (x + 1)) ow g l s h = some (nI n, h1) ∧ (∀ b, b < zs h → b ≠ x + 1 → b ≠ x + 3 → ow ≠ some b → ag h h1 b) ∧ zs h1 = zs h + 4 ∧
      (zk h1 (zs h) = 4 ∧ zk h1 (zs h + 1) = 100 ∧ zk h1 (zs h + 2) = 103 ∧ zk h1 (zs h + 3) = 102 ∧ zr h1 3 4 (zs h) = some (zs h + 1) ∧ zr h1 3 5 (zs h) = some (zs h + 2) ∧ zr h1 3 6 (zs h) = some (zs h + 3) ∧ zl h1 (zs h + 1) = 8 ∧ zl h1 (zs h + 2) = 200 ∧ zl h1 (zs h + 3) = 8) ∧ (zr h1 3 0 (zs h) = ow ∧ zi h1 3 1 (zs h) = g ∧ zi h1 3 2 (zs h) = l ∧ zi h1 3 3 (zs h) = s ∧ zi h1 3 7 (zs h) = (if ow = none then 0 else 1) ∧ zi h1 3 8 (zs h) = 0 ∧ zi h1 3 9 (zs h) = 0 ∧ zi h1 3 10 (zs h) = 0 ∧ zi h1 3 11 (zs h) = 0) ∧ (ow ≠ none → za h1 (zs h + 1) 0 = 1 + nb) ∧
      (zk h1 (x + 1) = 7 ∧ (∀ c k, zr h1 c k (x + 1) = zr h c k (x + 1)) ∧ zi h1 6 2 (x + 1) = zi h 6 2 (x + 1) ∧ zi h1 6 3 (x + 1) = nI (n + 1)) ∧ (zk h1 (x + 3) = 105 ∧ zl h1 (x + 3) = 64 ∧ ∀ i, zq h1 (x + 3) i = if i = n then some (zs h) else zq h (x + 3) i) ∧
      (∀ a, ow = some a → zk h1 a = 3 ∧ (∀ c k, zr h1 c k a = zr h c k a) ∧ ∀ k, zi h1 2 k a = if k = 6 then 1 else zi h 2 k a) := by
  obtain ⟨hA, c0, kA, iA, oA, A, sA⟩ := newT h ow g l s nb (fun a e => (ho a e).2)
  have A1 := A (x + 1) (by omega)
  have A3 := A (x + 3) (by omega)
  have q1 : nI n < (64 : Int32) := @nI_lt n 64 hn (by decide)
  have qs := sQ_at (c := 3) (a := x + 3) (b := zs h) (i := n) (h := hA) 64 (A3.k.trans kq) (A3.l.trans lq) hn (by decide) kA.1
  have kj : zk hA (x + 1) = 7 := A1.k.trans k6
  have ij : zi hA 6 3 (x + 1) = nI n := (A1.i 6 3).trans i3
  -- behind the count
  have G : ∃ h8, h8 = sti 6 3 (x + 1) (nI (n + 1)) (stq (x + 3) n (some (zs h)) hA) ∧ (∀ b, b ≠ x + 1 → b ≠ x + 3 → ag hA h8 b) ∧ zs h8 = zs h + 4 ∧ (zk h8 (x + 1) = 7 ∧ (∀ c k, zr h8 c k (x + 1) = zr h c k (x + 1)) ∧ zi h8 6 2 (x + 1) = zi h 6 2 (x + 1) ∧ zi h8 6 3 (x + 1) = nI (n + 1)) ∧ (zk h8 (x + 3) = 105 ∧ zl h8 (x + 3) = 64 ∧ ∀ i, zq h8 (x + 3) i = if i = n then some (zs h) else zq h (x + 3) i) := by
    refine ⟨_, rfl, fun b n1 n2 => (ag_stq n2).tr (ag_sti n1), by rw [zs_sti, zs_stq]; exact sA, ⟨by rw [zk_sti, zk_stq]; exact kj, fun c k => by rw [zr_sti, zr_stq]; exact A1.r c k, by rw [zi_sti, if_neg (by omega), zi_stq]; exact A1.i 6 2, by rw [zi_sti, if_pos ⟨rfl, rfl, rfl⟩]⟩, by rw [zk_sti, zk_stq]; exact A3.k.trans kq, by rw [zl_sti, zl_stq]; exact A3.l.trans lq, fun i => ?_⟩
    rw [zq_sti, zq_stq]
    by_cases e : i = n
    · rw [if_pos ⟨rfl, e⟩, if_pos e]
    · rw [if_neg (fun q => e q.2), if_neg e]; exact A3.q i
  obtain ⟨h8, e8, B, s8, f1, f3⟩ := G
  have B0 := B (zs h) (by omega) (by omega)
  have B1 := B (zs h + 1) (by omega) (by omega)
  have B2 := B (zs h + 2) (by omega) (by omega)
  have B3 := B (zs h + 3) (by omega) (by omega)
  have vf : nI (n + 1) - 1 = nI n := nI_pred n
  have E : fX6_addMethod (some (x + 1)) ow g l s h = if ow = none then fX6_addMethod_b52 (some (x + 1)) h8 else (pZ 2 6 ow 1 h8).bind fun h10 => fX6_addMethod_b52 (some (x + 1)) h10 := by
    rw [e8]
    simp only [fX6_addMethod, gI_at, gR_at, pI_at, k6, r1, i3, q1, c0, qs, kj, ij, zk_stq, zi_stq, nI_1, obs, ↓reduceIte]
  cases ow with
  | none =>
    refine ⟨h8, ?_, fun b hb n1 n2 _ => (A b hb).tr (B b n1 n2), s8, ⟨B0.k.trans kA.1, B1.k.trans kA.2.1, B2.k.trans kA.2.2.1, B3.k.trans kA.2.2.2.1, (B0.r 3 4).trans kA.2.2.2.2.1, (B0.r 3 5).trans kA.2.2.2.2.2.1, (B0.r 3 6).trans kA.2.2.2.2.2.2.1, B1.l.trans kA.2.2.2.2.2.2.2.1, B2.l.trans kA.2.2.2.2.2.2.2.2.1, B3.l.trans kA.2.2.2.2.2.2.2.2.2⟩, ⟨(B0.r 3 0).trans iA.1, (B0.i 3 1).trans iA.2.1, (B0.i 3 2).trans iA.2.2.1, (B0.i 3 3).trans iA.2.2.2.1, (B0.i 3 7).trans iA.2.2.2.2.1, (B0.i 3 8).trans iA.2.2.2.2.2.1, (B0.i 3 9).trans iA.2.2.2.2.2.2.1, (B0.i 3 10).trans iA.2.2.2.2.2.2.2.1, (B0.i 3 11).trans iA.2.2.2.2.2.2.2.2⟩, fun q => absurd rfl q, f1, f3, fun a e => by cases e⟩
    rw [E]
    simp only [fX6_addMethod_b52, gI_at, f1.1, f1.2.2.2, vf, obs, ↓reduceIte]
  | some a =>
    obtain ⟨o0, o1, o2, o3⟩ := ho a rfl
    have Aa := (A a o1).tr (B a (by omega) (by omega))
    have ka : zk h8 a = 3 := Aa.k.trans o2
    have C : ∀ b, b ≠ a → ag h8 (sti 2 6 a 1 h8) b := fun b nb => ag_sti nb
    have C0 := B0.tr (C (zs h) (by omega))
    have C1 := B1.tr (C (zs h + 1) (by omega))
    have C2 := B2.tr (C (zs h + 2) (by omega))
    have C3 := B3.tr (C (zs h + 3) (by omega))
    have D1 := C (x + 1) (by omega)
    have D3 := C (x + 3) (by omega)
    have d1 : zk (sti 2 6 a 1 h8) (x + 1) = 7 ∧ (∀ c k, zr (sti 2 6 a 1 h8) c k (x + 1) = zr h c k (x + 1)) ∧ zi (sti 2 6 a 1 h8) 6 2 (x + 1) = zi h 6 2 (x + 1) ∧ zi (sti 2 6 a 1 h8) 6 3 (x + 1) = nI (n + 1) := ⟨D1.k.trans f1.1, fun c k => (D1.r c k).trans (f1.2.1 c k), (D1.i 6 2).trans f1.2.2.1, (D1.i 6 3).trans f1.2.2.2⟩
    refine ⟨sti 2 6 a 1 h8, ?_, fun b hb n1 n2 n3 => ((A b hb).tr (B b n1 n2)).tr (C b (fun q => n3 (by rw [q]))), by rw [zs_sti]; exact s8, ⟨C0.k.trans kA.1, C1.k.trans kA.2.1, C2.k.trans kA.2.2.1, C3.k.trans kA.2.2.2.1, (C0.r 3 4).trans kA.2.2.2.2.1, (C0.r 3 5).trans kA.2.2.2.2.2.1, (C0.r 3 6).trans kA.2.2.2.2.2.2.1, C1.l.trans kA.2.2.2.2.2.2.2.1, C2.l.trans kA.2.2.2.2.2.2.2.2.1, C3.l.trans kA.2.2.2.2.2.2.2.2.2⟩, ⟨(C0.r 3 0).trans iA.1, (C0.i 3 1).trans iA.2.1, (C0.i 3 2).trans iA.2.2.1, (C0.i 3 3).trans iA.2.2.2.1, (C0.i 3 7).trans iA.2.2.2.2.1, (C0.i 3 8).trans iA.2.2.2.2.2.1, (C0.i 3 9).trans iA.2.2.2.2.2.2.1, (C0.i 3 10).trans iA.2.2.2.2.2.2.2.1, (C0.i 3 11).trans iA.2.2.2.2.2.2.2.2⟩, fun q => (C1.a 0).trans (oA q), d1, ⟨D3.k.trans f3.1, D3.l.trans f3.2.1, fun i => (D3.q i).trans (f3.2.2 i)⟩, fun a' e => ?_⟩
    · rw [E]
      simp only [fX6_addMethod_b52, gI_at, pZ1_at, ka, d1.1, d1.2.2.2, vf, obs, reduceCtorEq, ↓reduceIte]
    · cases e
      refine ⟨by rw [zk_sti]; exact ka, fun c k => by rw [zr_sti]; exact Aa.r c k, fun k => ?_⟩
      rw [zi_sti]
      by_cases e : k = 6
      · rw [if_pos ⟨rfl, e, rfl⟩, if_pos e]
      · rw [if_neg (fun q => e q.2.1), if_neg e]; exact Aa.i 2 k
def up1 (b : Nat → Nat) (m a : Nat) : Nat → Nat := fun m' => if m' = m then a else b m'
theorem up1_at {b : Nat → Nat} {m a m' : Nat} : up1 b m a m' = if m' = m then a else b m' := rfl
section
variable {τ τ' : Nat → Nat → Int32} {kd md : Nat → Nat} {id hd : Nat → Nat → Nat} {x : Nat} {h h' : zH}
set_option maxHeartbeats 1000000 in
/-- a method more -/
theorem RC.addT (p : RC τ kd md id hd x h) (hz : zs h' = zs h + 4) (hF : RF x h') (ow : Option Nat) (how : ∀ a, ow = some a → ∃ c, c < cn (τ 0 0) ∧ a = kd c) (hag : ∀ b, x + 35 ≤ b → b < zs h → ow ≠ some b → ag h h' b)
    (hs : zi h' 6 2 (x + 1) = τ' 0 0 ∧ zi h' 6 3 (x + 1) = τ' 6 0 ∧ zi h' 7 5 (x + 4) = τ' 27 0) (t00 : cn (τ' 0 0) = cn (τ 0 0)) (t60 : cn (τ' 6 0) = cn (τ 6 0) + 1) (hq2 : ∀ i, zq h' (x + 2) i = zq h (x + 2) i) (hq3 : ∀ i, zq h' (x + 3) i = if i = cn (τ 6 0) then some (zs h) else zq h (x + 3) i)
    (hM' : ∀ m, m ≠ cn (τ 6 0) → tg tM τ τ' m) (hI' : ∀ j, tg tI τ τ' j) (hH' : ∀ j, tg tH τ τ' j) (hK : ∀ c, c < cn (τ 0 0) → RK τ' h' c (kd c)) (t14 : cn (τ' 14 (cn (τ 6 0))) = 0) (t18 : cn (τ' 18 (cn (τ 6 0))) = 0) (hT : RT τ' kd h' (cn (τ 6 0)) (zs h)) : RC τ' kd (up1 md (cn (τ 6 0)) (zs h)) id hd x h' := by
  obtain ⟨p1, p2, p3, p4, p5, p6, p7, p8, p9, p10, p11⟩ := (show _ ∧ _ from p)
  have e14 : ∀ m, m ≠ cn (τ 6 0) → τ' 14 m = τ 14 m := fun m e => (hM' m e).at1 (by decide)
  have e18 : ∀ m, m ≠ cn (τ 6 0) → τ' 18 m = τ 18 m := fun m e => (hM' m e).at1 (by decide)
  refine ⟨hF, by omega, hs, fun c hc => ?_, fun m hm => ?_, fun m i hm hi => ?_, fun m k hm hk => ?_, ?_, ?_, ?_, ?_⟩
  · rw [t00] at hc
    obtain ⟨b0, b1, b3, b2⟩ := p4 c hc
    exact ⟨by rw [hq2]; exact b0, b1, by omega, hK c hc⟩
  · rw [t60] at hm
    rw [up1_at]
    by_cases e : m = cn (τ 6 0)
    · rw [if_pos e, e]
      exact ⟨by rw [hq3, if_pos rfl], by omega, by omega, hT⟩
    · rw [if_neg e]
      have hm : m < cn (τ 6 0) := by omega
      obtain ⟨b0, b1, b3, b2⟩ := p5 m hm
      have d : ∀ j, j < 4 → ow ≠ some (md m + j) := fun j hj q => by
        obtain ⟨c, hc, e⟩ := how _ q
        exact p.KT hc hm 0 j (by omega) hj e.symm
      exact ⟨by rw [hq3, if_neg e]; exact b0, b1, by omega, b2.ag (hag _ b1 (by omega) (d 0 (by omega))) (hag _ (by omega) (by omega) (d 1 (by omega))) (Or.inl (hag _ (by omega) (by omega) (d 2 (by omega)))) (Or.inl (hag _ (by omega) (by omega) (d 3 (by omega)))) (hM' m e) (fun _ => rfl)⟩
  · rw [t60] at hm
    by_cases e : m = cn (τ 6 0)
    · rw [e, t14] at hi; omega
    · have hm : m < cn (τ 6 0) := by omega
      rw [e14 m e] at hi
      rw [up1_at, if_neg e]
      obtain ⟨b0, b1, b4, b2, b3⟩ := p6 m i hm hi
      have b5 := (p5 m hm).2
      have d : ∀ j, j < 3 → ow ≠ some (id m i + j) := fun j hj q => by
        obtain ⟨c, hc, e⟩ := how _ q
        exact p.KI hc hm hi 0 j (by omega) hj e.symm
      have d2 : ow ≠ some (md m + 2) := fun q => by
        obtain ⟨c, hc, e⟩ := how _ q
        exact p.KT hc hm 0 2 (by omega) (by omega) e.symm
      have q0 := hag (id m i) (by omega) (by omega) (d 0 (by omega))
      have q1 := hag (id m i + 1) (by omega) (by omega) (d 1 (by omega))
      have q2 := hag (id m i + 2) (by omega) (by omega) (d 2 (by omega))
      refine ⟨by rw [(hag (md m + 2) (by omega) (by omega) d2).q]; exact b0, b1, by omega, b2.ag q0 q1 q2 (hI' _), fun hv => ?_⟩
      rw [(hM' m e).at1 (c := 23) (by decide)] at hv
      exact (b3 hv).ag q0 q1 q2 (hI' _) ((hM' m e).at1 (by decide)) ((hM' m e).at1 (by decide))
  · rw [t60] at hm
    by_cases e : m = cn (τ 6 0)
    · rw [e, t18] at hk; omega
    · have hm : m < cn (τ 6 0) := by omega
      rw [e18 m e] at hk
      rw [up1_at, if_neg e]
      obtain ⟨b0, b1, b3, b2⟩ := p7 m k hm hk
      have b5 := (p5 m hm).2
      have d : ow ≠ some (hd m k) := fun q => by
        obtain ⟨c, hc, e⟩ := how _ q
        exact p.KH hc hm hk 0 0 (by omega) (by omega) e.symm
      have d2 : ow ≠ some (md m + 3) := fun q => by
        obtain ⟨c, hc, e⟩ := how _ q
        exact p.KT hc hm 0 3 (by omega) (by omega) e.symm
      exact ⟨by rw [(hag (md m + 3) (by omega) (by omega) d2).q]; exact b0, b1, by omega, b2.ag (hag _ (by omega) (by omega) d) (hH' _)⟩
  · rw [t00]; exact p8
  · intro m m' hm hm' e
    rw [t60] at hm hm'
    rw [up1_at, up1_at] at e
    by_cases n1 : m = cn (τ 6 0)
    · by_cases n2 : m' = cn (τ 6 0)
      · omega
      · rw [if_pos n1, if_neg n2] at e
        have := (p5 m' (by omega)).2.2.1
        omega
    · by_cases n2 : m' = cn (τ 6 0)
      · rw [if_neg n1, if_pos n2] at e
        have := (p5 m (by omega)).2.2.1
        omega
      · rw [if_neg n1, if_neg n2] at e
        exact p9 m m' (by omega) (by omega) e
  · intro m i m' i' hm hi hm' hi'
    rw [t60] at hm hm'
    have n1 : m ≠ cn (τ 6 0) := fun e => by rw [e, t14] at hi; omega
    have n2 : m' ≠ cn (τ 6 0) := fun e => by rw [e, t14] at hi'; omega
    rw [e14 m n1] at hi
    rw [e14 m' n2] at hi'
    exact p10 m i m' i' (by omega) hi (by omega) hi'
  · intro m i m' i' hm hi hm' hi'
    rw [t60] at hm hm'
    have n1 : m ≠ cn (τ 6 0) := fun e => by rw [e, t18] at hi; omega
    have n2 : m' ≠ cn (τ 6 0) := fun e => by rw [e, t18] at hi'; omega
    rw [e18 m n1] at hi
    rw [e18 m' n2] at hi'
    exact p11 m i m' i' (by omega) hi (by omega) hi'
end
