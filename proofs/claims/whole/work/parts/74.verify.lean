/-! verify, on both sides -/
theorem Phi_le {L P sz : Nat} {S : VS} (hb : L + P ≤ 12) (h : ∀ i, i < sz → ∀ q, S.1 i = some q → q ≤ P) : Phi L sz S ≤ sz * 411 := by
  refine sm_le sz (fun k hk => ?_)
  unfold wt
  have a : b1 (S.2.2 k) ≤ 1 := by cases S.2.2 k <;> decide
  cases e : S.1 k with
  | none => show _ + 410 ≤ _; omega
  | some q =>
    show _ + pf (L + q) (S.2.1 k) ≤ _
    have := h k hk q e
    have : pf (L + q) (S.2.1 k) ≤ (L + q) * 34 := sm_le _ (fun k hk => by omega)
    omega
theorem op_verify (N : Nat) (hN : 20000000 ≤ N) {τ : Nat → Nat → Int32} {x : Nat} {h : zH} (v : Int32) (I : Inv τ x h) : Same (fX8_verify N (some x) v) (fX9_verify N (some (x + 8)) v) x h := by
  have I' := I
  obtain ⟨w, rM, kd, md, ib, hd, p⟩ := I
  have k8 : zk h x = 9 := p.1.1.1
  have k6 : zk h (x + 1) = 7 := p.1.1.2.1
  have k7 : zk h (x + 4) = 8 := p.1.1.2.2.2.2.1
  have q0 : zr h 8 0 x = some (x + 1) := p.1.2.1.1
  have q1 : zr h 8 1 x = some (x + 4) := p.1.2.1.2.1
  rcases isMethodM rM w v with ⟨m1, m, hm, rfl⟩ | ⟨m1, hc⟩
  · obtain ⟨w1, w2, w3, w4, w5, w6, w7, w8, w9, w10, w11, w12⟩ := w.2.2.2.1 m hm
    have ma := methodAt_at p w hm
    have hL : τ 9 m = nI (cn (τ 9 m)) := nI_of_cn w3.1
    have hP : τ 10 m = nI (cn (τ 10 m)) := nI_of_cn w3.2.1
    have hb : cn (τ 9 m) + cn (τ 10 m) ≤ 12 := w3.2.2
    generalize cn (τ 9 m) = L at *
    generalize cn (τ 10 m) = P at *
    have V : VC τ kd md ib hd x m L P h := ⟨p, w, hm, hL, hP, hb⟩
    obtain ⟨h1, e1, c1, g1, wk1⟩ := beginC N (by omega) V
    have EC : ∀ b h2, fX7_goOver_b7 N N (some (x + 4)) (some (md m)) 0 h1 = some (b, h2) → fX8_verify N (some x) (nI m) h = if b = -1 then some (0, h2) else some (b + 1, h2) := fun b h2 e => by
      unfold fX8_verify
      rw [gR_at k8, q0, obs, rc_at k6, obs, ma, obs]
      dsimp only
      rw [if_neg (by simp), gR_at k8, q1, obs, rc_at k7, obs]
      unfold fX7_goOver
      rw [rc_at k7, obs, e1, obs, e, obs]
    -- the class's cells stay away from the reference's
    have AG : ∀ {S h2}, CS τ md ib x m L P h S h2 → RM τ (x + 8) h2 := fun {S h2} c => rM.ag (fun b hb1 hb2 => c.1.ag (c.2.1 b (fun q => by
      rcases q with q | q | ⟨i, j, hi, hj, q⟩
      · omega
      · have := (p.2.2.2.2.1 m hm).2.1; omega
      · have := (p.2.2.2.2.2.1 m i hm hi).2.1; omega)))
    by_cases hz : cn (τ 14 m) = 0
    · have cz : comeS τ L (cn (τ 14 m)) 0 0 (r0 τ m) S0 = (S0, some 0) := by unfold comeS; rw [if_pos (by omega)]
      rw [cz] at c1 wk1
      rcases wk1 with ⟨e, z, z4⟩ | ⟨z, -⟩
      · cases z
        have k71 : zk h1 (x + 4) = 8 := by rw [c1.1.1]; exact k7
        have eg : fX7_goOver_b7 N N (some (x + 4)) (some (md m)) 0 h1 = some (nI 0, h1) := by
          obtain ⟨n, rfl⟩ : ∃ n, N = n + 1 := ⟨N - 1, by omega⟩
          rw [fX7_goOver_b7, if_neg (by decide), gI_at k71, obs, z4, if_neg (by decide)]
          unfold fX7_goOver_b47
          rw [gI_at k71, obs, z4]
        have ef := EC _ _ eg
        rw [if_neg (by decide)] at ef
        obtain ⟨h3, τ3, f3, p3, cs⟩ := beginM N (by omega) w hm hL hP hb (AG c1)
        rcases cs with ⟨-, em, M3⟩ | ⟨y, -⟩
        · exact Same.of ef (AG c1) em (M3.WF w hm hP (by omega)) p3 f3 (c1.rc p w hm hL hP hb M3 g1)
        · omega
      · cases z
    · have cn2 := (come00 (τ := τ) (L := L) (fr := 0) (fr' := 0) (sz := cn (τ 14 m)) (by omega) (r0 τ m)).2
      rw [cn2] at wk1
      have ok1 := c1.ok
      have mr1 : mr (comeS τ L (cn (τ 14 m)) 0 0 (r0 τ m) S0).1 := comeS_mr (fun i hi => by cases hi)
      have ph : Phi L (cn (τ 14 m)) (comeS τ L (cn (τ 14 m)) 0 0 (r0 τ m) S0).1 ≤ 90000 := by
        have := Phi_le (sz := cn (τ 14 m)) hb (fun i hi q e => (ok1 i hi q e).1)
        omega
      obtain ⟨S', o, lk', C', M', O'⟩ := walk N (by omega) V 90000 _ 0 ph (by omega) ok1 mr1
      obtain ⟨h2, e2, c2, g2⟩ := C' h1 N (by omega) c1 g1 wk1
      rw [nI_0] at e2
      have ef := EC _ _ e2
      obtain ⟨h3, τ3, f3, p3, cs⟩ := beginM N (by omega) w hm hL hP hb (AG c2)
      rcases cs with ⟨y, -⟩ | ⟨-, em, M3, K3⟩
      · omega
      · obtain ⟨h4, τ4, e4, f4, p4, M4⟩ := M' (x + 8) τ3 h3 N (by omega) p3 M3 K3
        rw [e4] at em
        have fin : ∀ b, fX8_verify N (some x) (nI m) h = some (b, h2) → fX9_verify N (some (x + 8)) (nI m) h2 = some (b, h4) → Same (fX8_verify N (some x) (nI m)) (fX9_verify N (some (x + 8)) (nI m)) x h := fun b y1 y2 => Same.of y1 (AG c2) y2 (M4.WF w hm hP (by omega)) p4 (f3.tr f4) (c2.rc p w hm hL hP hb M4 g2)
        cases o with
        | none => exact fin 0 (by rw [ef]; rfl) em
        | some e =>
          refine fin (1 + nI e) ?_ em
          rw [ef]
          show (if nI e = -1 then some ((0 : Int32), h2) else some (nI e + 1, h2)) = _
          rw [if_neg (nIm1 e (O' e rfl)), Int32.add_comm]
  · refine Same.no (r := -1) I' ?_ ?_
    · simp only [fX8_verify, gR_at, rc_at, k8, k6, q0, methodAt_no p hc, obs, ↓reduceIte]
    · simp only [fX9_verify, rcM rM, m1, obs, ↓reduceIte]
