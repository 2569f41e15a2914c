/-! The start: both objects made. -/
section
variable {a : Nat} {h h0 : zH}
theorem zs_str' {c k a : Nat} {v : Option Nat} {h : zH} : zs (str c k a v h) = zs h := rfl
theorem init6 (hk : zk h a = 7) (ha : a < zs h) : ∃ h', fX6_init (some a) h = some h' ∧ zs h' = zs h + 2 ∧ (∀ b, b < zs h → b ≠ a → ag h h' b) ∧ (zk h' a = 7 ∧ zr h' 6 0 a = some (zs h) ∧ zr h' 6 1 a = some (zs h + 1)) ∧ (zk h' (zs h) = 104 ∧ zl h' (zs h) = 32 ∧ zk h' (zs h + 1) = 105 ∧ zl h' (zs h + 1) = 64) ∧ ∀ c k, zi h' c k a = zi h c k a := by
  have e1 : zk (nwA 104 32 h) a = 7 := by rw [zk_nwA, if_neg (by omega)]; exact hk
  have z1 : zs (str 6 0 a (some (zs h)) (nwA 104 32 h)) = zs h + 1 := rfl
  have e2 : zk (nwA 105 64 (str 6 0 a (some (zs h)) (nwA 104 32 h))) a = 7 := by rw [zk_nwA, z1, if_neg (by omega), zk_str]; exact e1
  refine ⟨str 6 1 a (some (zs h + 1)) (nwA 105 64 (str 6 0 a (some (zs h)) (nwA 104 32 h))), ?_, rfl, fun b hb hne => ?_, ⟨by rw [zk_str]; exact e2, ?_, ?_⟩, ⟨?_, ?_, ?_, ?_⟩, fun c k => ?_⟩
  · unfold fX6_init
    rw [rc_at hk, obs, pR_at e1, obs, z1, pR_at e2, obs]
  · exact ((ag_nwA (by omega)).tr (ag_str hne)).tr ((ag_nwA (by rw [z1]; omega)).tr (ag_str hne))
  · rw [zr_str, if_neg (by omega), zr_nwA, zr_str, if_pos ⟨rfl, rfl, rfl⟩]
  · rw [zr_str, if_pos ⟨rfl, rfl, rfl⟩]
  · rw [zk_str, zk_nwA, z1, if_neg (by omega), zk_str, zk_nwA, if_pos rfl]
  · rw [zl_str, zl_nwA, z1, if_neg (by omega), zl_str, zl_nwA, if_pos rfl]
  · rw [zk_str, zk_nwA, z1, if_pos rfl]
  · rw [zl_str, zl_nwA, z1, if_pos rfl]
  · rfl
theorem init4 (hk : zk h a = 5) (ha : a < zs h) : ∃ h', fX4_init (some a) h = some h' ∧ zs h' = zs h + 1 ∧ (∀ b, b < zs h → b ≠ a → ag h h' b) ∧ (zk h' a = 5 ∧ zr h' 4 0 a = some (zs h)) ∧ (zk h' (zs h) = 100 ∧ zl h' (zs h) = 12) := by
  have e1 : zk (nwA 100 12 h) a = 5 := by rw [zk_nwA, if_neg (by omega)]; exact hk
  refine ⟨str 4 0 a (some (zs h)) (nwA 100 12 h), ?_, rfl, fun b hb hne => (ag_nwA (by omega)).tr (ag_str hne), ⟨e1, ?_⟩, ?_, ?_⟩
  · unfold fX4_init
    rw [rc_at hk, obs, pR_at e1, obs]
  · rw [zr_str, if_pos ⟨rfl, rfl, rfl⟩]
  · rw [zk_str, zk_nwA, if_pos rfl]
  · rw [zl_str, zl_nwA, if_pos rfl]
theorem init5 {u v : Option Nat} (hk : zk h a = 6) : ∃ h', fX5_init (some a) u v h = some h' ∧ zs h' = zs h ∧ (∀ b, b ≠ a → ag h h' b) ∧ zk h' a = 6 ∧ zr h' 5 0 a = u ∧ zr h' 5 1 a = v := by
  refine ⟨str 5 1 a v (str 5 0 a u h), ?_, rfl, fun b hne => (ag_str hne).tr (ag_str hne), hk, ?_, ?_⟩
  · unfold fX5_init
    rw [rc_at hk, obs, pR_at hk, obs, pR_at (by rw [zk_str]; exact hk), obs]
  · rw [zr_str, if_neg (by omega), zr_str, if_pos ⟨rfl, rfl, rfl⟩]
  · rw [zr_str, if_pos ⟨rfl, rfl, rfl⟩]
theorem init7 {u : Option Nat} (hk : zk h a = 8) (ha : a < zs h) : ∃ h', fX7_init (some a) u h = some h' ∧ zs h' = zs h + 3 ∧ (∀ b, b < zs h → b ≠ a → ag h h' b) ∧ (zk h' a = 8 ∧ zr h' 7 0 a = u ∧ zr h' 7 1 a = some (zs h) ∧ zr h' 7 2 a = some (zs h + 2)) ∧ (zk h' (zs h) = 5 ∧ zr h' 4 0 (zs h) = some (zs h + 1) ∧ zk h' (zs h + 1) = 100 ∧ zl h' (zs h + 1) = 12) ∧ (zk h' (zs h + 2) = 6 ∧ zr h' 5 0 (zs h + 2) = u ∧ zr h' 5 1 (zs h + 2) = some (zs h)) ∧ ∀ c k, zi h' c k a = zi h c k a := by
  have F : ∃ h2, h2 = str 7 0 a u h ∧ zs h2 = zs h ∧ (∀ b, b ≠ a → ag h h2 b) ∧ zk h2 a = 8 ∧ zr h2 7 0 a = u ∧ ∀ c k, zi h2 c k a = zi h c k a := ⟨_, rfl, rfl, fun b hne => ag_str hne, hk, by rw [zr_str, if_pos ⟨rfl, rfl, rfl⟩], fun _ _ => rfl⟩
  obtain ⟨h2, e2, s2, g2, k2, r2, i2⟩ := F
  have n1 : zk (nwO 4 h2) (zs h2) = 5 := by rw [zk_nwO, if_pos rfl]
  obtain ⟨h3, e3, s3, g3, ⟨k3, r3⟩, k3', l3'⟩ := init4 n1 (by rw [zs_nwO]; omega)
  rw [zs_nwO] at s3 g3 r3 k3' l3'
  have a3 : ag h2 h3 a := (ag_nwO (by omega)).tr (g3 a (by omega) (by omega))
  have G : ∃ h4, h4 = str 7 1 a (some (zs h2)) h3 ∧ zs h4 = zs h3 ∧ (∀ b, b ≠ a → ag h3 h4 b) ∧ zk h4 a = 8 ∧ zr h4 7 0 a = u ∧ zr h4 7 1 a = some (zs h2) ∧ ∀ c k, zi h4 c k a = zi h3 c k a := ⟨_, rfl, rfl, fun b hne => ag_str hne, a3.k.trans k2, by rw [zr_str, if_neg (by omega)]; exact (a3.r 7 0).trans r2, by rw [zr_str, if_pos ⟨rfl, rfl, rfl⟩], fun _ _ => rfl⟩
  obtain ⟨h4, e4, s4, g4, k4, r40, r41, i4⟩ := G
  have n5 : zk (nwO 5 h4) (zs h4) = 6 := by rw [zk_nwO, if_pos rfl]
  obtain ⟨h6, e6, s6, g6, k6, r60, r61⟩ := init5 (u := u) (v := some (zs h2)) n5
  rw [zs_nwO] at s6
  have a6 : ag h4 h6 a := (ag_nwO (by omega)).tr (g6 a (by omega))
  have b5 : ∀ b, b < zs h2 + 2 → b ≠ a → ag h3 h6 b := fun b hb hne => (g4 b hne).tr ((ag_nwO (by omega)).tr (g6 b (by omega)))
  refine ⟨str 7 2 a (some (zs h4)) h6, ?_, by rw [zs_str', s6, s4, s3, s2], fun b hb hne => ?_, ⟨by rw [zk_str]; exact a6.k.trans k4, by rw [zr_str, if_neg (by omega)]; exact (a6.r 7 0).trans r40, by rw [zr_str, if_neg (by omega), ← s2]; exact (a6.r 7 1).trans r41, by rw [zr_str, if_pos ⟨rfl, rfl, rfl⟩, s4, s3, s2]⟩, ⟨?_, ?_, ?_, ?_⟩, ⟨?_, ?_, ?_⟩, fun c k => ?_⟩
  · unfold fX7_init
    have kk : zk (nwO 5 h4) a = 8 := by rw [zk_nwO, if_neg (by omega)]; exact k4
    rw [rc_at hk, obs, pR_at hk, obs, ← e2, e3, obs, pR_at (a3.k.trans k2), obs, ← e4, gR_at kk, obs]
    rw [show zr (nwO 5 h4) 7 1 a = some (zs h2) by rw [zr_nwO, if_neg (by omega)]; exact r41]
    rw [e6, obs, pR_at (a6.k.trans k4), obs]
  · exact (g2 b hne).tr ((ag_nwO (by omega)).tr ((g3 b (by omega) (by omega)).tr ((b5 b (by omega) hne).tr (ag_str hne))))
  · rw [zk_str, ← s2, (b5 (zs h2) (by omega) (by omega)).k]; exact k3
  · rw [zr_str, if_neg (by omega), ← s2, (b5 (zs h2) (by omega) (by omega)).r]; exact r3
  · rw [zk_str, ← s2, (b5 (zs h2 + 1) (by omega) (by omega)).k]; exact k3'
  · rw [zl_str, ← s2, (b5 (zs h2 + 1) (by omega) (by omega)).l]; exact l3'
  · rw [zk_str, show zs h + 2 = zs h4 by omega]; exact k6
  · rw [zr_str, if_neg (by omega), show zs h + 2 = zs h4 by omega]; exact r60
  · rw [zr_str, if_neg (by omega), show zs h + 2 = zs h4 by omega, r61, s2]
  · rw [zi_str, a6.i, i4, a3.i, i2]
theorem init8 (x : Nat) : ∃ h', fX8_init (some x) (nwO 8 (hE x)) = some h' ∧ zs h' = x + 8 ∧ RF x h' ∧ zi h' 6 2 (x + 1) = 0 ∧ zi h' 6 3 (x + 1) = 0 ∧ zi h' 7 5 (x + 4) = 0 := by
  have k0 : zk (nwO 8 (hE x)) x = 9 := by rw [zk_nwO, if_pos (show x = zs (hE x) from rfl)]
  have s0 : zs (nwO 8 (hE x)) = x + 1 := rfl
  generalize nwO 8 (hE x) = H at *
  have k1 : zk (nwO 6 H) (zs H) = 7 := by rw [zk_nwO, if_pos rfl]
  obtain ⟨h2, e2, s2, g2, ⟨p1, p2, p3⟩, ⟨p4, p5, p6, p7⟩, i2⟩ := init6 k1 (by rw [zs_nwO]; omega)
  rw [zs_nwO, s0] at s2 g2 p2 p3 p4 p5 p6 p7
  rw [s0] at p1 i2
  have a2 : ag H h2 x := (ag_nwO (by omega)).tr (g2 x (by omega) (by omega))
  have G : ∃ h3, h3 = str 8 0 x (some (x + 1)) h2 ∧ zs h3 = zs h2 ∧ (∀ b, b ≠ x → ag h2 h3 b) ∧ zk h3 x = 9 ∧ zr h3 8 0 x = some (x + 1) := ⟨_, rfl, rfl, fun b hne => ag_str hne, a2.k.trans k0, by rw [zr_str, if_pos ⟨rfl, rfl, rfl⟩]⟩
  obtain ⟨h3, e3, s3, g3, k3, r3⟩ := G
  have k4 : zk (nwO 7 h3) (zs h3) = 8 := by rw [zk_nwO, if_pos rfl]
  obtain ⟨h5, e5, s5, g5, ⟨q1, q2, q3, q4⟩, ⟨q5, q6, q7, q8⟩, ⟨q9, q10, q11⟩, i5⟩ := init7 (u := some (x + 1)) k4 (by rw [zs_nwO]; omega)
  have z3 : zs h3 = x + 4 := by omega
  rw [zs_nwO, z3] at s5 g5 q3 q4 q5 q6 q7 q8 q9 q10 q11
  rw [z3] at q1 q2 i5
  have g35 : ∀ b, b < x + 4 → ag h3 h5 b := fun b hb => (ag_nwO (by omega)).tr (g5 b (by omega) (by omega))
  have g25 : ∀ b, b < x + 4 → b ≠ x → ag h2 h5 b := fun b hb hne => (g3 b hne).tr (g35 b hb)
  have L : ∀ b, b ≠ x → ag h5 (str 8 1 x (some (x + 4)) h5) b := fun b hne => ag_str hne
  have y : ∀ j, 0 < j → x + j ≠ x := fun j hj => by omega
  refine ⟨str 8 1 x (some (x + 4)) h5, ?_, by rw [zs_str', s5], ⟨⟨?_, ?_, ?_, ?_, ?_, ?_, ?_, ?_⟩, ⟨?_, ?_, ?_, ?_, ?_, ?_, ?_, ?_, ?_, ?_⟩, ?_, ?_, ?_⟩, ?_, ?_, ?_⟩
  · unfold fX8_init
    rw [rc_at k0, obs, s0, ← s0, e2, obs, pR_at (a2.k.trans k0), obs, s0, ← e3]
    have kk : zk (nwO 7 h3) x = 9 := by rw [zk_nwO, if_neg (by omega)]; exact k3
    rw [gR_at kk, obs, show zr (nwO 7 h3) 8 0 x = some (x + 1) by rw [zr_nwO, if_neg (by omega)]; exact r3]
    rw [e5, obs, pR_at ((g35 x (by omega)).k.trans k3), obs, z3]
  · rw [zk_str]; exact (g35 x (by omega)).k.trans k3
  · rw [zk_str]; exact (g25 (x + 1) (by omega) (by omega)).k.trans p1
  · rw [zk_str]; exact (g25 (x + 2) (by omega) (by omega)).k.trans p4
  · rw [zk_str]; exact (g25 (x + 3) (by omega) (by omega)).k.trans p6
  · rw [zk_str]; exact q1
  · rw [zk_str]; exact q5
  · rw [zk_str]; exact q7
  · rw [zk_str]; exact q9
  · rw [zr_str, if_neg (by omega)]; exact ((g35 x (by omega)).r 8 0).trans r3
  · rw [zr_str, if_pos ⟨rfl, rfl, rfl⟩]
  · rw [(L (x + 1) (by omega)).r]; exact ((g25 (x + 1) (by omega) (by omega)).r 6 0).trans p2
  · rw [(L (x + 1) (by omega)).r]; exact ((g25 (x + 1) (by omega) (by omega)).r 6 1).trans p3
  · rw [(L (x + 4) (by omega)).r]; exact q2
  · rw [(L (x + 4) (by omega)).r]; exact q3
  · rw [(L (x + 4) (by omega)).r]; exact q4
  · rw [(L (x + 5) (by omega)).r]; exact q6
  · rw [(L (x + 7) (by omega)).r]; exact q10
  · rw [(L (x + 7) (by omega)).r]; exact q11
  · rw [zl_str]; exact (g25 (x + 2) (by omega) (by omega)).l.trans p5
  · rw [zl_str]; exact (g25 (x + 3) (by omega) (by omega)).l.trans p7
  · rw [zl_str]; exact q8
  · rw [zi_str]; exact ((g25 (x + 1) (by omega) (by omega)).i 6 2).trans ((i2 6 2).trans (by rw [zi_nwO, if_pos s0.symm]))
  · rw [zi_str]; exact ((g25 (x + 1) (by omega) (by omega)).i 6 3).trans ((i2 6 3).trans (by rw [zi_nwO, if_pos s0.symm]))
  · rw [zi_str]; exact (i5 7 5).trans (by rw [zi_nwO, if_pos z3.symm])
/-- the reference, with the arrays of l made -/
def PM (m : Nat) (h0 : zH) (l : List (Nat × Nat × Nat × Nat)) (h : zH) : Prop := zk h m = 10 ∧ zs h = m + 1 + l.length ∧ (∀ q ∈ l, q.2.1 ≤ l.length ∧ 1 ≤ q.2.1 ∧ zr h 9 q.1 m = some (m + q.2.1) ∧ zk h (m + q.2.1) = q.2.2.1 ∧ zl h (m + q.2.1) = q.2.2.2 ∧ ∀ i, za h (m + q.2.1) i = 0) ∧ (∀ c k, zi h c k m = 0) ∧ ∀ b, b < m → ag h0 h b
theorem PM.st {m : Nat} {l : List (Nat × Nat × Nat × Nat)} (p : PM m h0 l h) (c κ n : Nat) (hc : ∀ q ∈ l, q.1 ≠ c) : ∃ h', pR 9 c (some m) (some (zs h)) (nwA κ n h) = some h' ∧ PM m h0 (l ++ [(c, l.length + 1, κ, n)]) h' := by
  obtain ⟨p1, p2, p3, p4, p5⟩ := p
  have e1 : zk (nwA κ n h) m = 10 := by rw [zk_nwA, if_neg (by omega)]; exact p1
  refine ⟨str 9 c m (some (zs h)) (nwA κ n h), pR_at e1, e1, ?_, fun q hq => ?_, fun c k => p4 c k, fun b hb => (p5 b hb).tr ((ag_nwA (by omega)).tr (ag_str (by omega)))⟩
  · rw [zs_str', zs_nwA, p2, List.length_append]; rfl
  · rw [List.length_append]
    show q.2.1 ≤ l.length + 1 ∧ _
    rcases List.mem_append.mp hq with hq | hq
    · obtain ⟨a1, a2, a3, a4, a5, a6⟩ := p3 q hq
      have := hc q hq
      refine ⟨by omega, a2, ?_, ?_, ?_, fun i => ?_⟩
      · rw [zr_str, if_neg (fun y => this y.2.1), zr_nwA]; exact a3
      · rw [zk_str, zk_nwA, if_neg (by omega)]; exact a4
      · rw [zl_str, zl_nwA, if_neg (by omega)]; exact a5
      · rw [za_str, za_nwA, if_neg (by omega)]; exact a6 i
    · rw [List.mem_singleton] at hq
      subst hq
      refine ⟨Nat.le_refl _, by show 1 ≤ l.length + 1; omega, ?_, ?_, ?_, fun i => ?_⟩
      · show zr _ 9 c m = some (m + (l.length + 1))
        rw [zr_str, if_pos ⟨rfl, rfl, rfl⟩, p2, show m + 1 + l.length = m + (l.length + 1) by omega]
      · show zk _ (m + (l.length + 1)) = κ
        rw [zk_str, zk_nwA, if_pos (by omega)]
      · show zl _ (m + (l.length + 1)) = n
        rw [zl_str, zl_nwA, if_pos (by omega)]
      · show za _ (m + (l.length + 1)) i = 0
        rw [za_str, za_nwA, if_pos (by omega)]
theorem init9 {m : Nat} (hm : zs h0 = m) : ∃ h', fX9_init (some m) (nwO 9 h0) = some h' ∧ PM m h0 mcols h' := by
  have P0 : PM m h0 [] (nwO 9 h0) := ⟨by rw [zk_nwO, if_pos hm.symm], by rw [zs_nwO, hm]; rfl, fun q hq => (List.not_mem_nil hq).elim, fun c k => by rw [zi_nwO, if_pos hm.symm], fun b hb => ag_nwO (by omega)⟩
  have kk : zk (nwO 9 h0) m = 10 := P0.1
  obtain ⟨h1, e1, P1⟩ := P0.st 1 100 32 (by decide)
  obtain ⟨h2, e2, P2⟩ := P1.st 2 101 32 (by decide)
  obtain ⟨h3, e3, P3⟩ := P2.st 3 100 32 (by decide)
  obtain ⟨h4, e4, P4⟩ := P3.st 4 100 480 (by decide)
  obtain ⟨h5, e5, P5⟩ := P4.st 5 100 512 (by decide)
  obtain ⟨h6, e6, P6⟩ := P5.st 7 100 64 (by decide)
  obtain ⟨h7, e7, P7⟩ := P6.st 8 100 64 (by decide)
  obtain ⟨h8, e8, P8⟩ := P7.st 9 100 64 (by decide)
  obtain ⟨h9, e9, P9⟩ := P8.st 10 100 64 (by decide)
  obtain ⟨h10, e10, P10⟩ := P9.st 11 100 64 (by decide)
  obtain ⟨h11, e11, P11⟩ := P10.st 12 100 512 (by decide)
  obtain ⟨h12, e12, P12⟩ := P11.st 13 101 64 (by decide)
  obtain ⟨h13, e13, P13⟩ := P12.st 14 100 64 (by decide)
  obtain ⟨h14, e14, P14⟩ := P13.st 15 100 12800 (by decide)
  obtain ⟨h15, e15, P15⟩ := P14.st 16 100 12800 (by decide)
  obtain ⟨h16, e16, P16⟩ := P15.st 17 100 12800 (by decide)
  obtain ⟨h17, e17, P17⟩ := P16.st 18 100 64 (by decide)
  obtain ⟨h18, e18, P18⟩ := P17.st 19 100 512 (by decide)
  obtain ⟨h19, e19, P19⟩ := P18.st 20 100 512 (by decide)
  obtain ⟨h20, e20, P20⟩ := P19.st 21 100 512 (by decide)
  obtain ⟨h21, e21, P21⟩ := P20.st 22 100 512 (by decide)
  obtain ⟨h22, e22, P22⟩ := P21.st 23 101 64 (by decide)
  obtain ⟨h23, e23, P23⟩ := P22.st 24 100 12800 (by decide)
  obtain ⟨h24, e24, P24⟩ := P23.st 25 100 153600 (by decide)
  obtain ⟨h25, e25, P25⟩ := P24.st 26 101 200 (by decide)
  obtain ⟨h26, e26, P26⟩ := P25.st 28 100 12 (by decide)
  refine ⟨h26, ?_, P26⟩
  unfold fX9_init
  rw [rc_at kk, obs, e1, obs, e2, obs, e3, obs, e4, obs, e5, obs, e6, obs, e7, obs, e8, obs, e9, obs, e10, obs, e11, obs, e12, obs, e13, obs, e14, obs, e15, obs, e16, obs, e17, obs, e18, obs, e19, obs, e20, obs, e21, obs, e22, obs, e23, obs, e24, obs, e25, obs, e26, obs]
theorem startI (x : Nat) : ∃ h1 h2, fX8_init (some x) (nwO 8 (hE x)) = some h1 ∧ zs h1 = x + 8 ∧ fX9_init (some (x + 8)) (nwO 9 h1) = some h2 ∧ Inv (fun _ _ => 0) x h2 := by
  obtain ⟨h1, e1, s1, f1, i1, i2, i3⟩ := init8 x
  obtain ⟨h2, e2, p1, p2, p3, p4, p5⟩ := init9 s1
  have z0 : cn 0 = 0 := by decide
  have l26 : mcols.length = 26 := by decide
  have n0 : ¬ (0 : Int32) < 0 := by decide
  refine ⟨h1, h2, e1, s1, e2, ⟨⟨n0, by rw [z0]; omega⟩, ⟨n0, by rw [z0]; omega⟩, fun c hc => by rw [z0] at hc; omega, fun c hc => by rw [z0] at hc; omega, fun m _ _ => ⟨rfl, rfl, rfl, rfl⟩⟩, ⟨p1, fun q hq => ?_, fun c hc => p4 9 c⟩, fun _ => 0, fun _ => 0, fun _ _ => 0, fun _ _ => 0, f1.ag (fun b _ hb => p5 b hb), by rw [p2, l26]; omega, ⟨?_, ?_, ?_⟩, fun c hc => by rw [z0] at hc; omega, fun c hc => by rw [z0] at hc; omega, fun c i hc => by rw [z0] at hc; omega, fun c i hc => by rw [z0] at hc; omega, fun c c' hc => by rw [z0] at hc; omega, fun c c' hc => by rw [z0] at hc; omega, fun c i c' i' hc => by rw [z0] at hc; omega, fun c i c' i' hc => by rw [z0] at hc; omega⟩
  · obtain ⟨-, -, a3, a4, a5, a6⟩ := p3 q hq
    exact ⟨a3, a4, a5, fun i _ => a6 i⟩
  · rw [(p5 (x + 1) (by omega)).i]; exact i1
  · rw [(p5 (x + 1) (by omega)).i]; exact i2
  · rw [(p5 (x + 4) (by omega)).i]; exact i3
end
