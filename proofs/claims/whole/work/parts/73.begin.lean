/-! A walk begins: the reference. -/
theorem nI_all (v : Int32) : ∃ n, v = nI n := ⟨v.toBitVec.toNat, Int32.toBitVec_inj.mp (by unfold nI; simp)⟩
section
variable {τ τb : Nat → Nat → Int32} {kd md : Nat → Nat} {ib hd : Nat → Nat → Nat} {x m L P lk r : Nat} {h0 h : zH}
def Q0 (τ : Nat → Nat → Int32) (m l : Nat) (τb : Nat → Nat → Int32) : Prop := (∀ c i, (c < 23 ∨ 40 ≤ c) → τb c i = τ c i) ∧ (∀ i, τb 23 i = if i = m then 1 else τ 23 i) ∧ (∀ j, ¬ (200 * m ≤ j ∧ j < 200 * m + 200) → τb 24 j = τ 24 j) ∧ (∀ j, τb 25 j = τ 25 j) ∧ (∀ i, i < l → τb 24 (200 * m + i) = -1 ∧ τb 26 i = 0) ∧ τb 27 0 = nI 0
theorem begM24 (N : Nat) (hm : m < 64) (d : Nat) : ∀ (l n : Nat) (τb : Nat → Nat → Int32) (h : zH), l + d = 200 → d < n → RM τb r h → Q0 τ m l τb → ∃ n' h' τ', fX9_verify_b24 N n (some r) (nI m) (nI l) h = fX9_verify_b24 N (n' + 1) (some r) (nI m) (nI 200) h' ∧ Mfr r h h' ∧ RM τ' r h' ∧ Q0 τ m 200 τ' := by
  induction d with
  | zero =>
    intro l n τb h hl hn p q
    obtain ⟨n, rfl⟩ : ∃ n', n = n' + 1 := ⟨n - 1, by omega⟩
    have e : l = 200 := by omega
    subst e
    exact ⟨n, h, τb, rfl, Mfr.rf, p, q⟩
  | succ d ih =>
    intro l n τb h hl hn p q
    obtain ⟨n, rfl⟩ : ∃ n', n = n' + 1 := ⟨n - 1, by omega⟩
    obtain ⟨q1, q2, q3, q4, q5, q6⟩ := q
    obtain ⟨h1, e1, p1, f1⟩ := eM24 p (i := 200 * m + l) (by omega) (-1)
    obtain ⟨h2, e2, p2, f2⟩ := eM26 p1 (i := l) (by omega) (v := 0) (Or.inl rfl)
    have lin1 : (200 : Int32) * nI m + nI l = nI (200 * m + l) := lin trivial
    have o : ∀ c i, c ≠ 24 → c ≠ 26 → u2 (u2 τb 24 (200 * m + l) (-1)) 26 l 0 c i = τb c i := fun c i h1 h2 => by rw [u2_at, if_neg (by omega), u2_at, if_neg (by omega)]
    have Q : Q0 τ m (l + 1) (u2 (u2 τb 24 (200 * m + l) (-1)) 26 l 0) := by
      refine ⟨fun c i hc => by rw [o c i (by omega) (by omega)]; exact q1 c i hc, fun i => by rw [o 23 i (by omega) (by omega)]; exact q2 i, fun j hj => by rw [u2_at, if_neg (by omega), u2_at, if_neg (by omega)]; exact q3 j hj, fun j => by rw [o 25 j (by omega) (by omega)]; exact q4 j, fun i hi => ?_, by rw [o 27 0 (by omega) (by omega)]; exact q6⟩
      by_cases z : i = l
      · subst z
        exact ⟨by rw [u2_at, if_neg (by omega), u2_at, if_pos ⟨rfl, rfl⟩], by rw [u2_at, if_pos ⟨rfl, rfl⟩]⟩
      · obtain ⟨y1, y2⟩ := q5 i (by omega)
        exact ⟨by rw [u2_at, if_neg (by omega), u2_at, if_neg (by omega)]; exact y1, by rw [u2_at, if_neg (by omega), u2_at, if_neg (by omega)]; exact y2⟩
    obtain ⟨n', h', τ', e', f', p', Q'⟩ := ih (l + 1) n _ h2 (by omega) (by omega) p2 Q
    refine ⟨n', h', τ', ?_, (f1.tr f2).tr f', p', Q'⟩
    rw [← e', fX9_verify_b24, if_neg (show ¬ (200 : Int32) ≤ nI l from @nI_ge l 200 (by omega) (by decide)), gRM24 p, obs, lin1, e1, obs, gRM26 p1, obs, e2, obs, nI_1]
theorem Q0.MS (w : WF τ) (hm : m < cn (τ 6 0)) (q : Q0 τ m 200 τb) : MS τ m L P 0 S0 τb ∧ MKM τ m S0 τb := by
  have w8 := (w.2.2.2.1 m hm).2.2.2.2.2.2.2.1
  obtain ⟨q1, q2, q3, q4, q5, q6⟩ := q
  refine ⟨⟨q1, q2, q3, fun j _ => q4 j, fun i hi => Or.inl ⟨rfl, by rw [(q5 i (by omega)).1]; exact m1neg⟩, q6⟩, fun i hi => ?_⟩
  rw [(q5 i (by omega)).2]; rfl
theorem begM75 (N : Nat) (hm : m < 64) (hb : L ≤ 12) {n8 : Nat} (hn8 : n8 ≤ 8) (t9 : τb 9 m = nI L) (t11 : τb 11 m = nI n8) (d : Nat) : ∀ (k n : Nat) (g : Nat → Int32) (h : zH), k + d = L → d < n → RM (TT τb g (nI 0)) r h → (∀ j, j < k → g j = if j < n8 then τb 12 (8 * m + j) else 99) → ∃ h' g', fX9_verify_b75 N n (some r) (nI m) (nI k) h = ((rc 9 (some r) h').bind fun _ => (fX9_come N (some r) (nI m) 0 h').bind fun q4 => fX9_verify_b132 N N (some r) (nI m) 0 q4.2) ∧ Mfr r h h' ∧ RM (TT τb g' (nI 0)) r h' ∧ ∀ j, j < L → g' j = if j < n8 then τb 12 (8 * m + j) else 99 := by
  induction d with
  | zero =>
    intro k n g h hk hn p hg
    obtain ⟨n, rfl⟩ : ∃ n', n = n' + 1 := ⟨n - 1, by omega⟩
    have l9 : aI 100 (some (r + 8)) (nI m) h = some (nI L) := by
      have := aM9 p (i := m) hm; rw [TTo (by omega) (by omega), t9] at this; exact this
    refine ⟨h, g, ?_, Mfr.rf, p, fun j hj => hg j (by omega)⟩
    rw [fX9_verify_b75, gRM9 p, obs, l9, obs, if_pos (nI_le (by omega) (by omega))]
  | succ d ih =>
    intro k n g h hk hn p hg
    obtain ⟨n, rfl⟩ : ∃ n', n = n' + 1 := ⟨n - 1, by omega⟩
    have l9 : aI 100 (some (r + 8)) (nI m) h = some (nI L) := by
      have := aM9 p (i := m) hm; rw [TTo (by omega) (by omega), t9] at this; exact this
    have l11 : aI 100 (some (r + 10)) (nI m) h = some (nI n8) := by
      have := aM11 p (i := m) hm; rw [TTo (by omega) (by omega), t11] at this; exact this
    obtain ⟨h1, t1, q1, f1⟩ := eM28 p (i := k) (by omega) (if k < n8 then τb 12 (8 * m + k) else 99)
    obtain ⟨h', g', e', f', p', hg'⟩ := ih (k + 1) n _ h1 (by omega) (by omega) (TT_s28 q1) (fun j hj => by
      show (if j = k then (if k < n8 then τb 12 (8 * m + k) else 99) else g j) = _
      by_cases z : j = k
      · rw [if_pos z, z]
      · rw [if_neg z]; exact hg j (by omega))
    refine ⟨h', g', ?_, f1.tr f', p', hg'⟩
    rw [← e', fX9_verify_b75, gRM9 p, obs, l9, obs, if_neg (nI_ge (by omega) (by omega)), gRM28 p, obs, gRM11 p, obs, l11, obs]
    by_cases z : k < n8
    · rw [if_pos z] at t1
      have l12 : aI 100 (some (r + 11)) (nI (8 * m + k)) h = some (τb 12 (8 * m + k)) := by
        have := aM12 p (i := 8 * m + k) (by omega); rw [TTo (by omega) (by omega)] at this; exact this
      have lin1 : (8 : Int32) * nI m + nI k = nI (8 * m + k) := lin trivial
      rw [if_neg (nI_ge z (by omega)), gRM12 p, obs, lin1, l12, obs]
      unfold fX9_verify_b116
      rw [t1, obs, nI_1]
    · rw [if_neg z] at t1
      rw [if_pos (nI_le (by omega) (by omega))]
      unfold fX9_verify_b116
      rw [t1, obs, nI_1]
theorem come00 {fr fr' sz : Nat} (hsz : 0 < sz) (rw' : Row) : comeS τ L sz fr 0 rw' S0 = comeS τ L sz fr' 0 rw' S0 ∧ (comeS τ L sz fr 0 rw' S0).2 = none := by
  unfold comeS
  rw [if_neg (by omega), if_neg (by omega)]
  exact ⟨rfl, rfl⟩
theorem beginM (N : Nat) (hN : 300 ≤ N) (w : WF τ) (hm : m < cn (τ 6 0)) (hL : τ 9 m = nI L) (hP : τ 10 m = nI P) (hb : L + P ≤ 12) (p : RM τ r h) :
    ∃ h' τ', Mfr r h h' ∧ RM τ' r h' ∧ ((cn (τ 14 m) = 0 ∧ fX9_verify N (some r) (nI m) h = some (1, h') ∧ MS τ m L P 0 S0 τ') ∨ (0 < cn (τ 14 m) ∧ fX9_verify N (some r) (nI m) h = fX9_verify_b132 N N (some r) (nI m) 0 h' ∧ MS τ m L P 0 (comeS τ L (cn (τ 14 m)) 0 0 (r0 τ m) S0).1 τ' ∧ MKM τ m (comeS τ L (cn (τ 14 m)) 0 0 (r0 τ m) S0).1 τ')) := by
  have h64 := w.2.1.2
  have w8 := (w.2.2.2.1 m hm).2.2.2.2.2.2.2.1
  have w4 := (w.2.2.2.1 m hm).2.2.2.1
  have im : fX9_isMethod (some r) (nI m) h = some (1, h) := by
    rcases isMethodM p w (nI m) with ⟨e, -⟩ | ⟨-, e⟩
    · exact e
    · rcases e with e | ⟨-, e⟩
      · exact absurd e (nlt0 (by omega))
      · exact absurd e (nle_cn w.2.1.1 hm (by omega))
  obtain ⟨h1, e1, p1, f1⟩ := eM23 p (i := m) (by omega) (v := 1) (Or.inr rfl)
  obtain ⟨h2, e2, p2, f2⟩ := eS27 p1 (nI 0)
  have Qs : Q0 τ m 0 (u2 (u2 τ 23 m 1) 27 0 (nI 0)) := by
    refine ⟨fun c i hc => by rw [u2_at, if_neg (by omega), u2_at, if_neg (by omega)], fun i => ?_, fun j hj => by rw [u2_at, if_neg (by omega), u2_at, if_neg (by omega)], fun j => by rw [u2_at, if_neg (by omega), u2_at, if_neg (by omega)], fun i hi => by omega, by rw [u2_at, if_pos ⟨rfl, rfl⟩]⟩
    rw [u2_at, if_neg (by omega), u2_at]
    by_cases z : i = m
    · rw [if_pos ⟨rfl, z⟩, if_pos z]
    · rw [if_neg (fun y => z y.2), if_neg z]
  obtain ⟨n', h3, τ3, e3, f3, p3, Q3⟩ := begM24 N (τ := τ) (m := m) (by omega) 200 0 N _ h2 (by omega) (by omega) p2 Qs
  have F3 := (f1.tr f2).tr f3
  obtain ⟨M3, K3⟩ := Q3.MS (L := L) (P := P) w hm
  rw [nI_0] at e3
  rw [nI_0] at e2
  have l14 : aI 100 (some (r + 13)) (nI m) h3 = some (nI (cn (τ 14 m))) := by
    have := aM14 p3 (i := m) (by omega); rw [M3.1 14 m (by omega), nI_of_cn w8.1] at this; exact this
  have E0 : fX9_verify N (some r) (nI m) h = if nI (cn (τ 14 m)) = 0 then some (1, h3) else ((pI 9 29 (some r) 0 h3).bind fun h5 => fX9_verify_b75 N N (some r) (nI m) 0 h5) := by
    unfold fX9_verify
    rw [rcM p, obs, im, obs]
    dsimp only
    rw [if_neg (by decide), gRM23 p, obs, e1, obs, e2, obs, e3, fX9_verify_b24, if_pos (show (200 : Int32) ≤ nI 200 by decide), gRM14 p3, obs, l14, obs]
  rw [E0]
  by_cases hz : cn (τ 14 m) = 0
  · exact ⟨h3, τ3, F3, p3, Or.inl ⟨hz, by rw [hz, if_pos nI_0], M3⟩⟩
  · rw [if_neg (fun q => hz (nI_inj (by omega) (by omega) (q.trans nI_0.symm)))]
    obtain ⟨h4, e4, p4, f4⟩ := eS29 p3 (nI 0)
    rw [nI_0] at e4
    have p4' : RM (TT τ3 (fun i => τ3 28 i) (nI 0)) r h4 := by
      refine p4.ext (fun c i _ => ?_)
      rw [u2_at]
      unfold TT
      by_cases z : c = 28
      · rw [if_pos z, if_neg (by omega), z]
      · rw [if_neg z]
    have t11 : τ3 11 m = nI (cn (τ 11 m)) := by rw [M3.1 11 m (by omega)]; exact nI_of_cn w4.1
    obtain ⟨h5, g5, e5, f5, p5, hg5⟩ := begM75 N (τb := τ3) (m := m) (L := L) (by omega) (by omega) w4.2.1 (by rw [M3.1 9 m (by omega)]; exact hL) t11 L 0 N _ h4 (by omega) (by omega) p4' (fun j hj => by omega)
    rw [nI_0] at e5
    obtain ⟨fr, h31⟩ := nI_all (τ3 31 0)
    have G5 : GM r τ3 L P (r0 τ m) h5 := ⟨g5, p5, by rw [M3.1 0 0 (by omega)]; exact r0_ok w hm, fun k hk => by
      have hk' : k < L := hk
      rw [hg5 k hk']
      show _ = if k < cn (τ 11 m) then τ 12 (8 * m + k) else 99
      rw [M3.1 12 _ (by omega)]⟩
    have okS0 : okS τ m L P S0 := fun i hi q e => by cases e
    obtain ⟨b, h6, τ6, e6, f6, M6, -, ⟨g6, p6, -⟩, R6⟩ := comeM N (by omega) w hm hP M3 okS0 (u := τ3 30 0) ⟨rfl, by omega, by rw [M3.1 9 m (by omega)]; exact hL, by rw [M3.1 10 m (by omega)]; exact hP, hb⟩ K3 G5 (t := 0) (by omega) h31
    obtain ⟨c1, c2⟩ := come00 (τ := τ) (L := L) (fr := fr) (fr' := 0) (sz := cn (τ 14 m)) (by omega) (r0 τ m)
    rw [nI_0] at e6
    refine ⟨h6, TT τ6 g6 (nI (r0 τ m).1), ((F3.tr f4).tr f5).tr f6, p6, Or.inr ⟨by omega, ?_, ?_, ?_⟩⟩
    · rw [e4, obs, e5, rcM p5, obs, e6, obs]
    · rw [← c1]; exact M6.TT
    · rcases R6 with ⟨-, -, K6, -⟩ | ⟨e, z, -⟩
      · rw [← c1]; exact K6.TT
      · rw [c2] at z; cases z
end
