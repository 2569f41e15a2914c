/-- only one array's own ints change -/
def AF (a : Nat) (h h' : zH) : Prop := zs h' = zs h ∧ (∀ b, b ≠ a → ag h h' b) ∧ zk h' a = zk h a ∧ zl h' a = zl h a ∧ (∀ c k, zi h' c k a = zi h c k a) ∧ ∀ c k, zr h' c k a = zr h c k a
theorem AF.rf {a : Nat} {h : zH} : AF a h h := ⟨rfl, fun b _ => ag.rf, rfl, rfl, fun _ _ => rfl, fun _ _ => rfl⟩
theorem AF.sta {a i : Nat} {v : Int32} {h : zH} : AF a h (sta a i v h) := ⟨rfl, fun b hb => ag_sta hb, rfl, rfl, fun _ _ => rfl, fun _ _ => rfl⟩
theorem AF.tr {a : Nat} {h h1 h2 : zH} (p : AF a h h1) (q : AF a h1 h2) : AF a h h2 := ⟨q.1.trans p.1, fun b hb => (p.2.1 b hb).tr (q.2.1 b hb), q.2.2.1.trans p.2.2.1, q.2.2.2.1.trans p.2.2.2.1, fun c k => (q.2.2.2.2.1 c k).trans (p.2.2.2.2.1 c k), fun c k => (q.2.2.2.2.2 c k).trans (p.2.2.2.2.2 c k)⟩
theorem fill_at (N : Nat) {a : Nat} (d : Nat) : ∀ (k n : Nat) (h : zH), k + d = 16 → d < n → zk h a = 100 → zl h a = 16 → ∃ h', fJ7_fill_53178_b5 N n (some a) (-1) (nI k) 16 h = some h' ∧ AF a h h' ∧ ∀ i, za h' a i = if k ≤ i ∧ i < 16 then -1 else za h a i := by
  induction d with
  | zero =>
    intro k n h hk hn k1 l1
    obtain ⟨n, rfl⟩ : ∃ m, n = m + 1 := ⟨n - 1, by omega⟩
    have e : k = 16 := by omega
    subst e
    refine ⟨h, ?_, AF.rf, fun i => by rw [if_neg (by omega)]⟩
    unfold fJ7_fill_53178_b5
    rw [if_pos (by decide)]
  | succ d ih =>
    intro k n h hk hn k1 l1
    obtain ⟨n, rfl⟩ : ∃ m, n = m + 1 := ⟨n - 1, by omega⟩
    obtain ⟨h', e, af, ai⟩ := ih (k + 1) n (sta a k (-1) h) (by omega) (by omega) k1 l1
    refine ⟨h', ?_, AF.sta.tr af, fun i => ?_⟩
    · unfold fJ7_fill_53178_b5
      rw [if_neg (show ¬ (16 : Int32) ≤ nI k from @nI_ge k 16 (by omega) (by decide)), sI_at 16 k1 l1 (by omega) (by decide), obs, nI_1, e]
    · rw [ai, za_sta]
      by_cases q : i = k
      · rw [if_neg (by omega), if_pos ⟨rfl, q⟩, if_pos (by omega)]
      · by_cases q2 : k ≤ i ∧ i < 16
        · rw [if_pos (by omega), if_pos q2]
        · rw [if_neg (by omega), if_neg (by omega), if_neg q2]
theorem copyS_at (N : Nat) {a t b u : Nat} (d : Nat) : ∀ (k n : Nat) (h : zH), k + d = 16 → d < n → zk h a = 3 → zr h 2 3 a = some t → zk h b = 3 → zr h 2 3 b = some u → zk h t = 100 → zl h t = 16 → zk h u = 100 → zl h u = 16 → t ≠ u → ∃ h', fX2_init_b98 N n (some a) (some b) (nI k) h = some h' ∧ AF t h h' ∧ ∀ i, za h' t i = if k ≤ i ∧ i < 16 then za h u i else za h t i := by
  induction d with
  | zero =>
    intro k n h hk hn a1 a2 b1 b2 t1 t2 u1 u2 hne
    obtain ⟨n, rfl⟩ : ∃ m, n = m + 1 := ⟨n - 1, by omega⟩
    have e : k = 16 := by omega
    subst e
    refine ⟨h, ?_, AF.rf, fun i => by rw [if_neg (by omega)]⟩
    unfold fX2_init_b98
    rw [if_pos (by decide)]
  | succ d ih =>
    intro k n h hk hn a1 a2 b1 b2 t1 t2 u1 u2 hne
    obtain ⟨n, rfl⟩ : ∃ m, n = m + 1 := ⟨n - 1, by omega⟩
    obtain ⟨h', e, af, ai⟩ := ih (k + 1) n (sta t k (za h u k) h) (by omega) (by omega) a1 a2 b1 b2 t1 t2 u1 u2 hne
    refine ⟨h', ?_, AF.sta.tr af, fun i => ?_⟩
    · unfold fX2_init_b98
      rw [if_neg (show ¬ (16 : Int32) ≤ nI k from @nI_ge k 16 (by omega) (by decide)), gR_at a1, obs, gR_at b1, obs, a2, b2, aI_at 16 u1 u2 (by omega) (by decide), obs, sI_at 16 t1 t2 (by omega) (by decide), obs, nI_1, e]
    · have eu : za (sta t k (za h u k) h) u i = za h u i := by rw [za_sta, if_neg (fun q => hne q.1.symm)]
      rw [ai, eu, za_sta]
      by_cases q : i = k
      · rw [if_neg (by omega), if_pos ⟨rfl, q⟩, if_pos (by omega), q]
      · by_cases q2 : k ≤ i ∧ i < 16
        · rw [if_pos (by omega), if_pos q2]
        · rw [if_neg (by omega), if_neg (by omega), if_neg q2]
theorem copyF_at (N : Nat) {a t b u : Nat} (d : Nat) : ∀ (k n : Nat) (h : zH), k + d = 15 → d < n → zk h a = 3 → zr h 2 2 a = some t → zk h b = 3 → zr h 2 2 b = some u → zk h t = 100 → zl h t = 15 → zk h u = 100 → zl h u = 15 → t ≠ u → ∃ h', fX2_init_b68 N n (some a) (some b) (nI k) h = fX2_init_b98 N N (some a) (some b) 0 h' ∧ AF t h h' ∧ ∀ i, za h' t i = if k ≤ i ∧ i < 15 then za h u i else za h t i := by
  induction d with
  | zero =>
    intro k n h hk hn a1 a2 b1 b2 t1 t2 u1 u2 hne
    obtain ⟨n, rfl⟩ : ∃ m, n = m + 1 := ⟨n - 1, by omega⟩
    have e : k = 15 := by omega
    subst e
    refine ⟨h, ?_, AF.rf, fun i => by rw [if_neg (by omega)]⟩
    rw [fX2_init_b68, if_pos (by decide)]
  | succ d ih =>
    intro k n h hk hn a1 a2 b1 b2 t1 t2 u1 u2 hne
    obtain ⟨n, rfl⟩ : ∃ m, n = m + 1 := ⟨n - 1, by omega⟩
    obtain ⟨h', e, af, ai⟩ := ih (k + 1) n (sta t k (za h u k) h) (by omega) (by omega) a1 a2 b1 b2 t1 t2 u1 u2 hne
    refine ⟨h', ?_, AF.sta.tr af, fun i => ?_⟩
    · rw [fX2_init_b68, if_neg (show ¬ (15 : Int32) ≤ nI k from @nI_ge k 15 (by omega) (by decide)), gR_at a1, obs, gR_at b1, obs, a2, b2, aI_at 15 u1 u2 (by omega) (by decide), obs, sI_at 15 t1 t2 (by omega) (by decide), obs, nI_1, e]
    · have eu : za (sta t k (za h u k) h) u i = za h u i := by rw [za_sta, if_neg (fun q => hne q.1.symm)]
      rw [ai, eu, za_sta]
      by_cases q : i = k
      · rw [if_neg (by omega), if_pos ⟨rfl, q⟩, if_pos (by omega), q]
      · by_cases q2 : k ≤ i ∧ i < 15
        · rw [if_pos (by omega), if_pos q2]
        · rw [if_neg (by omega), if_neg (by omega), if_neg q2]
/-- a new class's cells -/
theorem newK (N : Nat) (hN : 20 ≤ N) (h : zH) (nb : Int32) (ab : Option Nat) (ho : ∀ a, ab = some a → a + 3 ≤ zs h ∧ zk h a = 3 ∧ zk h (a + 1) = 100 ∧ zk h (a + 2) = 100 ∧ zr h 2 2 a = some (a + 1) ∧ zr h 2 3 a = some (a + 2) ∧ zl h (a + 1) = 15 ∧ zl h (a + 2) = 16) : ∃ hA, fX2_init N (some (zs h)) nb ab (nwO 2 h) = some hA ∧
    (zk hA (zs h) = 3 ∧ zk hA (zs h + 1) = 100 ∧ zk hA (zs h + 2) = 100 ∧ zr hA 2 2 (zs h) = some (zs h + 1) ∧ zr hA 2 3 (zs h) = some (zs h + 2) ∧ zl hA (zs h + 1) = 15 ∧ zl hA (zs h + 2) = 16) ∧
    (zi hA 2 0 (zs h) = nb ∧ zi hA 2 1 (zs h) = (match ab with | none => (1 <<< (nb &&& 31)) | some a => (zi h 2 1 a ||| (1 <<< (nb &&& 31)))) ∧ zi hA 2 4 (zs h) = (match ab with | none => 0 | some a => zi h 2 4 a) ∧ zi hA 2 5 (zs h) = 0 ∧ zi hA 2 6 (zs h) = 0) ∧
    (∀ k, k < 15 → za hA (zs h + 1) k = (match ab with | none => 0 | some a => za h (a + 1) k)) ∧ (∀ k, k < 16 → za hA (zs h + 2) k = (match ab with | none => -1 | some a => za h (a + 2) k)) ∧ (∀ b, b < zs h → ag h hA b) ∧ zs hA = zs h + 3 := by
  have k0 : zk (nwO 2 h) (zs h) = 3 := by rw [zk_nwO, if_pos rfl]
  have B : ∃ h4, (pR 2 2 (some (zs h)) (some (zs (nwO 2 h))) (nwA 100 15 (nwO 2 h))).bind (fun h2 => (pR 2 3 (some (zs h)) (some (zs h2)) (nwA 100 16 h2)).bind fun h3 => pI 2 0 (some (zs h)) nb h3) = some h4 ∧ (zk h4 (zs h) = 3 ∧ zk h4 (zs h + 1) = 100 ∧ zk h4 (zs h + 2) = 100 ∧ zr h4 2 2 (zs h) = some (zs h + 1) ∧ zr h4 2 3 (zs h) = some (zs h + 2) ∧ zl h4 (zs h + 1) = 15 ∧ zl h4 (zs h + 2) = 16) ∧ (∀ k, zi h4 2 k (zs h) = if k = 0 then nb else 0) ∧ (∀ k, za h4 (zs h + 1) k = 0) ∧ (∀ b, b < zs h → ag h h4 b) ∧ zs h4 = zs h + 3 := by
    have k1 : zk (nwA 100 15 (nwO 2 h)) (zs h) = 3 := by rw [zk_nwA, if_neg (by rw [zs_nwO]; omega)]; exact k0
    have e1 : pR 2 2 (some (zs h)) (some (zs (nwO 2 h))) (nwA 100 15 (nwO 2 h)) = some (str 2 2 (zs h) (some (zs h + 1)) (nwA 100 15 (nwO 2 h))) := by rw [pR_at k1, zs_nwO]
    have F1 : zk (str 2 2 (zs h) (some (zs h + 1)) (nwA 100 15 (nwO 2 h))) (zs h) = 3 ∧ zk (str 2 2 (zs h) (some (zs h + 1)) (nwA 100 15 (nwO 2 h))) (zs h + 1) = 100 ∧ zl (str 2 2 (zs h) (some (zs h + 1)) (nwA 100 15 (nwO 2 h))) (zs h + 1) = 15 ∧ zr (str 2 2 (zs h) (some (zs h + 1)) (nwA 100 15 (nwO 2 h))) 2 2 (zs h) = some (zs h + 1) ∧ (∀ k, zi (str 2 2 (zs h) (some (zs h + 1)) (nwA 100 15 (nwO 2 h))) 2 k (zs h) = 0) ∧ (∀ k, za (str 2 2 (zs h) (some (zs h + 1)) (nwA 100 15 (nwO 2 h))) (zs h + 1) k = 0) ∧ (∀ b, b < zs h → ag h (str 2 2 (zs h) (some (zs h + 1)) (nwA 100 15 (nwO 2 h))) b) ∧ zs (str 2 2 (zs h) (some (zs h + 1)) (nwA 100 15 (nwO 2 h))) = zs h + 2 := by
      refine ⟨by rw [zk_str]; exact k1, by rw [zk_str, zk_nwA, zs_nwO, if_pos rfl], by rw [zl_str, zl_nwA, zs_nwO, if_pos rfl], by rw [zr_str, if_pos ⟨rfl, rfl, rfl⟩], fun k => by rw [zi_str, zi_nwA, zi_nwO, if_pos rfl], fun k => by rw [za_str, za_nwA, zs_nwO, if_pos rfl], fun b hb => ((ag_nwO (by omega)).tr (ag_nwA (by rw [zs_nwO]; omega))).tr (ag_str (by omega)), by rw [zs_str, zs_nwA, zs_nwO]⟩
    rw [e1, obs]
    generalize str 2 2 (zs h) (some (zs h + 1)) (nwA 100 15 (nwO 2 h)) = h2 at F1 ⊢
    obtain ⟨f1, f2, f3, f4, f5, f8, f6, f7⟩ := F1
    have k2 : zk (nwA 100 16 h2) (zs h) = 3 := by rw [zk_nwA, if_neg (by omega)]; exact f1
    rw [pR_at k2, obs, f7]
    have F2 : zk (str 2 3 (zs h) (some (zs h + 2)) (nwA 100 16 h2)) (zs h) = 3 ∧ zk (str 2 3 (zs h) (some (zs h + 2)) (nwA 100 16 h2)) (zs h + 1) = 100 ∧ zk (str 2 3 (zs h) (some (zs h + 2)) (nwA 100 16 h2)) (zs h + 2) = 100 ∧ zl (str 2 3 (zs h) (some (zs h + 2)) (nwA 100 16 h2)) (zs h + 1) = 15 ∧ zl (str 2 3 (zs h) (some (zs h + 2)) (nwA 100 16 h2)) (zs h + 2) = 16 ∧ zr (str 2 3 (zs h) (some (zs h + 2)) (nwA 100 16 h2)) 2 2 (zs h) = some (zs h + 1) ∧ zr (str 2 3 (zs h) (some (zs h + 2)) (nwA 100 16 h2)) 2 3 (zs h) = some (zs h + 2) ∧ (∀ k, zi (str 2 3 (zs h) (some (zs h + 2)) (nwA 100 16 h2)) 2 k (zs h) = 0) ∧ (∀ k, za (str 2 3 (zs h) (some (zs h + 2)) (nwA 100 16 h2)) (zs h + 1) k = 0) ∧ (∀ b, b < zs h → ag h (str 2 3 (zs h) (some (zs h + 2)) (nwA 100 16 h2)) b) ∧ zs (str 2 3 (zs h) (some (zs h + 2)) (nwA 100 16 h2)) = zs h + 3 := by
      refine ⟨by rw [zk_str]; exact k2, by rw [zk_str, zk_nwA, if_neg (by omega)]; exact f2, by rw [zk_str, zk_nwA, f7, if_pos rfl], by rw [zl_str, zl_nwA, if_neg (by omega)]; exact f3, by rw [zl_str, zl_nwA, f7, if_pos rfl], by rw [zr_str, if_neg (by omega), zr_nwA]; exact f4, by rw [zr_str, if_pos ⟨rfl, rfl, rfl⟩], fun k => by rw [zi_str, zi_nwA]; exact f5 k, fun k => by rw [za_str, za_nwA, if_neg (by omega)]; exact f8 k, fun b hb => ((f6 b hb).tr (ag_nwA (by omega))).tr (ag_str (by omega)), by rw [zs_str, zs_nwA, f7]⟩
    generalize str 2 3 (zs h) (some (zs h + 2)) (nwA 100 16 h2) = h3 at F2 ⊢
    obtain ⟨g1, g2, g3, g4, g5, g6, g7, g8, g11, g9, g10⟩ := F2
    refine ⟨_, pI_at g1, ⟨by rw [zk_sti]; exact g1, by rw [zk_sti]; exact g2, by rw [zk_sti]; exact g3, by rw [zr_sti]; exact g6, by rw [zr_sti]; exact g7, by rw [zl_sti]; exact g4, by rw [zl_sti]; exact g5⟩, fun k => ?_, fun k => by rw [za_sti]; exact g11 k, fun b hb => (g9 b hb).tr (ag_sti (by omega)), by rw [zs_sti, g10]⟩
    rw [zi_sti]
    by_cases e : k = 0
    · rw [if_pos ⟨rfl, e, rfl⟩, if_pos e]
    · rw [if_neg (fun q => e q.2.1), if_neg e]; exact g8 k
  obtain ⟨h4, e4, ⟨p1, p2, p3, p4, p5, p6, p7⟩, pz, pa, pag, ps⟩ := B
  have e4' := e4
  simp only [Option.bind_eq_some_iff] at e4'
  obtain ⟨h2, q2, h3, q3, q4⟩ := e4'
  cases ab with
  | none =>
    -- its own line, no slot filled
    have F : ∃ h5, h5 = sti 2 1 (zs h) (1 <<< (nb &&& 31)) h4 ∧ (∀ b, b ≠ zs h → ag h4 h5 b) ∧ zs h5 = zs h + 3 ∧ zk h5 (zs h) = 3 ∧ (∀ c k, zr h5 c k (zs h) = zr h4 c k (zs h)) ∧ ∀ k, zi h5 2 k (zs h) = if k = 1 then (1 <<< (nb &&& 31)) else if k = 0 then nb else 0 := by
      refine ⟨_, rfl, fun b hb => ag_sti hb, by rw [zs_sti, ps], by rw [zk_sti, p1], fun c k => by rw [zr_sti], fun k => ?_⟩
      rw [zi_sti]
      by_cases e : k = 1
      · rw [if_pos ⟨rfl, e, rfl⟩, if_pos e]
      · rw [if_neg (fun q => e q.2.1), if_neg e]; exact pz k
    obtain ⟨h5, eh5, A5, s5, k5, r5, i5⟩ := F
    have A51 := A5 (zs h + 1) (by omega)
    have A52 := A5 (zs h + 2) (by omega)
    obtain ⟨h6, e6, af, ai⟩ := fill_at N (a := zs h + 2) 16 0 N h5 (by omega) (by omega) (A52.k.trans p3) (A52.l.trans p7)
    have A6 : ∀ b, b ≠ zs h + 2 → ag h5 h6 b := af.2.1
    have A60 := A6 (zs h) (by omega)
    have A61 := A51.tr (A6 (zs h + 1) (by omega))
    have E : fX2_init N (some (zs h)) nb none (nwO 2 h) = some h6 := by
      have l6 : lA 100 (some (zs h + 2)) h5 = some 16 := by
        simp only [lA, A52.k.trans p3, A52.l.trans p7, ↓reduceIte]; rfl
      have r3 : zr h5 2 3 (zs h) = some (zs h + 2) := (r5 2 3).trans p5
      rw [nI_0] at e6
      simp only [fX2_init, fJ7_fill_53178, rc_at, k0, q2, q3, q4, pI_at, p1, ← eh5, gR_at, k5, r3, l6, e6, obs, ↓reduceIte]
    refine ⟨h6, E, ⟨A60.k.trans k5, A61.k.trans p2, af.2.2.1.trans (A52.k.trans p3), (A60.r 2 2).trans ((r5 2 2).trans p4), (A60.r 2 3).trans ((r5 2 3).trans p5), A61.l.trans p6, af.2.2.2.1.trans (A52.l.trans p7)⟩, ⟨?_, ?_, ?_, ?_, ?_⟩, fun k hk => ?_, fun k hk => ?_, fun b hb => ((pag b hb).tr (A5 b (by omega))).tr (A6 b (by omega)), by rw [af.1, s5]⟩
    · rw [A60.i, i5, if_neg (by decide), if_pos rfl]
    · rw [A60.i, i5, if_pos rfl]
    · rw [A60.i, i5, if_neg (by decide), if_neg (by decide)]
    · rw [A60.i, i5, if_neg (by decide), if_neg (by decide)]
    · rw [A60.i, i5, if_neg (by decide), if_neg (by decide)]
    · rw [A61.a]; exact pa k
    · rw [ai, if_pos (by omega)]
  | some a =>
    obtain ⟨o1, o2, o3, o4, o5, o6, o7, o8⟩ := ho a rfl
    have Aa := pag a (by omega)
    have Aa1 := pag (a + 1) (by omega)
    have Aa2 := pag (a + 2) (by omega)
    have F : ∃ h5, h5 = sti 2 1 (zs h) (zi h 2 1 a ||| (1 <<< (nb &&& 31))) h4 ∧ ∃ h6, h6 = sti 2 4 (zs h) (zi h 2 4 a) h5 ∧ zk h5 a = 3 ∧ zk h5 (zs h) = 3 ∧ zi h5 2 4 a = zi h 2 4 a ∧ (∀ b, b ≠ zs h → ag h4 h6 b) ∧ zs h6 = zs h + 3 ∧ zk h6 (zs h) = 3 ∧ (∀ c k, zr h6 c k (zs h) = zr h4 c k (zs h)) ∧ ∀ k, zi h6 2 k (zs h) = if k = 4 then zi h 2 4 a else if k = 1 then (zi h 2 1 a ||| (1 <<< (nb &&& 31))) else if k = 0 then nb else 0 := by
      refine ⟨_, rfl, _, rfl, by rw [zk_sti]; exact Aa.k.trans o2, by rw [zk_sti]; exact p1, by rw [zi_sti, if_neg (by omega)]; exact Aa.i 2 4, fun b hb => (ag_sti hb).tr (ag_sti hb), by rw [zs_sti, zs_sti, ps], by rw [zk_sti, zk_sti, p1], fun c k => by rw [zr_sti, zr_sti], fun k => ?_⟩
      rw [zi_sti]
      by_cases e : k = 4
      · rw [if_pos ⟨rfl, e, rfl⟩, if_pos e]
      · rw [if_neg (fun q => e q.2.1), if_neg e, zi_sti]
        by_cases e : k = 1
        · rw [if_pos ⟨rfl, e, rfl⟩, if_pos e]
        · rw [if_neg (fun q => e q.2.1), if_neg e]; exact pz k
    obtain ⟨h5, eh5, h6, eh6, k5a, k5, i5a, A6, s6, k6, r6, i6⟩ := F
    have A6a := Aa.tr (A6 a (by omega))
    have A6a1 := Aa1.tr (A6 (a + 1) (by omega))
    have A6a2 := Aa2.tr (A6 (a + 2) (by omega))
    have A61 := A6 (zs h + 1) (by omega)
    have A62 := A6 (zs h + 2) (by omega)
    obtain ⟨h7, e7, af7, a7⟩ := copyF_at N (a := zs h) (t := zs h + 1) (b := a) (u := a + 1) 15 0 N h6 (by omega) (by omega) k6 ((r6 2 2).trans p4) (A6a.k.trans o2) ((A6a.r 2 2).trans o5) (A61.k.trans p2) (A61.l.trans p6) (A6a1.k.trans o3) (A6a1.l.trans o7) (by omega)
    have B0 := af7.2.1 (zs h) (by omega)
    have B2 := A62.tr (af7.2.1 (zs h + 2) (by omega))
    have Ba := A6a.tr (af7.2.1 a (by omega))
    have Ba2 := A6a2.tr (af7.2.1 (a + 2) (by omega))
    obtain ⟨h8, e8, af8, a8⟩ := copyS_at N (a := zs h) (t := zs h + 2) (b := a) (u := a + 2) 16 0 N h7 (by omega) (by omega) (B0.k.trans k6) ((B0.r 2 3).trans ((r6 2 3).trans p5)) (Ba.k.trans o2) ((Ba.r 2 3).trans o6) (B2.k.trans p3) (B2.l.trans p7) (Ba2.k.trans o4) (Ba2.l.trans o8) (by omega)
    have C0 := B0.tr (af8.2.1 (zs h) (by omega))
    have C1 := af8.2.1 (zs h + 1) (by omega)
    have E : fX2_init N (some (zs h)) nb (some a) (nwO 2 h) = some h8 := by
      rw [nI_0] at e7 e8
      rw [← e8, ← e7, eh6, eh5]
      rw [eh5] at k5 k5a i5a
      have ka4 : zk h4 a = 3 := Aa.k.trans o2
      have ia4 : zi h4 2 1 a = zi h 2 1 a := Aa.i 2 1
      simp only [fX2_init, rc_at, k0, q2, q3, q4, gI_at, pI_at, p1, ka4, ia4, k5, k5a, i5a, obs, reduceCtorEq, ↓reduceIte]
    refine ⟨h8, E, ⟨C0.k.trans k6, C1.k.trans (af7.2.2.1.trans (A61.k.trans p2)), af8.2.2.1.trans (B2.k.trans p3), (C0.r 2 2).trans ((r6 2 2).trans p4), (C0.r 2 3).trans ((r6 2 3).trans p5), C1.l.trans (af7.2.2.2.1.trans (A61.l.trans p6)), af8.2.2.2.1.trans (B2.l.trans p7)⟩, ⟨?_, ?_, ?_, ?_, ?_⟩, fun k hk => ?_, fun k hk => ?_, fun b hb => (((pag b hb).tr (A6 b (by omega))).tr (af7.2.1 b (by omega))).tr (af8.2.1 b (by omega)), by rw [af8.1, af7.1, s6]⟩
    · rw [C0.i, i6, if_neg (by decide), if_neg (by decide), if_pos rfl]
    · rw [C0.i, i6, if_neg (by decide), if_pos rfl]
    · rw [C0.i, i6, if_pos rfl]
    · rw [C0.i, i6, if_neg (by decide), if_neg (by decide), if_neg (by decide)]
    · rw [C0.i, i6, if_neg (by decide), if_neg (by decide), if_neg (by decide)]
    · rw [C1.a, a7, if_pos (by omega)]; exact A6a1.a k
    · rw [a8, if_pos (by omega)]; exact Ba2.a k
