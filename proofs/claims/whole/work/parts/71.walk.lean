/-! The whole walk, on both sides. -/
section
variable {τ τb : Nat → Nat → Int32} {kd md : Nat → Nat} {ib hd : Nat → Nat → Nat} {x m L P lk r : Nat} {h0 h : zH} {S : VS}
theorem MS.look {lk' : Nat} (M : MS τ m L P lk S τb) : MS τ m L P lk' S (u2 τb 27 0 (nI lk')) := by
  obtain ⟨m1, m2, m3, m4, m5, m6⟩ := M
  refine ⟨fun c i hc => by rw [u2_at, if_neg (by omega)]; exact m1 c i hc, fun i => by rw [u2_at, if_neg (by omega)]; exact m2 i, fun j hj => by rw [u2_at, if_neg (by omega)]; exact m3 j hj, fun j hj => by rw [u2_at, if_neg (by omega)]; exact m4 j hj, fun i hi => ?_, by rw [u2_at, if_pos ⟨rfl, rfl⟩]⟩
  rw [u2_at, if_neg (by omega)]
  rcases m5 i hi with q | ⟨q, q1, q2, q3, q4⟩
  · exact Or.inl q
  · exact Or.inr ⟨q, q1, q2, q3, fun k hk => by rw [u2_at, if_neg (by omega)]; exact q4 k hk⟩
/-- the reference's turn at a marked place -/
def lookB (N n r : Nat) (m i : Int32) (h : zH) : Option (Int32 × zH) := (sZ (some (r + 25)) i 0 h).bind fun h8 =>
      (gI 9 27 (some r) h8).bind fun v9 =>
      (pI 9 27 (some r) (v9 + 1) h8).bind fun h10 =>
      (pI 9 31 (some r) i h10).bind fun h11 =>
      (rc 9 (some r) h11).bind fun _ =>
      (fX9_step N (some r) m i h11).bind fun q12 =>
      if q12.1 = 0 then ((gI 9 31 (some r) q12.2).bind fun v14 =>
        some ((1 + v14), q12.2))
      else (fX9_verify_b132 N n (some r) m 0 q12.2)
theorem scanM (N : Nat) (w : WF τ) (hm : m < cn (τ 6 0)) (p : RM τb r h) (M : MS τ m L P lk S τb) (K : MKM τ m S τb) (d : Nat) : ∀ (k n : Nat), k + d = cn (τ 14 m) → d < n →
    ((∀ j, k ≤ j → j < cn (τ 14 m) → S.2.2 j = false) → fX9_verify_b132 N n (some r) (nI m) (nI k) h = some (0, h)) ∧
    ∀ i, k ≤ i → i < cn (τ 14 m) → S.2.2 i = true → (∀ j, k ≤ j → j < i → S.2.2 j = false) → ∃ n', n ≤ n' + d + 1 ∧ fX9_verify_b132 N n (some r) (nI m) (nI k) h = lookB N n' r (nI m) (nI i) h := by
  have h64 := w.2.1.2
  have w8 := (w.2.2.2.1 m hm).2.2.2.2.2.2.2.1
  have l14 : aI 100 (some (r + 13)) (nI m) h = some (nI (cn (τ 14 m))) := by
    have := aM14 p (i := m) (by omega); rw [M.1 14 m (by omega), nI_of_cn w8.1] at this; exact this
  have l26 : ∀ k, k < cn (τ 14 m) → aI 101 (some (r + 25)) (nI k) h = some (if S.2.2 k then 1 else 0) := fun k hk => by
    rw [aM26 p (i := k) (by omega), K k hk]
  induction d with
  | zero =>
    intro k n hk hn
    obtain ⟨n, rfl⟩ : ∃ n', n = n' + 1 := ⟨n - 1, by omega⟩
    refine ⟨fun _ => ?_, fun i h1 h2 => by omega⟩
    rw [fX9_verify_b132, gRM14 p, obs, l14, obs, if_pos (nI_le (by omega) (by omega))]
  | succ d ih =>
    intro k n hk hn
    obtain ⟨n, rfl⟩ : ∃ n', n = n' + 1 := ⟨n - 1, by omega⟩
    obtain ⟨I1, I2⟩ := ih (k + 1) n (by omega) (by omega)
    have E : fX9_verify_b132 N (n + 1) (some r) (nI m) (nI k) h = if S.2.2 k = true then lookB N n r (nI m) (nI k) h else fX9_verify_b132 N n (some r) (nI m) (nI (k + 1)) h := by
      rw [fX9_verify_b132, gRM14 p, obs, l14, obs, if_neg (nI_ge (by omega) (by omega)), gRM26 p, obs, l26 k (by omega), obs]
      cases S.2.2 k
      · rw [if_pos (show (if false = true then (1 : Int32) else 0) = 0 from rfl), if_neg (show ¬ false = true by decide), nI_1]
      · rw [if_neg (show ¬ (if true = true then (1 : Int32) else 0) = 0 by decide), if_pos rfl, obs]
        rfl
    refine ⟨fun a => ?_, fun i h1 h2 h3 h4 => ?_⟩
    · rw [E, a k (by omega) (by omega), if_neg (by decide)]
      exact I1 (fun j hj => a j (by omega))
    · by_cases e : i = k
      · subst e
        exact ⟨n, by omega, by rw [E, if_pos h3]⟩
      · obtain ⟨n', hn', en'⟩ := I2 i (by omega) h2 h3 (fun j hj => h4 j (by omega))
        exact ⟨n', by omega, by rw [E, h4 k (by omega) (by omega), if_neg (by decide)]; exact en'⟩
def oC : Option Nat → Int32 | none => -1 | some e => nI e
def oM : Option Nat → Int32 | none => 0 | some e => 1 + nI e
theorem lookM (N n : Nat) (hN : 40 ≤ N) (V : VC τ kd md ib hd x m L P h0) {i q : Nat} (hi : i < cn (τ 14 m)) (p : RM τb r h) (M : MS τ m L P lk S τb) (ok : okS τ m L P S) (K : MKM τ m S τb) (eS : S.1 i = some q) :
    ∃ h' τ', Mfr r h h' ∧ RM τ' r h' ∧ MS τ m L P (lk + 1) (lookS τ L P m i S).1 τ' ∧ (((lookS τ L P m i S).2 = none ∧ lookB N n r (nI m) (nI i) h = fX9_verify_b132 N n (some r) (nI m) 0 h' ∧ MKM τ m (lookS τ L P m i S).1 τ') ∨ ∃ e, (lookS τ L P m i S).2 = some e ∧ lookB N n r (nI m) (nI i) h = some (1 + nI e, h')) := by
  obtain ⟨-, w, hm, hL, hP, hb⟩ := V
  have w8 := (w.2.2.2.1 m hm).2.2.2.2.2.2.2.1
  obtain ⟨h8, e8, p8, f8⟩ := eM26 p (i := i) (by omega) (v := 0) (Or.inl rfl)
  have g27 := gM27 p8
  rw [show u2 τb 26 i 0 27 0 = nI lk by rw [u2_at, if_neg (by omega)]; exact M.2.2.2.2.2] at g27
  obtain ⟨h10, e10, p10, f10⟩ := eS27 p8 (nI (lk + 1))
  obtain ⟨h11, e11, p11, f11⟩ := eS31 p10 (nI i)
  have M8 : MS τ m L P lk (unmark S i) (u2 τb 26 i 0) := by
    have q : MS τ m L P lk S (u2 τb 26 i 0) := M.o (Or.inl rfl)
    exact q
  have M11 : MS τ m L P (lk + 1) (unmark S i) (u2 (u2 (u2 τb 26 i 0) 27 0 (nI (lk + 1))) 31 0 (nI i)) := (M8.look (lk' := lk + 1)).o (Or.inr (by omega))
  have K11 : MKM τ m (unmark S i) (u2 (u2 (u2 τb 26 i 0) 27 0 (nI (lk + 1))) 31 0 (nI i)) := by
    refine MKM.u2 (MKM.u2 (fun j hj => ?_) (by decide)) (by decide)
    show _ = if (if j = i then false else S.2.2 j) = true then 1 else 0
    rw [u2_at]
    by_cases e : j = i
    · rw [if_pos ⟨rfl, e⟩, if_pos e]; rfl
    · rw [if_neg (fun z => e z.2), if_neg e]; exact K j hj
  have e31 : u2 (u2 (u2 τb 26 i 0) 27 0 (nI (lk + 1))) 31 0 (nI i) 31 0 = nI i := by rw [u2_at, if_pos ⟨rfl, rfl⟩]
  obtain ⟨b, h', τ', es, fs, ps, Ms, -, cs⟩ := stepM N hN w hm hL hP hb hi p11 M11 ok K11 eS e31
  have EB : lookB N n r (nI m) (nI i) h = if b = 0 then ((gI 9 31 (some r) h').bind fun v14 => some ((1 + v14), h')) else (fX9_verify_b132 N n (some r) (nI m) 0 h') := by
    unfold lookB
    rw [e8, obs, g27, obs, nI_1, e10, obs, e11, obs, rcM p11, obs, es, obs]
  refine ⟨h', τ', ((f8.tr f10).tr f11).tr fs, ps, Ms, ?_⟩
  rcases cs with ⟨c1, c2, c3⟩ | ⟨e, c1, c2, c3⟩
  · exact Or.inl ⟨c1, by rw [EB, c2, if_neg (by decide)], c3⟩
  · exact Or.inr ⟨e, c1, by rw [EB, c2, if_pos rfl, gM31 ps, obs, c3]⟩
theorem least (mk : Nat → Bool) (n : Nat) : (∀ j, j < n → mk j = false) ∨ ∃ i, i < n ∧ mk i = true ∧ ∀ j, j < i → mk j = false := by
  induction n with
  | zero => exact Or.inl (fun j hj => by omega)
  | succ n ih =>
    rcases ih with a | ⟨i, h1, h2, h3⟩
    · cases e : mk n
      · refine Or.inl (fun j hj => ?_)
        by_cases z : j = n
        · rw [z]; exact e
        · exact a j (by omega)
      · exact Or.inr ⟨n, by omega, e, a⟩
    · exact Or.inr ⟨i, by omega, h2, h3⟩
theorem walk (N : Nat) (hN : 300 ≤ N) (V : VC τ kd md ib hd x m L P h0) (n : Nat) : ∀ (S : VS) (lk : Nat), Phi L (cn (τ 14 m)) S ≤ n → lk + n < 1000000 → okS τ m L P S → mr S → ∃ (S' : VS) (o : Option Nat) (lk' : Nat),
    (∀ (h : zH) (f : Nat), n + 1 < f → CS τ md ib x m L P h0 S h → zi h 7 5 (x + 4) = nI lk → WK τ ib x m S none h → ∃ h', fX7_goOver_b7 N f (some (x + 4)) (some (md m)) (nI lk) h = some (oC o, h') ∧ CS τ md ib x m L P h0 S' h' ∧ zi h' 7 5 (x + 4) = nI lk') ∧
    (∀ (r : Nat) (τb : Nat → Nat → Int32) (h : zH) (f : Nat), 201 * (n + 1) < f → RM τb r h → MS τ m L P lk S τb → MKM τ m S τb → ∃ h' τ', fX9_verify_b132 N f (some r) (nI m) 0 h = some (oM o, h') ∧ Mfr r h h' ∧ RM τ' r h' ∧ MS τ m L P lk' S' τ') ∧ ∀ e, o = some e → e < 2 ^ 31 := by
  have V' := V
  obtain ⟨p, w, hm, hL, hP, hb⟩ := V'
  have w8 := (w.2.2.2.1 m hm).2.2.2.2.2.2.2.1
  have kx : ∀ {S h}, CS τ md ib x m L P h0 S h → zk h (x + 4) = 8 := fun {S h} c => by rw [c.1.1]; exact p.1.1.2.2.2.2.1
  have n1m : ∀ {k : Nat}, k < 1000000 → ¬ (1000000 : Int32) ≤ nI k := fun {k} hk => @nI_ge k 1000000 hk (by decide)
  induction n using Nat.strongRecOn with
  | _ n ih =>
    intro S lk hPhi hlk ok rm
    rcases least S.2.2 (cn (τ 14 m)) with a | ⟨i, hi, mki, lo⟩
    · refine ⟨S, none, lk, fun h f hf c h5 wk => ?_, fun r τb h f hf pb M K => ?_, fun e he => by cases he⟩
      · obtain ⟨f, rfl⟩ : ∃ f', f = f' + 1 := ⟨f - 1, by omega⟩
        rcases wk with ⟨e, z, -⟩ | ⟨-, z4, mk, lm, y1, y2, y3⟩
        · cases z
        · refine ⟨h, ?_, c, h5⟩
          have Lq := (leastC N V c h5 mk 200 lm N (by omega) y1 (by omega)).1 (fun j _ hj => a j hj)
          rw [fX7_goOver_b7, if_neg (n1m (by omega)), gI_at (kx c), obs, z4, if_pos rfl, rc_at (kx c), obs]
          unfold fX7_leastMarked
          rw [gI_at (kx c), obs, y2, Lq, obs]
          dsimp only
          rw [if_pos rfl]
          unfold fX7_goOver_b47
          rw [gI_at (kx c), obs, z4]; rfl
      · have e := (scanM N w hm pb M K (cn (τ 14 m)) 0 f (by omega) (by omega)).1 (fun j _ hj => a j hj)
        rw [nI_0] at e
        exact ⟨h, τb, e, Mfr.rf, pb, M⟩
    · obtain ⟨q, eq⟩ := rm i mki
      obtain ⟨l1, l2, l3, l4⟩ := lookS_all V hi eq ok rm mki
      have stepC : ∀ (h : zH) (f : Nat), CS τ md ib x m L P h0 S h → zi h 7 5 (x + 4) = nI lk → WK τ ib x m S none h → ∃ h', fX7_goOver_b7 N (f + 1) (some (x + 4)) (some (md m)) (nI lk) h = fX7_goOver_b7 N f (some (x + 4)) (some (md m)) (nI (lk + 1)) h' ∧ CS τ md ib x m L P h0 (lookS τ L P m i S).1 h' ∧ zi h' 7 5 (x + 4) = nI (lk + 1) ∧ WK τ ib x m (lookS τ L P m i S).1 (lookS τ L P m i S).2 h' := by
        intro h f c h5 wk
        rcases wk with ⟨e, z, -⟩ | ⟨-, z4, mk, lm, y1, y2, y3⟩
        · cases z
        · have hlm : lm ≤ i := by
            rcases Nat.lt_or_ge i lm with z | z
            · rw [y3 i z] at mki; cases mki
            · exact z
          have Lq := (leastC N V c h5 mk 200 lm N (by omega) y1 (by omega)).2 i hlm hi mki (fun j _ hj => lo j hj)
          have F : ∃ h1, h1 = sti 7 3 (x + 4) (nI i) h ∧ SZ h h1 ∧ (∀ b, b ≠ x + 4 → iz h h1 b) ∧ ∀ k, zi h1 7 k (x + 4) = if k = 3 then nI i else zi h 7 k (x + 4) :=
            ⟨_, rfl, SZ.sti, fun b hb => iz_sti hb, fun k => by
              rw [zi_sti]
              by_cases z : k = 3
              · rw [if_pos ⟨rfl, z, rfl⟩, if_pos z]
              · rw [if_neg (fun y => z y.2.1), if_neg z]⟩
          obtain ⟨h1, e1, s1, z1, x1⟩ := F
          have c1 := c.x4 V s1 z1
          have h51 : zi h1 7 5 (x + 4) = nI lk := by rw [x1, if_neg (by decide)]; exact h5
          have wk1 : WK τ ib x m S none h1 := Or.inr ⟨rfl, by rw [x1, if_neg (by decide)]; exact z4, mk.iz (fun j hj => z1 _ (by have := (p.2.2.2.2.2.1 m j hm hj).2.1; omega)), i, by omega, by rw [x1, if_pos rfl], lo⟩
          obtain ⟨h2, e2, c2, h52, s2, wk2⟩ := lookC N (by omega) V c1 hi eq h51 wk1
          refine ⟨h2, ?_, c2, h52, wk2⟩
          rw [fX7_goOver_b7, if_neg (n1m (by omega)), gI_at (kx c), obs, z4, if_pos rfl, rc_at (kx c), obs]
          unfold fX7_leastMarked
          rw [gI_at (kx c), obs, y2, Lq, obs]
          dsimp only
          rw [if_neg (nIm1 i (by omega)), ← e1, rc_at (kx c1), obs, e2, obs, nI_1]
      cases el : (lookS τ L P m i S).2 with
      | some e =>
        refine ⟨(lookS τ L P m i S).1, some e, lk + 1, fun h f hf c h5 wk => ?_, fun r τb h f hf pb M K => ?_, fun e' he' => by cases he'; exact l4 e el⟩
        · obtain ⟨f, rfl⟩ : ∃ f', f = f' + 1 + 1 := ⟨f - 2, by omega⟩
          obtain ⟨h', e1, c1, h51, wk1⟩ := stepC h (f + 1) c h5 wk
          rw [el] at wk1
          rcases wk1 with ⟨e', z, z4⟩ | ⟨z, -⟩
          · cases z
            refine ⟨h', ?_, c1, h51⟩
            have E : fX7_goOver_b47 N (some (x + 4)) h' = some (nI e, h') := by unfold fX7_goOver_b47; rw [gI_at (kx c1), obs, z4]
            rw [e1, fX7_goOver_b7]
            by_cases y : (1000000 : Int32) ≤ nI (lk + 1)
            · rw [if_pos y, E]; rfl
            · rw [if_neg y, gI_at (kx c1), obs, z4, if_neg (nIm1 e (l4 e el)), E]; rfl
          · cases z
        · obtain ⟨n', hn', en'⟩ := (scanM N w hm pb M K (cn (τ 14 m)) 0 f (by omega) (by omega)).2 i (by omega) hi mki (fun j _ hj => lo j hj)
          obtain ⟨h', τ', f1, p1, M1, cs⟩ := lookM N n' (by omega) V hi pb M ok K eq
          rcases cs with ⟨z, -⟩ | ⟨e', z, y⟩
          · rw [el] at z; cases z
          · rw [el] at z
            cases z
            rw [nI_0, y] at en'
            exact ⟨h', τ', en', f1, p1, M1⟩
      | none =>
        have l5 := l3 el
        obtain ⟨S', o, lk', C', M', O'⟩ := ih (n - 1) (by omega) (lookS τ L P m i S).1 (lk + 1) (by omega) (by omega) l1 l2
        refine ⟨S', o, lk', fun h f hf c h5 wk => ?_, fun r τb h f hf pb M K => ?_, O'⟩
        · obtain ⟨f, rfl⟩ : ∃ f', f = f' + 1 := ⟨f - 1, by omega⟩
          obtain ⟨h1, e1, c1, h51, wk1⟩ := stepC h f c h5 wk
          rw [el] at wk1
          obtain ⟨h', e2, c2, h52⟩ := C' h1 f (by omega) c1 h51 wk1
          exact ⟨h', by rw [e1]; exact e2, c2, h52⟩
        · obtain ⟨n', hn', en'⟩ := (scanM N w hm pb M K (cn (τ 14 m)) 0 f (by omega) (by omega)).2 i (by omega) hi mki (fun j _ hj => lo j hj)
          obtain ⟨h1, τ1, f1, p1, M1, cs⟩ := lookM N n' (by omega) V hi pb M ok K eq
          rcases cs with ⟨-, y, K1⟩ | ⟨e', z, y⟩
          · obtain ⟨h2, τ2, e2, f2, p2, M2⟩ := M' r τ1 h1 n' (by omega) p1 M1 K1
            rw [nI_0, y] at en'
            exact ⟨h2, τ2, by rw [en']; exact e2, f1.tr f2, p2, M2⟩
          · rw [el] at z; cases z
end
