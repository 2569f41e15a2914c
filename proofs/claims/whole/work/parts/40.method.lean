theorem RM.ghost {τ : Nat → Nat → Int32} {m : Nat} {h : zH} (p : RM τ m h) {c i : Nat} {v : Int32} (hc : 40 ≤ c) : RM (u2 τ c i v) m h := by
  obtain ⟨p0, p1, p2⟩ := p
  refine ⟨p0, fun t ht => ?_, fun s hs => ?_⟩
  · obtain ⟨a1, a2, a3, a4⟩ := p1 t ht
    have : t.1 < 40 := (by decide : ∀ t ∈ mcols, t.1 < 40) t ht
    exact ⟨a1, a2, a3, fun i hi => by rw [u2_at, if_neg (fun q => by omega)]; exact a4 i hi⟩
  · have : s < 40 := (by decide : ∀ t ∈ mscal, t < 40) s hs
    rw [u2_at, if_neg (fun q => by omega)]; exact p2 s hs
/-- a new method's cells -/
theorem newT (h : zH) (ow : Option Nat) (g l s nb : Int32) (ho : ∀ a, ow = some a → a < zs h ∧ zk h a = 3 ∧ zi h 2 0 a = nb) : ∃ hA, fX3_init (some (zs h)) ow g l s (nwO 3 h) = some hA ∧ (zk hA (zs h) = 4 ∧ zk hA (zs h + 1) = 100 ∧ zk hA (zs h + 2) = 103 ∧ zk hA (zs h + 3) = 102 ∧ zr hA 3 4 (zs h) = some (zs h + 1) ∧ zr hA 3 5 (zs h) = some (zs h + 2) ∧ zr hA 3 6 (zs h) = some (zs h + 3) ∧ zl hA (zs h + 1) = 8 ∧ zl hA (zs h + 2) = 200 ∧ zl hA (zs h + 3) = 8) ∧ (zr hA 3 0 (zs h) = ow ∧ zi hA 3 1 (zs h) = g ∧ zi hA 3 2 (zs h) = l ∧ zi hA 3 3 (zs h) = s ∧ zi hA 3 7 (zs h) = (if ow = none then 0 else 1) ∧ zi hA 3 8 (zs h) = 0 ∧ zi hA 3 9 (zs h) = 0 ∧ zi hA 3 10 (zs h) = 0 ∧ zi hA 3 11 (zs h) = 0) ∧ (ow ≠ none → za hA (zs h + 1) 0 = 1 + nb) ∧ (∀ b, b < zs h → ag h hA b) ∧ zs hA = zs h + 4 := by
  -- the three rows
  have k0 : zk (nwO 3 h) (zs h) = 4 := by rw [zk_nwO, if_pos rfl]
  have B : ∃ h4, (pR 3 4 (some (zs h)) (some (zs (nwO 3 h))) (nwA 100 8 (nwO 3 h))).bind (fun h2 => (pR 3 5 (some (zs h)) (some (zs h2)) (nwA 103 200 h2)).bind fun h3 => pR 3 6 (some (zs h)) (some (zs h3)) (nwA 102 8 h3)) = some h4 ∧ (zk h4 (zs h) = 4 ∧ zk h4 (zs h + 1) = 100 ∧ zk h4 (zs h + 2) = 103 ∧ zk h4 (zs h + 3) = 102 ∧ zr h4 3 4 (zs h) = some (zs h + 1) ∧ zr h4 3 5 (zs h) = some (zs h + 2) ∧ zr h4 3 6 (zs h) = some (zs h + 3) ∧ zl h4 (zs h + 1) = 8 ∧ zl h4 (zs h + 2) = 200 ∧ zl h4 (zs h + 3) = 8) ∧ (∀ k, zi h4 3 k (zs h) = 0) ∧ (∀ b, b < zs h → ag h h4 b) ∧ zs h4 = zs h + 4 := by
    have k1 : zk (nwA 100 8 (nwO 3 h)) (zs h) = 4 := by rw [zk_nwA, if_neg (by rw [zs_nwO]; omega)]; exact k0
    have e1 : pR 3 4 (some (zs h)) (some (zs (nwO 3 h))) (nwA 100 8 (nwO 3 h)) = some (str 3 4 (zs h) (some (zs h + 1)) (nwA 100 8 (nwO 3 h))) := by rw [pR_at k1, zs_nwO]
    have F1 : zk (str 3 4 (zs h) (some (zs h + 1)) (nwA 100 8 (nwO 3 h))) (zs h) = 4 ∧ zk (str 3 4 (zs h) (some (zs h + 1)) (nwA 100 8 (nwO 3 h))) (zs h + 1) = 100 ∧ zl (str 3 4 (zs h) (some (zs h + 1)) (nwA 100 8 (nwO 3 h))) (zs h + 1) = 8 ∧ zr (str 3 4 (zs h) (some (zs h + 1)) (nwA 100 8 (nwO 3 h))) 3 4 (zs h) = some (zs h + 1) ∧ (∀ k, zi (str 3 4 (zs h) (some (zs h + 1)) (nwA 100 8 (nwO 3 h))) 3 k (zs h) = 0) ∧ (∀ b, b < zs h → ag h (str 3 4 (zs h) (some (zs h + 1)) (nwA 100 8 (nwO 3 h))) b) ∧ zs (str 3 4 (zs h) (some (zs h + 1)) (nwA 100 8 (nwO 3 h))) = zs h + 2 := by
      refine ⟨by rw [zk_str]; exact k1, by rw [zk_str, zk_nwA, zs_nwO, if_pos rfl], by rw [zl_str, zl_nwA, zs_nwO, if_pos rfl], by rw [zr_str, if_pos ⟨rfl, rfl, rfl⟩], fun k => by rw [zi_str, zi_nwA, zi_nwO, if_pos rfl], fun b hb => ((ag_nwO (by omega)).tr (ag_nwA (by rw [zs_nwO]; omega))).tr (ag_str (by omega)), by rw [zs_str, zs_nwA, zs_nwO]⟩
    rw [e1, obs]
    generalize str 3 4 (zs h) (some (zs h + 1)) (nwA 100 8 (nwO 3 h)) = h2 at F1 ⊢
    obtain ⟨f1, f2, f3, f4, f5, f6, f7⟩ := F1
    have k2 : zk (nwA 103 200 h2) (zs h) = 4 := by rw [zk_nwA, if_neg (by omega)]; exact f1
    rw [pR_at k2, obs, f7]
    have F2 : zk (str 3 5 (zs h) (some (zs h + 2)) (nwA 103 200 h2)) (zs h) = 4 ∧ zk (str 3 5 (zs h) (some (zs h + 2)) (nwA 103 200 h2)) (zs h + 1) = 100 ∧ zk (str 3 5 (zs h) (some (zs h + 2)) (nwA 103 200 h2)) (zs h + 2) = 103 ∧ zl (str 3 5 (zs h) (some (zs h + 2)) (nwA 103 200 h2)) (zs h + 1) = 8 ∧ zl (str 3 5 (zs h) (some (zs h + 2)) (nwA 103 200 h2)) (zs h + 2) = 200 ∧ zr (str 3 5 (zs h) (some (zs h + 2)) (nwA 103 200 h2)) 3 4 (zs h) = some (zs h + 1) ∧ zr (str 3 5 (zs h) (some (zs h + 2)) (nwA 103 200 h2)) 3 5 (zs h) = some (zs h + 2) ∧ (∀ k, zi (str 3 5 (zs h) (some (zs h + 2)) (nwA 103 200 h2)) 3 k (zs h) = 0) ∧ (∀ b, b < zs h → ag h (str 3 5 (zs h) (some (zs h + 2)) (nwA 103 200 h2)) b) ∧ zs (str 3 5 (zs h) (some (zs h + 2)) (nwA 103 200 h2)) = zs h + 3 := by
      refine ⟨by rw [zk_str]; exact k2, by rw [zk_str, zk_nwA, if_neg (by omega)]; exact f2, by rw [zk_str, zk_nwA, f7, if_pos rfl], by rw [zl_str, zl_nwA, if_neg (by omega)]; exact f3, by rw [zl_str, zl_nwA, f7, if_pos rfl], by rw [zr_str, if_neg (by omega), zr_nwA]; exact f4, by rw [zr_str, if_pos ⟨rfl, rfl, rfl⟩], fun k => by rw [zi_str, zi_nwA]; exact f5 k, fun b hb => ((f6 b hb).tr (ag_nwA (by omega))).tr (ag_str (by omega)), by rw [zs_str, zs_nwA, f7]⟩
    generalize str 3 5 (zs h) (some (zs h + 2)) (nwA 103 200 h2) = h3 at F2 ⊢
    obtain ⟨g1, g2, g3, g4, g5, g6, g7, g8, g9, g10⟩ := F2
    have k3 : zk (nwA 102 8 h3) (zs h) = 4 := by rw [zk_nwA, if_neg (by omega)]; exact g1
    refine ⟨_, pR_at k3, ⟨by rw [zk_str]; exact k3, by rw [zk_str, zk_nwA, if_neg (by omega)]; exact g2, by rw [zk_str, zk_nwA, if_neg (by omega)]; exact g3, by rw [zk_str, zk_nwA, g10, if_pos rfl], by rw [zr_str, if_neg (by omega), zr_nwA]; exact g6, by rw [zr_str, if_neg (by omega), zr_nwA]; exact g7, by rw [zr_str, if_pos ⟨rfl, rfl, rfl⟩, g10], by rw [zl_str, zl_nwA, if_neg (by omega)]; exact g4, by rw [zl_str, zl_nwA, if_neg (by omega)]; exact g5, by rw [zl_str, zl_nwA, g10, if_pos rfl]⟩, fun k => by rw [zi_str, zi_nwA]; exact g8 k, fun b hb => ((g9 b hb).tr (ag_nwA (by omega))).tr (ag_str (by omega)), by rw [zs_str, zs_nwA, g10]⟩
  obtain ⟨h4, e4, ⟨p1, p2, p3, p4, p5, p6, p7, p8, p9, p10⟩, pz, pag, ps⟩ := B
  -- its own numbers
  have E : fX3_init (some (zs h)) ow g l s (nwO 3 h) = (fun h8 => if ow = none then some h8 else (gR 3 4 (some (zs h)) h8).bind fun v10 => (rc 2 ow h8).bind fun _ => (fX2_asType ow h8).bind fun q11 => (sI v10 0 q11.1 q11.2).bind fun h12 => (pI 3 7 (some (zs h)) 1 h12).bind fun h13 => some h13) (sti 3 3 (zs h) s (sti 3 2 (zs h) l (sti 3 1 (zs h) g (str 3 0 (zs h) ow h4)))) := by
    have e4' := e4
    simp only [Option.bind_eq_some_iff] at e4'
    obtain ⟨h2, q2, h3, q3, q4⟩ := e4'
    simp only [fX3_init, rc_at, k0, q2, q3, q4, pR_at, pI_at, p1, zk_sti, zk_str, obs]
  have F : ∃ h8, h8 = sti 3 3 (zs h) s (sti 3 2 (zs h) l (sti 3 1 (zs h) g (str 3 0 (zs h) ow h4))) ∧ (zk h8 (zs h) = 4 ∧ zk h8 (zs h + 1) = 100 ∧ zk h8 (zs h + 2) = 103 ∧ zk h8 (zs h + 3) = 102 ∧ zr h8 3 4 (zs h) = some (zs h + 1) ∧ zr h8 3 5 (zs h) = some (zs h + 2) ∧ zr h8 3 6 (zs h) = some (zs h + 3) ∧ zl h8 (zs h + 1) = 8 ∧ zl h8 (zs h + 2) = 200 ∧ zl h8 (zs h + 3) = 8) ∧ (zr h8 3 0 (zs h) = ow ∧ ∀ k, zi h8 3 k (zs h) = if k = 3 then s else if k = 2 then l else if k = 1 then g else 0) ∧ (∀ b, b < zs h → ag h h8 b) ∧ zs h8 = zs h + 4 := by
    refine ⟨_, rfl, ⟨by simp only [zk_sti, zk_str]; exact p1, by simp only [zk_sti, zk_str]; exact p2, by simp only [zk_sti, zk_str]; exact p3, by simp only [zk_sti, zk_str]; exact p4, ?_, ?_, ?_, by simp only [zl_sti, zl_str]; exact p8, by simp only [zl_sti, zl_str]; exact p9, by simp only [zl_sti, zl_str]; exact p10⟩, ⟨?_, fun k => ?_⟩, fun b hb => ((((pag b hb).tr (ag_str (by omega))).tr (ag_sti (by omega))).tr (ag_sti (by omega))).tr (ag_sti (by omega)), by simp only [zs_sti, zs_str]; exact ps⟩
    · rw [zr_sti, zr_sti, zr_sti, zr_str, if_neg (by omega)]; exact p5
    · rw [zr_sti, zr_sti, zr_sti, zr_str, if_neg (by omega)]; exact p6
    · rw [zr_sti, zr_sti, zr_sti, zr_str, if_neg (by omega)]; exact p7
    · rw [zr_sti, zr_sti, zr_sti, zr_str, if_pos ⟨rfl, rfl, rfl⟩]
    · rw [zi_sti]
      by_cases e3 : k = 3
      · rw [if_pos ⟨rfl, e3, rfl⟩, if_pos e3]
      · rw [if_neg (fun q => e3 q.2.1), if_neg e3, zi_sti]
        by_cases e2 : k = 2
        · rw [if_pos ⟨rfl, e2, rfl⟩, if_pos e2]
        · rw [if_neg (fun q => e2 q.2.1), if_neg e2, zi_sti]
          by_cases e1 : k = 1
          · rw [if_pos ⟨rfl, e1, rfl⟩, if_pos e1]
          · rw [if_neg (fun q => e1 q.2.1), if_neg e1, zi_str]; exact pz k
  obtain ⟨h8, eh8, ⟨r1, r2, r3, r4, r5, r6, r7, r8, r9, r10⟩, ⟨s0, si⟩, rag, rs⟩ := F
  rw [← eh8] at E
  cases ow with
  | none =>
    refine ⟨h8, ?_, ⟨r1, r2, r3, r4, r5, r6, r7, r8, r9, r10⟩, ⟨s0, ?_, ?_, ?_, ?_, ?_, ?_, ?_, ?_⟩, fun q => absurd rfl q, rag, rs⟩
    · rw [E]; simp only [↓reduceIte]
    all_goals (rw [si]; rfl)
  | some a =>
    obtain ⟨o1, o2, o3⟩ := ho a rfl
    have ka : zk h8 a = 3 := (rag a o1).k.trans o2
    have ia : zi h8 2 0 a = nb := ((rag a o1).i 2 0).trans o3
    have c8 := sI_at (a := zs h + 1) (i := 0) (v := 1 + nb) (h := h8) 8 r2 r8 (by decide) (by decide)
    rw [nI_0] at c8
    refine ⟨sti 3 7 (zs h) 1 (sta (zs h + 1) 0 (1 + nb) h8), ?_, ⟨?_, ?_, ?_, ?_, ?_, ?_, ?_, ?_, ?_, ?_⟩, ⟨?_, ?_, ?_, ?_, ?_, ?_, ?_, ?_, ?_⟩, fun _ => ?_, fun b hb => ((rag b hb).tr (ag_sta (by omega))).tr (ag_sti (by omega)), ?_⟩
    · rw [E]
      simp only [fX2_asType, gR_at, gI_at, pI_at, rc_at, r1, r5, ka, ia, c8, zk_sta, obs, reduceCtorEq, ↓reduceIte]
    · rw [zk_sti, zk_sta]; exact r1
    · rw [zk_sti, zk_sta]; exact r2
    · rw [zk_sti, zk_sta]; exact r3
    · rw [zk_sti, zk_sta]; exact r4
    · rw [zr_sti, zr_sta]; exact r5
    · rw [zr_sti, zr_sta]; exact r6
    · rw [zr_sti, zr_sta]; exact r7
    · rw [zl_sti, zl_sta]; exact r8
    · rw [zl_sti, zl_sta]; exact r9
    · rw [zl_sti, zl_sta]; exact r10
    · rw [zr_sti, zr_sta]; exact s0
    · rw [zi_sti, if_neg (by omega), zi_sta, si]; rfl
    · rw [zi_sti, if_neg (by omega), zi_sta, si]; rfl
    · rw [zi_sti, if_neg (by omega), zi_sta, si]; rfl
    · rw [zi_sti, if_pos ⟨rfl, rfl, rfl⟩]; simp only [reduceCtorEq, ↓reduceIte]
    · rw [zi_sti, if_neg (by omega), zi_sta, si]; rfl
    · rw [zi_sti, if_neg (by omega), zi_sta, si]; rfl
    · rw [zi_sti, if_neg (by omega), zi_sta, si]; rfl
    · rw [zi_sti, if_neg (by omega), zi_sta, si]; rfl
    · rw [za_sti, za_sta, if_pos ⟨rfl, rfl⟩]
    · rw [zs_sti, zs_sta]; exact rs
