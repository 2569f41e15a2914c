/-! A good tau stays good. -/
theorem okT.mono {n n' : Nat} {t : Int32} (h : okT n t) (hn : n ≤ n') : okT n' t := by
  obtain ⟨j, hj, q⟩ := h
  exact ⟨j, by omega, q⟩
theorem anc_congr {τ τ' : Nat → Nat → Int32} (n : Nat) : ∀ (c j : Nat), (∀ i, i ≤ c → τ' 1 i = τ 1 i) → (∀ i, i ≤ c → τ 1 i = -1 ∨ ∃ u, u < i ∧ τ 1 i = nI u) → c < 2 ^ 31 → anc τ' n c j = anc τ n c j := by
  induction n with
  | zero => intro c j h g hc; rfl
  | succ n ih =>
    intro c j h g hc
    unfold anc
    rw [h c (Nat.le_refl _)]
    rcases g c (Nat.le_refl _) with e | ⟨u, hu, e⟩
    · rw [e, if_pos (by decide), if_pos (by decide)]
    · have e2 : cn (τ 1 c) = u := by rw [e]; exact cn_nI (by omega)
      rw [e2, ih u j (fun i hi => h i (by omega)) (fun i hi => g i (by omega)) (by omega)]
def tW : List (Nat × Nat) := [(1, 1), (2, 1), (3, 1), (4, 15), (5, 16), (40, 1), (41, 1), (42, 1)]
theorem okO.mono {τ τ' : Nat → Nat → Int32} {m : Nat} {op x y : Int32} (p : okO τ m op x y) (h0 : cn (τ 0 0) ≤ cn (τ' 0 0)) (h6 : cn (τ 6 0) ≤ cn (τ' 6 0)) (h9 : cn (τ' 9 m) = cn (τ 9 m)) (h3 : ∀ c, c < cn (τ 0 0) → cn (τ 3 c) ≤ cn (τ' 3 c)) (h5 : ∀ c s, c < cn (τ 0 0) → s < 16 → (∃ q, q < cn (τ 6 0) ∧ τ 5 (16 * c + s) = nI q) → ∃ q, q < cn (τ' 6 0) ∧ τ' 5 (16 * c + s) = nI q) : okO τ' m op x y := by
  obtain ⟨o, ho, e, p1, p2, p3, p4, p5, p6, p7⟩ := p
  refine ⟨o, ho, e, fun q => by rw [h9]; exact p1 q, fun q => ?_, fun q => ?_, fun q => ?_, fun q => ?_, fun q => ?_, p7⟩
  · obtain ⟨c, hc, e⟩ := p2 q; exact ⟨c, by omega, e⟩
  · obtain ⟨c, k, hc, e, hk, e2⟩ := p3 q; exact ⟨c, k, by omega, e, Nat.lt_of_lt_of_le hk (h3 c hc), e2⟩
  · obtain ⟨c, hc, e⟩ := p4 q; exact ⟨c, by omega, e⟩
  · obtain ⟨c, hc, e⟩ := p5 q; exact ⟨c, by omega, e⟩
  · obtain ⟨c, s, r, hc, e, hs, e2, hr, e3⟩ := p6 q
    obtain ⟨r', hr', e4⟩ := h5 c s hc hs ⟨r, hr, e3⟩
    exact ⟨c, s, r', by omega, e, hs, e2, hr', e4⟩
section
variable {τ τ' : Nat → Nat → Int32}
theorem WF.chain (w : WF τ) : ∀ i, i < cn (τ 0 0) → τ 1 i = -1 ∨ ∃ u, u < i ∧ τ 1 i = nI u := fun i hi => (w.2.2.1 i hi).1
/-- a class whose columns stay, with the same classes and uppers -/
theorem WFc.mono {c : Nat} (w : WF τ) (hc : c < cn (τ 0 0)) (h0 : τ' 0 0 = τ 0 0) (h6 : cn (τ 6 0) ≤ cn (τ' 6 0)) (h1 : ∀ i, i < cn (τ 0 0) → τ' 1 i = τ 1 i) (t : tg tW τ τ' c) : WFc τ' c := by
  obtain ⟨p1, p2, p3, p4, ⟨p5, p6, p7⟩, p8⟩ := w.2.2.1 c hc
  have hb := w.1.2
  have e1 : τ' 1 c = τ 1 c := t.at1 (by decide)
  have e2 : τ' 2 c = τ 2 c := t.at1 (by decide)
  have e3 : τ' 3 c = τ 3 c := t.at1 (by decide)
  have e40 : τ' 40 c = τ 40 c := t.at1 (by decide)
  have e41 : τ' 41 c = τ 41 c := t.at1 (by decide)
  have e42 : τ' 42 c = τ 42 c := t.at1 (by decide)
  refine ⟨by rw [e1]; exact p1, by rw [e3]; exact p2, fun k hk => ?_, fun s hs => ?_, ⟨by rw [e2]; exact p5, by rw [e2, e40, e41]; exact p6, ?_⟩, fun j hj => ?_⟩
  · rw [e3] at hk
    rw [h0, t (4, 15) (by decide) k (Nat.lt_of_lt_of_le hk p2.2)]; exact p3 k hk
  · rw [t (5, 16) (by decide) s hs]
    rcases p4 s hs with q | ⟨m, hm, q⟩
    · exact Or.inl q
    · exact Or.inr ⟨m, by omega, q⟩
  · rw [e40, h0, p7]
    exact ⟨fun q k hk => by rw [h1 k hk]; exact q k hk, fun q k hk => by rw [← h1 k hk]; exact q k hk⟩
  · rw [e42, p8 j hj, anc_congr (c + 1) c j (fun i hi => h1 i (by omega)) (fun i hi => w.chain i (by omega)) (by omega)]
theorem WFm.mono {m : Nat} (w : WFm τ m) (h0 : cn (τ 0 0) ≤ cn (τ' 0 0)) (h6 : cn (τ 6 0) ≤ cn (τ' 6 0)) (t : tg tM τ τ' m) (tI' : ∀ i, i < 200 → tg tI τ τ' (200 * m + i)) (tH' : ∀ i, i < 8 → tg tH τ τ' (8 * m + i)) (h3 : ∀ c, c < cn (τ 0 0) → cn (τ 3 c) ≤ cn (τ' 3 c)) (h5 : ∀ c s, c < cn (τ 0 0) → s < 16 → (∃ q, q < cn (τ 6 0) ∧ τ 5 (16 * c + s) = nI q) → ∃ q, q < cn (τ' 6 0) ∧ τ' 5 (16 * c + s) = nI q) : WFm τ' m := by
  obtain ⟨p1, p2, p3, p4, p5, p6, p7, p8, p9, p10, p11, p12⟩ := w
  have e7 : τ' 7 m = τ 7 m := t.at1 (by decide)
  have e8 : τ' 8 m = τ 8 m := t.at1 (by decide)
  have e9 : τ' 9 m = τ 9 m := t.at1 (by decide)
  have e10 : τ' 10 m = τ 10 m := t.at1 (by decide)
  have e11 : τ' 11 m = τ 11 m := t.at1 (by decide)
  have e13 : τ' 13 m = τ 13 m := t.at1 (by decide)
  have e14 : τ' 14 m = τ 14 m := t.at1 (by decide)
  have e18 : τ' 18 m = τ 18 m := t.at1 (by decide)
  have e23 : τ' 23 m = τ 23 m := t.at1 (by decide)
  refine ⟨?_, ?_, by rw [e9, e10]; exact p3, by rw [e11, e9]; exact p4, fun k hk => ?_, by rw [e13]; exact p6, by rw [e23]; exact p7, by rw [e14]; exact p8, by rw [e18]; exact p9, fun i hi => ?_, fun k hk => ?_, fun hv i hi => ?_⟩
  · rw [e7]
    rcases p1 with q | ⟨c, hc, q⟩
    · exact Or.inl q
    · exact Or.inr ⟨c, by omega, q⟩
  · rw [e8]
    exact p2.imp (fun q => q) (fun q => q.mono h0)
  · rw [e11] at hk
    rw [t (12, 8) (by decide) k (by omega)]; exact (p5 k hk).mono h0
  · rw [e14] at hi
    have ti := tI' i (by omega)
    rw [ti.at1 (c := 15) (by decide), ti.at1 (c := 16) (by decide), ti.at1 (c := 17) (by decide)]
    exact (p10 i hi).mono h0 h6 (by rw [e9]) h3 h5
  · rw [e18] at hk
    have th := tH' k (by omega)
    rw [th.at1 (c := 21) (by decide), th.at1 (c := 22) (by decide)]
    obtain ⟨⟨c, hc, q⟩, q2⟩ := p11 k hk
    exact ⟨⟨c, by omega, q⟩, q2⟩
  · rw [e14] at hi
    rw [e23] at hv
    rw [(tI' i (by omega)).at1 (c := 24) (by decide), e10]; exact p12 hv i hi
end
theorem cn_succ {v : Int32} (h : ¬ v < 0) (hb : cn v + 1 < 2 ^ 31) : v + 1 = nI (cn v + 1) ∧ cn (v + 1) = cn v + 1 ∧ ¬ v + 1 < 0 := by
  have e : v + 1 = nI (cn v + 1) := by
    have := nI_1 (cn v)
    rw [← nI_of_cn h] at this; exact this
  exact ⟨e, by rw [e, cn_nI hb], by rw [e]; exact nlt0 hb⟩
