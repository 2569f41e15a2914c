/-! A row of types: how many stand on the stack, and what stands where (locals first). -/
abbrev Row : Type := Nat × (Nat → Int32)
def psh (L P : Nat) (v : Int32) (r : Row) : Option Row := if r.1 < P then some (r.1 + 1, fun k => if k = L + r.1 then v else r.2 k) else none
def pp (L : Nat) (r : Row) : Option (Int32 × Row) := if 0 < r.1 then some (r.2 (L + (r.1 - 1)), (r.1 - 1, r.2)) else none
def ppc (L : Nat) (c : Int32 → Bool) (r : Row) : Option Row := (pp L r).bind fun q => if c q.1 then some q.2 else none
/-- a row that fits the method and holds types that can stand -/
def okR (L P n : Nat) (r : Row) : Prop := r.1 ≤ P ∧ ∀ k, k < L + r.1 → vT n (r.2 k)
theorem okR.psh {L P n : Nat} {r r' : Row} {v : Int32} (p : okR L P n r) (hv : vT n v) (e : psh L P v r = some r') : okR L P n r' := by
  unfold _root_.Jvm.Pilot.CCodeVerifierLaw_law_r5343_82bf6f.psh at e
  split at e
  · cases e
    refine ⟨by simp only; omega, fun k hk => ?_⟩
    simp only at hk ⊢
    by_cases q : k = L + r.1
    · rw [if_pos q]; exact hv
    · rw [if_neg q]; exact p.2 k (by omega)
  · cases e
theorem okR.pp {L P n : Nat} {r : Row} {q : Int32 × Row} (p : okR L P n r) (e : pp L r = some q) : okR L P n q.2 ∧ vT n q.1 := by
  unfold _root_.Jvm.Pilot.CCodeVerifierLaw_law_r5343_82bf6f.pp at e
  split at e
  · cases e
    exact ⟨⟨by simp only; have := p.1; omega, fun k hk => p.2 k (by simp only at hk; omega)⟩, p.2 _ (by omega)⟩
  · cases e
/-- the heap with the walk's row at these types, this height, and the step's mark -/
def RW (x : Nat) (h : zH) (ht : Int32) (ty : Nat → Int32) (ft : Int32) : zH := (zk h, fun c k a => if c = 4 ∧ k = 3 ∧ a = x + 5 then ht else if c = 5 ∧ k = 2 ∧ a = x + 7 then ft else zi h c k a, zr h, zl h, fun a j => if a = x + 6 then ty j else za h a j, zq h, zs h)
section
variable {x : Nat} {h : zH} {ht ft v : Int32} {ty : Nat → Int32}
theorem zk_RW : zk (RW x h ht ty ft) = zk h := rfl
theorem zr_RW : zr (RW x h ht ty ft) = zr h := rfl
theorem zl_RW : zl (RW x h ht ty ft) = zl h := rfl
theorem zq_RW : zq (RW x h ht ty ft) = zq h := rfl
theorem zs_RW : zs (RW x h ht ty ft) = zs h := rfl
theorem zi_RW (c k a : Nat) : zi (RW x h ht ty ft) c k a = if c = 4 ∧ k = 3 ∧ a = x + 5 then ht else if c = 5 ∧ k = 2 ∧ a = x + 7 then ft else zi h c k a := rfl
theorem za_RW (a j : Nat) : za (RW x h ht ty ft) a j = if a = x + 6 then ty j else za h a j := rfl
theorem zi_RW43 : zi (RW x h ht ty ft) 4 3 (x + 5) = ht := by rw [zi_RW, if_pos ⟨rfl, rfl, rfl⟩]
theorem zi_RW52 : zi (RW x h ht ty ft) 5 2 (x + 7) = ft := by rw [zi_RW, if_neg (by omega), if_pos ⟨rfl, rfl, rfl⟩]
theorem zi_RWo {c k a : Nat} (h1 : ¬ (c = 4 ∧ k = 3)) (h2 : c ≠ 5) : zi (RW x h ht ty ft) c k a = zi h c k a := by rw [zi_RW, if_neg (fun q => h1 ⟨q.1, q.2.1⟩), if_neg (fun q => h2 q.1)]
theorem za_RW6 (j : Nat) : za (RW x h ht ty ft) (x + 6) j = ty j := by rw [za_RW, if_pos rfl]
theorem RW_h : sti 4 3 (x + 5) v (RW x h ht ty ft) = RW x h v ty ft := by
  unfold RW sti
  refine Prod.ext rfl (Prod.ext ?_ rfl)
  funext c k a
  show (if c = 4 ∧ k = 3 ∧ a = x + 5 then v else if c = 4 ∧ k = 3 ∧ a = x + 5 then ht else if c = 5 ∧ k = 2 ∧ a = x + 7 then ft else zi h c k a) = if c = 4 ∧ k = 3 ∧ a = x + 5 then v else if c = 5 ∧ k = 2 ∧ a = x + 7 then ft else zi h c k a
  by_cases q : c = 4 ∧ k = 3 ∧ a = x + 5
  · rw [if_pos q, if_pos q]
  · rw [if_neg q, if_neg q, if_neg q]
theorem RW_f : sti 5 2 (x + 7) v (RW x h ht ty ft) = RW x h ht ty v := by
  unfold RW sti
  refine Prod.ext rfl (Prod.ext ?_ rfl)
  funext c k a
  show (if c = 5 ∧ k = 2 ∧ a = x + 7 then v else if c = 4 ∧ k = 3 ∧ a = x + 5 then ht else if c = 5 ∧ k = 2 ∧ a = x + 7 then ft else zi h c k a) = if c = 4 ∧ k = 3 ∧ a = x + 5 then ht else if c = 5 ∧ k = 2 ∧ a = x + 7 then v else zi h c k a
  by_cases q : c = 5 ∧ k = 2 ∧ a = x + 7
  · rw [if_pos q, if_neg (by omega), if_pos q]
  · rw [if_neg q, if_neg q, if_neg q]
theorem RW_t {j : Nat} : sta (x + 6) j v (RW x h ht ty ft) = RW x h ht (fun k => if k = j then v else ty k) ft := by
  unfold RW sta
  refine Prod.ext rfl (Prod.ext rfl (Prod.ext rfl (Prod.ext rfl (Prod.ext ?_ rfl))))
  funext a k
  show (if a = x + 6 ∧ k = j then v else if a = x + 6 then ty k else za h a k) = if a = x + 6 then (if k = j then v else ty k) else za h a k
  by_cases q : a = x + 6
  · by_cases q2 : k = j
    · rw [if_pos ⟨q, q2⟩, if_pos q, if_pos q2]
    · rw [if_neg (fun z => q2 z.2), if_pos q, if_pos q, if_neg q2]
  · rw [if_neg (fun z => q z.1), if_neg q, if_neg q]
theorem RW_self : RW x h (zi h 4 3 (x + 5)) (za h (x + 6)) (zi h 5 2 (x + 7)) = h := by
  unfold RW
  refine Prod.ext rfl (Prod.ext ?_ (Prod.ext rfl (Prod.ext rfl (Prod.ext ?_ rfl))))
  · funext c k a
    show (if c = 4 ∧ k = 3 ∧ a = x + 5 then zi h 4 3 (x + 5) else if c = 5 ∧ k = 2 ∧ a = x + 7 then zi h 5 2 (x + 7) else zi h c k a) = zi h c k a
    by_cases q : c = 4 ∧ k = 3 ∧ a = x + 5
    · obtain ⟨rfl, rfl, rfl⟩ := q; rw [if_pos ⟨rfl, rfl, rfl⟩]
    · rw [if_neg q]
      by_cases q : c = 5 ∧ k = 2 ∧ a = x + 7
      · obtain ⟨rfl, rfl, rfl⟩ := q; rw [if_pos ⟨rfl, rfl, rfl⟩]
      · rw [if_neg q]
  · funext a k
    show (if a = x + 6 then za h (x + 6) k else za h a k) = za h a k
    by_cases q : a = x + 6
    · rw [if_pos q, q]
    · rw [if_neg q]
theorem RW_ag {b : Nat} (h5 : b ≠ x + 5) (h6 : b ≠ x + 6) (h7 : b ≠ x + 7) : ag h (RW x h ht ty ft) b := by
  refine ⟨rfl, fun c k => ?_, fun c k => rfl, rfl, ?_, rfl⟩
  · rw [zi_RW, if_neg (fun q => h5 q.2.2), if_neg (fun q => h7 q.2.2)]
  · funext j; rw [za_RW, if_neg h6]
theorem RC.RW {τ : Nat → Nat → Int32} {kd md : Nat → Nat} {ib hd : Nat → Nat → Nat} (p : RC τ kd md ib hd x h) : RC τ kd md ib hd x (RW x h ht ty ft) := by
  have A : ∀ b, b ≠ x + 5 → b ≠ x + 6 → b ≠ x + 7 → ag h (_root_.Jvm.Pilot.CCodeVerifierLaw_law_r5343_82bf6f.RW x h ht ty ft) b := fun b h5 h6 h7 => RW_ag h5 h6 h7
  have B : ∀ b, x + 35 ≤ b → ag h (_root_.Jvm.Pilot.CCodeVerifierLaw_law_r5343_82bf6f.RW x h ht ty ft) b := fun b hb => A b (by omega) (by omega) (by omega)
  refine p.shape p.1 rfl rfl rfl (fun m hm => rfl) (fun m hm => rfl) ?_ (fun c => rfl) (fun c => rfl) (fun c hc => ?_) (fun m hm => ?_) (fun m i hm hi => ?_) (fun m k hm hk => ?_)
  · obtain ⟨s1, s2, s3⟩ := p.2.2.1
    exact ⟨by rw [zi_RWo (by omega) (by omega)]; exact s1, by rw [zi_RWo (by omega) (by omega)]; exact s2, by rw [zi_RWo (by omega) (by omega)]; exact s3⟩
  · obtain ⟨-, b1, -, b2⟩ := p.2.2.2.1 c hc
    exact b2.ag (B _ b1) (B _ (by omega)) (B _ (by omega)) tg.rf
  · obtain ⟨-, b1, -, b2⟩ := p.2.2.2.2.1 m hm
    exact ⟨b2.ag (B _ b1) (B _ (by omega)) (Or.inl (B _ (by omega))) (Or.inl (B _ (by omega))) tg.rf (fun _ => rfl), fun i => rfl, fun i => rfl⟩
  · obtain ⟨-, b1, -, b2, b3⟩ := p.2.2.2.2.2.1 m i hm hi
    exact ⟨b2.ag (B _ b1) (B _ (by omega)) (B _ (by omega)) tg.rf, fun hv => (b3 hv).ag (B _ b1) (B _ (by omega)) (B _ (by omega)) tg.rf rfl rfl⟩
  · obtain ⟨-, b1, -, b2⟩ := p.2.2.2.2.2.2.1 m k hm hk
    exact b2.ag (B _ b1) tg.rf
end
/-- where the walk's row and step lie, and the method's measure in the row -/
def RE (x : Nat) (h : zH) (L P : Nat) : Prop := RF x h ∧ zi h 4 1 (x + 5) = nI L ∧ zi h 4 2 (x + 5) = nI P ∧ L + P ≤ 12
/-- the class's row and step stand for an instruction half done: none, it does not fit -/
def JC (x : Nat) (h0 : zH) (L P n : Nat) (o : Option Row) (h : zH) : Prop := match o with
  | some r => okR L P n r ∧ h = RW x h0 (nI r.1) r.2 1
  | none => ∃ ht ty, h = RW x h0 ht ty 0
theorem JC.is {x : Nat} {h0 h : zH} {L P n : Nat} {o : Option Row} (j : JC x h0 L P n o h) : ∃ ht ty ft, h = RW x h0 ht ty ft ∧ (ft = 0 ∨ ft = 1) := by
  cases o with
  | none => obtain ⟨ht, ty, e⟩ := j; exact ⟨ht, ty, 0, e, Or.inl rfl⟩
  | some r => exact ⟨_, _, 1, j.2, Or.inr rfl⟩
theorem JC.k {x : Nat} {h0 h : zH} {L P n : Nat} {o : Option Row} (j : JC x h0 L P n o h) (a : Nat) : zk h a = zk h0 a := by
  obtain ⟨ht, ty, ft, rfl, -⟩ := j.is; rfl
theorem JC.r {x : Nat} {h0 h : zH} {L P n : Nat} {o : Option Row} (j : JC x h0 L P n o h) (c k a : Nat) : zr h c k a = zr h0 c k a := by
  obtain ⟨ht, ty, ft, rfl, -⟩ := j.is; rfl
theorem JC.i {x : Nat} {h0 h : zH} {L P n : Nat} {o : Option Row} (j : JC x h0 L P n o h) {c : Nat} (k a : Nat) (h1 : c ≠ 4) (h2 : c ≠ 5) : zi h c k a = zi h0 c k a := by
  obtain ⟨ht, ty, ft, rfl, -⟩ := j.is; exact zi_RWo (fun q => h1 q.1) h2
theorem JC.rc {x : Nat} {h0 h : zH} {L P n : Nat} {o : Option Row} (j : JC x h0 L P n o h) {τ : Nat → Nat → Int32} {kd md : Nat → Nat} {ib hd : Nat → Nat → Nat} (p : RC τ kd md ib hd x h0) : RC τ kd md ib hd x h := by
  obtain ⟨ht, ty, ft, rfl, -⟩ := j.is; exact p.RW
section
variable {x L P n : Nat} {h0 h : zH}
theorem needJ (E : RE x h0 L P) {o : Option Row} (j : JC x h0 L P n o h) {b : Int32} (hb : b = 0 ∨ b = 1) : ∃ h', fX5_need (some (x + 7)) b h = some h' ∧ JC x h0 L P n (if b = 0 then none else o) h' := by
  obtain ⟨hF, e1, e2, e3⟩ := E
  have k7 : ∀ ht ty ft, zk (RW x h0 ht ty ft) (x + 7) = 6 := fun _ _ _ => hF.1.2.2.2.2.2.2.2
  cases o with
  | none =>
    obtain ⟨ht, ty, rfl⟩ := j
    refine ⟨RW x h0 ht ty 0, ?_, ?_⟩
    · simp only [fX5_need, fX5_need_b16, fX5_need_b17, gI_at, k7, zi_RW52, pZ0_at, RW_f, obs, ↓reduceIte]
    · rcases hb with rfl | rfl
      · rw [if_pos rfl]; exact ⟨ht, ty, rfl⟩
      · rw [if_neg n10]; exact ⟨ht, ty, rfl⟩
  | some r =>
    obtain ⟨ok, rfl⟩ := j
    rcases hb with rfl | rfl
    · refine ⟨RW x h0 (nI r.1) r.2 0, ?_, ?_⟩
      · simp only [fX5_need, fX5_need_b16, fX5_need_b17, gI_at, k7, zi_RW52, pZ0_at, RW_f, n10, obs, ↓reduceIte]
      · rw [if_pos rfl]; exact ⟨_, _, rfl⟩
    · refine ⟨RW x h0 (nI r.1) r.2 1, ?_, ?_⟩
      · simp only [fX5_need, fX5_need_b17, gI_at, k7, zi_RW52, pZ1_at, RW_f, n10, obs, ↓reduceIte]
      · rw [if_neg n10]; exact ⟨ok, rfl⟩
/-- put on the row alone -/
theorem put4 (E : RE x h0 L P) {ht : Int32} {ty : Nat → Int32} {ft v : Int32} : ∃ b ht' ty', fX4_put (some (x + 5)) v (RW x h0 ht ty ft) = some (b, RW x h0 ht' ty' ft) ∧ (b = 0 ∨ b = 1) := by
  obtain ⟨hF, e1, e2, e3⟩ := E
  have k5 : ∀ ht ty ft, zk (RW x h0 ht ty ft) (x + 5) = 5 := fun _ _ _ => hF.1.2.2.2.2.2.1
  have k6 : ∀ ht ty ft, zk (RW x h0 ht ty ft) (x + 6) = 100 := fun _ _ _ => hF.1.2.2.2.2.2.2.1
  have r5 : zr h0 4 0 (x + 5) = some (x + 6) := hF.2.1.2.2.2.2.2.2.2.1
  have l6 : zl h0 (x + 6) = 12 := hF.2.2.2.2
  have i1 : zi (RW x h0 ht ty ft) 4 1 (x + 5) = nI L := by rw [zi_RWo (by omega) (by omega)]; exact e1
  have i2 : zi (RW x h0 ht ty ft) 4 2 (x + 5) = nI P := by rw [zi_RWo (by omega) (by omega)]; exact e2
  by_cases q1 : nI P ≤ ht
  · exact ⟨0, ht, ty, by simp only [fX4_put, gI_at, k5, i1, i2, zi_RW43, q1, obs, ↓reduceIte], Or.inl rfl⟩
  · by_cases q2 : nI L + ht < 0
    · exact ⟨0, ht, ty, by simp only [fX4_put, gI_at, k5, i1, i2, zi_RW43, q1, q2, obs, ↓reduceIte], Or.inl rfl⟩
    · by_cases q3 : nI L + ht < 12
      · obtain ⟨k, hk, ek⟩ := nI_of q2
        have hk12 : k < 12 := by
          rw [ek] at q3
          have q4 : nI k < nI 12 := q3
          rw [nI_ltI hk (by decide)] at q4; exact q4
        have s1 := sI_at (v := v) (h := RW x h0 ht ty ft) 12 (k6 ht ty ft) l6 hk12 (by decide)
        rw [RW_t] at s1
        refine ⟨1, ht + 1, fun j => if j = k then v else ty j, ?_, Or.inr rfl⟩
        rw [ek] at q2 q3
        simp only [fX4_put, gI_at, gR_at, pI_at, k5, i1, i2, zi_RW43, zr_RW, r5, ek, q1, q2, q3, s1, RW_h, obs, ↓reduceIte]
      · exact ⟨0, ht, ty, by simp only [fX4_put, gI_at, k5, i1, i2, zi_RW43, q1, q2, q3, obs, ↓reduceIte], Or.inl rfl⟩
theorem put4_at (E : RE x h0 L P) {r : Row} {ft v : Int32} (hr : r.1 ≤ P) : (∃ r', psh L P v r = some r' ∧ fX4_put (some (x + 5)) v (RW x h0 (nI r.1) r.2 ft) = some (1, RW x h0 (nI r'.1) r'.2 ft)) ∨ (psh L P v r = none ∧ fX4_put (some (x + 5)) v (RW x h0 (nI r.1) r.2 ft) = some (0, RW x h0 (nI r.1) r.2 ft)) := by
  obtain ⟨hF, e1, e2, e3⟩ := E
  have k5 : ∀ ht ty ft, zk (RW x h0 ht ty ft) (x + 5) = 5 := fun _ _ _ => hF.1.2.2.2.2.2.1
  have k6 : ∀ ht ty ft, zk (RW x h0 ht ty ft) (x + 6) = 100 := fun _ _ _ => hF.1.2.2.2.2.2.2.1
  have r5 : zr h0 4 0 (x + 5) = some (x + 6) := hF.2.1.2.2.2.2.2.2.2.1
  have l6 : zl h0 (x + 6) = 12 := hF.2.2.2.2
  have i1 : zi (RW x h0 (nI r.1) r.2 ft) 4 1 (x + 5) = nI L := by rw [zi_RWo (by omega) (by omega)]; exact e1
  have i2 : zi (RW x h0 (nI r.1) r.2 ft) 4 2 (x + 5) = nI P := by rw [zi_RWo (by omega) (by omega)]; exact e2
  unfold psh
  by_cases q : r.1 < P
  · rw [if_pos q]
    refine Or.inl ⟨_, rfl, ?_⟩
    have q1 : ¬ nI P ≤ nI r.1 := nI_ge q (by omega)
    have q2 : ¬ nI (L + r.1) < 0 := nlt0 (by omega)
    have q3 : nI (L + r.1) < 12 := @nI_lt (L + r.1) 12 (by omega) (by decide)
    have s1 := sI_at (v := v) (i := L + r.1) (h := RW x h0 (nI r.1) r.2 ft) 12 (k6 _ _ ft) l6 (by omega) (by decide)
    rw [RW_t] at s1
    simp only [fX4_put, gI_at, gR_at, pI_at, k5, i1, i2, zi_RW43, zr_RW, r5, nI_add, q1, q2, q3, s1, RW_h, nI_1, obs, ↓reduceIte]
  · rw [if_neg q]
    have q1 : nI P ≤ nI r.1 := nI_le (by omega) (by omega)
    refine Or.inr ⟨rfl, ?_⟩
    simp only [fX4_put, gI_at, k5, i1, i2, zi_RW43, q1, obs, ↓reduceIte]
theorem putJ (E : RE x h0 L P) {o : Option Row} (j : JC x h0 L P n o h) {v : Int32} (hv : o ≠ none → vT n v) : ∃ h', fX5_put (some (x + 7)) v h = some h' ∧ JC x h0 L P n (o.bind (psh L P v)) h' := by
  have hF := E.1
  have k7 : ∀ ht ty ft, zk (RW x h0 ht ty ft) (x + 7) = 6 := fun _ _ _ => hF.1.2.2.2.2.2.2.2
  have k5 : ∀ ht ty ft, zk (RW x h0 ht ty ft) (x + 5) = 5 := fun _ _ _ => hF.1.2.2.2.2.2.1
  have r7 : zr h0 5 1 (x + 7) = some (x + 5) := hF.2.1.2.2.2.2.2.2.2.2.2
  have hz : zk h (x + 7) = 6 := (j.k _).trans hF.1.2.2.2.2.2.2.2
  have hz5 : zk h (x + 5) = 5 := (j.k _).trans hF.1.2.2.2.2.2.1
  have hr7 : zr h 5 1 (x + 7) = some (x + 5) := (j.r _ _ _).trans r7
  cases o with
  | none =>
    obtain ⟨ht, ty, rfl⟩ := j
    obtain ⟨b, ht', ty', e, hb⟩ := put4 E (ht := ht) (ty := ty) (ft := 0) (v := v)
    obtain ⟨h', e', j'⟩ := needJ (n := n) E (o := none) (h := RW x h0 ht' ty' 0) ⟨ht', ty', rfl⟩ hb
    refine ⟨h', ?_, ?_⟩
    · simp only [fX5_put, gR_at, rc_at, hz, hz5, hr7, k7, e, e', obs]
    · rcases hb with rfl | rfl
      · rw [if_pos rfl] at j'; exact j'
      · rw [if_neg n10] at j'; exact j'
  | some r =>
    obtain ⟨ok, rfl⟩ := j
    rcases put4_at E (r := r) (ft := 1) (v := v) ok.1 with ⟨r', e1, e2⟩ | ⟨e1, e2⟩
    · obtain ⟨h', e', j'⟩ := needJ (n := n) E (o := some r') (h := RW x h0 (nI r'.1) r'.2 1) ⟨ok.psh (hv (by simp)) e1, rfl⟩ (b := 1) (Or.inr rfl)
      refine ⟨h', ?_, ?_⟩
      · simp only [fX5_put, gR_at, rc_at, hz, hz5, hr7, k7, e2, e', obs]
      · rw [if_neg n10] at j'
        rw [obs, e1]; exact j'
    · obtain ⟨h', e', j'⟩ := needJ (n := n) E (o := some r) (h := RW x h0 (nI r.1) r.2 1) ⟨ok, rfl⟩ (b := 0) (Or.inl rfl)
      refine ⟨h', ?_, ?_⟩
      · simp only [fX5_put, gR_at, rc_at, hz, hz5, hr7, k7, e2, e', obs]
      · rw [if_pos rfl] at j'
        rw [obs, e1]; exact j'
theorem takeJ (E : RE x h0 L P) (hn : n ≤ 32) {o : Option Row} (j : JC x h0 L P n o h) : ∃ v h', fX5_take (some (x + 7)) h = some (v, h') ∧ JC x h0 L P n ((o.bind (pp L)).map Prod.snd) h' ∧ ∀ q, o.bind (pp L) = some q → v = q.1 ∧ vT n q.1 := by
  have hF := E.1
  obtain ⟨-, e1, e2, e3⟩ := E
  have k7 : ∀ ht ty ft, zk (RW x h0 ht ty ft) (x + 7) = 6 := fun _ _ _ => hF.1.2.2.2.2.2.2.2
  have k5 : ∀ ht ty ft, zk (RW x h0 ht ty ft) (x + 5) = 5 := fun _ _ _ => hF.1.2.2.2.2.2.1
  have k6 : ∀ ht ty ft, zk (RW x h0 ht ty ft) (x + 6) = 100 := fun _ _ _ => hF.1.2.2.2.2.2.2.1
  have r7 : ∀ ht ty ft, zr (RW x h0 ht ty ft) 5 1 (x + 7) = some (x + 5) := fun _ _ _ => hF.2.1.2.2.2.2.2.2.2.2.2
  have r5 : ∀ ht ty ft, zr (RW x h0 ht ty ft) 4 0 (x + 5) = some (x + 6) := fun _ _ _ => hF.2.1.2.2.2.2.2.2.2.1
  have l6 : ∀ ht ty ft, zl (RW x h0 ht ty ft) (x + 6) = 12 := fun _ _ _ => hF.2.2.2.2
  have i1 : ∀ ht ty ft, zi (RW x h0 ht ty ft) 4 1 (x + 5) = nI L := fun _ _ _ => by rw [zi_RWo (by omega) (by omega)]; exact e1
  -- whatever placeAt gives
  have any : ∀ (ht : Int32) (ty : Nat → Int32) (ft u : Int32), ∃ v, fX4_placeAt (some (x + 5)) u (RW x h0 ht ty ft) = some (v, RW x h0 ht ty ft) := by
    intro ht ty ft u
    unfold fX4_placeAt
    by_cases q1 : u < 0
    · exact ⟨-1, by rw [if_pos q1]⟩
    · rw [if_neg q1, gI_at (k5 _ _ _), obs]
      by_cases q2 : u < zi (RW x h0 ht ty ft) 4 3 (x + 5)
      · rw [if_pos q2, gI_at (k5 _ _ _), obs]
        by_cases q3 : zi (RW x h0 ht ty ft) 4 1 (x + 5) + u < 0
        · exact ⟨-1, by rw [if_pos q3]⟩
        · rw [if_neg q3]
          by_cases q4 : 12 ≤ zi (RW x h0 ht ty ft) 4 1 (x + 5) + u
          · exact ⟨-1, by rw [if_pos q4]⟩
          · rw [if_neg q4, gR_at (k5 _ _ _), obs, r5]
            obtain ⟨k, hk, ek⟩ := nI_of q3
            rw [ek] at q4 ⊢
            have q5 : ¬ nI 12 ≤ nI k := q4
            rw [nI_leI (by decide) hk] at q5
            exact ⟨_, by rw [aI_at 12 (k6 _ _ _) (l6 _ _ _) (by omega) (by decide), obs]⟩
      · exact ⟨-1, by rw [if_neg q2]⟩
  cases o with
  | none =>
    obtain ⟨ht, ty, rfl⟩ := j
    obtain ⟨v, ev⟩ := any ht ty 0 (ht - 1)
    by_cases q : v = -1
    · refine ⟨v, RW x h0 ht ty 0, ?_, ⟨ht, ty, rfl⟩, fun q h => by cases h⟩
      simp only [fX5_take, gR_at, gI_at, rc_at, k7, k5, r7, zi_RW43, ev, q, pZ0_at, RW_f, obs, ↓reduceIte]
    · refine ⟨v, RW x h0 (ht - 1) ty 0, ?_, ⟨ht - 1, ty, rfl⟩, fun q h => by cases h⟩
      simp only [fX5_take, gR_at, gI_at, rc_at, pI_at, k7, k5, r7, zi_RW43, ev, q, RW_h, obs, ↓reduceIte]
  | some r =>
    obtain ⟨ok, rfl⟩ := j
    have okp := ok.1
    rw [obs]
    by_cases q : 0 < r.1
    · have ep : pp L r = some (r.2 (L + (r.1 - 1)), (r.1 - 1, r.2)) := by unfold pp; rw [if_pos q]
      have hv := (ok.pp ep).2
      have hne := vT_ne hn hv
      have e43 : zi (RW x h0 (nI r.1) r.2 1) 4 3 (x + 5) - 1 = nI (r.1 - 1) := by
        rw [zi_RW43, show r.1 = (r.1 - 1) + 1 by omega, nI_pred, Nat.add_sub_cancel]
      have pl : fX4_placeAt (some (x + 5)) (nI (r.1 - 1)) (RW x h0 (nI r.1) r.2 1) = some (r.2 (L + (r.1 - 1)), RW x h0 (nI r.1) r.2 1) := by
        unfold fX4_placeAt
        rw [if_neg (nlt0 (by omega)), gI_at (k5 _ _ _), obs, zi_RW43, if_pos (nI_lt (by omega) (by omega)), gI_at (k5 _ _ _), obs, i1, nI_add, if_neg (nlt0 (by omega)), if_neg (show ¬ (12 : Int32) ≤ nI (L + (r.1 - 1)) from @nI_ge (L + (r.1 - 1)) 12 (by omega) (by decide)), gR_at (k5 _ _ _), obs, r5, aI_at 12 (k6 _ _ _) (l6 _ _ _) (by omega) (by decide), obs, za_RW6]
      refine ⟨r.2 (L + (r.1 - 1)), RW x h0 (nI (r.1 - 1)) r.2 1, ?_, ?_, fun q h => ?_⟩
      · simp only [fX5_take, gR_at, gI_at, rc_at, pI_at, k7, k5, r7, e43, pl, hne, RW_h, obs, ↓reduceIte]
      · rw [ep]; exact ⟨(ok.pp ep).1, rfl⟩
      · rw [ep] at h; cases h; exact ⟨rfl, hv⟩
    · have ep : pp L r = none := by unfold pp; rw [if_neg q]
      have e43 : zi (RW x h0 (nI r.1) r.2 1) 4 3 (x + 5) - 1 = -1 := by
        rw [zi_RW43, show r.1 = 0 by omega]; rfl
      have pl : fX4_placeAt (some (x + 5)) (-1) (RW x h0 (nI r.1) r.2 1) = some (-1, RW x h0 (nI r.1) r.2 1) := by
        unfold fX4_placeAt
        rw [if_pos m1neg]
      refine ⟨-1, RW x h0 (nI r.1) r.2 0, ?_, ?_, fun q h => ?_⟩
      · simp only [fX5_take, gR_at, gI_at, rc_at, k7, k5, r7, e43, pl, pZ0_at, RW_f, obs, ↓reduceIte]
      · rw [ep]; exact ⟨_, _, rfl⟩
      · rw [ep] at h; cases h
end
