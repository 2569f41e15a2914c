/-! The reference: its object at m, its arrays behind it; they hold tau (column = the field's number, then the place). By program (wip/whole/tools/mkmodel.py). -/
def mcols : List (Nat × Nat × Nat × Nat) := [(1, 1, 100, 32), (2, 2, 101, 32), (3, 3, 100, 32), (4, 4, 100, 480), (5, 5, 100, 512), (7, 6, 100, 64), (8, 7, 100, 64), (9, 8, 100, 64), (10, 9, 100, 64), (11, 10, 100, 64), (12, 11, 100, 512), (13, 12, 101, 64), (14, 13, 100, 64), (15, 14, 100, 12800), (16, 15, 100, 12800), (17, 16, 100, 12800), (18, 17, 100, 64), (19, 18, 100, 512), (20, 19, 100, 512), (21, 20, 100, 512), (22, 21, 100, 512), (23, 22, 101, 64), (24, 23, 100, 12800), (25, 24, 100, 153600), (26, 25, 101, 200), (28, 26, 100, 12)]
def mscal : List Nat := [0, 6, 27, 29, 30, 31]
theorem mcols_in : ∀ q ∈ mcols, 1 ≤ q.2.1 ∧ q.2.1 < 27 ∧ q.2.2.2 < 2 ^ 31 := by decide
theorem mcols_inj : ∀ q ∈ mcols, ∀ q' ∈ mcols, (q.1 = q'.1 → q = q') ∧ (q.2.1 = q'.2.1 → q = q') := by decide
theorem mscal_ne : ∀ c ∈ mscal, ∀ q ∈ mcols, c ≠ q.1 := by decide
def RM (τ : Nat → Nat → Int32) (m : Nat) (h : zH) : Prop := zk h m = 10 ∧ (∀ q ∈ mcols, zr h 9 q.1 m = some (m + q.2.1) ∧ zk h (m + q.2.1) = q.2.2.1 ∧ zl h (m + q.2.1) = q.2.2.2 ∧ ∀ i, i < q.2.2.2 → za h (m + q.2.1) i = τ q.1 i) ∧ ∀ c ∈ mscal, zi h 9 c m = τ c 0
theorem RM.ag {τ : Nat → Nat → Int32} {m : Nat} {h h' : zH} (p : RM τ m h) (q : ∀ b, m ≤ b → b < m + 27 → ag h h' b) : RM τ m h' := by
  obtain ⟨p0, p1, p2⟩ := p
  have q0 := q m (Nat.le_refl _) (by omega)
  refine ⟨q0.k.trans p0, fun t ht => ?_, fun c hc => (q0.i 9 c).trans (p2 c hc)⟩
  obtain ⟨a1, a2, a3, a4⟩ := p1 t ht
  have hb := mcols_in t ht
  have q1 := q (m + t.2.1) (by omega) (by omega)
  exact ⟨(q0.r 9 t.1).trans a1, q1.k.trans a2, q1.l.trans a3, fun i hi => (q1.a i).trans (a4 i hi)⟩
theorem RM.sta {τ : Nat → Nat → Int32} {m : Nat} {h : zH} (p : RM τ m h) {t : Nat × Nat × Nat × Nat} (ht : t ∈ mcols) (i : Nat) (v : Int32) : RM (u2 τ t.1 i v) m (sta (m + t.2.1) i v h) := by
  obtain ⟨p0, p1, p2⟩ := p
  refine ⟨p0, fun t' ht' => ?_, fun c hc => ?_⟩
  · obtain ⟨a1, a2, a3, a4⟩ := p1 t' ht'
    refine ⟨a1, a2, a3, fun j hj => ?_⟩
    rw [za_sta, u2_at]
    have hi := mcols_inj t ht t' ht'
    by_cases e : t = t'
    · subst e
      by_cases e2 : j = i
      · rw [if_pos ⟨rfl, e2⟩, if_pos ⟨rfl, e2⟩]
      · rw [if_neg (fun q => e2 q.2), if_neg (fun q => e2 q.2)]; exact a4 j hj
    · rw [if_neg (fun q => e (hi.2 (by omega))), if_neg (fun q => e (hi.1 q.1.symm))]; exact a4 j hj
  · rw [u2_at, if_neg (fun q => mscal_ne c hc t ht q.1)]; exact p2 c hc
theorem RM.sti {τ : Nat → Nat → Int32} {m : Nat} {h : zH} (p : RM τ m h) {c : Nat} (hc : c ∈ mscal) (v : Int32) : RM (u2 τ c 0 v) m (sti 9 c m v h) := by
  obtain ⟨p0, p1, p2⟩ := p
  refine ⟨p0, fun t' ht' => ?_, fun c' hc' => ?_⟩
  · obtain ⟨a1, a2, a3, a4⟩ := p1 t' ht'
    refine ⟨a1, a2, a3, fun j hj => ?_⟩
    rw [u2_at, if_neg (fun q => mscal_ne c hc t' ht' q.1.symm)]; exact a4 j hj
  · rw [zi_sti, u2_at]
    by_cases e : c' = c
    · rw [if_pos ⟨rfl, e, rfl⟩, if_pos ⟨e, rfl⟩]
    · rw [if_neg (fun q => e q.2.1), if_neg (fun q => e q.1)]; exact p2 c' hc'
section
variable {τ : Nat → Nat → Int32} {m : Nat} {h : zH}
theorem rcM (p : RM τ m h) : rc 9 (some m) h = some m := rc_at p.1
theorem gRM1 (p : RM τ m h) : gR 9 1 (some m) h = some (some (m + 1)) := by rw [gR_at p.1, (p.2.1 (1, 1, 100, 32) (List.mem_of_getElem? (l := mcols) (i := 0) rfl)).1]
theorem aM1 (p : RM τ m h) {i : Nat} (hi : i < 32) : aI 100 (some (m + 1)) (nI i) h = some (τ 1 i) := by
  obtain ⟨a1, a2, a3, a4⟩ := p.2.1 (1, 1, 100, 32) (List.mem_of_getElem? (l := mcols) (i := 0) rfl)
  rw [aI_at 32 a2 a3 hi (by decide), a4 i hi]
theorem sM1 (p : RM τ m h) {i : Nat} (hi : i < 32) (v : Int32) : sI (some (m + 1)) (nI i) v h = some (sta (m + 1) i v h) ∧ RM (u2 τ 1 i v) m (sta (m + 1) i v h) := by
  obtain ⟨a1, a2, a3, a4⟩ := p.2.1 (1, 1, 100, 32) (List.mem_of_getElem? (l := mcols) (i := 0) rfl)
  exact ⟨sI_at 32 a2 a3 hi (by decide), p.sta (t := (1, 1, 100, 32)) (List.mem_of_getElem? (l := mcols) (i := 0) rfl) i v⟩
theorem gRM2 (p : RM τ m h) : gR 9 2 (some m) h = some (some (m + 2)) := by rw [gR_at p.1, (p.2.1 (2, 2, 101, 32) (List.mem_of_getElem? (l := mcols) (i := 1) rfl)).1]
theorem aM2 (p : RM τ m h) {i : Nat} (hi : i < 32) : aI 101 (some (m + 2)) (nI i) h = some (τ 2 i) := by
  obtain ⟨a1, a2, a3, a4⟩ := p.2.1 (2, 2, 101, 32) (List.mem_of_getElem? (l := mcols) (i := 1) rfl)
  rw [aI_at 32 a2 a3 hi (by decide), a4 i hi]
theorem sM2 (p : RM τ m h) {i : Nat} (hi : i < 32) {v : Int32} (hv : v = 0 ∨ v = 1) : sZ (some (m + 2)) (nI i) v h = some (sta (m + 2) i v h) ∧ RM (u2 τ 2 i v) m (sta (m + 2) i v h) := by
  obtain ⟨a1, a2, a3, a4⟩ := p.2.1 (2, 2, 101, 32) (List.mem_of_getElem? (l := mcols) (i := 1) rfl)
  exact ⟨sZ_at 32 a2 a3 hi (by decide) hv, p.sta (t := (2, 2, 101, 32)) (List.mem_of_getElem? (l := mcols) (i := 1) rfl) i v⟩
theorem gRM3 (p : RM τ m h) : gR 9 3 (some m) h = some (some (m + 3)) := by rw [gR_at p.1, (p.2.1 (3, 3, 100, 32) (List.mem_of_getElem? (l := mcols) (i := 2) rfl)).1]
theorem aM3 (p : RM τ m h) {i : Nat} (hi : i < 32) : aI 100 (some (m + 3)) (nI i) h = some (τ 3 i) := by
  obtain ⟨a1, a2, a3, a4⟩ := p.2.1 (3, 3, 100, 32) (List.mem_of_getElem? (l := mcols) (i := 2) rfl)
  rw [aI_at 32 a2 a3 hi (by decide), a4 i hi]
theorem sM3 (p : RM τ m h) {i : Nat} (hi : i < 32) (v : Int32) : sI (some (m + 3)) (nI i) v h = some (sta (m + 3) i v h) ∧ RM (u2 τ 3 i v) m (sta (m + 3) i v h) := by
  obtain ⟨a1, a2, a3, a4⟩ := p.2.1 (3, 3, 100, 32) (List.mem_of_getElem? (l := mcols) (i := 2) rfl)
  exact ⟨sI_at 32 a2 a3 hi (by decide), p.sta (t := (3, 3, 100, 32)) (List.mem_of_getElem? (l := mcols) (i := 2) rfl) i v⟩
theorem gRM4 (p : RM τ m h) : gR 9 4 (some m) h = some (some (m + 4)) := by rw [gR_at p.1, (p.2.1 (4, 4, 100, 480) (List.mem_of_getElem? (l := mcols) (i := 3) rfl)).1]
theorem aM4 (p : RM τ m h) {i : Nat} (hi : i < 480) : aI 100 (some (m + 4)) (nI i) h = some (τ 4 i) := by
  obtain ⟨a1, a2, a3, a4⟩ := p.2.1 (4, 4, 100, 480) (List.mem_of_getElem? (l := mcols) (i := 3) rfl)
  rw [aI_at 480 a2 a3 hi (by decide), a4 i hi]
theorem sM4 (p : RM τ m h) {i : Nat} (hi : i < 480) (v : Int32) : sI (some (m + 4)) (nI i) v h = some (sta (m + 4) i v h) ∧ RM (u2 τ 4 i v) m (sta (m + 4) i v h) := by
  obtain ⟨a1, a2, a3, a4⟩ := p.2.1 (4, 4, 100, 480) (List.mem_of_getElem? (l := mcols) (i := 3) rfl)
  exact ⟨sI_at 480 a2 a3 hi (by decide), p.sta (t := (4, 4, 100, 480)) (List.mem_of_getElem? (l := mcols) (i := 3) rfl) i v⟩
theorem gRM5 (p : RM τ m h) : gR 9 5 (some m) h = some (some (m + 5)) := by rw [gR_at p.1, (p.2.1 (5, 5, 100, 512) (List.mem_of_getElem? (l := mcols) (i := 4) rfl)).1]
theorem aM5 (p : RM τ m h) {i : Nat} (hi : i < 512) : aI 100 (some (m + 5)) (nI i) h = some (τ 5 i) := by
  obtain ⟨a1, a2, a3, a4⟩ := p.2.1 (5, 5, 100, 512) (List.mem_of_getElem? (l := mcols) (i := 4) rfl)
  rw [aI_at 512 a2 a3 hi (by decide), a4 i hi]
theorem sM5 (p : RM τ m h) {i : Nat} (hi : i < 512) (v : Int32) : sI (some (m + 5)) (nI i) v h = some (sta (m + 5) i v h) ∧ RM (u2 τ 5 i v) m (sta (m + 5) i v h) := by
  obtain ⟨a1, a2, a3, a4⟩ := p.2.1 (5, 5, 100, 512) (List.mem_of_getElem? (l := mcols) (i := 4) rfl)
  exact ⟨sI_at 512 a2 a3 hi (by decide), p.sta (t := (5, 5, 100, 512)) (List.mem_of_getElem? (l := mcols) (i := 4) rfl) i v⟩
theorem gRM7 (p : RM τ m h) : gR 9 7 (some m) h = some (some (m + 6)) := by rw [gR_at p.1, (p.2.1 (7, 6, 100, 64) (List.mem_of_getElem? (l := mcols) (i := 5) rfl)).1]
theorem aM7 (p : RM τ m h) {i : Nat} (hi : i < 64) : aI 100 (some (m + 6)) (nI i) h = some (τ 7 i) := by
  obtain ⟨a1, a2, a3, a4⟩ := p.2.1 (7, 6, 100, 64) (List.mem_of_getElem? (l := mcols) (i := 5) rfl)
  rw [aI_at 64 a2 a3 hi (by decide), a4 i hi]
theorem sM7 (p : RM τ m h) {i : Nat} (hi : i < 64) (v : Int32) : sI (some (m + 6)) (nI i) v h = some (sta (m + 6) i v h) ∧ RM (u2 τ 7 i v) m (sta (m + 6) i v h) := by
  obtain ⟨a1, a2, a3, a4⟩ := p.2.1 (7, 6, 100, 64) (List.mem_of_getElem? (l := mcols) (i := 5) rfl)
  exact ⟨sI_at 64 a2 a3 hi (by decide), p.sta (t := (7, 6, 100, 64)) (List.mem_of_getElem? (l := mcols) (i := 5) rfl) i v⟩
theorem gRM8 (p : RM τ m h) : gR 9 8 (some m) h = some (some (m + 7)) := by rw [gR_at p.1, (p.2.1 (8, 7, 100, 64) (List.mem_of_getElem? (l := mcols) (i := 6) rfl)).1]
theorem aM8 (p : RM τ m h) {i : Nat} (hi : i < 64) : aI 100 (some (m + 7)) (nI i) h = some (τ 8 i) := by
  obtain ⟨a1, a2, a3, a4⟩ := p.2.1 (8, 7, 100, 64) (List.mem_of_getElem? (l := mcols) (i := 6) rfl)
  rw [aI_at 64 a2 a3 hi (by decide), a4 i hi]
theorem sM8 (p : RM τ m h) {i : Nat} (hi : i < 64) (v : Int32) : sI (some (m + 7)) (nI i) v h = some (sta (m + 7) i v h) ∧ RM (u2 τ 8 i v) m (sta (m + 7) i v h) := by
  obtain ⟨a1, a2, a3, a4⟩ := p.2.1 (8, 7, 100, 64) (List.mem_of_getElem? (l := mcols) (i := 6) rfl)
  exact ⟨sI_at 64 a2 a3 hi (by decide), p.sta (t := (8, 7, 100, 64)) (List.mem_of_getElem? (l := mcols) (i := 6) rfl) i v⟩
theorem gRM9 (p : RM τ m h) : gR 9 9 (some m) h = some (some (m + 8)) := by rw [gR_at p.1, (p.2.1 (9, 8, 100, 64) (List.mem_of_getElem? (l := mcols) (i := 7) rfl)).1]
theorem aM9 (p : RM τ m h) {i : Nat} (hi : i < 64) : aI 100 (some (m + 8)) (nI i) h = some (τ 9 i) := by
  obtain ⟨a1, a2, a3, a4⟩ := p.2.1 (9, 8, 100, 64) (List.mem_of_getElem? (l := mcols) (i := 7) rfl)
  rw [aI_at 64 a2 a3 hi (by decide), a4 i hi]
theorem sM9 (p : RM τ m h) {i : Nat} (hi : i < 64) (v : Int32) : sI (some (m + 8)) (nI i) v h = some (sta (m + 8) i v h) ∧ RM (u2 τ 9 i v) m (sta (m + 8) i v h) := by
  obtain ⟨a1, a2, a3, a4⟩ := p.2.1 (9, 8, 100, 64) (List.mem_of_getElem? (l := mcols) (i := 7) rfl)
  exact ⟨sI_at 64 a2 a3 hi (by decide), p.sta (t := (9, 8, 100, 64)) (List.mem_of_getElem? (l := mcols) (i := 7) rfl) i v⟩
theorem gRM10 (p : RM τ m h) : gR 9 10 (some m) h = some (some (m + 9)) := by rw [gR_at p.1, (p.2.1 (10, 9, 100, 64) (List.mem_of_getElem? (l := mcols) (i := 8) rfl)).1]
theorem aM10 (p : RM τ m h) {i : Nat} (hi : i < 64) : aI 100 (some (m + 9)) (nI i) h = some (τ 10 i) := by
  obtain ⟨a1, a2, a3, a4⟩ := p.2.1 (10, 9, 100, 64) (List.mem_of_getElem? (l := mcols) (i := 8) rfl)
  rw [aI_at 64 a2 a3 hi (by decide), a4 i hi]
theorem sM10 (p : RM τ m h) {i : Nat} (hi : i < 64) (v : Int32) : sI (some (m + 9)) (nI i) v h = some (sta (m + 9) i v h) ∧ RM (u2 τ 10 i v) m (sta (m + 9) i v h) := by
  obtain ⟨a1, a2, a3, a4⟩ := p.2.1 (10, 9, 100, 64) (List.mem_of_getElem? (l := mcols) (i := 8) rfl)
  exact ⟨sI_at 64 a2 a3 hi (by decide), p.sta (t := (10, 9, 100, 64)) (List.mem_of_getElem? (l := mcols) (i := 8) rfl) i v⟩
theorem gRM11 (p : RM τ m h) : gR 9 11 (some m) h = some (some (m + 10)) := by rw [gR_at p.1, (p.2.1 (11, 10, 100, 64) (List.mem_of_getElem? (l := mcols) (i := 9) rfl)).1]
theorem aM11 (p : RM τ m h) {i : Nat} (hi : i < 64) : aI 100 (some (m + 10)) (nI i) h = some (τ 11 i) := by
  obtain ⟨a1, a2, a3, a4⟩ := p.2.1 (11, 10, 100, 64) (List.mem_of_getElem? (l := mcols) (i := 9) rfl)
  rw [aI_at 64 a2 a3 hi (by decide), a4 i hi]
theorem sM11 (p : RM τ m h) {i : Nat} (hi : i < 64) (v : Int32) : sI (some (m + 10)) (nI i) v h = some (sta (m + 10) i v h) ∧ RM (u2 τ 11 i v) m (sta (m + 10) i v h) := by
  obtain ⟨a1, a2, a3, a4⟩ := p.2.1 (11, 10, 100, 64) (List.mem_of_getElem? (l := mcols) (i := 9) rfl)
  exact ⟨sI_at 64 a2 a3 hi (by decide), p.sta (t := (11, 10, 100, 64)) (List.mem_of_getElem? (l := mcols) (i := 9) rfl) i v⟩
theorem gRM12 (p : RM τ m h) : gR 9 12 (some m) h = some (some (m + 11)) := by rw [gR_at p.1, (p.2.1 (12, 11, 100, 512) (List.mem_of_getElem? (l := mcols) (i := 10) rfl)).1]
theorem aM12 (p : RM τ m h) {i : Nat} (hi : i < 512) : aI 100 (some (m + 11)) (nI i) h = some (τ 12 i) := by
  obtain ⟨a1, a2, a3, a4⟩ := p.2.1 (12, 11, 100, 512) (List.mem_of_getElem? (l := mcols) (i := 10) rfl)
  rw [aI_at 512 a2 a3 hi (by decide), a4 i hi]
theorem sM12 (p : RM τ m h) {i : Nat} (hi : i < 512) (v : Int32) : sI (some (m + 11)) (nI i) v h = some (sta (m + 11) i v h) ∧ RM (u2 τ 12 i v) m (sta (m + 11) i v h) := by
  obtain ⟨a1, a2, a3, a4⟩ := p.2.1 (12, 11, 100, 512) (List.mem_of_getElem? (l := mcols) (i := 10) rfl)
  exact ⟨sI_at 512 a2 a3 hi (by decide), p.sta (t := (12, 11, 100, 512)) (List.mem_of_getElem? (l := mcols) (i := 10) rfl) i v⟩
theorem gRM13 (p : RM τ m h) : gR 9 13 (some m) h = some (some (m + 12)) := by rw [gR_at p.1, (p.2.1 (13, 12, 101, 64) (List.mem_of_getElem? (l := mcols) (i := 11) rfl)).1]
theorem aM13 (p : RM τ m h) {i : Nat} (hi : i < 64) : aI 101 (some (m + 12)) (nI i) h = some (τ 13 i) := by
  obtain ⟨a1, a2, a3, a4⟩ := p.2.1 (13, 12, 101, 64) (List.mem_of_getElem? (l := mcols) (i := 11) rfl)
  rw [aI_at 64 a2 a3 hi (by decide), a4 i hi]
theorem sM13 (p : RM τ m h) {i : Nat} (hi : i < 64) {v : Int32} (hv : v = 0 ∨ v = 1) : sZ (some (m + 12)) (nI i) v h = some (sta (m + 12) i v h) ∧ RM (u2 τ 13 i v) m (sta (m + 12) i v h) := by
  obtain ⟨a1, a2, a3, a4⟩ := p.2.1 (13, 12, 101, 64) (List.mem_of_getElem? (l := mcols) (i := 11) rfl)
  exact ⟨sZ_at 64 a2 a3 hi (by decide) hv, p.sta (t := (13, 12, 101, 64)) (List.mem_of_getElem? (l := mcols) (i := 11) rfl) i v⟩
theorem gRM14 (p : RM τ m h) : gR 9 14 (some m) h = some (some (m + 13)) := by rw [gR_at p.1, (p.2.1 (14, 13, 100, 64) (List.mem_of_getElem? (l := mcols) (i := 12) rfl)).1]
theorem aM14 (p : RM τ m h) {i : Nat} (hi : i < 64) : aI 100 (some (m + 13)) (nI i) h = some (τ 14 i) := by
  obtain ⟨a1, a2, a3, a4⟩ := p.2.1 (14, 13, 100, 64) (List.mem_of_getElem? (l := mcols) (i := 12) rfl)
  rw [aI_at 64 a2 a3 hi (by decide), a4 i hi]
theorem sM14 (p : RM τ m h) {i : Nat} (hi : i < 64) (v : Int32) : sI (some (m + 13)) (nI i) v h = some (sta (m + 13) i v h) ∧ RM (u2 τ 14 i v) m (sta (m + 13) i v h) := by
  obtain ⟨a1, a2, a3, a4⟩ := p.2.1 (14, 13, 100, 64) (List.mem_of_getElem? (l := mcols) (i := 12) rfl)
  exact ⟨sI_at 64 a2 a3 hi (by decide), p.sta (t := (14, 13, 100, 64)) (List.mem_of_getElem? (l := mcols) (i := 12) rfl) i v⟩
theorem gRM15 (p : RM τ m h) : gR 9 15 (some m) h = some (some (m + 14)) := by rw [gR_at p.1, (p.2.1 (15, 14, 100, 12800) (List.mem_of_getElem? (l := mcols) (i := 13) rfl)).1]
theorem aM15 (p : RM τ m h) {i : Nat} (hi : i < 12800) : aI 100 (some (m + 14)) (nI i) h = some (τ 15 i) := by
  obtain ⟨a1, a2, a3, a4⟩ := p.2.1 (15, 14, 100, 12800) (List.mem_of_getElem? (l := mcols) (i := 13) rfl)
  rw [aI_at 12800 a2 a3 hi (by decide), a4 i hi]
theorem sM15 (p : RM τ m h) {i : Nat} (hi : i < 12800) (v : Int32) : sI (some (m + 14)) (nI i) v h = some (sta (m + 14) i v h) ∧ RM (u2 τ 15 i v) m (sta (m + 14) i v h) := by
  obtain ⟨a1, a2, a3, a4⟩ := p.2.1 (15, 14, 100, 12800) (List.mem_of_getElem? (l := mcols) (i := 13) rfl)
  exact ⟨sI_at 12800 a2 a3 hi (by decide), p.sta (t := (15, 14, 100, 12800)) (List.mem_of_getElem? (l := mcols) (i := 13) rfl) i v⟩
theorem gRM16 (p : RM τ m h) : gR 9 16 (some m) h = some (some (m + 15)) := by rw [gR_at p.1, (p.2.1 (16, 15, 100, 12800) (List.mem_of_getElem? (l := mcols) (i := 14) rfl)).1]
theorem aM16 (p : RM τ m h) {i : Nat} (hi : i < 12800) : aI 100 (some (m + 15)) (nI i) h = some (τ 16 i) := by
  obtain ⟨a1, a2, a3, a4⟩ := p.2.1 (16, 15, 100, 12800) (List.mem_of_getElem? (l := mcols) (i := 14) rfl)
  rw [aI_at 12800 a2 a3 hi (by decide), a4 i hi]
theorem sM16 (p : RM τ m h) {i : Nat} (hi : i < 12800) (v : Int32) : sI (some (m + 15)) (nI i) v h = some (sta (m + 15) i v h) ∧ RM (u2 τ 16 i v) m (sta (m + 15) i v h) := by
  obtain ⟨a1, a2, a3, a4⟩ := p.2.1 (16, 15, 100, 12800) (List.mem_of_getElem? (l := mcols) (i := 14) rfl)
  exact ⟨sI_at 12800 a2 a3 hi (by decide), p.sta (t := (16, 15, 100, 12800)) (List.mem_of_getElem? (l := mcols) (i := 14) rfl) i v⟩
theorem gRM17 (p : RM τ m h) : gR 9 17 (some m) h = some (some (m + 16)) := by rw [gR_at p.1, (p.2.1 (17, 16, 100, 12800) (List.mem_of_getElem? (l := mcols) (i := 15) rfl)).1]
theorem aM17 (p : RM τ m h) {i : Nat} (hi : i < 12800) : aI 100 (some (m + 16)) (nI i) h = some (τ 17 i) := by
  obtain ⟨a1, a2, a3, a4⟩ := p.2.1 (17, 16, 100, 12800) (List.mem_of_getElem? (l := mcols) (i := 15) rfl)
  rw [aI_at 12800 a2 a3 hi (by decide), a4 i hi]
theorem sM17 (p : RM τ m h) {i : Nat} (hi : i < 12800) (v : Int32) : sI (some (m + 16)) (nI i) v h = some (sta (m + 16) i v h) ∧ RM (u2 τ 17 i v) m (sta (m + 16) i v h) := by
  obtain ⟨a1, a2, a3, a4⟩ := p.2.1 (17, 16, 100, 12800) (List.mem_of_getElem? (l := mcols) (i := 15) rfl)
  exact ⟨sI_at 12800 a2 a3 hi (by decide), p.sta (t := (17, 16, 100, 12800)) (List.mem_of_getElem? (l := mcols) (i := 15) rfl) i v⟩
theorem gRM18 (p : RM τ m h) : gR 9 18 (some m) h = some (some (m + 17)) := by rw [gR_at p.1, (p.2.1 (18, 17, 100, 64) (List.mem_of_getElem? (l := mcols) (i := 16) rfl)).1]
theorem aM18 (p : RM τ m h) {i : Nat} (hi : i < 64) : aI 100 (some (m + 17)) (nI i) h = some (τ 18 i) := by
  obtain ⟨a1, a2, a3, a4⟩ := p.2.1 (18, 17, 100, 64) (List.mem_of_getElem? (l := mcols) (i := 16) rfl)
  rw [aI_at 64 a2 a3 hi (by decide), a4 i hi]
theorem sM18 (p : RM τ m h) {i : Nat} (hi : i < 64) (v : Int32) : sI (some (m + 17)) (nI i) v h = some (sta (m + 17) i v h) ∧ RM (u2 τ 18 i v) m (sta (m + 17) i v h) := by
  obtain ⟨a1, a2, a3, a4⟩ := p.2.1 (18, 17, 100, 64) (List.mem_of_getElem? (l := mcols) (i := 16) rfl)
  exact ⟨sI_at 64 a2 a3 hi (by decide), p.sta (t := (18, 17, 100, 64)) (List.mem_of_getElem? (l := mcols) (i := 16) rfl) i v⟩
theorem gRM19 (p : RM τ m h) : gR 9 19 (some m) h = some (some (m + 18)) := by rw [gR_at p.1, (p.2.1 (19, 18, 100, 512) (List.mem_of_getElem? (l := mcols) (i := 17) rfl)).1]
theorem aM19 (p : RM τ m h) {i : Nat} (hi : i < 512) : aI 100 (some (m + 18)) (nI i) h = some (τ 19 i) := by
  obtain ⟨a1, a2, a3, a4⟩ := p.2.1 (19, 18, 100, 512) (List.mem_of_getElem? (l := mcols) (i := 17) rfl)
  rw [aI_at 512 a2 a3 hi (by decide), a4 i hi]
theorem sM19 (p : RM τ m h) {i : Nat} (hi : i < 512) (v : Int32) : sI (some (m + 18)) (nI i) v h = some (sta (m + 18) i v h) ∧ RM (u2 τ 19 i v) m (sta (m + 18) i v h) := by
  obtain ⟨a1, a2, a3, a4⟩ := p.2.1 (19, 18, 100, 512) (List.mem_of_getElem? (l := mcols) (i := 17) rfl)
  exact ⟨sI_at 512 a2 a3 hi (by decide), p.sta (t := (19, 18, 100, 512)) (List.mem_of_getElem? (l := mcols) (i := 17) rfl) i v⟩
theorem gRM20 (p : RM τ m h) : gR 9 20 (some m) h = some (some (m + 19)) := by rw [gR_at p.1, (p.2.1 (20, 19, 100, 512) (List.mem_of_getElem? (l := mcols) (i := 18) rfl)).1]
theorem aM20 (p : RM τ m h) {i : Nat} (hi : i < 512) : aI 100 (some (m + 19)) (nI i) h = some (τ 20 i) := by
  obtain ⟨a1, a2, a3, a4⟩ := p.2.1 (20, 19, 100, 512) (List.mem_of_getElem? (l := mcols) (i := 18) rfl)
  rw [aI_at 512 a2 a3 hi (by decide), a4 i hi]
theorem sM20 (p : RM τ m h) {i : Nat} (hi : i < 512) (v : Int32) : sI (some (m + 19)) (nI i) v h = some (sta (m + 19) i v h) ∧ RM (u2 τ 20 i v) m (sta (m + 19) i v h) := by
  obtain ⟨a1, a2, a3, a4⟩ := p.2.1 (20, 19, 100, 512) (List.mem_of_getElem? (l := mcols) (i := 18) rfl)
  exact ⟨sI_at 512 a2 a3 hi (by decide), p.sta (t := (20, 19, 100, 512)) (List.mem_of_getElem? (l := mcols) (i := 18) rfl) i v⟩
theorem gRM21 (p : RM τ m h) : gR 9 21 (some m) h = some (some (m + 20)) := by rw [gR_at p.1, (p.2.1 (21, 20, 100, 512) (List.mem_of_getElem? (l := mcols) (i := 19) rfl)).1]
theorem aM21 (p : RM τ m h) {i : Nat} (hi : i < 512) : aI 100 (some (m + 20)) (nI i) h = some (τ 21 i) := by
  obtain ⟨a1, a2, a3, a4⟩ := p.2.1 (21, 20, 100, 512) (List.mem_of_getElem? (l := mcols) (i := 19) rfl)
  rw [aI_at 512 a2 a3 hi (by decide), a4 i hi]
theorem sM21 (p : RM τ m h) {i : Nat} (hi : i < 512) (v : Int32) : sI (some (m + 20)) (nI i) v h = some (sta (m + 20) i v h) ∧ RM (u2 τ 21 i v) m (sta (m + 20) i v h) := by
  obtain ⟨a1, a2, a3, a4⟩ := p.2.1 (21, 20, 100, 512) (List.mem_of_getElem? (l := mcols) (i := 19) rfl)
  exact ⟨sI_at 512 a2 a3 hi (by decide), p.sta (t := (21, 20, 100, 512)) (List.mem_of_getElem? (l := mcols) (i := 19) rfl) i v⟩
theorem gRM22 (p : RM τ m h) : gR 9 22 (some m) h = some (some (m + 21)) := by rw [gR_at p.1, (p.2.1 (22, 21, 100, 512) (List.mem_of_getElem? (l := mcols) (i := 20) rfl)).1]
theorem aM22 (p : RM τ m h) {i : Nat} (hi : i < 512) : aI 100 (some (m + 21)) (nI i) h = some (τ 22 i) := by
  obtain ⟨a1, a2, a3, a4⟩ := p.2.1 (22, 21, 100, 512) (List.mem_of_getElem? (l := mcols) (i := 20) rfl)
  rw [aI_at 512 a2 a3 hi (by decide), a4 i hi]
theorem sM22 (p : RM τ m h) {i : Nat} (hi : i < 512) (v : Int32) : sI (some (m + 21)) (nI i) v h = some (sta (m + 21) i v h) ∧ RM (u2 τ 22 i v) m (sta (m + 21) i v h) := by
  obtain ⟨a1, a2, a3, a4⟩ := p.2.1 (22, 21, 100, 512) (List.mem_of_getElem? (l := mcols) (i := 20) rfl)
  exact ⟨sI_at 512 a2 a3 hi (by decide), p.sta (t := (22, 21, 100, 512)) (List.mem_of_getElem? (l := mcols) (i := 20) rfl) i v⟩
theorem gRM23 (p : RM τ m h) : gR 9 23 (some m) h = some (some (m + 22)) := by rw [gR_at p.1, (p.2.1 (23, 22, 101, 64) (List.mem_of_getElem? (l := mcols) (i := 21) rfl)).1]
theorem aM23 (p : RM τ m h) {i : Nat} (hi : i < 64) : aI 101 (some (m + 22)) (nI i) h = some (τ 23 i) := by
  obtain ⟨a1, a2, a3, a4⟩ := p.2.1 (23, 22, 101, 64) (List.mem_of_getElem? (l := mcols) (i := 21) rfl)
  rw [aI_at 64 a2 a3 hi (by decide), a4 i hi]
theorem sM23 (p : RM τ m h) {i : Nat} (hi : i < 64) {v : Int32} (hv : v = 0 ∨ v = 1) : sZ (some (m + 22)) (nI i) v h = some (sta (m + 22) i v h) ∧ RM (u2 τ 23 i v) m (sta (m + 22) i v h) := by
  obtain ⟨a1, a2, a3, a4⟩ := p.2.1 (23, 22, 101, 64) (List.mem_of_getElem? (l := mcols) (i := 21) rfl)
  exact ⟨sZ_at 64 a2 a3 hi (by decide) hv, p.sta (t := (23, 22, 101, 64)) (List.mem_of_getElem? (l := mcols) (i := 21) rfl) i v⟩
theorem gRM24 (p : RM τ m h) : gR 9 24 (some m) h = some (some (m + 23)) := by rw [gR_at p.1, (p.2.1 (24, 23, 100, 12800) (List.mem_of_getElem? (l := mcols) (i := 22) rfl)).1]
theorem aM24 (p : RM τ m h) {i : Nat} (hi : i < 12800) : aI 100 (some (m + 23)) (nI i) h = some (τ 24 i) := by
  obtain ⟨a1, a2, a3, a4⟩ := p.2.1 (24, 23, 100, 12800) (List.mem_of_getElem? (l := mcols) (i := 22) rfl)
  rw [aI_at 12800 a2 a3 hi (by decide), a4 i hi]
theorem sM24 (p : RM τ m h) {i : Nat} (hi : i < 12800) (v : Int32) : sI (some (m + 23)) (nI i) v h = some (sta (m + 23) i v h) ∧ RM (u2 τ 24 i v) m (sta (m + 23) i v h) := by
  obtain ⟨a1, a2, a3, a4⟩ := p.2.1 (24, 23, 100, 12800) (List.mem_of_getElem? (l := mcols) (i := 22) rfl)
  exact ⟨sI_at 12800 a2 a3 hi (by decide), p.sta (t := (24, 23, 100, 12800)) (List.mem_of_getElem? (l := mcols) (i := 22) rfl) i v⟩
theorem gRM25 (p : RM τ m h) : gR 9 25 (some m) h = some (some (m + 24)) := by rw [gR_at p.1, (p.2.1 (25, 24, 100, 153600) (List.mem_of_getElem? (l := mcols) (i := 23) rfl)).1]
theorem aM25 (p : RM τ m h) {i : Nat} (hi : i < 153600) : aI 100 (some (m + 24)) (nI i) h = some (τ 25 i) := by
  obtain ⟨a1, a2, a3, a4⟩ := p.2.1 (25, 24, 100, 153600) (List.mem_of_getElem? (l := mcols) (i := 23) rfl)
  rw [aI_at 153600 a2 a3 hi (by decide), a4 i hi]
theorem sM25 (p : RM τ m h) {i : Nat} (hi : i < 153600) (v : Int32) : sI (some (m + 24)) (nI i) v h = some (sta (m + 24) i v h) ∧ RM (u2 τ 25 i v) m (sta (m + 24) i v h) := by
  obtain ⟨a1, a2, a3, a4⟩ := p.2.1 (25, 24, 100, 153600) (List.mem_of_getElem? (l := mcols) (i := 23) rfl)
  exact ⟨sI_at 153600 a2 a3 hi (by decide), p.sta (t := (25, 24, 100, 153600)) (List.mem_of_getElem? (l := mcols) (i := 23) rfl) i v⟩
theorem gRM26 (p : RM τ m h) : gR 9 26 (some m) h = some (some (m + 25)) := by rw [gR_at p.1, (p.2.1 (26, 25, 101, 200) (List.mem_of_getElem? (l := mcols) (i := 24) rfl)).1]
theorem aM26 (p : RM τ m h) {i : Nat} (hi : i < 200) : aI 101 (some (m + 25)) (nI i) h = some (τ 26 i) := by
  obtain ⟨a1, a2, a3, a4⟩ := p.2.1 (26, 25, 101, 200) (List.mem_of_getElem? (l := mcols) (i := 24) rfl)
  rw [aI_at 200 a2 a3 hi (by decide), a4 i hi]
theorem sM26 (p : RM τ m h) {i : Nat} (hi : i < 200) {v : Int32} (hv : v = 0 ∨ v = 1) : sZ (some (m + 25)) (nI i) v h = some (sta (m + 25) i v h) ∧ RM (u2 τ 26 i v) m (sta (m + 25) i v h) := by
  obtain ⟨a1, a2, a3, a4⟩ := p.2.1 (26, 25, 101, 200) (List.mem_of_getElem? (l := mcols) (i := 24) rfl)
  exact ⟨sZ_at 200 a2 a3 hi (by decide) hv, p.sta (t := (26, 25, 101, 200)) (List.mem_of_getElem? (l := mcols) (i := 24) rfl) i v⟩
theorem gRM28 (p : RM τ m h) : gR 9 28 (some m) h = some (some (m + 26)) := by rw [gR_at p.1, (p.2.1 (28, 26, 100, 12) (List.mem_of_getElem? (l := mcols) (i := 25) rfl)).1]
theorem aM28 (p : RM τ m h) {i : Nat} (hi : i < 12) : aI 100 (some (m + 26)) (nI i) h = some (τ 28 i) := by
  obtain ⟨a1, a2, a3, a4⟩ := p.2.1 (28, 26, 100, 12) (List.mem_of_getElem? (l := mcols) (i := 25) rfl)
  rw [aI_at 12 a2 a3 hi (by decide), a4 i hi]
theorem sM28 (p : RM τ m h) {i : Nat} (hi : i < 12) (v : Int32) : sI (some (m + 26)) (nI i) v h = some (sta (m + 26) i v h) ∧ RM (u2 τ 28 i v) m (sta (m + 26) i v h) := by
  obtain ⟨a1, a2, a3, a4⟩ := p.2.1 (28, 26, 100, 12) (List.mem_of_getElem? (l := mcols) (i := 25) rfl)
  exact ⟨sI_at 12 a2 a3 hi (by decide), p.sta (t := (28, 26, 100, 12)) (List.mem_of_getElem? (l := mcols) (i := 25) rfl) i v⟩
theorem gM0 (p : RM τ m h) : gI 9 0 (some m) h = some (τ 0 0) := by rw [gI_at p.1, p.2.2 0 (List.mem_of_getElem? (l := mscal) (i := 0) rfl)]
theorem pM0 (p : RM τ m h) (v : Int32) : pI 9 0 (some m) v h = some (sti 9 0 m v h) ∧ RM (u2 τ 0 0 v) m (sti 9 0 m v h) := ⟨pI_at p.1, p.sti (List.mem_of_getElem? (l := mscal) (i := 0) rfl) v⟩
theorem gM6 (p : RM τ m h) : gI 9 6 (some m) h = some (τ 6 0) := by rw [gI_at p.1, p.2.2 6 (List.mem_of_getElem? (l := mscal) (i := 1) rfl)]
theorem pM6 (p : RM τ m h) (v : Int32) : pI 9 6 (some m) v h = some (sti 9 6 m v h) ∧ RM (u2 τ 6 0 v) m (sti 9 6 m v h) := ⟨pI_at p.1, p.sti (List.mem_of_getElem? (l := mscal) (i := 1) rfl) v⟩
theorem gM27 (p : RM τ m h) : gI 9 27 (some m) h = some (τ 27 0) := by rw [gI_at p.1, p.2.2 27 (List.mem_of_getElem? (l := mscal) (i := 2) rfl)]
theorem pM27 (p : RM τ m h) (v : Int32) : pI 9 27 (some m) v h = some (sti 9 27 m v h) ∧ RM (u2 τ 27 0 v) m (sti 9 27 m v h) := ⟨pI_at p.1, p.sti (List.mem_of_getElem? (l := mscal) (i := 2) rfl) v⟩
theorem gM29 (p : RM τ m h) : gI 9 29 (some m) h = some (τ 29 0) := by rw [gI_at p.1, p.2.2 29 (List.mem_of_getElem? (l := mscal) (i := 3) rfl)]
theorem pM29 (p : RM τ m h) (v : Int32) : pI 9 29 (some m) v h = some (sti 9 29 m v h) ∧ RM (u2 τ 29 0 v) m (sti 9 29 m v h) := ⟨pI_at p.1, p.sti (List.mem_of_getElem? (l := mscal) (i := 3) rfl) v⟩
theorem gM30 (p : RM τ m h) : gI 9 30 (some m) h = some (τ 30 0) := by rw [gI_at p.1, p.2.2 30 (List.mem_of_getElem? (l := mscal) (i := 4) rfl)]
theorem pM30 (p : RM τ m h) (v : Int32) : pI 9 30 (some m) v h = some (sti 9 30 m v h) ∧ RM (u2 τ 30 0 v) m (sti 9 30 m v h) := ⟨pI_at p.1, p.sti (List.mem_of_getElem? (l := mscal) (i := 4) rfl) v⟩
theorem gM31 (p : RM τ m h) : gI 9 31 (some m) h = some (τ 31 0) := by rw [gI_at p.1, p.2.2 31 (List.mem_of_getElem? (l := mscal) (i := 5) rfl)]
theorem pM31 (p : RM τ m h) (v : Int32) : pI 9 31 (some m) v h = some (sti 9 31 m v h) ∧ RM (u2 τ 31 0 v) m (sti 9 31 m v h) := ⟨pI_at p.1, p.sti (List.mem_of_getElem? (l := mscal) (i := 5) rfl) v⟩
end
/-- the reference's steps touch its own cells alone -/
def Mfr (m : Nat) (h h' : zH) : Prop := zs h' = zs h ∧ ∀ b, (b < m ∨ m + 27 ≤ b) → ag h h' b
theorem Mfr.rf {m : Nat} {h : zH} : Mfr m h h := ⟨rfl, fun _ _ => ag.rf⟩
theorem Mfr.tr {m : Nat} {h h1 h2 : zH} (p : Mfr m h h1) (q : Mfr m h1 h2) : Mfr m h h2 := ⟨q.1.trans p.1, fun b hb => (p.2 b hb).tr (q.2 b hb)⟩
section
variable {τ : Nat → Nat → Int32} {m : Nat} {h : zH}
theorem eM1 (p : RM τ m h) {i : Nat} (hi : i < 32) (v : Int32) : ∃ h1, sI (some (m + 1)) (nI i) v h = some h1 ∧ RM (u2 τ 1 i v) m h1 ∧ Mfr m h h1 := ⟨_, (sM1 p hi v).1, (sM1 p hi v).2, rfl, fun b hb => ag_sta (by omega)⟩
theorem eM2 (p : RM τ m h) {i : Nat} (hi : i < 32) {v : Int32} (hv : v = 0 ∨ v = 1) : ∃ h1, sZ (some (m + 2)) (nI i) v h = some h1 ∧ RM (u2 τ 2 i v) m h1 ∧ Mfr m h h1 := ⟨_, (sM2 p hi hv).1, (sM2 p hi hv).2, rfl, fun b hb => ag_sta (by omega)⟩
theorem eM3 (p : RM τ m h) {i : Nat} (hi : i < 32) (v : Int32) : ∃ h1, sI (some (m + 3)) (nI i) v h = some h1 ∧ RM (u2 τ 3 i v) m h1 ∧ Mfr m h h1 := ⟨_, (sM3 p hi v).1, (sM3 p hi v).2, rfl, fun b hb => ag_sta (by omega)⟩
theorem eM4 (p : RM τ m h) {i : Nat} (hi : i < 480) (v : Int32) : ∃ h1, sI (some (m + 4)) (nI i) v h = some h1 ∧ RM (u2 τ 4 i v) m h1 ∧ Mfr m h h1 := ⟨_, (sM4 p hi v).1, (sM4 p hi v).2, rfl, fun b hb => ag_sta (by omega)⟩
theorem eM5 (p : RM τ m h) {i : Nat} (hi : i < 512) (v : Int32) : ∃ h1, sI (some (m + 5)) (nI i) v h = some h1 ∧ RM (u2 τ 5 i v) m h1 ∧ Mfr m h h1 := ⟨_, (sM5 p hi v).1, (sM5 p hi v).2, rfl, fun b hb => ag_sta (by omega)⟩
theorem eM7 (p : RM τ m h) {i : Nat} (hi : i < 64) (v : Int32) : ∃ h1, sI (some (m + 6)) (nI i) v h = some h1 ∧ RM (u2 τ 7 i v) m h1 ∧ Mfr m h h1 := ⟨_, (sM7 p hi v).1, (sM7 p hi v).2, rfl, fun b hb => ag_sta (by omega)⟩
theorem eM8 (p : RM τ m h) {i : Nat} (hi : i < 64) (v : Int32) : ∃ h1, sI (some (m + 7)) (nI i) v h = some h1 ∧ RM (u2 τ 8 i v) m h1 ∧ Mfr m h h1 := ⟨_, (sM8 p hi v).1, (sM8 p hi v).2, rfl, fun b hb => ag_sta (by omega)⟩
theorem eM9 (p : RM τ m h) {i : Nat} (hi : i < 64) (v : Int32) : ∃ h1, sI (some (m + 8)) (nI i) v h = some h1 ∧ RM (u2 τ 9 i v) m h1 ∧ Mfr m h h1 := ⟨_, (sM9 p hi v).1, (sM9 p hi v).2, rfl, fun b hb => ag_sta (by omega)⟩
theorem eM10 (p : RM τ m h) {i : Nat} (hi : i < 64) (v : Int32) : ∃ h1, sI (some (m + 9)) (nI i) v h = some h1 ∧ RM (u2 τ 10 i v) m h1 ∧ Mfr m h h1 := ⟨_, (sM10 p hi v).1, (sM10 p hi v).2, rfl, fun b hb => ag_sta (by omega)⟩
theorem eM11 (p : RM τ m h) {i : Nat} (hi : i < 64) (v : Int32) : ∃ h1, sI (some (m + 10)) (nI i) v h = some h1 ∧ RM (u2 τ 11 i v) m h1 ∧ Mfr m h h1 := ⟨_, (sM11 p hi v).1, (sM11 p hi v).2, rfl, fun b hb => ag_sta (by omega)⟩
theorem eM12 (p : RM τ m h) {i : Nat} (hi : i < 512) (v : Int32) : ∃ h1, sI (some (m + 11)) (nI i) v h = some h1 ∧ RM (u2 τ 12 i v) m h1 ∧ Mfr m h h1 := ⟨_, (sM12 p hi v).1, (sM12 p hi v).2, rfl, fun b hb => ag_sta (by omega)⟩
theorem eM13 (p : RM τ m h) {i : Nat} (hi : i < 64) {v : Int32} (hv : v = 0 ∨ v = 1) : ∃ h1, sZ (some (m + 12)) (nI i) v h = some h1 ∧ RM (u2 τ 13 i v) m h1 ∧ Mfr m h h1 := ⟨_, (sM13 p hi hv).1, (sM13 p hi hv).2, rfl, fun b hb => ag_sta (by omega)⟩
theorem eM14 (p : RM τ m h) {i : Nat} (hi : i < 64) (v : Int32) : ∃ h1, sI (some (m + 13)) (nI i) v h = some h1 ∧ RM (u2 τ 14 i v) m h1 ∧ Mfr m h h1 := ⟨_, (sM14 p hi v).1, (sM14 p hi v).2, rfl, fun b hb => ag_sta (by omega)⟩
theorem eM15 (p : RM τ m h) {i : Nat} (hi : i < 12800) (v : Int32) : ∃ h1, sI (some (m + 14)) (nI i) v h = some h1 ∧ RM (u2 τ 15 i v) m h1 ∧ Mfr m h h1 := ⟨_, (sM15 p hi v).1, (sM15 p hi v).2, rfl, fun b hb => ag_sta (by omega)⟩
theorem eM16 (p : RM τ m h) {i : Nat} (hi : i < 12800) (v : Int32) : ∃ h1, sI (some (m + 15)) (nI i) v h = some h1 ∧ RM (u2 τ 16 i v) m h1 ∧ Mfr m h h1 := ⟨_, (sM16 p hi v).1, (sM16 p hi v).2, rfl, fun b hb => ag_sta (by omega)⟩
theorem eM17 (p : RM τ m h) {i : Nat} (hi : i < 12800) (v : Int32) : ∃ h1, sI (some (m + 16)) (nI i) v h = some h1 ∧ RM (u2 τ 17 i v) m h1 ∧ Mfr m h h1 := ⟨_, (sM17 p hi v).1, (sM17 p hi v).2, rfl, fun b hb => ag_sta (by omega)⟩
theorem eM18 (p : RM τ m h) {i : Nat} (hi : i < 64) (v : Int32) : ∃ h1, sI (some (m + 17)) (nI i) v h = some h1 ∧ RM (u2 τ 18 i v) m h1 ∧ Mfr m h h1 := ⟨_, (sM18 p hi v).1, (sM18 p hi v).2, rfl, fun b hb => ag_sta (by omega)⟩
theorem eM19 (p : RM τ m h) {i : Nat} (hi : i < 512) (v : Int32) : ∃ h1, sI (some (m + 18)) (nI i) v h = some h1 ∧ RM (u2 τ 19 i v) m h1 ∧ Mfr m h h1 := ⟨_, (sM19 p hi v).1, (sM19 p hi v).2, rfl, fun b hb => ag_sta (by omega)⟩
theorem eM20 (p : RM τ m h) {i : Nat} (hi : i < 512) (v : Int32) : ∃ h1, sI (some (m + 19)) (nI i) v h = some h1 ∧ RM (u2 τ 20 i v) m h1 ∧ Mfr m h h1 := ⟨_, (sM20 p hi v).1, (sM20 p hi v).2, rfl, fun b hb => ag_sta (by omega)⟩
theorem eM21 (p : RM τ m h) {i : Nat} (hi : i < 512) (v : Int32) : ∃ h1, sI (some (m + 20)) (nI i) v h = some h1 ∧ RM (u2 τ 21 i v) m h1 ∧ Mfr m h h1 := ⟨_, (sM21 p hi v).1, (sM21 p hi v).2, rfl, fun b hb => ag_sta (by omega)⟩
theorem eM22 (p : RM τ m h) {i : Nat} (hi : i < 512) (v : Int32) : ∃ h1, sI (some (m + 21)) (nI i) v h = some h1 ∧ RM (u2 τ 22 i v) m h1 ∧ Mfr m h h1 := ⟨_, (sM22 p hi v).1, (sM22 p hi v).2, rfl, fun b hb => ag_sta (by omega)⟩
theorem eM23 (p : RM τ m h) {i : Nat} (hi : i < 64) {v : Int32} (hv : v = 0 ∨ v = 1) : ∃ h1, sZ (some (m + 22)) (nI i) v h = some h1 ∧ RM (u2 τ 23 i v) m h1 ∧ Mfr m h h1 := ⟨_, (sM23 p hi hv).1, (sM23 p hi hv).2, rfl, fun b hb => ag_sta (by omega)⟩
theorem eM24 (p : RM τ m h) {i : Nat} (hi : i < 12800) (v : Int32) : ∃ h1, sI (some (m + 23)) (nI i) v h = some h1 ∧ RM (u2 τ 24 i v) m h1 ∧ Mfr m h h1 := ⟨_, (sM24 p hi v).1, (sM24 p hi v).2, rfl, fun b hb => ag_sta (by omega)⟩
theorem eM25 (p : RM τ m h) {i : Nat} (hi : i < 153600) (v : Int32) : ∃ h1, sI (some (m + 24)) (nI i) v h = some h1 ∧ RM (u2 τ 25 i v) m h1 ∧ Mfr m h h1 := ⟨_, (sM25 p hi v).1, (sM25 p hi v).2, rfl, fun b hb => ag_sta (by omega)⟩
theorem eM26 (p : RM τ m h) {i : Nat} (hi : i < 200) {v : Int32} (hv : v = 0 ∨ v = 1) : ∃ h1, sZ (some (m + 25)) (nI i) v h = some h1 ∧ RM (u2 τ 26 i v) m h1 ∧ Mfr m h h1 := ⟨_, (sM26 p hi hv).1, (sM26 p hi hv).2, rfl, fun b hb => ag_sta (by omega)⟩
theorem eM28 (p : RM τ m h) {i : Nat} (hi : i < 12) (v : Int32) : ∃ h1, sI (some (m + 26)) (nI i) v h = some h1 ∧ RM (u2 τ 28 i v) m h1 ∧ Mfr m h h1 := ⟨_, (sM28 p hi v).1, (sM28 p hi v).2, rfl, fun b hb => ag_sta (by omega)⟩
theorem eS0 (p : RM τ m h) (v : Int32) : ∃ h1, pI 9 0 (some m) v h = some h1 ∧ RM (u2 τ 0 0 v) m h1 ∧ Mfr m h h1 := ⟨_, (pM0 p v).1, (pM0 p v).2, rfl, fun b hb => ag_sti (by omega)⟩
theorem eS6 (p : RM τ m h) (v : Int32) : ∃ h1, pI 9 6 (some m) v h = some h1 ∧ RM (u2 τ 6 0 v) m h1 ∧ Mfr m h h1 := ⟨_, (pM6 p v).1, (pM6 p v).2, rfl, fun b hb => ag_sti (by omega)⟩
theorem eS27 (p : RM τ m h) (v : Int32) : ∃ h1, pI 9 27 (some m) v h = some h1 ∧ RM (u2 τ 27 0 v) m h1 ∧ Mfr m h h1 := ⟨_, (pM27 p v).1, (pM27 p v).2, rfl, fun b hb => ag_sti (by omega)⟩
theorem eS29 (p : RM τ m h) (v : Int32) : ∃ h1, pI 9 29 (some m) v h = some h1 ∧ RM (u2 τ 29 0 v) m h1 ∧ Mfr m h h1 := ⟨_, (pM29 p v).1, (pM29 p v).2, rfl, fun b hb => ag_sti (by omega)⟩
theorem eS30 (p : RM τ m h) (v : Int32) : ∃ h1, pI 9 30 (some m) v h = some h1 ∧ RM (u2 τ 30 0 v) m h1 ∧ Mfr m h h1 := ⟨_, (pM30 p v).1, (pM30 p v).2, rfl, fun b hb => ag_sti (by omega)⟩
theorem eS31 (p : RM τ m h) (v : Int32) : ∃ h1, pI 9 31 (some m) v h = some h1 ∧ RM (u2 τ 31 0 v) m h1 ∧ Mfr m h h1 := ⟨_, (pM31 p v).1, (pM31 p v).2, rfl, fun b hb => ag_sti (by omega)⟩
end
