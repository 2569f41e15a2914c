/-! The machine's heap holds a pure heap. -/
def zty (c k : Nat) : FieldType := match c with
  | 0 => tyX0 k
  | 1 => tyX1 k
  | 2 => tyX2 k
  | 3 => tyX3 k
  | 4 => tyX4 k
  | 5 => tyX5 k
  | 6 => tyX6 k
  | 7 => tyX7 k
  | 8 => tyX8 k
  | _ => tyX9 k
def zR (c : Nat) : String := match c with
  | 0 => RX0
  | 1 => RX1
  | 2 => RX2
  | 3 => RX3
  | 4 => RX4
  | 5 => RX5
  | 6 => RX6
  | 7 => RX7
  | 8 => RX8
  | _ => RX9
def zv (h : zH) (c k a : Nat) : Value := match zty c k with
  | .int => .int (zi h c k a)
  | .boolean => .int (zi h c k a)
  | _ => va_rf (zr h c k a)
def zet (κ : Nat) : FieldType := if κ = 100 then .int else if κ = 101 then .boolean else .object (zR (κ - 102))
def zar (h : zH) (κ a : Nat) : vp_A := if κ = 100 ∨ κ = 101 then (zl h a, .inl (za h a)) else (zl h a, .inr (.inr (.inr (.inr (zq h a)))))
def z_at (D : va_G) (U : State) (h : zH) (H : Heap) (a : Nat) : Prop :=
  if zk h a < 100 then ∃ r : vw_C, vwCl[zk h a - 1]? = some r ∧ t_OB a (D.1 (zk h a - 1)) r.2.2 (D.2 (zk h a - 1)) H (fun k => zv h (zk h a - 1) k a)
  else ∃ cA : ClassId, (ArrOfT U cA (zet (zk h a)) ∧ va_RA U cA (zet (zk h a))) ∧ H[a]? = some (vp_cell cA (zar h (zk h a) a))
theorem z_at_obj {D : va_G} {U : State} {h : zH} {H : Heap} {a c : Nat} (hk : zk h a = c + 1) (hc : c < 99) : z_at D U h H a ↔ ∃ r : vw_C, vwCl[c]? = some r ∧ t_OB a (D.1 c) r.2.2 (D.2 c) H (fun k => zv h c k a) := by
  unfold z_at
  rw [if_pos (by omega), hk]
  exact Iff.rfl
theorem z_at_arr {D : va_G} {U : State} {h : zH} {H : Heap} {a κ : Nat} (hk : zk h a = κ) (hc : 100 ≤ κ) : z_at D U h H a ↔ ∃ cA : ClassId, (ArrOfT U cA (zet κ) ∧ va_RA U cA (zet κ)) ∧ H[a]? = some (vp_cell cA (zar h κ a)) := by
  unfold z_at
  rw [if_neg (by omega), hk]
def zsame (h h' : zH) (b : Nat) : Prop := (∀ c k, zi h' c k b = zi h c k b) ∧ (∀ c k, zr h' c k b = zr h c k b) ∧ zl h' b = zl h b ∧ za h' b = za h b ∧ zq h' b = zq h b
theorem z_at.lt {D : va_G} {U : State} {h : zH} {H : Heap} {a : Nat} (q : z_at D U h H a) : a < H.size := by
  unfold z_at at q
  split at q
  · obtain ⟨r, -, cell, q1, -⟩ := q
    exact (Array.getElem?_eq_some_iff.mp q1).1
  · obtain ⟨cA, -, q1⟩ := q
    exact (Array.getElem?_eq_some_iff.mp q1).1
theorem z_at.same {D : va_G} {U : State} {h h' : zH} {H H1 : Heap} {b : Nat} (q : z_at D U h H b) (hk : zk h' b = zk h b) (hs : zsame h h' b) (hH : H1[b]? = H[b]?) : z_at D U h' H1 b := by
  obtain ⟨s1, s2, s3, s4, s5⟩ := hs
  unfold z_at at q ⊢
  rw [hk]
  split
  · next hlt =>
    rw [if_pos hlt] at q
    obtain ⟨r, h1, q⟩ := q
    exact ⟨r, h1, (q.kept hH).to (fun k _ => by unfold zv; rw [s1, s2])⟩
  · next hlt =>
    rw [if_neg hlt] at q
    obtain ⟨cA, h1, q⟩ := q
    refine ⟨cA, h1, ?_⟩
    rw [hH, q]
    unfold zar
    rw [s3, s4, s5]
theorem z_at.moved {D : va_G} {u U : State} {h : zH} {H : Heap} {a : Nat} (hvm : u.vm.Alike U.vm) (q : z_at D u h H a) : z_at D U h H a := by
  unfold z_at at q ⊢
  split
  · next hlt => rw [if_pos hlt] at q; exact q
  · next hlt =>
    rw [if_neg hlt] at q
    obtain ⟨cA, h1, q⟩ := q
    exact ⟨cA, ⟨arrOfT_moved hvm h1.1, va_RA.moved hvm h1.2⟩, q⟩
def z_P (D : va_G) (base : Nat) (U : State) (h : zH) (H : Heap) : Prop := base ≤ zs h ∧ H.size = zs h ∧ ∀ a : Nat, zk h a ≠ 0 → base ≤ a ∧ z_at D U h H a
def z_W (D : va_G) (base : Nat) (U : State) (h : zH) (H : Heap) : Prop := va_K D vwCl [] U ∧ z_P D base U h H
theorem z_W.moved {D : va_G} {base : Nat} {u U : State} {h : zH} {H : Heap} (hvm : u.vm.Alike U.vm) (q : z_W D base u h H) : z_W D base U h H :=
  ⟨va_K.moved hvm q.1, q.2.1, q.2.2.1, fun a ha => ⟨(q.2.2.2 a ha).1, (q.2.2.2 a ha).2.moved hvm⟩⟩
theorem z_W.obj {D : va_G} {base : Nat} {U : State} {h : zH} {H : Heap} {a c : Nat} (q : z_W D base U h H) (hk : zk h a = c + 1) (hc : c < 99) : ∃ r : vw_C, vwCl[c]? = some r ∧ t_OB a (D.1 c) r.2.2 (D.2 c) H (fun k => zv h c k a) :=
  (z_at_obj hk hc).mp (q.2.2.2 a (by omega)).2
theorem z_W.arr {D : va_G} {base : Nat} {U : State} {h : zH} {H : Heap} {a κ : Nat} (q : z_W D base U h H) (hk : zk h a = κ) (hc : 100 ≤ κ) : ∃ cA : ClassId, (ArrOfT U cA (zet κ) ∧ va_RA U cA (zet κ)) ∧ H[a]? = some (vp_cell cA (zar h κ a)) :=
  (z_at_arr hk hc).mp (q.2.2.2 a (by omega)).2
theorem z_W.upd {D : va_G} {base : Nat} {U : State} {h h' : zH} {H H1 : Heap} {a : Nat} (q : z_W D base U h H) (hk : zk h' = zk h) (hs : zs h' = zs h) (ho : ∀ b, b ≠ a → zsame h h' b) (z : H1.size = H.size) (oq : ∀ b, b ≠ a → H1[b]? = H[b]?) (ha : z_at D U h' H1 a) : z_W D base U h' H1 := by
  refine ⟨q.1, by rw [hs]; exact q.2.1, by rw [hs, z]; exact q.2.2.1, fun b hb => ?_⟩
  rw [hk] at hb
  refine ⟨(q.2.2.2 b hb).1, ?_⟩
  by_cases e : b = a
  · rw [e]; exact ha
  · exact (q.2.2.2 b hb).2.same (by rw [hk]) (ho b e) (oq b e)
theorem z_W.new {D : va_G} {base κ : Nat} {U : State} {h h' : zH} {H H1 : Heap} (q : z_W D base U h H) (hk : zk h' = fun a' => if a' = zs h then κ else zk h a') (hs : zs h' = zs h + 1) (ho : ∀ b, b ≠ zs h → zsame h h' b) (z : H1.size = H.size + 1) (oq : ∀ b, b < H.size → H1[b]? = H[b]?) (ha : z_at D U h' H1 (zs h)) : z_W D base U h' H1 := by
  refine ⟨q.1, by rw [hs]; have := q.2.1; omega, by rw [hs, z, q.2.2.1], fun b hb => ?_⟩
  by_cases e : b = zs h
  · rw [e]; exact ⟨q.2.1, ha⟩
  · have hkb : zk h' b = zk h b := by rw [hk]; simp [e]
    rw [hkb] at hb
    exact ⟨(q.2.2.2 b hb).1, (q.2.2.2 b hb).2.same hkb (ho b e) (oq b (q.2.2.2 b hb).2.lt)⟩
theorem zsame_sti {c k a b : Nat} {v : Int32} {h : zH} (e : b ≠ a) : zsame h (sti c k a v h) b := ⟨fun c' k' => by simp [sti, zi, e], fun _ _ => rfl, rfl, rfl, rfl⟩
theorem zsame_str {c k a b : Nat} {v : Option Nat} {h : zH} (e : b ≠ a) : zsame h (str c k a v h) b := ⟨fun _ _ => rfl, fun c' k' => by simp [str, zr, e], rfl, rfl, rfl⟩
theorem zsame_sta {a j b : Nat} {v : Int32} {h : zH} (e : b ≠ a) : zsame h (sta a j v h) b := ⟨fun _ _ => rfl, fun _ _ => rfl, rfl, by funext x; simp [sta, za, e], rfl⟩
theorem zsame_stq {a j b : Nat} {v : Option Nat} {h : zH} (e : b ≠ a) : zsame h (stq a j v h) b := ⟨fun _ _ => rfl, fun _ _ => rfl, rfl, rfl, by funext x; simp [stq, zq, e]⟩
theorem zsame_nwO {c b : Nat} {h : zH} (e : b ≠ zs h) : zsame h (nwO c h) b := ⟨fun c' k' => by simp [nwO, zi, e], fun c' k' => by simp [nwO, zr, e], rfl, rfl, rfl⟩
theorem zsame_nwA {κ n b : Nat} {h : zH} (e : b ≠ zs h) : zsame h (nwA κ n h) b := ⟨fun _ _ => rfl, fun _ _ => rfl, by simp [nwA, zl, e], by funext x; simp [nwA, za, e], by funext x; simp [nwA, zq, e]⟩
abbrev zA (base : Nat) : Nat → Prop := fun q => base ≤ q
section ZW
variable {p : Program} {l : Launch} {e : Env} {R : Room} {s : State} {m : MethodId} {args : Array Value} {below : List Frame} {meth : Method} {c : Code} {H : Heap} {locs : List Loc} {cells slots : Nat} {Q : State → Prop}
variable {cc : ByteArray} {pc : Nat} {ls : Array Slot} {rest : List Value} {D : va_G} {base : Nat} {h h' : zH} {H0 : Heap} {r : Option Nat}
theorem zw_gI (hx : p.tables.exec = Jvm.exec) (hb : c.code = cc) {own C : String} {T : u_T} {N ci index : Nat} {Ts : List Cond} (hts : ∀ w ∈ Ts, w.before args s = true) (hin : ∀ w ∈ u_ws C T N, w ∈ Ts) (hown : s.vm.findClass own = some m.cls) (hW : z_W D base s h H) (hc : vwCl[ci]? = some (C, T, N)) (hci : ci < 99) (k : Nat) (hk : k < N) (hlink : (Cond.fieldLink own index (T k).1 (T k).2.1 (T k).2.2.1).before args s = true) {v : Int32} (he : gI ci k r h = some v) (hv : ∀ (h : zH) (a : Nat), zv h ci k a = .int (zi h ci k a)) (hdg : decode cc pc = .ok (.getfield index, 3))
    (kk : W p l e R s m args below meth c H locs cells slots Q (F0 m (pc + 3) ls (.int v :: rest))) : W p l e R s m args below meth c H locs cells slots Q (F0 m pc ls (va_rf r :: rest)) := by
  obtain ⟨a, rfl, hka, rfl⟩ := gI_spec he
  obtain ⟨r', h1, cell, q1, q2, q3, q4⟩ := hW.obj hka hci
  have hr : r' = (C, T, N) := Option.some.inj (h1.symm.trans hc)
  subst hr
  obtain ⟨hS, hfc, kC, hkC, hkind⟩ := hW.1.1 ci _ hc
  obtain ⟨cf, kf, fi, f, hi, hsl⟩ := hS k hk
  refine W.getf hx hb hown hlink hi (u_facts hfc hkC (u_lays hts hin hk) hi).1 q1 (by rw [q3]; exact fun h => by cases h) (v := .int (zi h ci k a)) ?_ rfl rfl hdg kk
  rw [hsl, q4 k hk]
  show some (zv h ci k a) = _
  rw [hv]
theorem zw_gR (hx : p.tables.exec = Jvm.exec) (hb : c.code = cc) {own C : String} {T : u_T} {N ci index : Nat} {Ts : List Cond} (hts : ∀ w ∈ Ts, w.before args s = true) (hin : ∀ w ∈ u_ws C T N, w ∈ Ts) (hown : s.vm.findClass own = some m.cls) (hW : z_W D base s h H) (hc : vwCl[ci]? = some (C, T, N)) (hci : ci < 99) (k : Nat) (hk : k < N) (hlink : (Cond.fieldLink own index (T k).1 (T k).2.1 (T k).2.2.1).before args s = true) {v : Option Nat} (he : gR ci k r h = some v) (hv : ∀ (h : zH) (a : Nat), zv h ci k a = va_rf (zr h ci k a)) (hdg : decode cc pc = .ok (.getfield index, 3))
    (kk : W p l e R s m args below meth c H locs cells slots Q (F0 m (pc + 3) ls (va_rf v :: rest))) : W p l e R s m args below meth c H locs cells slots Q (F0 m pc ls (va_rf r :: rest)) := by
  obtain ⟨a, rfl, hka, rfl⟩ := gR_spec he
  obtain ⟨r', h1, cell, q1, q2, q3, q4⟩ := hW.obj hka hci
  have hr : r' = (C, T, N) := Option.some.inj (h1.symm.trans hc)
  subst hr
  obtain ⟨hS, hfc, kC, hkC, hkind⟩ := hW.1.1 ci _ hc
  obtain ⟨cf, kf, fi, f, hi, hsl⟩ := hS k hk
  refine W.getf hx hb hown hlink hi (u_facts hfc hkC (u_lays hts hin hk) hi).1 q1 (by rw [q3]; exact fun h => by cases h) (v := va_rf (zr h ci k a)) ?_ rfl rfl hdg kk
  rw [hsl, q4 k hk]
  show some (zv h ci k a) = _
  rw [hv]
/-- a store into a field: what comes of the object -/
theorem zw_put (hx : p.tables.exec = Jvm.exec) (hb : c.code = cc) {own C : String} {T : u_T} {N ci index : Nat} {Ts : List Cond} (hts : ∀ w ∈ Ts, w.before args s = true) (hin : ∀ w ∈ u_ws C T N, w ∈ Ts) (ty0 : Nat → FieldType) (hty : ∀ k, k < N → parseFieldDescriptor (T k).2.2.1 = some (ty0 k)) (hnm : ∀ a, a < N → ∀ b, b < N → a ≠ b → (T a).2.1 ≠ (T b).2.1) (hown : s.vm.findClass own = some m.cls) (hW : z_W D base s h H) (hS0 : va_S (zA base) H0 H locs) (hc : vwCl[ci]? = some (C, T, N)) (hci : ci < 99) (k : Nat) (hk : k < N) (hlink : (Cond.fieldLink own index (T k).1 (T k).2.1 (T k).2.2.1).before args s = true)
    (hfin : (T k).2.2.2 = false ∨ ((T k).2.2.2 = true ∧ meth.name = "<init>" ∧ (T k).1 = own)) {v : Value} (hn : narrow (ty0 k) v = v) (hfit : fits (ty0 k) v = true) {a : Nat} (hka : zk h a = ci + 1) (h1k : zk h' = zk h) (h1s : zs h' = zs h) (h1o : ∀ b, b ≠ a → zsame h h' b) (h1v : ∀ j, j < N → zv h' ci j a = if j = k then v else zv h ci j a) (hdg : decode cc pc = .ok (.putfield index, 3))
    (kk : ∀ (H1 : Heap) (locs1 : List Loc), z_W D base s h' H1 → va_S (zA base) H0 H1 locs1 → W p l e R s m args below meth c H1 locs1 cells slots Q (F0 m (pc + 3) ls rest)) : W p l e R s m args below meth c H locs cells slots Q (F0 m pc ls (v :: .ref a :: rest)) := by
  have hap := va_apart (own := own) (tys := []) (D := D) (cl := vwCl) hts hin ty0 hty hnm hW.1 hc
  obtain ⟨r', h1, cell, q1, q2, q3, q4⟩ := hW.obj hka hci
  have hr : r' = (C, T, N) := Option.some.inj (h1.symm.trans hc)
  subst hr
  obtain ⟨hS, hfc, kC, hkC, hkind⟩ := hW.1.1 ci _ hc
  obtain ⟨cf, kf, fi, f, hi, hsl⟩ := hS k hk
  have hlay := hts _ (hin _ (u_in_lay hk))
  have hst := (u_facts hfc hkC (u_lays hts hin hk) hi).1
  have hbase : base ≤ a := (hW.2.2.2 a (by omega)).1
  have fin : ∀ H' : Heap, H'[a]? = some (cell.setSlot f.slot v) → H'.size = H.size → (∀ q, q ≠ a → H'[q]? = H[q]?) → W p l e R s m args below meth c H' (locs ++ [⟨a, f.slot⟩]) cells slots Q (F0 m (pc + 3) ls rest) := by
    intro H' e1 e2 e3
    rw [hsl] at e1 ⊢
    refine kk H' _ (hW.upd h1k h1s h1o e2 e3 ?_) (hS0.put e2 e3 hbase)
    refine (z_at_obj (by rw [h1k]; exact hka) hci).mpr ⟨_, hc, t_OB.to (V := updV (fun k => zv h ci k a) k v) ⟨_, e1, q2, q3, t_set q4 hap hk v⟩ (fun j hj => ?_)⟩
    rw [h1v j hj]
    rfl
  rcases hfin with hfin | ⟨hfin, hin2, hdecl⟩
  · unfold u_lay at hlay
    rw [if_neg (by rw [hfin]; decide)] at hlay
    have h6 := u_store hfc hkC hkind hlay hi (hty k hk) hn hfit
    exact W.putK hx hb (f := f) ⟨hown, hlink, ⟨_, _, _, hi⟩, hst⟩ (by rw [q2]; exact h6) q1 q3 (by rw [hsl]; exact k2_hasslot (q4 k hk)) rfl rfl hdg fin
  · unfold u_lay at hlay
    rw [if_pos hfin] at hlay
    have hcf : m.cls = cf := by
      obtain ⟨_, _, c', _, _, _, -, -, hf', -, -, -, hown2, -⟩ := Cond.laysFinal_spec hlay
      have e1 : c' = cf := by have := hi.symm.trans hf'; simp at this; exact this.1.symm
      rw [hdecl] at hown2
      rw [← e1]; exact Option.some.inj (hown.symm.trans hown2)
    have h6 := u_fits hfc hkC hkind (Or.inr hlay) hi (hty k hk) hn hfit
    exact W.putFinK hx hb hown hlink hi hst hcf hin2 (by rw [q2]; exact h6) q1 q3 (by rw [hsl]; exact k2_hasslot (q4 k hk)) rfl rfl hdg fin
end ZW
section ZX
variable {p : Program} {l : Launch} {e : Env} {R : Room} {s : State} {m : MethodId} {args : Array Value} {below : List Frame} {meth : Method} {c : Code} {H : Heap} {locs : List Loc} {cells slots : Nat} {Q : State → Prop}
variable {cc : ByteArray} {pc : Nat} {ls : Array Slot} {rest : List Value} {D : va_G} {base : Nat} {h h' : zH} {H0 : Heap} {r : Option Nat}
theorem zw_pI (hx : p.tables.exec = Jvm.exec) (hb : c.code = cc) {own C : String} {T : u_T} {N ci index : Nat} {Ts : List Cond} (hts : ∀ w ∈ Ts, w.before args s = true) (hin : ∀ w ∈ u_ws C T N, w ∈ Ts) (ty0 : Nat → FieldType) (hty : ∀ k, k < N → parseFieldDescriptor (T k).2.2.1 = some (ty0 k)) (hnm : ∀ a, a < N → ∀ b, b < N → a ≠ b → (T a).2.1 ≠ (T b).2.1) (hown : s.vm.findClass own = some m.cls) (hW : z_W D base s h H) (hS0 : va_S (zA base) H0 H locs) (hc : vwCl[ci]? = some (C, T, N)) (hci : ci < 99) (k : Nat) (hk : k < N) (hlink : (Cond.fieldLink own index (T k).1 (T k).2.1 (T k).2.2.1).before args s = true)
    (hfin : (T k).2.2.2 = false ∨ ((T k).2.2.2 = true ∧ meth.name = "<init>" ∧ (T k).1 = own)) {v : Int32} (hv : ∀ (h : zH) (a : Nat), zv h ci k a = .int (zi h ci k a)) (hn : narrow (ty0 k) (.int v) = .int v) (hfit : fits (ty0 k) (.int v) = true) (he : pI ci k r v h = some h') (hdg : decode cc pc = .ok (.putfield index, 3))
    (kk : ∀ (H1 : Heap) (locs1 : List Loc), z_W D base s h' H1 → va_S (zA base) H0 H1 locs1 → W p l e R s m args below meth c H1 locs1 cells slots Q (F0 m (pc + 3) ls rest)) : W p l e R s m args below meth c H locs cells slots Q (F0 m pc ls (.int v :: va_rf r :: rest)) := by
  obtain ⟨a, rfl, hka, rfl⟩ := pI_spec he
  refine zw_put (h' := sti ci k a v h) hx hb hts hin ty0 hty hnm hown hW hS0 hc hci k hk hlink hfin hn hfit hka rfl rfl (fun b hb => zsame_sti hb) (fun j hj => ?_) hdg kk
  by_cases q : j = k
  · subst q
    rw [hv, if_pos rfl]
    simp [sti, zi]
  · rw [if_neg q]
    simp [zv, sti, zi, zr, q]
theorem zw_pR (hx : p.tables.exec = Jvm.exec) (hb : c.code = cc) {own C : String} {T : u_T} {N ci index : Nat} {Ts : List Cond} (hts : ∀ w ∈ Ts, w.before args s = true) (hin : ∀ w ∈ u_ws C T N, w ∈ Ts) (ty0 : Nat → FieldType) (hty : ∀ k, k < N → parseFieldDescriptor (T k).2.2.1 = some (ty0 k)) (hnm : ∀ a, a < N → ∀ b, b < N → a ≠ b → (T a).2.1 ≠ (T b).2.1) (hown : s.vm.findClass own = some m.cls) (hW : z_W D base s h H) (hS0 : va_S (zA base) H0 H locs) (hc : vwCl[ci]? = some (C, T, N)) (hci : ci < 99) (k : Nat) (hk : k < N) (hlink : (Cond.fieldLink own index (T k).1 (T k).2.1 (T k).2.2.1).before args s = true)
    (hfin : (T k).2.2.2 = false ∨ ((T k).2.2.2 = true ∧ meth.name = "<init>" ∧ (T k).1 = own)) {v : Option Nat} (hv : ∀ (h : zH) (a : Nat), zv h ci k a = va_rf (zr h ci k a)) (hn : ∀ v : Option Nat, narrow (ty0 k) (va_rf v) = va_rf v) (hfit : ∀ v : Option Nat, fits (ty0 k) (va_rf v) = true) (he : pR ci k r v h = some h') (hdg : decode cc pc = .ok (.putfield index, 3))
    (kk : ∀ (H1 : Heap) (locs1 : List Loc), z_W D base s h' H1 → va_S (zA base) H0 H1 locs1 → W p l e R s m args below meth c H1 locs1 cells slots Q (F0 m (pc + 3) ls rest)) : W p l e R s m args below meth c H locs cells slots Q (F0 m pc ls (va_rf v :: va_rf r :: rest)) := by
  obtain ⟨a, rfl, hka, rfl⟩ := pR_spec he
  refine zw_put (h' := str ci k a v h) hx hb hts hin ty0 hty hnm hown hW hS0 hc hci k hk hlink hfin (hn v) (hfit v) hka rfl rfl (fun b hb => zsame_str hb) (fun j hj => ?_) hdg kk
  by_cases q : j = k
  · subst q
    rw [hv, if_pos rfl]
    simp [str, zr]
  · rw [if_neg q]
    simp [zv, str, zi, zr, q]
theorem zw_aI (hx : p.tables.exec = Jvm.exec) (hb : c.code = cc) (hW : z_W D base s h H) {i v : Int32} (he : aI 100 r i h = some v) (hdg : decode cc pc = .ok (.iaload, 1))
    (kk : W p l e R s m args below meth c H locs cells slots Q (F0 m (pc + 1) ls (.int v :: rest))) : W p l e R s m args below meth c H locs cells slots Q (F0 m pc ls (.int i :: va_rf r :: rest)) := by
  obtain ⟨a, rfl, hka, hin, rfl⟩ := aI_spec he
  obtain ⟨cA, ⟨h1, h2⟩, h3⟩ := hW.arr hka (by decide)
  have h3 : H[a]? = some (arrV cA (zl h a) (fun j => .int (za h a j))) := h3
  have hlt : i.toNatClampNeg < zl h a := Nat.not_le.mp fun q => hin (Or.inr q)
  exact W.iald (v := .int (za h a i.toNatClampNeg)) hx hb h3 (h1 (zl h a) (fun j => .int (za h a j))) (fun q => by cases q) (by show ¬ (i < 0 ∨ (arrV _ _ _).slots.size ≤ _); rw [arrV_size]; exact hin) (by show (arrV _ _ _).slots[_]? = _; rw [arrV_read _ _ hlt]) rfl rfl hdg kk
theorem zw_aZ (hx : p.tables.exec = Jvm.exec) (hb : c.code = cc) (hW : z_W D base s h H) {i v : Int32} (he : aI 101 r i h = some v) (hdg : decode cc pc = .ok (.baload, 1))
    (kk : W p l e R s m args below meth c H locs cells slots Q (F0 m (pc + 1) ls (.int v :: rest))) : W p l e R s m args below meth c H locs cells slots Q (F0 m pc ls (.int i :: va_rf r :: rest)) := by
  obtain ⟨a, rfl, hka, hin, rfl⟩ := aI_spec he
  obtain ⟨cA, ⟨h1, h2⟩, h3⟩ := hW.arr hka (by decide)
  have h3 : H[a]? = some (arrV cA (zl h a) (fun j => .int (za h a j))) := h3
  have hlt : i.toNatClampNeg < zl h a := Nat.not_le.mp fun q => hin (Or.inr q)
  exact W.zald (v := .int (za h a i.toNatClampNeg)) hx hb h3 (h1 (zl h a) (fun j => .int (za h a j))) (fun q => by cases q) (by show ¬ (i < 0 ∨ (arrV _ _ _).slots.size ≤ _); rw [arrV_size]; exact hin) (by show (arrV _ _ _).slots[_]? = _; rw [arrV_read _ _ hlt]) rfl rfl hdg kk
theorem zw_aQ (hx : p.tables.exec = Jvm.exec) (hb : c.code = cc) (hW : z_W D base s h H) (κ : Nat) (hκ : 102 ≤ κ) {i : Int32} {v : Option Nat} (he : aQ κ r i h = some v) (hdg : decode cc pc = .ok (.aaload, 1))
    (kk : W p l e R s m args below meth c H locs cells slots Q (F0 m (pc + 1) ls (va_rf v :: rest))) : W p l e R s m args below meth c H locs cells slots Q (F0 m pc ls (.int i :: va_rf r :: rest)) := by
  obtain ⟨a, rfl, hka, hin, rfl⟩ := aQ_spec he
  obtain ⟨cA, ⟨h1, h2⟩, h3⟩ := hW.arr hka (by omega)
  have hlt : i.toNatClampNeg < zl h a := Nat.not_le.mp fun q => hin (Or.inr q)
  have e1 : zar h κ a = (zl h a, .inr (.inr (.inr (.inr (zq h a))))) := by unfold zar; rw [if_neg (by omega)]
  have e2 : zet κ = .object (zR (κ - 102)) := by unfold zet; rw [if_neg (by omega), if_neg (by omega)]
  rw [e1] at h3
  rw [e2] at h1
  exact W.aald (v := va_rf (zq h a i.toNatClampNeg)) (ty := .object (zR (κ - 102))) hx hb h3 (h1 (zl h a) (fun j => va_rf (zq h a j))) rfl (fun q => by cases q) (by show ¬ (i < 0 ∨ (arrV _ _ _).slots.size ≤ _); rw [arrV_size]; exact hin) (by show (arrV _ _ _).slots[_]? = _; rw [arrV_read _ _ hlt]) rfl rfl hdg kk
theorem zw_len (hx : p.tables.exec = Jvm.exec) (hb : c.code = cc) (hW : z_W D base s h H) {v : Int32} (he : lA 100 r h = some v) (hdg : decode cc pc = .ok (.arraylength, 1))
    (kk : W p l e R s m args below meth c H locs cells slots Q (F0 m (pc + 1) ls (.int v :: rest))) : W p l e R s m args below meth c H locs cells slots Q (F0 m pc ls (va_rf r :: rest)) := by
  obtain ⟨a, rfl, hka, rfl⟩ := lA_spec he
  obtain ⟨cA, ⟨h1, h2⟩, h3⟩ := hW.arr hka (by decide)
  have h3 : H[a]? = some (arrV cA (zl h a) (fun j => .int (za h a j))) := h3
  exact W.alen (n := Int32.ofNat (zl h a)) hx hb h3 (h1 (zl h a) (fun j => .int (za h a j))) (by show (arrV _ _ _).slots.size.toInt32 = _; rw [arrV_size] <;> rfl) rfl rfl hdg kk
theorem zw_sI (hx : p.tables.exec = Jvm.exec) (hb : c.code = cc) (hW : z_W D base s h H) (hS0 : va_S (zA base) H0 H locs) {i v : Int32} (he : sI r i v h = some h') (hdg : decode cc pc = .ok (.iastore, 1))
    (kk : ∀ (H1 : Heap) (locs1 : List Loc), z_W D base s h' H1 → va_S (zA base) H0 H1 locs1 → W p l e R s m args below meth c H1 locs1 cells slots Q (F0 m (pc + 1) ls rest)) : W p l e R s m args below meth c H locs cells slots Q (F0 m pc ls (.int v :: .int i :: va_rf r :: rest)) := by
  obtain ⟨a, rfl, hka, hin, rfl⟩ := sI_spec he
  obtain ⟨cA, ⟨h1, h2⟩, h3⟩ := hW.arr hka (by decide)
  have h3 : H[a]? = some (arrV cA (zl h a) (fun j => .int (za h a j))) := h3
  have hbase : base ≤ a := (hW.2.2.2 a (by omega)).1
  refine W.iast hx hb h3 (h1 (zl h a) (fun j => .int (za h a j))) (fun q => by cases q) (by show ¬ (i < 0 ∨ (arrV _ _ _).slots.size ≤ _); rw [arrV_size]; exact hin) rfl rfl hdg fun H1 e1 z oq => ?_
  refine kk H1 _ (hW.upd rfl rfl (fun b hb => zsame_sta hb) z oq ((z_at_arr (h := sta a i.toNatClampNeg v h) (κ := 100) hka (by decide)).mpr ⟨cA, ⟨h1, h2⟩, ?_⟩)) (hS0.put z oq hbase)
  rw [e1]
  show some (Cell.setSlot (arrV cA (zl h a) (fun j => .int (za h a j))) i.toNatClampNeg (.int v)) = some (arrV cA (zl h a) (fun j => .int (za (sta a i.toNatClampNeg v h) a j)))
  rw [arrV_store]
  congr 2
  funext q
  by_cases hq : q = i.toNatClampNeg
  · subst hq
    simp [updV, sta, za]
  · simp [updV, sta, za, hq]
theorem zw_sZ (hx : p.tables.exec = Jvm.exec) (hb : c.code = cc) (hW : z_W D base s h H) (hS0 : va_S (zA base) H0 H locs) {i v : Int32} (he : sZ r i v h = some h') (hdg : decode cc pc = .ok (.bastore, 1))
    (kk : ∀ (H1 : Heap) (locs1 : List Loc), z_W D base s h' H1 → va_S (zA base) H0 H1 locs1 → W p l e R s m args below meth c H1 locs1 cells slots Q (F0 m (pc + 1) ls rest)) : W p l e R s m args below meth c H locs cells slots Q (F0 m pc ls (.int v :: .int i :: va_rf r :: rest)) := by
  obtain ⟨a, rfl, hka, hin, hv, rfl⟩ := sZ_spec he
  obtain ⟨cA, ⟨h1, h2⟩, h3⟩ := hW.arr hka (by decide)
  have h3 : H[a]? = some (arrV cA (zl h a) (fun j => .int (za h a j))) := h3
  have hbase : base ≤ a := (hW.2.2.2 a (by omega)).1
  have hn : narrow .boolean (.int v) = .int v := by rcases hv with rfl | rfl <;> rfl
  refine W.zast hx hb h3 (h1 (zl h a) (fun j => .int (za h a j))) (fun q => by cases q) (by show ¬ (i < 0 ∨ (arrV _ _ _).slots.size ≤ _); rw [arrV_size]; exact hin) rfl rfl hdg fun H1 e1 z oq => ?_
  refine kk H1 _ (hW.upd rfl rfl (fun b hb => zsame_sta hb) z oq ((z_at_arr (h := sta a i.toNatClampNeg v h) (κ := 101) hka (by decide)).mpr ⟨cA, ⟨h1, h2⟩, ?_⟩)) (hS0.put z oq hbase)
  rw [e1, hn]
  show some (Cell.setSlot (arrV cA (zl h a) (fun j => .int (za h a j))) i.toNatClampNeg (.int v)) = some (arrV cA (zl h a) (fun j => .int (za (sta a i.toNatClampNeg v h) a j)))
  rw [arrV_store]
  congr 2
  funext q
  by_cases hq : q = i.toNatClampNeg
  · subst hq
    simp [updV, sta, za]
  · simp [updV, sta, za, hq]
theorem zw_sQ (hx : p.tables.exec = Jvm.exec) (hb : c.code = cc) (hW : z_W D base s h H) (hS0 : va_S (zA base) H0 H locs) (ci : Nat) {T : u_T} {N : Nat} (hc : vwCl[ci]? = some (zR ci, T, N)) (hci : ci < 99) {i : Int32} {v : Option Nat} (he : sQ ci r i v h = some h') (hdg : decode cc pc = .ok (.aastore, 1))
    (kk : ∀ (H1 : Heap) (locs1 : List Loc), z_W D base s h' H1 → va_S (zA base) H0 H1 locs1 → W p l e R s m args below meth c H1 locs1 cells slots Q (F0 m (pc + 1) ls rest)) : W p l e R s m args below meth c H locs cells slots Q (F0 m pc ls (va_rf v :: .int i :: va_rf r :: rest)) := by
  obtain ⟨a, b, rfl, rfl, hka, hin, hkb, rfl⟩ := sQ_spec he
  obtain ⟨cA, ⟨h1, h2⟩, h3⟩ := hW.arr hka (by omega)
  have hbase : base ≤ a := (hW.2.2.2 a (by omega)).1
  have e1 : ∀ g : zH, zar g (102 + ci) a = (zl g a, .inr (.inr (.inr (.inr (zq g a))))) := by intro g; unfold zar; rw [if_neg (by omega)]
  have e2 : zet (102 + ci) = .object (zR ci) := by unfold zet; rw [if_neg (by omega), if_neg (by omega), Nat.add_sub_cancel_left]
  have hlt : i.toNatClampNeg < zl h a := Nat.not_le.mp fun q => hin (Or.inr q)
  have h0 : ¬ i < 0 := fun q => hin (Or.inl q)
  obtain ⟨r', hr', cellV, g1, g2, g3, -⟩ := hW.obj hkb hci
  have hcls := (hW.1.1 ci _ hc).2
  rw [e2] at h1 h2
  obtain ⟨kA, comp, k1, k2, k3, k4⟩ := id h2
  have hcomp : comp = D.1 ci := Option.some.inj (k3.symm.trans hcls.1)
  subst hcomp
  obtain ⟨kC, hkC, -⟩ := hcls.2
  rw [e1] at h3
  refine W.aast hx hb h3 (fun q h => by cases h) (fun h => by cases h) k1 k2 rfl hkC ⟨h0, by show _ < (arrV _ _ _).slots.size; rw [arrV_size]; exact hlt⟩ g1 (fun q h => by rw [g3] at h; cases h) (by rw [g2]; exact hkC) (by rw [g2]; exact va_assign hcls) rfl rfl hdg fun H1 q1 z oq => ?_
  refine kk H1 _ (hW.upd rfl rfl (fun b hb => zsame_stq hb) z oq ((z_at_arr (h := stq a i.toNatClampNeg (some b) h) (κ := 102 + ci) hka (by omega)).mpr ⟨cA, ⟨by rw [e2]; exact h1, by rw [e2]; exact h2⟩, ?_⟩)) (hS0.put z oq hbase)
  rw [q1, e1]
  show some (Cell.setSlot (arrV cA (zl h a) (fun j => va_rf (zq h a j))) i.toNatClampNeg (.ref b)) = some (arrV cA (zl h a) (fun j => va_rf (zq (stq a i.toNatClampNeg (some b) h) a j)))
  rw [arrV_store]
  congr 2
  funext q
  by_cases hq : q = i.toNatClampNeg
  · subst hq
    simp [updV, stq, zq, va_rf]
  · simp [updV, stq, zq, hq]
theorem zw_nO (hx : p.tables.exec = Jvm.exec) (hb : c.code = cc) {own C : String} {T : u_T} {N ci index : Nat} {Ts : List Cond} (hts : ∀ w ∈ Ts, w.before args s = true) (hin : ∀ w ∈ u_ws C T N, w ∈ Ts) (ty0 : Nat → FieldType) (hty : ∀ k, k < N → parseFieldDescriptor (T k).2.2.1 = some (ty0 k)) (hown : s.vm.findClass own = some m.cls) (hcl : (Cond.classLink own index C).before args s = true) (hinst : (Cond.instantiable C N).before args s = true) (hini : (Cond.initialized C).before args s = true)
    (hW : z_W D base s h H) (hS : va_S (zA base) H0 H locs) (hc : vwCl[ci]? = some (C, T, N)) (hci : ci < 99) (hfs : ∀ (h : zH) (a j : Nat), j < N → (∀ c k, zi h c k a = 0) → (∀ c k, zr h c k a = none) → defaultValue (ty0 j) = zv h ci j a) (hcells : cells + 1 ≤ R.cells) (hslots : slots + N ≤ R.slots) (hdg : decode cc pc = .ok (.new index, 3))
    (kk : ∀ H1 : Heap, z_W D base s (nwO ci h) H1 → va_S (zA base) H0 H1 locs → W p l e R s m args below meth c H1 locs (cells + 1) (slots + N) Q (F0 m (pc + 3) ls (va_rf (some (zs h)) :: rest))) : W p l e R s m args below meth c H locs cells slots Q (F0 m pc ls rest) := by
  have hKn := hW.1.1 ci _ hc
  refine W.newcK hx hb hown hcl hinst hini rfl hdg hcells hslots hKn.2.1 hW.2.2.1 fun H1 kC hkC e1 z1 o1 => ?_
  have hz := hW.2.2.1
  refine kk H1 (hW.new (κ := ci + 1) rfl rfl (fun b hb => zsame_nwO hb) (by omega) (fun b hb => o1 b (by omega)) ((z_at_obj (c := ci) (by simp [nwO, zk]) hci).mpr ⟨_, hc, (u_born ty0 hts hin hKn hkC e1 hty).to (fun j hj => hfs _ _ j hj (fun c k => by simp [nwO, zi]) (fun c k => by simp [nwO, zr]))⟩)) ⟨Nat.le_trans hS.1 (by omega), fun x g1 g2 => (o1 x (by have := hS.1; omega)).trans (hS.2.1 x g1 g2), hS.2.2⟩
theorem zw_nI (hx : p.tables.exec = Jvm.exec) (hb : c.code = cc) (harr : (Cond.arrayClass .int).before args s = true) (hW : z_W D base s h H) (hS : va_S (zA base) H0 H locs) {n : Int32} (N : Nat) (hn : ¬ n < 0) (hN : n.toNatClampNeg = N) (hbytes : N * 4 ≤ 536870912) (hcells : cells + 1 ≤ R.cells) (hslots : slots + N ≤ R.slots) (hdg : decode cc pc = .ok (.newarray .int, 2))
    (kk : ∀ H1 : Heap, z_W D base s (nwA 100 N h) H1 → va_S (zA base) H0 H1 locs → W p l e R s m args below meth c H1 locs (cells + 1) (slots + N) Q (F0 m (pc + 2) ls (va_rf (some (zs h)) :: rest))) : W p l e R s m args below meth c H locs cells slots Q (F0 m pc ls (.int n :: rest)) := by
  refine va_newaK (atype := .int) hx hb harr rfl hdg rfl hn hN hbytes hcells hslots hW.2.2.1 fun H1 cA e1 z1 o1 hAr hNm => ?_
  have hz := hW.2.2.1
  refine kk H1 (hW.new (κ := 100) rfl rfl (fun b hb => zsame_nwA hb) (by omega) (fun b hb => o1 b (by omega)) ((z_at_arr (κ := 100) (by simp [nwA, zk]) (by decide)).mpr ⟨cA, ⟨hAr, hNm⟩, ?_⟩)) ⟨Nat.le_trans hS.1 (by omega), fun x g1 g2 => (o1 x (by have := hS.1; omega)).trans (hS.2.1 x g1 g2), hS.2.2⟩
  rw [e1]
  have q1 : zl (nwA 100 N h) (zs h) = N := by simp [nwA, zl]
  have q2 : za (nwA 100 N h) (zs h) = fun _ => 0 := by funext j; simp [nwA, za]
  show _ = some (vp_cell cA (zl (nwA 100 N h) (zs h), .inl (za (nwA 100 N h) (zs h))))
  rw [q1, q2]
  rfl
theorem zw_nZ (hx : p.tables.exec = Jvm.exec) (hb : c.code = cc) (harr : (Cond.arrayClass .boolean).before args s = true) (hW : z_W D base s h H) (hS : va_S (zA base) H0 H locs) {n : Int32} (N : Nat) (hn : ¬ n < 0) (hN : n.toNatClampNeg = N) (hbytes : N * 1 ≤ 536870912) (hcells : cells + 1 ≤ R.cells) (hslots : slots + N ≤ R.slots) (hdg : decode cc pc = .ok (.newarray .boolean, 2))
    (kk : ∀ H1 : Heap, z_W D base s (nwA 101 N h) H1 → va_S (zA base) H0 H1 locs → W p l e R s m args below meth c H1 locs (cells + 1) (slots + N) Q (F0 m (pc + 2) ls (va_rf (some (zs h)) :: rest))) : W p l e R s m args below meth c H locs cells slots Q (F0 m pc ls (.int n :: rest)) := by
  refine va_newaK (atype := .boolean) hx hb harr rfl hdg rfl hn hN hbytes hcells hslots hW.2.2.1 fun H1 cA e1 z1 o1 hAr hNm => ?_
  have hz := hW.2.2.1
  refine kk H1 (hW.new (κ := 101) rfl rfl (fun b hb => zsame_nwA hb) (by omega) (fun b hb => o1 b (by omega)) ((z_at_arr (κ := 101) (by simp [nwA, zk]) (by decide)).mpr ⟨cA, ⟨hAr, hNm⟩, ?_⟩)) ⟨Nat.le_trans hS.1 (by omega), fun x g1 g2 => (o1 x (by have := hS.1; omega)).trans (hS.2.1 x g1 g2), hS.2.2⟩
  rw [e1]
  have q1 : zl (nwA 101 N h) (zs h) = N := by simp [nwA, zl]
  have q2 : za (nwA 101 N h) (zs h) = fun _ => 0 := by funext j; simp [nwA, za]
  show _ = some (vp_cell cA (zl (nwA 101 N h) (zs h), .inl (za (nwA 101 N h) (zs h))))
  rw [q1, q2]
  rfl
theorem zw_nQ (hx : p.tables.exec = Jvm.exec) (hb : c.code = cc) {own : String} {index : Nat} (ci : Nat) (hown : s.vm.findClass own = some m.cls) (hclink : (Cond.classLink own index (zR ci)).before args s = true) (hover : (Cond.arrayOver (.object (zR ci))).before args s = true) (hW : z_W D base s h H) (hS : va_S (zA base) H0 H locs) {n : Int32} (N : Nat) (hn : ¬ n < 0) (hN : n.toNatClampNeg = N) (hbytes : N * 4 ≤ 536870912) (hcells : cells + 1 ≤ R.cells) (hslots : slots + N ≤ R.slots) (hdg : decode cc pc = .ok (.anewarray index, 3))
    (kk : ∀ H1 : Heap, z_W D base s (nwA (102 + ci) N h) H1 → va_S (zA base) H0 H1 locs → W p l e R s m args below meth c H1 locs (cells + 1) (slots + N) Q (F0 m (pc + 3) ls (va_rf (some (zs h)) :: rest))) : W p l e R s m args below meth c H locs cells slots Q (F0 m pc ls (.int n :: rest)) := by
  subst hN
  refine W.anew hx hb hown hclink hover rfl hdg rfl hn hbytes hcells hslots fun cA kA comp f1 f2 f3 f4 => ?_
  generalize hH1 : H.push ({ cls := cA, slots := Array.replicate n.toNatClampNeg .null, vm := .none } : Cell) = H1
  have z1 : H1.size = H.size + 1 := by rw [← hH1, Array.size_push]
  have e1 : H1[H.size]? = some (arrV cA n.toNatClampNeg (fun _ => .null)) := by rw [← hH1, Array.getElem?_push_size, ← arrV_new]
  have o1 : ∀ q : Nat, q < H.size → H1[q]? = H[q]? := fun q hq => by rw [← hH1, Array.getElem?_push, if_neg (Nat.ne_of_lt hq)]
  have hAr : ArrOfT s cA (.object (zR ci)) := fun N z => ⟨(fun k h => by cases h), kA, f2, comp, f3⟩
  have e2 : zet (102 + ci) = .object (zR ci) := by unfold zet; rw [if_neg (by omega), if_neg (by omega), Nat.add_sub_cancel_left]
  have hz := hW.2.2.1
  rw [hz] at e1 ⊢
  refine kk H1 (hW.new (κ := 102 + ci) rfl rfl (fun b hb => zsame_nwA hb) (by omega) (fun b hb => o1 b (by omega)) ((z_at_arr (κ := 102 + ci) (by simp [nwA, zk]) (by omega)).mpr ⟨cA, ⟨by rw [e2]; exact hAr, by rw [e2]; exact ⟨kA, comp, f2, f3, f4, f1⟩⟩, ?_⟩)) ⟨Nat.le_trans hS.1 (by omega), fun x g1 g2 => (o1 x (by have := hS.1; omega)).trans (hS.2.1 x g1 g2), hS.2.2⟩
  rw [e1]
  have q1 : zl (nwA (102 + ci) n.toNatClampNeg h) (zs h) = n.toNatClampNeg := by simp [nwA, zl]
  have q2 : zq (nwA (102 + ci) n.toNatClampNeg h) (zs h) = fun _ => none := by funext j; simp [nwA, zq]
  have q3 : zar (nwA (102 + ci) n.toNatClampNeg h) (102 + ci) (zs h) = (zl (nwA (102 + ci) n.toNatClampNeg h) (zs h), .inr (.inr (.inr (.inr (zq (nwA (102 + ci) n.toNatClampNeg h) (zs h)))))) := by unfold zar; rw [if_neg (by omega)]
  rw [q3, q1, q2]
  rfl
end ZX
