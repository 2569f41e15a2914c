/-! Locals of one word each; steps of the pure programs taken apart; switches; a method's entry. -/
def zhas (ls : Array Slot) (n : Nat) (lv : List (Nat × Value)) : Prop := lv_has ls n lv ∧ ∀ q ∈ lv, q.2.category = 1
theorem z_sub {ls : Array Slot} {n : Nat} {l l' : List (Nat × Value)} (h : zhas ls n l) (ks : List Nat) (hl : lv_pick l ks = l') : zhas ls n l' := by
  refine ⟨lv_sub h.1 ks hl, fun q hq => ?_⟩
  rw [← hl] at hq
  obtain ⟨k, -, hk⟩ := List.mem_filterMap.mp hq
  exact h.2 q (List.mem_of_getElem? hk)
theorem z_filter {lv : List (Nat × Value)} {i : Nat} (hc : ∀ q ∈ lv, q.2.category = 1) : lv.filter (fun q => !(q.1 == i) && !(q.1 + 1 == i && q.2.category == 2)) = lv.filter (fun q => !(q.1 == i)) := by
  refine List.filter_congr (fun q hq => ?_)
  rw [hc q hq]
  simp
theorem z_stored {ls : Array Slot} {n i : Nat} {v : Value} {lv lv' : List (Nat × Value)} (h : zhas ls n lv) (hv : v.category = 1) (hl : (i, v) :: lv.filter (fun q => !(q.1 == i)) = lv') : ∀ q ∈ lv', q.2.category = 1 := by
  intro q hq
  rw [← hl] at hq
  rcases List.mem_cons.mp hq with rfl | hq
  · exact hv
  · exact h.2 q (List.mem_filter.mp hq).1
section ZL
variable {p : Program} {l : Launch} {e : Env} {R : Room} {s : State} {m : MethodId} {args : Array Value} {below : List Frame} {meth : Method} {c : Code} {H : Heap} {locs : List Loc} {cells slots : Nat} {Q : State → Prop}
variable {cc : ByteArray} {pc : Nat} {ls : Array Slot} {rest : List Value} {r : Option Nat}
theorem zl_istore_n (hx : p.tables.exec = Jvm.exec) (hb : c.code = cc) {k : Fin 4} {i nL : Nat} {x : Int32} {lv lv' : List (Nat × Value)} (hdg : decode cc pc = .ok (.istore_n k, 1)) (hi : (k : Nat) = i) (h : zhas ls nL lv) (hn : i < nL) (hl : (i, Value.int x) :: lv.filter (fun q => !(q.1 == i)) = lv') (kk : ∀ ls' : Array Slot, zhas ls' nL lv' → W p l e R s m args below meth c H locs cells slots Q (F0 m (pc + 1) ls' rest)) : W p l e R s m args below meth c H locs cells slots Q (F0 m pc ls (.int x :: rest)) :=
  lv_istore_n hx hb hdg hi h.1 hn (by rw [z_filter h.2]; exact hl) (fun ls' q => kk ls' ⟨q, z_stored h rfl hl⟩)
theorem zl_istore (hx : p.tables.exec = Jvm.exec) (hb : c.code = cc) {i nL : Nat} {x : Int32} {lv lv' : List (Nat × Value)} (hdg : decode cc pc = .ok (.istore i, 2)) (h : zhas ls nL lv) (hn : i < nL) (hl : (i, Value.int x) :: lv.filter (fun q => !(q.1 == i)) = lv') (kk : ∀ ls' : Array Slot, zhas ls' nL lv' → W p l e R s m args below meth c H locs cells slots Q (F0 m (pc + 2) ls' rest)) : W p l e R s m args below meth c H locs cells slots Q (F0 m pc ls (.int x :: rest)) :=
  lv_istore hx hb hdg h.1 hn (by rw [z_filter h.2]; exact hl) (fun ls' q => kk ls' ⟨q, z_stored h rfl hl⟩)
theorem zl_astore_n (hx : p.tables.exec = Jvm.exec) (hb : c.code = cc) {k : Fin 4} {i nL : Nat} {lv lv' : List (Nat × Value)} (hdg : decode cc pc = .ok (.astore_n k, 1)) (hi : (k : Nat) = i) (h : zhas ls nL lv) (hn : i < nL) (hl : (i, va_rf r) :: lv.filter (fun q => !(q.1 == i)) = lv') (kk : ∀ ls' : Array Slot, zhas ls' nL lv' → W p l e R s m args below meth c H locs cells slots Q (F0 m (pc + 1) ls' rest)) : W p l e R s m args below meth c H locs cells slots Q (F0 m pc ls (va_rf r :: rest)) :=
  zw_astore_n hx hb hdg hi h.1 hn (by rw [z_filter h.2]; exact hl) (fun ls' q => kk ls' ⟨q, z_stored h (va_rf_cat r) hl⟩)
theorem zl_astore (hx : p.tables.exec = Jvm.exec) (hb : c.code = cc) {i nL : Nat} {lv lv' : List (Nat × Value)} (hdg : decode cc pc = .ok (.astore i, 2)) (h : zhas ls nL lv) (hn : i < nL) (hl : (i, va_rf r) :: lv.filter (fun q => !(q.1 == i)) = lv') (kk : ∀ ls' : Array Slot, zhas ls' nL lv' → W p l e R s m args below meth c H locs cells slots Q (F0 m (pc + 2) ls' rest)) : W p l e R s m args below meth c H locs cells slots Q (F0 m pc ls (va_rf r :: rest)) :=
  zw_astore hx hb hdg h.1 hn (by rw [z_filter h.2]; exact hl) (fun ls' q => kk ls' ⟨q, z_stored h (va_rf_cat r) hl⟩)
theorem zl_iinc (hx : p.tables.exec = Jvm.exec) (hb : c.code = cc) {i nL k : Nat} {n : Int} {x v : Int32} {lv lv' : List (Nat × Value)} (hdg : decode cc pc = .ok (.iinc i n, 3)) (h : zhas ls nL lv) (hk : lv[k]? = some (i, .int x)) (hv : x + Int32.ofInt n = v) (hn : i < nL) (hl : (i, Value.int v) :: lv.filter (fun q => !(q.1 == i)) = lv') (kk : ∀ ls' : Array Slot, zhas ls' nL lv' → W p l e R s m args below meth c H locs cells slots Q (F0 m (pc + 3) ls' rest)) : W p l e R s m args below meth c H locs cells slots Q (F0 m pc ls rest) :=
  lv_iinc hx hb hdg h.1 hk hv hn (by rw [z_filter h.2]; exact hl) (fun ls' q => kk ls' ⟨q, z_stored h rfl hl⟩)
/-- a table switch at a place of the table -/
theorem zl_tab (hx : p.tables.exec = Jvm.exec) (hb : c.code = cc) {dflt lo hi : Int} {offs : Array Int} {len : Nat} {x : Int32} (v : Int) (off : Int) {tgt : Nat} (hdg : decode cc pc = .ok (.tableswitch dflt lo hi offs, len)) (hv : x.toInt = v) (h : lo ≤ v ∧ v ≤ hi ∧ offs[(v - lo).toNat]? = some off ∧ (pc : Int) + off = (tgt : Int)) (kk : W p l e R s m args below meth c H locs cells slots Q (F0 m tgt ls rest)) : W p l e R s m args below meth c H locs cells slots Q (F0 m pc ls (.int x :: rest)) :=
  lv_tableIn hx hb hdg (by rw [hv]; omega) (by rw [hv]; omega) (by rw [hv]; exact h.2.2.1) h.2.2.2 kk
/-- a table switch elsewhere -/
theorem zl_tabD (hx : p.tables.exec = Jvm.exec) (hb : c.code = cc) {dflt lo hi : Int} {offs : Array Int} {len : Nat} {x : Int32} (ks : List Int) {tgt : Nat} (hdg : decode cc pc = .ok (.tableswitch dflt lo hi offs, len)) (hk : ∀ k ∈ ks, ¬ x.toInt = k) (h : (List.range (hi - lo + 1).toNat).all (fun i => offs[i]? == some dflt || ks.contains (lo + i)) = true ∧ (pc : Int) + dflt = (tgt : Int)) (kk : W p l e R s m args below meth c H locs cells slots Q (F0 m tgt ls rest)) : W p l e R s m args below meth c H locs cells slots Q (F0 m pc ls (.int x :: rest)) := by
  by_cases h1 : x.toInt < lo
  · exact lv_tableOut hx hb hdg (Or.inl h1) h.2 kk
  · by_cases h2 : hi < x.toInt
    · exact lv_tableOut hx hb hdg (Or.inr h2) h.2 kk
    · have h3 := List.all_eq_true.mp h.1 (x.toInt - lo).toNat (List.mem_range.mpr (by omega))
      have h4 : lo + ((x.toInt - lo).toNat : Int) = x.toInt := by omega
      rw [h4, Bool.or_eq_true] at h3
      rcases h3 with h3 | h3
      · exact lv_tableIn hx hb hdg h1 h2 (by simpa using h3) h.2 kk
      · exact absurd rfl (hk _ (by simpa using h3))
end ZL
theorem ob {α β : Type} {x : Option α} {f : α → Option β} {b : β} (h : x.bind f = some b) : ∃ a, x = some a ∧ f a = some b := by
  cases x with
  | none => cases h
  | some a => exact ⟨a, rfl, h⟩
theorem oift {α : Type} {c : Prop} [Decidable c] {a b x : α} (hc : c) (h : (if c then a else b) = x) : a = x := by rw [if_pos hc] at h; exact h
theorem oiff {α : Type} {c : Prop} [Decidable c] {a b x : α} (hc : ¬ c) (h : (if c then a else b) = x) : b = x := by rw [if_neg hc] at h; exact h
theorem oret {α β : Type} {a c : α} {b d : β} (h : some (a, b) = some (c, d)) : c = a ∧ d = b := by cases h; exact ⟨rfl, rfl⟩
theorem oretv {α : Type} {a b : α} (h : some a = some b) : b = a := by cases h; rfl
/-- a boolean answer -/
def rZ (v : Int32) (h : zH) : Option (Int32 × zH) := if v = 0 ∨ v = 1 then some (v, h) else none
theorem oretz {v r : Int32} {h h' : zH} (q : rZ v h = some (r, h')) : (v = 0 ∨ v = 1) ∧ r = v ∧ h' = h := by
  unfold rZ at q
  split at q
  · next hv => cases q; exact ⟨hv, rfl, rfl⟩
  · cases q
theorem z_bool {v : Int32} (h : v = 0 ∨ v = 1) : narrow .boolean (.int v) = .int v ∧ fits .boolean (.int v) = true := by rcases h with rfl | rfl <;> exact ⟨rfl, rfl⟩
theorem z_refn {C : String} (v : Option Nat) : narrow (.object C) (va_rf v) = va_rf v := by cases v <;> rfl
theorem z_reff {C : String} (v : Option Nat) : fits (.object C) (va_rf v) = true := by cases v <;> rfl
theorem z_arrn {t : FieldType} (v : Option Nat) : narrow (.array t) (va_rf v) = va_rf v := by cases v <;> rfl
theorem z_arrf {t : FieldType} (v : Option Nat) : fits (.array t) (va_rf v) = true := by cases v <;> rfl
def zargs : Nat → List Value → List (Nat × Value)
  | _, [] => []
  | i, v :: vs => (i, v) :: zargs (i + 1) vs
theorem zargs_eq : ∀ (vs : List Value) (i : Nat), (∀ v ∈ vs, v.category = 1) → lv_args i vs = zargs i vs
  | [], _, _ => rfl
  | v :: vs, i, h => by
    have h1 : v.category = 1 := h v List.mem_cons_self
    simp only [lv_args, zargs, h1]
    rw [if_neg (by decide), zargs_eq vs (i + 1) (fun w hw => h w (List.mem_cons_of_mem _ hw))]
theorem zsl_len : ∀ (vs : List Value), (∀ v ∈ vs, v.category = 1) → (lg_sl vs).length = vs.length
  | [], _ => rfl
  | v :: vs, h => by
    have h1 : v.category = 1 := h v List.mem_cons_self
    have h2 := zsl_len vs (fun w hw => h w (List.mem_cons_of_mem _ hw))
    unfold lg_sl at h2 ⊢
    rw [List.flatMap_cons, List.length_append, h2, h1]
    simp [Nat.add_comm]
theorem zargs_cat : ∀ (vs : List Value) (i : Nat), (∀ v ∈ vs, v.category = 1) → ∀ q ∈ zargs i vs, q.2.category = 1
  | [], _, _, q, hq => by cases hq
  | v :: vs, i, h, q, hq => by
    rcases List.mem_cons.mp hq with rfl | hq
    · exact h v List.mem_cons_self
    · exact zargs_cat vs (i + 1) (fun w hw => h w (List.mem_cons_of_mem _ hw)) q hq
theorem z_entry (m : MethodId) (vs : List Value) (n : Nat) (hc : ∀ v ∈ vs, v.category = 1) (hn : vs.length ≤ n) : ∃ ls : Array Slot, entryFrame m vs.toArray n = F0 m 0 ls [] ∧ zhas ls n (zargs 0 vs) := by
  have h1 := lv_entry vs (n := n) (by rw [zsl_len vs hc]; exact hn)
  rw [zargs_eq vs 0 hc] at h1
  exact ⟨_, lg_entry_eq m vs n, h1, zargs_cat vs 0 hc⟩
/-- out of a walk of its body: a method's contract -/
theorem zMet.of {l : Launch} {D : va_G} {base : Nat} {y : MethodName} {cc : ByteArray} {n : Nat} {ret : Option FieldType} {rm : Room} {h : zH} {av : List Value} {v : Option Value} {h' : zH} (hy : plainName y.cls = true) (hc : ∀ v ∈ av, v.category = 1) (hn : av.length ≤ n)
    (body : ∀ (p : Program) (e : Env) (s : State) (m : MethodId) (args : Array Value) (below : List Frame) (meth : Method) (c : Code) (ls : Array Slot), zF p s m args meth c cc n y.cls ret → (y.name = "<init>" → meth.name = "<init>") → zhas ls n (zargs 0 av) → z_W D base s h s.heap → va_S (zA base) s.heap s.heap [] → W p l e rm s m args below meth c s.heap [] 0 0 (MQ below (zQ D base v h') args s rm.cells rm.slots (zA base)) (F0 m 0 ls [])) : zMet l D base y cc n ret rm h av v h' := by
  refine Met.ofW (cc := cc) (maxL := n) (ret := ret) hy rfl ?_
  intro p e s m args below meth c s₁ B hml hv
  obtain ⟨rfl, hW, hN⟩ := hv
  have hts : ∀ w ∈ zT, w.before av.toArray s = true := fun w hw => atoms_spec (ws := zwords y cc n ret) B.pre w (List.mem_cons_of_mem _ hw)
  obtain ⟨ls, e1, e2⟩ := z_entry m av n hc hn
  rw [e1]
  exact body p e s m av.toArray below meth c ls ⟨B.exec, B.bytes, hml, findClass_of_methodNamed B.named, hts, B.returns, B.notSynchronized, hN⟩ (fun hi => (name_of_methodNamed B.named B.method).1.trans hi) e2 hW va_S.rf
theorem zw_objInit {p : Program} {l : Launch} {e : Env} {R : Room} {s : State} {m : MethodId} {args : Array Value} {below : List Frame} {meth : Method} {c : Code} {H : Heap} {locs : List Loc} {cells slots : Nat} {Q : State → Prop} {cc : ByteArray} {pc nL idx ci a0 : Nat} {ls : Array Slot} {rest : List Value} {h : zH} {r : Option Nat} {own : String} {ret0 : Option FieldType} {bytes : ByteArray} (F : zF p s m args meth c cc nL own ret0) (hrc : rc ci r h = some a0)
    (w1 : Cond.methodLink own idx Lib.objectInit ∈ zT) (w2 : Cond.instanceMethod Lib.objectInit ∈ zT) (w3 : Cond.code Lib.objectInit bytes 1 none ∈ zT) (hby : bytes = ⟨#[0xb1]⟩) (hsize : ls.size = nL) (hframes : 1 ≤ R.frames) (hlocals : (rest.map fun v => v.category).sum + 12 ≤ R.locals) (hdg : decode cc pc = .ok (.invokespecial idx, 3))
    (kk : W p l e R s m args below meth c H locs cells slots Q (F0 m (pc + 3) ls rest)) : W p l e R s m args below meth c H locs cells slots Q (F0 m pc ls (va_rf r :: rest)) := by
  obtain ⟨hx, hb, hml, hown, hts, hret, hlk, hN⟩ := F
  obtain ⟨rfl, hk⟩ := rc_spec hrc
  subst hby
  refine W.objInit (a := a0) hx hb hown (hts _ w1) (hts _ w2) (hts _ w3) rfl (by rw [hml]; exact hsize) rfl hdg hframes ?_ kk
  have hm : JFrame.monitorRoom (F0 m pc ls (va_rf (some a0) :: rest)) = 0 := rfl
  rw [hm]
  omega
theorem z_icat (x : Int32) : (Value.int x).category = 1 := rfl
