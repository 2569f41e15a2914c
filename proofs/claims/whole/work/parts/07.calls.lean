/-! What isn't among the good words: links of nest mates, classes of arrays of references. -/
def zN (U : State) : Prop := (∀ (a : String) (i : Nat) (x : MethodName) (g : String), Cond.methodLinkNest a i x g ∈ tables_1 → va_Nw (.methodLinkNest a i x g) U) ∧ ∀ C : String, Cond.arrayOver (.object C) ∈ tables_1 → va_AO C U
theorem zN.warm {s U : State} (hW : s.WarmedH U.vm) (q : zN s) : zN U := ⟨fun a i x g h => va_Nw.warmM hW (q.1 a i x g h), fun C h => va_AO.moved hW.alike (q.2 C h)⟩
theorem zN.same {s U : State} (hW : s.vm = U.vm) (q : zN s) : zN U := ⟨fun a i x g h => va_Nw.same rfl hW (q.1 a i x g h), fun C h => va_AO.moved (by rw [← hW]; exact Vm.Alike.refl _) (q.2 C h)⟩
def zQ (D : va_G) (base : Nat) (v : Option Value) (h' : zH) : Array Value → State → Outcome → State → Prop := fun _ st oc t => oc = .returned v ∧ z_W D base t h' t.heap ∧ va_F (zA base) st t
def zPc (D : va_G) (base : Nat) (h : zH) (av : List Value) : Array Value → State → Prop := va_Pc av (fun U => z_W D base U h U.heap ∧ zN U)
abbrev zwords (y : MethodName) (cc : ByteArray) (n : Nat) (ret : Option FieldType) : List Cond := Cond.code y cc n ret :: zT
/-- method y, called with av on the pure heap h, answers v and leaves h' -/
def zMet (l : Launch) (D : va_G) (base : Nat) (y : MethodName) (cc : ByteArray) (n : Nat) (ret : Option FieldType) (rm : Room) (h : zH) (av : List Value) (v : Option Value) (h' : zH) : Prop :=
  Met l y (zwords y cc n ret) rm (zPc D base h av) (zQ D base v h') rm.cells rm.slots (zA base)
theorem zPc_blind {D : va_G} {base : Nat} {h : zH} {av : List Value} : FrameBlind (zPc D base h av) := fun a U g mk q => ⟨q.1, z_W.moved (u := U) (U := U.calling g mk a) (Vm.Alike.refl U.vm) q.2.1, zN.same (s := U) (U := U.calling g mk a) rfl q.2.2⟩
theorem zT_goodIn {y y2 : MethodName} {cc cc2 : ByteArray} {n n2 : Nat} {ret ret2 : Option FieldType} (hc : Cond.code y cc n ret ∈ zT) : GoodIn (zwords y2 cc2 n2 ret2) (zwords y cc n ret) := by
  intro w hw
  have h1 : w ∈ zT := by
    rcases List.mem_cons.mp hw with rfl | h
    · exact hc
    · exact h
  exact ⟨List.mem_cons_of_mem _ h1, good_of_word (List.mem_filter.mp h1).2⟩
section ZC
variable {p : Program} {l : Launch} {e : Env} {R : Room} {s : State} {m : MethodId} {args : Array Value} {below : List Frame} {meth : Method} {c : Code} {H : Heap} {locs : List Loc} {cells slots : Nat} {Q : State → Prop}
variable {cc : ByteArray} {pc : Nat} {ls : Array Slot} {rest st0 : List Value} {D : va_G} {base : Nat} {h h' : zH} {H0 : Heap} {r : Option Nat}
/-- what a method's proof has in hand -/
def zF (p : Program) (s : State) (m : MethodId) (args : Array Value) (meth : Method) (c : Code) (cc : ByteArray) (nL : Nat) (own : String) (ret : Option FieldType) : Prop :=
  p.tables.exec = Jvm.exec ∧ c.code = cc ∧ c.maxLocals = nL ∧ s.vm.findClass own = some m.cls ∧ (∀ w ∈ zT, w.before args s = true) ∧ meth.sig.returnType = ret ∧ meth.locks = false ∧ zN s
theorem zw_call {mc ms : Nat} {v : Option Value} {a : Array Value} (hr : va_Run p l e R s m args below meth c H locs cells slots mc ms (F0 m pc ls st0) rest (zQ D base v h' a) (zA base)) (hS : va_S (zA base) H0 H locs)
    (kk : ∀ (H1 : Heap) (locs1 : List Loc), z_W D base s h' H1 → va_S (zA base) H0 H1 locs1 → W p l e R s m args below meth c H1 locs1 (cells + mc) (slots + ms) Q (F0 m (pc + 3) ls (v.toList ++ rest))) : W p l e R s m args below meth c H locs cells slots Q (F0 m pc ls st0) := by
  intro T hT X
  obtain ⟨v', st₀, t, T', L, h0, X', hL, e1, e2, ⟨hv, hB, hz, hk⟩, st⟩ := hr T hT X
  cases hv
  rw [h0] at hz hk
  obtain ⟨t2, a1, b1⟩ := kk T'.heap (locs ++ L) (z_W.moved (by rw [← e2]; exact X'.warmed.alike.symm) (by rw [e1]; exact hB))
    ⟨Nat.le_trans hS.1 (by rw [e1]; exact hz), fun q h1 h2 => by rw [e1, hk q (Nat.lt_of_lt_of_le h1 hS.1) h2]; exact hS.2.1 q h1 h2, fun q hq => by
      rcases List.mem_append.mp hq with h | h
      · exact hS.2.2 q h
      · exact hL q h⟩ T' rfl X'
  exact ⟨t2, st t2 a1, b1⟩
theorem zw_callV {nL n index maxL : Nat} {own C : String} {ret0 ret : Option FieldType} {y : MethodName} {bytes : ByteArray} {rm : Room} {As : List Value} {v : Option Value} (F : zF p s m args meth c cc nL own ret0) (hM : zMet l D base y bytes maxL ret rm h (va_rf r :: As) v h') (ci : Nat) {T : u_T} {N : Nat} (hc : vwCl[ci]? = some (C, T, N)) (hci : ci < 99) {a0 : Nat} (hrc : rc ci r h = some a0)
    (w1 : Cond.methodLink own index y ∈ zT) (w2 : Cond.instanceMethod y ∈ zT) (w3 : Cond.selects C y y ∈ zT) (w4 : Cond.initialized C ∈ zT) (w5 : Cond.code y bytes maxL ret ∈ zT) (hd : y.cls = C ∧ y.cls ≠ "java/lang/invoke/MethodHandle" ∧ y.cls ≠ "java/lang/invoke/VarHandle" ∧ (parseMethodDescriptor y.desc).map (fun d => d.parameters.length) = some n) (hR : rm.frames + 1 ≤ R.frames ∧ 8 + (maxL + 11) + rm.locals ≤ R.locals)
    (hW : z_W D base s h H) (hS : va_S (zA base) H0 H locs) (hn : As.length = n) (hsize : ls.size = nL) (hroom : (rest.map fun v => v.category).sum ≤ 8) (hst : st0 = As.reverse ++ va_rf r :: rest) (hf : cells + rm.cells ≤ R.cells ∧ slots + rm.slots ≤ R.slots) (hdg : decode cc pc = .ok (.invokevirtual index, 3))
    (kk : ∀ (H1 : Heap) (locs1 : List Loc), z_W D base s h' H1 → va_S (zA base) H0 H1 locs1 → W p l e R s m args below meth c H1 locs1 (cells + rm.cells) (slots + rm.slots) Q (F0 m (pc + 3) ls (v.toList ++ rest))) : W p l e R s m args below meth c H locs cells slots Q (F0 m pc ls st0) := by
  obtain ⟨hx, hb, hml, hown, hts, hret, hlk, hN⟩ := F
  obtain ⟨rfl, hk⟩ := rc_spec hrc
  obtain ⟨r', h1, cell, q1, q2, q3, q4⟩ := hW.obj hk hci
  have hcls := (hW.1.1 ci _ hc).2
  have hG : GoodIn (zwords y bytes maxL ret) (wsV own index C y (zwords y bytes maxL ret)) := by
    intro w hw
    have h5 : w ∈ zT := by
      rcases List.mem_append.mp hw with h | h
      · simp only [List.mem_cons, List.not_mem_nil, or_false] at h
        rcases h with rfl | rfl | rfl | rfl
        · exact w1
        · exact w2
        · exact w3
        · exact w4
      · rcases List.mem_cons.mp h with rfl | h
        · exact w5
        · exact h
    exact ⟨List.mem_cons_of_mem _ h5, good_of_word (List.mem_filter.mp h5).2⟩
  have hts2 : ∀ w ∈ zwords y bytes maxL ret, w.before args s = true := fun w hw => (List.mem_cons.mp hw).elim (fun q => by rw [q]; exact hts _ w5) (hts w)
  refine zw_call (va_runV (As := As) (rest := rest) (b := a0) ⟨hx, hb, hml, hown, hts2⟩ hM (cwV n hts2 hG rfl rfl rfl hd hR) ⟨zPc_blind, ⟨cell, q1, by rw [q3]; rfl, by rw [q2]; exact hcls.1⟩, fun U hU hWm => ⟨rfl, z_W.moved hWm.alike (by rw [hU]; exact hW), zN.warm hWm hN⟩⟩ rfl hn hsize hst (lv_room hroom) hdg hf) hS kk
theorem zw_callI {nL n index maxL : Nat} {own : String} {ret0 : Option FieldType} {y : MethodName} {bytes : ByteArray} {rm : Room} {As : List Value} {v : Option Value} (F : zF p s m args meth c cc nL own ret0) (hM : zMet l D base y bytes maxL none rm h (va_rf r :: As) v h') {a0 : Nat} (hrc : r = some a0)
    (w1 : Cond.methodLink own index y ∈ zT) (w2 : Cond.instanceMethod y ∈ zT) (w4 : Cond.initialized y.cls ∈ zT) (w5 : Cond.code y bytes maxL none ∈ zT) (hy1 : y.name = "<init>") (hd : y.cls ≠ "java/lang/invoke/MethodHandle" ∧ y.cls ≠ "java/lang/invoke/VarHandle" ∧ (parseMethodDescriptor y.desc).map (fun d => d.parameters.length) = some n) (hR : rm.frames + 1 ≤ R.frames ∧ 8 + (maxL + 11) + rm.locals ≤ R.locals)
    (hW : z_W D base s h H) (hS : va_S (zA base) H0 H locs) (hn : As.length = n) (hsize : ls.size = nL) (hroom : (rest.map fun v => v.category).sum ≤ 8) (hst : st0 = As.reverse ++ va_rf r :: rest) (hf : cells + rm.cells ≤ R.cells ∧ slots + rm.slots ≤ R.slots) (hdg : decode cc pc = .ok (.invokespecial index, 3))
    (kk : ∀ (H1 : Heap) (locs1 : List Loc), z_W D base s h' H1 → va_S (zA base) H0 H1 locs1 → W p l e R s m args below meth c H1 locs1 (cells + rm.cells) (slots + rm.slots) Q (F0 m (pc + 3) ls (v.toList ++ rest))) : W p l e R s m args below meth c H locs cells slots Q (F0 m pc ls st0) := by
  obtain ⟨hx, hb, hml, hown, hts, hret, hlk, hN⟩ := F
  subst hrc
  have hts2 : ∀ w ∈ zwords y bytes maxL none, w.before args s = true := fun w hw => (List.mem_cons.mp hw).elim (fun q => by rw [q]; exact hts _ w5) (hts w)
  refine zw_call (va_runI (As := As) (rest := rest) (b := a0) ⟨hx, hb, hml, hown, hts2⟩ hM (cwI n hts2 (zT_goodIn w5) rfl rfl rfl (hts _ w4) (hts _ w1) (hts _ w2) hy1 hd hR) ⟨zPc_blind, fun U hU hWm => ⟨rfl, z_W.moved hWm.alike (by rw [hU]; exact hW), zN.warm hWm hN⟩⟩ rfl hn hsize hst (lv_room hroom) hdg hf) hS kk
theorem zw_callIN {nL n index maxL : Nat} {own host : String} {ret0 : Option FieldType} {y : MethodName} {bytes : ByteArray} {rm : Room} {As : List Value} {v : Option Value} (F : zF p s m args meth c cc nL own ret0) (hM : zMet l D base y bytes maxL none rm h (va_rf r :: As) v h') {a0 : Nat} (hrc : r = some a0)
    (w1 : Cond.methodLinkNest own index y host ∈ tables_1) (w2 : Cond.instanceMethod y ∈ zT) (w4 : Cond.initialized y.cls ∈ zT) (w5 : Cond.code y bytes maxL none ∈ zT) (hy1 : y.name = "<init>") (hd : y.cls ≠ "java/lang/invoke/MethodHandle" ∧ y.cls ≠ "java/lang/invoke/VarHandle" ∧ (parseMethodDescriptor y.desc).map (fun d => d.parameters.length) = some n) (hR : rm.frames + 1 ≤ R.frames ∧ 8 + (maxL + 11) + rm.locals ≤ R.locals)
    (hW : z_W D base s h H) (hS : va_S (zA base) H0 H locs) (hn : As.length = n) (hsize : ls.size = nL) (hroom : (rest.map fun v => v.category).sum ≤ 8) (hst : st0 = As.reverse ++ va_rf r :: rest) (hf : cells + rm.cells ≤ R.cells ∧ slots + rm.slots ≤ R.slots) (hdg : decode cc pc = .ok (.invokespecial index, 3))
    (kk : ∀ (H1 : Heap) (locs1 : List Loc), z_W D base s h' H1 → va_S (zA base) H0 H1 locs1 → W p l e R s m args below meth c H1 locs1 (cells + rm.cells) (slots + rm.slots) Q (F0 m (pc + 3) ls (v.toList ++ rest))) : W p l e R s m args below meth c H locs cells slots Q (F0 m pc ls st0) := by
  obtain ⟨hx, hb, hml, hown, hts, hret, hlk, hN⟩ := F
  subst hrc
  have hts2 : ∀ w ∈ zwords y bytes maxL none, w.before args s = true := fun w hw => (List.mem_cons.mp hw).elim (fun q => by rw [q]; exact hts _ w5) (hts w)
  refine zw_call (va_runIN (As := As) (rest := rest) (b := a0) ⟨hx, hb, hml, hown, hts2⟩ hM ⟨va_cnB n hts2 (zT_goodIn w5) rfl rfl rfl (hN.1 _ _ _ _ w1) (hts _ w4) hd hR, hy1, hts _ w2⟩ ⟨zPc_blind, fun U hU hWm => ⟨rfl, z_W.moved hWm.alike (by rw [hU]; exact hW), zN.warm hWm hN⟩⟩ rfl hn hsize hst (lv_room hroom) hdg hf) hS kk
theorem zw_callS {nL n index maxL : Nat} {own : String} {ret0 ret : Option FieldType} {y : MethodName} {bytes : ByteArray} {rm : Room} {As : List Value} {v : Option Value} (F : zF p s m args meth c cc nL own ret0) (hM : zMet l D base y bytes maxL ret rm h As v h')
    (w1 : Cond.methodLink own index y ∈ zT) (w2 : Cond.static y ∈ zT) (w4 : Cond.initialized y.cls ∈ zT) (w5 : Cond.code y bytes maxL ret ∈ zT) (hd : y.cls ≠ "java/lang/invoke/MethodHandle" ∧ y.cls ≠ "java/lang/invoke/VarHandle" ∧ (parseMethodDescriptor y.desc).map (fun d => d.parameters.length) = some n) (hR : rm.frames + 1 ≤ R.frames ∧ 8 + (maxL + 11) + rm.locals ≤ R.locals)
    (hW : z_W D base s h H) (hS : va_S (zA base) H0 H locs) (hn : As.length = n) (hsize : ls.size = nL) (hroom : (rest.map fun v => v.category).sum ≤ 8) (hst : st0 = As.reverse ++ rest) (hf : cells + rm.cells ≤ R.cells ∧ slots + rm.slots ≤ R.slots) (hdg : decode cc pc = .ok (.invokestatic index, 3))
    (kk : ∀ (H1 : Heap) (locs1 : List Loc), z_W D base s h' H1 → va_S (zA base) H0 H1 locs1 → W p l e R s m args below meth c H1 locs1 (cells + rm.cells) (slots + rm.slots) Q (F0 m (pc + 3) ls (v.toList ++ rest))) : W p l e R s m args below meth c H locs cells slots Q (F0 m pc ls st0) := by
  obtain ⟨hx, hb, hml, hown, hts, hret, hlk, hN⟩ := F
  have hts2 : ∀ w ∈ zwords y bytes maxL ret, w.before args s = true := fun w hw => (List.mem_cons.mp hw).elim (fun q => by rw [q]; exact hts _ w5) (hts w)
  refine zw_call (va_runS (As := As) (rest := rest) ⟨hx, hb, hml, hown, hts2⟩ hM ⟨callB_of n hts2 (zT_goodIn w5) rfl rfl rfl (hts _ w4) (hts _ w1) hd hR, hts _ w2⟩ ⟨zPc_blind, fun U hU hWm => ⟨rfl, z_W.moved hWm.alike (by rw [hU]; exact hW), zN.warm hWm hN⟩⟩ rfl hn hsize hst (lv_room hroom) hdg hf) hS kk
theorem zw_callSN {nL n index maxL : Nat} {own host : String} {ret0 ret : Option FieldType} {y : MethodName} {bytes : ByteArray} {rm : Room} {As : List Value} {v : Option Value} (F : zF p s m args meth c cc nL own ret0) (hM : zMet l D base y bytes maxL ret rm h As v h')
    (w1 : Cond.methodLinkNest own index y host ∈ tables_1) (w2 : Cond.static y ∈ zT) (w4 : Cond.initialized y.cls ∈ zT) (w5 : Cond.code y bytes maxL ret ∈ zT) (hd : y.cls ≠ "java/lang/invoke/MethodHandle" ∧ y.cls ≠ "java/lang/invoke/VarHandle" ∧ (parseMethodDescriptor y.desc).map (fun d => d.parameters.length) = some n) (hR : rm.frames + 1 ≤ R.frames ∧ 8 + (maxL + 11) + rm.locals ≤ R.locals)
    (hW : z_W D base s h H) (hS : va_S (zA base) H0 H locs) (hn : As.length = n) (hsize : ls.size = nL) (hroom : (rest.map fun v => v.category).sum ≤ 8) (hst : st0 = As.reverse ++ rest) (hf : cells + rm.cells ≤ R.cells ∧ slots + rm.slots ≤ R.slots) (hdg : decode cc pc = .ok (.invokestatic index, 3))
    (kk : ∀ (H1 : Heap) (locs1 : List Loc), z_W D base s h' H1 → va_S (zA base) H0 H1 locs1 → W p l e R s m args below meth c H1 locs1 (cells + rm.cells) (slots + rm.slots) Q (F0 m (pc + 3) ls (v.toList ++ rest))) : W p l e R s m args below meth c H locs cells slots Q (F0 m pc ls st0) := by
  obtain ⟨hx, hb, hml, hown, hts, hret, hlk, hN⟩ := F
  have hts2 : ∀ w ∈ zwords y bytes maxL ret, w.before args s = true := fun w hw => (List.mem_cons.mp hw).elim (fun q => by rw [q]; exact hts _ w5) (hts w)
  refine zw_call (va_runSN (As := As) (rest := rest) ⟨hx, hb, hml, hown, hts2⟩ hM ⟨va_cnB n hts2 (zT_goodIn w5) rfl rfl rfl (hN.1 _ _ _ _ w1) (hts _ w4) hd hR, hts _ w2, trivial⟩ ⟨zPc_blind, fun U hU hWm => ⟨rfl, z_W.moved hWm.alike (by rw [hU]; exact hW), zN.warm hWm hN⟩⟩ rfl hn hsize hst (lv_room hroom) hdg hf) hS kk
theorem zw_ireturn {nL : Nat} {own : String} {v : Int32} (F : zF p s m args meth c cc nL own (some .int)) (hW : z_W D base s h H) (hS : va_S (zA base) s.heap H locs) (hdg : decode cc pc = .ok (.ireturn, 1)) : W p l e R s m args below meth c H locs cells slots (MQ below (zQ D base (some (.int v)) h) args s cells slots (zA base)) (F0 m pc ls [.int v]) := by
  obtain ⟨hx, hb, hml, hown, hts, hret, hlk, hN⟩ := F
  exact W.iret (v := v) hx hb hret (fun t ht hWm => ⟨rfl, z_W.moved hWm.alike (by rw [ht]; exact hW), hS.F ht⟩) hS.2.2 hdg hlk
theorem zw_zreturn {nL : Nat} {own : String} {v : Int32} (F : zF p s m args meth c cc nL own (some .boolean)) (hv : v = 0 ∨ v = 1) (hW : z_W D base s h H) (hS : va_S (zA base) s.heap H locs) (hdg : decode cc pc = .ok (.ireturn, 1)) : W p l e R s m args below meth c H locs cells slots (MQ below (zQ D base (some (.int v)) h) args s cells slots (zA base)) (F0 m pc ls [.int v]) := by
  obtain ⟨hx, hb, hml, hown, hts, hret, hlk, hN⟩ := F
  exact W.zret (v := v) hx hb hret (by rcases hv with rfl | rfl <;> rfl) (fun t ht hWm => ⟨rfl, z_W.moved hWm.alike (by rw [ht]; exact hW), hS.F ht⟩) hS.2.2 hdg hlk
theorem zw_vreturn {nL : Nat} {own : String} (F : zF p s m args meth c cc nL own none) (hW : z_W D base s h H) (hS : va_S (zA base) s.heap H locs) (hdg : decode cc pc = .ok (.return_, 1)) : W p l e R s m args below meth c H locs cells slots (MQ below (zQ D base none h) args s cells slots (zA base)) (F0 m pc ls []) := by
  obtain ⟨hx, hb, hml, hown, hts, hret, hlk, hN⟩ := F
  exact W.vret hx hb hret (fun t ht hWm => ⟨rfl, z_W.moved hWm.alike (by rw [ht]; exact hW), hS.F ht⟩) hS.2.2 hdg hlk
theorem zw_areturn {nL : Nat} {own C : String} {v : Option Nat} (F : zF p s m args meth c cc nL own (some (.object C))) (hW : z_W D base s h H) (hS : va_S (zA base) s.heap H locs) (hdg : decode cc pc = .ok (.areturn, 1)) : W p l e R s m args below meth c H locs cells slots (MQ below (zQ D base (some (va_rf v)) h) args s cells slots (zA base)) (F0 m pc ls [va_rf v]) := by
  obtain ⟨hx, hb, hml, hown, hts, hret, hlk, hN⟩ := F
  exact W.aret (v := va_rf v) hx hb hret (Or.inl ⟨_, rfl⟩) (va_rf_or v) (fun t ht hWm => ⟨rfl, z_W.moved hWm.alike (by rw [ht]; exact hW), hS.F ht⟩) hS.2.2 hdg hlk
theorem va_rf_cat (v : Option Nat) : (va_rf v).category = 1 := by cases v <;> rfl
theorem zw_aload_n (hx : p.tables.exec = Jvm.exec) (hb : c.code = cc) {k : Fin 4} {i : Nat} (hdg : decode cc pc = .ok (.aload_n k, 1)) (hi : (k : Nat) = i) (hl : ls[i]? = some (.val (va_rf r))) (kk : W p l e R s m args below meth c H locs cells slots Q (F0 m (pc + 1) ls (va_rf r :: rest))) : W p l e R s m args below meth c H locs cells slots Q (F0 m pc ls rest) := by
  cases r with
  | none => exact lv_aload_nN hx hb hdg hi hl kk
  | some a => exact lv_aload_n hx hb hdg hi hl kk
theorem zw_aload (hx : p.tables.exec = Jvm.exec) (hb : c.code = cc) {i : Nat} (hdg : decode cc pc = .ok (.aload i, 2)) (hl : ls[i]? = some (.val (va_rf r))) (kk : W p l e R s m args below meth c H locs cells slots Q (F0 m (pc + 2) ls (va_rf r :: rest))) : W p l e R s m args below meth c H locs cells slots Q (F0 m pc ls rest) := by
  cases r with
  | none => exact lv_aloadN hx hb hdg hl kk
  | some a => exact lv_aload hx hb hdg hl kk
theorem zw_astore_n (hx : p.tables.exec = Jvm.exec) (hb : c.code = cc) {k : Fin 4} {i nL : Nat} {lv lv' : List (Nat × Value)} (hdg : decode cc pc = .ok (.astore_n k, 1)) (hi : (k : Nat) = i) (q : lv_has ls nL lv) (hn : i < nL) (hl : (i, va_rf r) :: lv.filter (fun q => !(q.1 == i) && !(q.1 + 1 == i && q.2.category == 2)) = lv') (kk : ∀ ls', lv_has ls' nL lv' → W p l e R s m args below meth c H locs cells slots Q (F0 m (pc + 1) ls' rest)) : W p l e R s m args below meth c H locs cells slots Q (F0 m pc ls (va_rf r :: rest)) := by
  cases r with
  | none => exact lv_astore_nN hx hb hdg hi q hn hl kk
  | some a => exact lv_astore_n hx hb hdg hi q hn hl kk
theorem zw_astore (hx : p.tables.exec = Jvm.exec) (hb : c.code = cc) {i nL : Nat} {lv lv' : List (Nat × Value)} (hdg : decode cc pc = .ok (.astore i, 2)) (q : lv_has ls nL lv) (hn : i < nL) (hl : (i, va_rf r) :: lv.filter (fun q => !(q.1 == i) && !(q.1 + 1 == i && q.2.category == 2)) = lv') (kk : ∀ ls', lv_has ls' nL lv' → W p l e R s m args below meth c H locs cells slots Q (F0 m (pc + 2) ls' rest)) : W p l e R s m args below meth c H locs cells slots Q (F0 m pc ls (va_rf r :: rest)) := by
  cases r with
  | none => exact lv_astoreN hx hb hdg q hn hl kk
  | some a => exact lv_astore hx hb hdg q hn hl kk
theorem zw_ifnull (hx : p.tables.exec = Jvm.exec) (hb : c.code = cc) {off : Int} {tgt : Nat} (hdg : decode cc pc = .ok (.ifnull off, 3)) (ht : (pc : Int) + off = (tgt : Int)) (k1 : r = none → W p l e R s m args below meth c H locs cells slots Q (F0 m tgt ls rest)) (k2 : ¬ r = none → W p l e R s m args below meth c H locs cells slots Q (F0 m (pc + 3) ls rest)) : W p l e R s m args below meth c H locs cells slots Q (F0 m pc ls (va_rf r :: rest)) := by
  cases r with
  | none => exact lv_ifnullN hx hb hdg ht (k1 rfl)
  | some a => exact lv_ifnull hx hb hdg (k2 (fun h => by cases h))
theorem zw_ifnonnull (hx : p.tables.exec = Jvm.exec) (hb : c.code = cc) {off : Int} {tgt : Nat} (hdg : decode cc pc = .ok (.ifnonnull off, 3)) (ht : (pc : Int) + off = (tgt : Int)) (k1 : ¬ r = none → W p l e R s m args below meth c H locs cells slots Q (F0 m tgt ls rest)) (k2 : r = none → W p l e R s m args below meth c H locs cells slots Q (F0 m (pc + 3) ls rest)) : W p l e R s m args below meth c H locs cells slots Q (F0 m pc ls (va_rf r :: rest)) := by
  cases r with
  | none => exact lv_ifnonnullN hx hb hdg (k2 rfl)
  | some a => exact lv_ifnonnull hx hb hdg ht (k1 (fun h => by cases h))
theorem zw_null (hx : p.tables.exec = Jvm.exec) (hb : c.code = cc) (hdg : decode cc pc = .ok (.aconst_null, 1)) (kk : W p l e R s m args below meth c H locs cells slots Q (F0 m (pc + 1) ls (va_rf none :: rest))) : W p l e R s m args below meth c H locs cells slots Q (F0 m pc ls rest) := lv_null hx hb hdg kk
end ZC
