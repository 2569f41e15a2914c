/-! The law's own body: printed by wip/whole/tools/genlaw.py. -/
def aS (L : Nat) (xs : Nat → Int32) (i : Int32) : Option Int32 := if ¬ (i < 0 ∨ L ≤ i.toNatClampNeg) then some (xs i.toNatClampNeg) else none
def fL_law_b468 (k18 : Option Nat → Option Nat → Int32 → zH → Option (Int32 × zH)) (l1 l2 : Option Nat) (l3 : Int32) (h : zH) : Option (Int32 × zH) :=
  k18 l1 l2 (l3 + 6) h
def fL_law_b18 (N L : Nat) (xs : Nat → Int32) : Nat → Option Nat → Option Nat → Int32 → zH → Option (Int32 × zH)
  | 0, _, _, _, _ => none
  | n + 1, l1, l2, l3, h =>
  if ((Int32.ofNat L) - 6) < l3 then (some (1, h))
  else ((aS L xs l3).bind fun v2 =>
    if (v2 &&& 15) = 0 then ((aS L xs (l3 + 1)).bind fun v4 =>
      (rc 8 l1 h).bind fun _ =>
      (fX8_kind N l1 v4 h).bind fun q5 =>
      (aS L xs (l3 + 1)).bind fun v6 =>
      (rc 9 l2 q5.2).bind fun _ =>
      (fX9_kind N l2 v6 q5.2).bind fun q7 =>
      if q5.1 = q7.1 then (fL_law_b468 (fL_law_b18 N L xs n) l1 l2 l3 q7.2)
      else (some (0, q7.2)))
    else if (v2 &&& 15) = 1 then ((aS L xs (l3 + 1)).bind fun v10 =>
      (aS L xs (l3 + 2)).bind fun v11 =>
      (rc 8 l1 h).bind fun _ =>
      (fX8_field l1 v10 v11 h).bind fun q12 =>
      (aS L xs (l3 + 1)).bind fun v13 =>
      (aS L xs (l3 + 2)).bind fun v14 =>
      (rc 9 l2 q12.2).bind fun _ =>
      (fX9_field l2 v13 v14 q12.2).bind fun q15 =>
      if q12.1 = q15.1 then (fL_law_b468 (fL_law_b18 N L xs n) l1 l2 l3 q15.2)
      else (some (0, q15.2)))
    else if (v2 &&& 15) = 2 then ((aS L xs (l3 + 1)).bind fun v18 =>
      (aS L xs (l3 + 2)).bind fun v19 =>
      (aS L xs (l3 + 3)).bind fun v20 =>
      (aS L xs (l3 + 4)).bind fun v21 =>
      (rc 8 l1 h).bind fun _ =>
      (fX8_method l1 v18 v19 v20 v21 h).bind fun q22 =>
      (aS L xs (l3 + 1)).bind fun v23 =>
      (aS L xs (l3 + 2)).bind fun v24 =>
      (aS L xs (l3 + 3)).bind fun v25 =>
      (aS L xs (l3 + 4)).bind fun v26 =>
      (rc 9 l2 q22.2).bind fun _ =>
      (fX9_method l2 v23 v24 v25 v26 q22.2).bind fun q27 =>
      if q22.1 = q27.1 then (fL_law_b468 (fL_law_b18 N L xs n) l1 l2 l3 q27.2)
      else (some (0, q27.2)))
    else if (v2 &&& 15) = 3 then ((aS L xs (l3 + 1)).bind fun v30 =>
      (aS L xs (l3 + 2)).bind fun v31 =>
      (rc 8 l1 h).bind fun _ =>
      (fX8_parameter l1 v30 v31 h).bind fun q32 =>
      (aS L xs (l3 + 1)).bind fun v33 =>
      (aS L xs (l3 + 2)).bind fun v34 =>
      (rc 9 l2 q32.2).bind fun _ =>
      (fX9_parameter l2 v33 v34 q32.2).bind fun q35 =>
      if q32.1 = q35.1 then (fL_law_b468 (fL_law_b18 N L xs n) l1 l2 l3 q35.2)
      else (some (0, q35.2)))
    else if (v2 &&& 15) = 4 then ((aS L xs (l3 + 1)).bind fun v38 =>
      (aS L xs (l3 + 2)).bind fun v39 =>
      (rc 8 l1 h).bind fun _ =>
      (fX8_slot N l1 v38 v39 h).bind fun q40 =>
      (aS L xs (l3 + 1)).bind fun v41 =>
      (aS L xs (l3 + 2)).bind fun v42 =>
      (rc 9 l2 q40.2).bind fun _ =>
      (fX9_slot N l2 v41 v42 q40.2).bind fun q43 =>
      if q40.1 = q43.1 then (fL_law_b468 (fL_law_b18 N L xs n) l1 l2 l3 q43.2)
      else (some (0, q43.2)))
    else if (v2 &&& 15) = 5 then ((aS L xs (l3 + 1)).bind fun v46 =>
      (aS L xs (l3 + 2)).bind fun v47 =>
      (aS L xs (l3 + 3)).bind fun v48 =>
      (aS L xs (l3 + 4)).bind fun v49 =>
      (rc 8 l1 h).bind fun _ =>
      (fX8_op l1 v46 v47 v48 v49 h).bind fun q50 =>
      (aS L xs (l3 + 1)).bind fun v51 =>
      (aS L xs (l3 + 2)).bind fun v52 =>
      (aS L xs (l3 + 3)).bind fun v53 =>
      (aS L xs (l3 + 4)).bind fun v54 =>
      (rc 9 l2 q50.2).bind fun _ =>
      (fX9_op l2 v51 v52 v53 v54 q50.2).bind fun q55 =>
      if q50.1 = q55.1 then (fL_law_b468 (fL_law_b18 N L xs n) l1 l2 l3 q55.2)
      else (some (0, q55.2)))
    else if (v2 &&& 15) = 6 then ((aS L xs (l3 + 1)).bind fun v58 =>
      (aS L xs (l3 + 2)).bind fun v59 =>
      (aS L xs (l3 + 3)).bind fun v60 =>
      (aS L xs (l3 + 4)).bind fun v61 =>
      (aS L xs (l3 + 5)).bind fun v62 =>
      (rc 8 l1 h).bind fun _ =>
      (fX8_handler l1 v58 v59 v60 v61 v62 h).bind fun q63 =>
      (aS L xs (l3 + 1)).bind fun v64 =>
      (aS L xs (l3 + 2)).bind fun v65 =>
      (aS L xs (l3 + 3)).bind fun v66 =>
      (aS L xs (l3 + 4)).bind fun v67 =>
      (aS L xs (l3 + 5)).bind fun v68 =>
      (rc 9 l2 q63.2).bind fun _ =>
      (fX9_handler l2 v64 v65 v66 v67 v68 q63.2).bind fun q69 =>
      if q63.1 = q69.1 then (fL_law_b468 (fL_law_b18 N L xs n) l1 l2 l3 q69.2)
      else (some (0, q69.2)))
    else if (v2 &&& 15) = 7 then ((aS L xs (l3 + 1)).bind fun v72 =>
      (rc 8 l1 h).bind fun _ =>
      (fX8_verify N l1 v72 h).bind fun q73 =>
      (aS L xs (l3 + 1)).bind fun v74 =>
      (rc 9 l2 q73.2).bind fun _ =>
      (fX9_verify N l2 v74 q73.2).bind fun q75 =>
      if q73.1 = q75.1 then (fL_law_b468 (fL_law_b18 N L xs n) l1 l2 l3 q75.2)
      else (some (0, q75.2)))
    else if (v2 &&& 15) = 8 then ((aS L xs (l3 + 1)).bind fun v78 =>
      (aS L xs (l3 + 2)).bind fun v79 =>
      (aS L xs (l3 + 3)).bind fun v80 =>
      (aS L xs (l3 + 4)).bind fun v81 =>
      (rc 8 l1 h).bind fun _ =>
      (fX8_stands l1 v78 v79 v80 v81 h).bind fun q82 =>
      (aS L xs (l3 + 1)).bind fun v83 =>
      (aS L xs (l3 + 2)).bind fun v84 =>
      (aS L xs (l3 + 3)).bind fun v85 =>
      (aS L xs (l3 + 4)).bind fun v86 =>
      (rc 9 l2 q82.2).bind fun _ =>
      (fX9_stands l2 v83 v84 v85 v86 q82.2).bind fun q87 =>
      if q82.1 = q87.1 then (fL_law_b468 (fL_law_b18 N L xs n) l1 l2 l3 q87.2)
      else (some (0, q87.2)))
    else if (v2 &&& 15) = 9 then ((rc 8 l1 h).bind fun _ =>
      (fX8_looked l1 h).bind fun q90 =>
      (rc 9 l2 q90.2).bind fun _ =>
      (fX9_looked l2 q90.2).bind fun q91 =>
      if q90.1 = q91.1 then (fL_law_b468 (fL_law_b18 N L xs n) l1 l2 l3 q91.2)
      else (some (0, q91.2)))
    else (fL_law_b468 (fL_law_b18 N L xs n) l1 l2 l3 h))
def fL_law (N M L : Nat) (xs : Nat → Int32) (h : zH) : Option (Int32 × zH) :=
  (fX8_init (some (zs h)) (nwO 8 h)).bind fun h93 =>
  (fX9_init (some (zs h93)) (nwO 9 h93)).bind fun h94 =>
  fL_law_b18 N L xs M (some (zs h)) (some (zs h93)) 0 h94
/-! THE CLAIM OUT OF ONE WALK OF THE LAW'S BODY. Your part is whole_start (and what it stands on); all else here is the same for every law, but numbers. -/
def R_law : String := "CodeVerifierLaw"
def lw_P (b : Addr) (xs : List Int32) (args : Array Value) (s : State) : Prop := args = #[.ref b] ∧ s.IntsAt b xs ∧ xs.length ≤ 3072 ∧ (Jvm.Cond.and given_1 narrow_1).before args s = true
def lw_Q (_ : Array Value) (s : State) (o : Outcome) (t : State) : Prop := o = .returned (some (.int 1)) ∧ Framed s o t [] 600000 7302249
def lw_Z (below : List Frame) (a : Array Value) (s : State) : State → Prop := fun t => ∃ o, t.status = .running ∧ Ended t below o ∧ lw_Q a s o t
/-- the law's own end, with 1 on the stack, nothing written that was there before, its room as the claim has it -/
theorem lw_ret {p : Program} {l : Launch} {e : Env} {s : State} {m : MethodId} {below : List Frame} {meth : Method} {c : Code} {b : Nat} (hx : p.tables.exec = Jvm.exec) (hb : c.code = code) (hr : meth.sig.returnType = ret) (hlocks : meth.locks = false) {pc : Nat} {H : Heap} {ls : Array Slot} (hdg : decode code pc = .ok (.ireturn, 1)) : W p l e room_1 s m #[Value.ref b] below meth c H [] 600000 7302249 (lw_Z below #[Value.ref b] s) (F0 m pc ls [.int 1]) := by
  intro T hT X
  obtain ⟨fs, hret, hrun, hended, hW, hframe⟩ := X.leave (v := some (.int 1)) (hlocks := hlocks) (fun h => by rw [hr] at h; cases h)
  have hmeth' : T.vm.method? m = some meth := X.method'
  refine ⟨T.setFrames fs, ?_, .returned (some (.int 1)), hrun, hended, rfl, ⟨_, rfl⟩, hW, hframe⟩
  jvm_step X.here [X.here.top, hx, hb, hdg, hmeth', hr, ret, narrow_b1]
  (try refine ⟨rfl, ?_⟩); (try refine ⟨rfl, ?_⟩)
  first | (intro acts; rw [hret _ acts rfl rfl rfl]) | rw [hret _ _ rfl rfl rfl]
  exact Steps.refl _
/-- what holds at the law's entry: the machine, the code, the tables' words (any of lw_tbl by 'hts w (by decide +kernel)'), the script of L ints xs at the cell b, what the Statement gives of the start (any of its parts by flat_of_before) -/
def lw_At (p : Program) (s : State) (m : MethodId) (meth : Method) (c : Code) (b L : Nat) (xs : Nat → Int32) : Prop :=
  p.tables.exec = Jvm.exec ∧ c.code = code ∧ meth.sig.returnType = ret ∧ c.maxLocals = 4 ∧ s.vm.findClass R_law = some m.cls ∧ (∀ w ∈ lw_tbl, w.before #[Value.ref b] s = true) ∧ va_X b L xs s s.heap ∧ b < s.heap.size ∧ meth.locks = false ∧ (Jvm.Cond.and given_1 narrow_1).before #[Value.ref b] s = true
