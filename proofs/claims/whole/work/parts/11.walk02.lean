section
variable {p : Program} {l : Launch} {e : Env} {s : State} {m : MethodId} {args : Array Value} {below : List Frame} {meth : Method} {c : Code} {D : va_G} {base : Nat}
set_option maxRecDepth 100000 in
set_option maxHeartbeats 4000000 in
theorem kX3_addHandler_w (F : zF p s m args meth c cX3_addHandler 5 RX3 (some .int)) {r : Int32} {h' : zH} (a0 : Option Nat) (a1 : Int32) (a2 : Int32) (a3 : Int32) (a4 : Int32) (h : zH) (hf : fX3_addHandler a0 a1 a2 a3 a4 h = some (r, h')) (H : Heap) (locs : List Loc) (ls : Array Slot) (hl : zhas ls 5 [(0, va_rf a0), (1, .int a1), (2, .int a2), (3, .int a3), (4, .int a4)]) (hW : z_W D base s h H) (hS : va_S (zA base) s.heap H locs) : W p l e rmX3_addHandler s m args below meth c H locs 0 0 (MQ below (zQ D base (some (.int r)) h') args s rmX3_addHandler.cells rmX3_addHandler.slots (zA base)) (F0 m 0 ls []) := by
  obtain ⟨hx, hb, hml, hown, hts, hret, hlk, hZ⟩ := id F
  unfold fX3_addHandler at hf
  refine zw_aload_n hx hb dX3_addHandler_0 rfl (lv_at hl.1 0 rfl) ?_
  obtain ⟨v1, e1, hf⟩ := ob hf
  refine zw_gI hx hb hts inX3 hown hW (ci := 3) rfl (by decide) 9 (by decide) (hts _ wd_227) e1 (fun _ _ => rfl) dX3_addHandler_1 ?_
  refine lv_bipush (v := 8) hx hb dX3_addHandler_4 (by decide) ?_
  refine lv_icmp_lt (tgt := 12) hx hb dX3_addHandler_6 (by decide) (fun c2 => ?_) (fun c2 => ?_)
  · have hf := oift c2 hf
    refine zw_aload_n hx hb dX3_addHandler_12 rfl (lv_at hl.1 0 rfl) ?_
    obtain ⟨v3, e3, hf⟩ := ob hf
    refine zw_gR hx hb hts inX3 hown hW (ci := 3) rfl (by decide) 6 (by decide) (hts _ wd_220) e3 (fun _ _ => rfl) dX3_addHandler_13 ?_
    refine zw_aload_n hx hb dX3_addHandler_16 rfl (lv_at hl.1 0 rfl) ?_
    obtain ⟨v4, e4, hf⟩ := ob hf
    refine zw_gI hx hb hts inX3 hown hW (ci := 3) rfl (by decide) 9 (by decide) (hts _ wd_227) e4 (fun _ _ => rfl) dX3_addHandler_17 ?_
    refine zw_nO hx hb hts inX0 tyX0 tyX0_ok hown (hts _ wd_203) (hts _ wd_362) (hts _ wd_11) hW hS (ci := 0) rfl (by decide) zdX0 (by decide) (by decide) dX3_addHandler_20 (fun H hW hS => ?_)
    refine lv_dup hx hb dX3_addHandler_23 (va_rf_cat _) ?_
    refine lv_iload_n hx hb dX3_addHandler_24 rfl (lv_at hl.1 1 rfl) ?_
    refine lv_iload_n hx hb dX3_addHandler_25 rfl (lv_at hl.1 2 rfl) ?_
    refine lv_iload_n hx hb dX3_addHandler_26 rfl (lv_at hl.1 3 rfl) ?_
    refine lv_iload hx hb dX3_addHandler_27 (lv_at hl.1 4 rfl) ?_
    obtain ⟨h5, e5, hf⟩ := ob hf
    refine zw_callI (rest := [va_rf (some (zs h)), .int v4, va_rf v3]) (n := 4) F (kX0_init l D base (some (zs h)) a1 a2 a3 a4 (nwO 0 h) e5) rfl wd_363 wd_364 wd_11 wd_365 rfl (by decide +kernel) ⟨by decide, by decide⟩ hW hS rfl hl.1.1 (by simp only [List.map_cons, List.map_nil, va_rf_cat, z_icat, List.sum_cons, List.sum_nil]; decide) rfl ⟨(by decide), (by decide)⟩ dX3_addHandler_29 (fun H locs hW hS => ?_)
    refine W.eq (g2 := F0 m 32 ls [va_rf (some (zs h)), .int v4, va_rf v3]) rfl ?_
    obtain ⟨h6, e6, hf⟩ := ob hf
    refine zw_sQ hx hb hW hS 0 rfl (by decide) e6 dX3_addHandler_32 (fun H locs hW hS => ?_)
    refine zw_aload_n hx hb dX3_addHandler_33 rfl (lv_at hl.1 0 rfl) ?_
    refine lv_dup hx hb dX3_addHandler_34 (va_rf_cat _) ?_
    obtain ⟨v7, e7, hf⟩ := ob hf
    refine zw_gI hx hb hts inX3 hown hW (ci := 3) rfl (by decide) 9 (by decide) (hts _ wd_227) e7 (fun _ _ => rfl) dX3_addHandler_35 ?_
    refine lv_iconst (v := 1) hx hb dX3_addHandler_38 (by decide) ?_
    refine lv_iadd hx hb dX3_addHandler_39 ?_
    obtain ⟨h8, e8, hf⟩ := ob hf
    refine zw_pI hx hb hts inX3 tyX3 tyX3_ok nmX3 hown hW hS (ci := 3) rfl (by decide) 9 (by decide) (hts _ wd_227) (Or.inl rfl) (fun _ _ => rfl) rfl rfl e8 dX3_addHandler_40 (fun H locs hW hS => ?_)
    refine zw_aload_n hx hb dX3_addHandler_43 rfl (lv_at hl.1 0 rfl) ?_
    refine lv_iconst (v := 0) hx hb dX3_addHandler_44 (by decide) ?_
    obtain ⟨h9, e9, hf⟩ := ob hf
    obtain ⟨b9, e9⟩ := pZ_spec e9
    refine zw_pI hx hb hts inX3 tyX3 tyX3_ok nmX3 hown hW hS (ci := 3) rfl (by decide) 11 (by decide) (hts _ wd_231) (Or.inl rfl) (fun _ _ => rfl) (z_bool b9).1 (z_bool b9).2 e9 dX3_addHandler_45 (fun H locs hW hS => ?_)
    refine zw_aload_n hx hb dX3_addHandler_48 rfl (lv_at hl.1 0 rfl) ?_
    obtain ⟨v10, e10, hf⟩ := ob hf
    refine zw_gI hx hb hts inX3 hown hW (ci := 3) rfl (by decide) 9 (by decide) (hts _ wd_227) e10 (fun _ _ => rfl) dX3_addHandler_49 ?_
    refine lv_iconst (v := 1) hx hb dX3_addHandler_52 (by decide) ?_
    refine lv_isub hx hb dX3_addHandler_53 ?_
    obtain ⟨rfl, rfl⟩ := oret hf
    exact zw_ireturn F hW hS dX3_addHandler_54
  · have hf := oiff c2 hf
    refine lv_bipush (v := (-2)) hx hb dX3_addHandler_9 (by decide) ?_
    refine W.widen (k := 1) (n := 4) (by decide) (by decide) ?_
    obtain ⟨rfl, rfl⟩ := oret hf
    exact zw_ireturn F hW hS dX3_addHandler_11
set_option maxRecDepth 100000 in
set_option maxHeartbeats 4000000 in
theorem kX3_addHandler (l : Launch) (D : va_G) (base : Nat) (a0 : Option Nat) (a1 : Int32) (a2 : Int32) (a3 : Int32) (a4 : Int32) (h : zH) {r : Int32} {h' : zH} (hf : fX3_addHandler a0 a1 a2 a3 a4 h = some (r, h')) : zMet l D base yX3_addHandler cX3_addHandler 5 (some .int) rmX3_addHandler h [va_rf a0, .int a1, .int a2, .int a3, .int a4] (some (.int r)) h' :=
  zMet.of (by decide +kernel) (fun v hv => by simp only [List.mem_cons, List.not_mem_nil, or_false] at hv; rcases hv with rfl | rfl | rfl | rfl | rfl <;> first | rfl | exact va_rf_cat _) (Nat.le_of_ble_eq_true rfl) (fun p e s m args below meth c ls F hi hl hW hS => kX3_addHandler_w F a0 a1 a2 a3 a4 h hf s.heap [] ls hl hW hS)
set_option maxRecDepth 100000 in
set_option maxHeartbeats 4000000 in
theorem kX3_handlerAt_w (F : zF p s m args meth c cX3_handlerAt 2 RX3 (some (.object "CodeVerifier$Handler"))) {r : Option Nat} {h' : zH} (a0 : Option Nat) (a1 : Int32) (h : zH) (hf : fX3_handlerAt a0 a1 h = some (r, h')) (H : Heap) (locs : List Loc) (ls : Array Slot) (hl : zhas ls 2 [(0, va_rf a0), (1, .int a1)]) (hW : z_W D base s h H) (hS : va_S (zA base) s.heap H locs) : W p l e rmX3_handlerAt s m args below meth c H locs 0 0 (MQ below (zQ D base (some (va_rf r)) h') args s rmX3_handlerAt.cells rmX3_handlerAt.slots (zA base)) (F0 m 0 ls []) := by
  obtain ⟨hx, hb, hml, hown, hts, hret, hlk, hZ⟩ := id F
  unfold fX3_handlerAt at hf
  refine lv_iload_n hx hb dX3_handlerAt_0 rfl (lv_at hl.1 1 rfl) ?_
  refine lv_if_lt (tgt := 27) hx hb dX3_handlerAt_1 (by decide) (fun c1 => ?_) (fun c1 => ?_)
  · have hf := oift c1 hf
    refine zw_null hx hb dX3_handlerAt_27 ?_
    obtain ⟨rfl, rfl⟩ := oret hf
    exact zw_areturn F hW hS dX3_handlerAt_28
  · have hf := oiff c1 hf
    refine lv_iload_n hx hb dX3_handlerAt_4 rfl (lv_at hl.1 1 rfl) ?_
    refine zw_aload_n hx hb dX3_handlerAt_5 rfl (lv_at hl.1 0 rfl) ?_
    obtain ⟨v2, e2, hf⟩ := ob hf
    refine zw_gI hx hb hts inX3 hown hW (ci := 3) rfl (by decide) 9 (by decide) (hts _ wd_227) e2 (fun _ _ => rfl) dX3_handlerAt_6 ?_
    refine lv_icmp_ge (tgt := 27) hx hb dX3_handlerAt_9 (by decide) (fun c3 => ?_) (fun c3 => ?_)
    · have hf := oift c3 hf
      refine zw_null hx hb dX3_handlerAt_27 ?_
      obtain ⟨rfl, rfl⟩ := oret hf
      exact zw_areturn F hW hS dX3_handlerAt_28
    · have hf := oiff c3 hf
      refine lv_iload_n hx hb dX3_handlerAt_12 rfl (lv_at hl.1 1 rfl) ?_
      refine lv_bipush (v := 8) hx hb dX3_handlerAt_13 (by decide) ?_
      refine lv_icmp_ge (tgt := 27) hx hb dX3_handlerAt_15 (by decide) (fun c4 => ?_) (fun c4 => ?_)
      · have hf := oift c4 hf
        refine zw_null hx hb dX3_handlerAt_27 ?_
        obtain ⟨rfl, rfl⟩ := oret hf
        exact zw_areturn F hW hS dX3_handlerAt_28
      · have hf := oiff c4 hf
        refine zw_aload_n hx hb dX3_handlerAt_18 rfl (lv_at hl.1 0 rfl) ?_
        obtain ⟨v5, e5, hf⟩ := ob hf
        refine zw_gR hx hb hts inX3 hown hW (ci := 3) rfl (by decide) 6 (by decide) (hts _ wd_220) e5 (fun _ _ => rfl) dX3_handlerAt_19 ?_
        refine lv_iload_n hx hb dX3_handlerAt_22 rfl (lv_at hl.1 1 rfl) ?_
        obtain ⟨v6, e6, hf⟩ := ob hf
        refine zw_aQ hx hb hW 102 (by decide) e6 dX3_handlerAt_23 ?_
        refine lv_goto (tgt := 28) hx hb dX3_handlerAt_24 (by decide) ?_
        obtain ⟨rfl, rfl⟩ := oret hf
        exact zw_areturn F hW hS dX3_handlerAt_28
set_option maxRecDepth 100000 in
set_option maxHeartbeats 4000000 in
theorem kX3_handlerAt (l : Launch) (D : va_G) (base : Nat) (a0 : Option Nat) (a1 : Int32) (h : zH) {r : Option Nat} {h' : zH} (hf : fX3_handlerAt a0 a1 h = some (r, h')) : zMet l D base yX3_handlerAt cX3_handlerAt 2 (some (.object "CodeVerifier$Handler")) rmX3_handlerAt h [va_rf a0, .int a1] (some (va_rf r)) h' :=
  zMet.of (by decide +kernel) (fun v hv => by simp only [List.mem_cons, List.not_mem_nil, or_false] at hv; rcases hv with rfl | rfl <;> first | rfl | exact va_rf_cat _) (Nat.le_of_ble_eq_true rfl) (fun p e s m args below meth c ls F hi hl hW hS => kX3_handlerAt_w F a0 a1 h hf s.heap [] ls hl hW hS)
set_option maxRecDepth 100000 in
set_option maxHeartbeats 4000000 in
theorem kX4_begin_b60 (N : Nat) {h' : zH} (k23 : Option Nat → Option Nat → Int32 → zH → Option (zH)) (hk23 : ∀ (l0 : Option Nat) (l1 : Option Nat) (l2 : Int32) (h : zH), k23 l0 l1 l2 h = some h' → ∀ (H : Heap) (locs : List Loc) (ls : Array Slot), zhas ls 3 [(0, va_rf l0), (1, va_rf l1), (2, .int l2)] → z_W D base s h H → va_S (zA base) s.heap H locs → W p l e rmX4_begin s m args below meth c H locs 0 0 (MQ below (zQ D base none h') args s rmX4_begin.cells rmX4_begin.slots (zA base)) (F0 m 23 ls [])) (F : zF p s m args meth c cX4_begin 3 RX4 none) (l0 : Option Nat) (l1 : Option Nat) (l2 : Int32) (s0 : Int32) (s1 : Int32) (s2 : Option Nat) (h : zH) (hf : fX4_begin_b60 N k23 l0 l1 l2 s0 s1 s2 h = some h') (H : Heap) (locs : List Loc) (ls : Array Slot) (hl : zhas ls 3 [(0, va_rf l0), (1, va_rf l1), (2, .int l2)]) (hW : z_W D base s h H) (hS : va_S (zA base) s.heap H locs) : W p l e rmX4_begin s m args below meth c H locs 0 0 (MQ below (zQ D base none h') args s rmX4_begin.cells rmX4_begin.slots (zA base)) (F0 m 60 ls [.int s0, .int s1, va_rf s2]) := by
  obtain ⟨hx, hb, hml, hown, hts, hret, hlk, hZ⟩ := id F
  unfold fX4_begin_b60 at hf
  obtain ⟨h1, e1, hf⟩ := ob hf
  refine zw_sI hx hb hW hS e1 dX4_begin_60 (fun H locs hW hS => ?_)
  refine zl_iinc (v := (l2 + 1)) (lv' := [(2, .int (l2 + 1)), (0, va_rf l0), (1, va_rf l1)]) hx hb dX4_begin_61 hl (k := 2) rfl rfl (by decide) rfl (fun ls hl => ?_)
  refine lv_goto (tgt := 23) hx hb dX4_begin_64 (by decide) ?_
  exact hk23 l0 l1 (l2 + 1) h1 hf H locs ls (z_sub hl [1, 2, 0] rfl) hW hS
set_option maxRecDepth 100000 in
set_option maxHeartbeats 4000000 in
theorem kX4_begin_b23 (N : Nat) {h' : zH} (F : zF p s m args meth c cX4_begin 3 RX4 none) : ∀ (n : Nat) (l0 : Option Nat) (l1 : Option Nat) (l2 : Int32) (h : zH), fX4_begin_b23 N n l0 l1 l2 h = some h' → ∀ (H : Heap) (locs : List Loc) (ls : Array Slot), zhas ls 3 [(0, va_rf l0), (1, va_rf l1), (2, .int l2)] → z_W D base s h H → va_S (zA base) s.heap H locs → W p l e rmX4_begin s m args below meth c H locs 0 0 (MQ below (zQ D base none h') args s rmX4_begin.cells rmX4_begin.slots (zA base)) (F0 m 23 ls []) := by
  obtain ⟨hx, hb, hml, hown, hts, hret, hlk, hZ⟩ := id F
  intro n
  induction n with
  | zero =>
    intro l0 l1 l2 h hf
    rw [fX4_begin_b23] at hf
    cases hf
  | succ n ih =>
    intro l0 l1 l2 h hf H locs ls hl hW hS
    rw [fX4_begin_b23] at hf
    refine lv_iload_n hx hb dX4_begin_23 rfl (lv_at hl.1 2 rfl) ?_
    refine zw_aload_n hx hb dX4_begin_24 rfl (lv_at hl.1 0 rfl) ?_
    obtain ⟨v1, e1, hf⟩ := ob hf
    refine zw_gI hx hb hts inX4 hown hW (ci := 4) rfl (by decide) 1 (by decide) (hts _ wd_57) e1 (fun _ _ => rfl) dX4_begin_25 ?_
    refine lv_icmp_ge (tgt := 67) hx hb dX4_begin_28 (by decide) (fun c2 => ?_) (fun c2 => ?_)
    · have hf := oift c2 hf
      obtain rfl := oretv hf
      exact zw_vreturn F hW hS dX4_begin_67
    · have hf := oiff c2 hf
      refine lv_iload_n hx hb dX4_begin_31 rfl (lv_at hl.1 2 rfl) ?_
      refine lv_bipush (v := 12) hx hb dX4_begin_32 (by decide) ?_
      refine lv_icmp_ge (tgt := 67) hx hb dX4_begin_34 (by decide) (fun c3 => ?_) (fun c3 => ?_)
      · have hf := oift c3 hf
        obtain rfl := oretv hf
        exact zw_vreturn F hW hS dX4_begin_67
      · have hf := oiff c3 hf
        refine zw_aload_n hx hb dX4_begin_37 rfl (lv_at hl.1 0 rfl) ?_
        obtain ⟨v4, e4, hf⟩ := ob hf
        refine zw_gR hx hb hts inX4 hown hW (ci := 4) rfl (by decide) 0 (by decide) (hts _ wd_56) e4 (fun _ _ => rfl) dX4_begin_38 ?_
        refine lv_iload_n hx hb dX4_begin_41 rfl (lv_at hl.1 2 rfl) ?_
        refine lv_iload_n hx hb dX4_begin_42 rfl (lv_at hl.1 2 rfl) ?_
        refine zw_aload_n hx hb dX4_begin_43 rfl (lv_at hl.1 1 rfl) ?_
        obtain ⟨v5, e5, hf⟩ := ob hf
        refine zw_gI hx hb hts inX3 hown hW (ci := 3) rfl (by decide) 7 (by decide) (hts _ wd_222) e5 (fun _ _ => rfl) dX4_begin_44 ?_
        refine lv_icmp_ge (tgt := 58) hx hb dX4_begin_47 (by decide) (fun c6 => ?_) (fun c6 => ?_)
        · have hf := oift c6 hf
          refine lv_bipush (v := 99) hx hb dX4_begin_58 (by decide) ?_
          exact kX4_begin_b60 N (fX4_begin_b23 N n) (fun l0 l1 l2 h hf H locs ls hl hW hS => ih l0 l1 l2 h hf H locs ls hl hW hS) F l0 l1 l2 99 l2 v4 h hf H locs ls (z_sub hl [0, 1, 2] rfl) hW hS
        · have hf := oiff c6 hf
          refine zw_aload_n hx hb dX4_begin_50 rfl (lv_at hl.1 1 rfl) ?_
          refine lv_iload_n hx hb dX4_begin_51 rfl (lv_at hl.1 2 rfl) ?_
          obtain ⟨a907, j7, hf⟩ := ob hf
          obtain ⟨q7, e7, hf⟩ := ob hf
          refine zw_callV (rest := [.int l2, va_rf v4]) (n := 1) F (kX3_parameterAt (r := q7.1) (h' := q7.2) l D base l1 l2 h e7) 3 rfl (by decide) j7 wd_402 wd_287 wd_288 wd_9 wd_289 (by decide +kernel) ⟨by decide, by decide⟩ hW hS rfl hl.1.1 (by simp only [List.map_cons, List.map_nil, va_rf_cat, z_icat, List.sum_cons, List.sum_nil]; decide) rfl ⟨(by decide), (by decide)⟩ dX4_begin_52 (fun H locs hW hS => ?_)
          refine W.eq (g2 := F0 m 55 ls [.int q7.1, .int l2, va_rf v4]) rfl ?_
          refine lv_goto (tgt := 60) hx hb dX4_begin_55 (by decide) ?_
          exact kX4_begin_b60 N (fX4_begin_b23 N n) (fun l0 l1 l2 h hf H locs ls hl hW hS => ih l0 l1 l2 h hf H locs ls hl hW hS) F l0 l1 l2 q7.1 l2 v4 q7.2 hf H locs ls (z_sub hl [0, 1, 2] rfl) hW hS
set_option maxRecDepth 100000 in
set_option maxHeartbeats 4000000 in
theorem kX4_begin_w (N : Nat) (F : zF p s m args meth c cX4_begin 3 RX4 none) {h' : zH} (a0 : Option Nat) (a1 : Option Nat) (h : zH) (hf : fX4_begin N a0 a1 h = some h') (H : Heap) (locs : List Loc) (ls : Array Slot) (hl : zhas ls 3 [(0, va_rf a0), (1, va_rf a1)]) (hW : z_W D base s h H) (hS : va_S (zA base) s.heap H locs) : W p l e rmX4_begin s m args below meth c H locs 0 0 (MQ below (zQ D base none h') args s rmX4_begin.cells rmX4_begin.slots (zA base)) (F0 m 0 ls []) := by
  obtain ⟨hx, hb, hml, hown, hts, hret, hlk, hZ⟩ := id F
  unfold fX4_begin at hf
  refine zw_aload_n hx hb dX4_begin_0 rfl (lv_at hl.1 0 rfl) ?_
  refine zw_aload_n hx hb dX4_begin_1 rfl (lv_at hl.1 1 rfl) ?_
  obtain ⟨v1, e1, hf⟩ := ob hf
  refine zw_gI hx hb hts inX3 hown hW (ci := 3) rfl (by decide) 2 (by decide) (hts _ wd_214) e1 (fun _ _ => rfl) dX4_begin_2 ?_
  obtain ⟨h2, e2, hf⟩ := ob hf
  refine zw_pI hx hb hts inX4 tyX4 tyX4_ok nmX4 hown hW hS (ci := 4) rfl (by decide) 1 (by decide) (hts _ wd_57) (Or.inl rfl) (fun _ _ => rfl) rfl rfl e2 dX4_begin_5 (fun H locs hW hS => ?_)
  refine zw_aload_n hx hb dX4_begin_8 rfl (lv_at hl.1 0 rfl) ?_
  refine zw_aload_n hx hb dX4_begin_9 rfl (lv_at hl.1 1 rfl) ?_
  obtain ⟨v3, e3, hf⟩ := ob hf
  refine zw_gI hx hb hts inX3 hown hW (ci := 3) rfl (by decide) 3 (by decide) (hts _ wd_217) e3 (fun _ _ => rfl) dX4_begin_10 ?_
  obtain ⟨h4, e4, hf⟩ := ob hf
  refine zw_pI hx hb hts inX4 tyX4 tyX4_ok nmX4 hown hW hS (ci := 4) rfl (by decide) 2 (by decide) (hts _ wd_58) (Or.inl rfl) (fun _ _ => rfl) rfl rfl e4 dX4_begin_13 (fun H locs hW hS => ?_)
  refine zw_aload_n hx hb dX4_begin_16 rfl (lv_at hl.1 0 rfl) ?_
  refine lv_iconst (v := 0) hx hb dX4_begin_17 (by decide) ?_
  obtain ⟨h5, e5, hf⟩ := ob hf
  refine zw_pI hx hb hts inX4 tyX4 tyX4_ok nmX4 hown hW hS (ci := 4) rfl (by decide) 3 (by decide) (hts _ wd_59) (Or.inl rfl) (fun _ _ => rfl) rfl rfl e5 dX4_begin_18 (fun H locs hW hS => ?_)
  refine lv_iconst (v := 0) hx hb dX4_begin_21 (by decide) ?_
  refine zl_istore_n (lv' := [(2, .int 0), (0, va_rf a0), (1, va_rf a1)]) hx hb dX4_begin_22 rfl hl (by decide) rfl (fun ls hl => ?_)
  exact kX4_begin_b23 N F N a0 a1 0 h5 hf H locs ls (z_sub hl [1, 2, 0] rfl) hW hS
set_option maxRecDepth 100000 in
set_option maxHeartbeats 4000000 in
theorem kX4_begin (l : Launch) (D : va_G) (base : Nat) (N : Nat) (a0 : Option Nat) (a1 : Option Nat) (h : zH) {h' : zH} (hf : fX4_begin N a0 a1 h = some h') : zMet l D base yX4_begin cX4_begin 3 none rmX4_begin h [va_rf a0, va_rf a1] none h' :=
  zMet.of (by decide +kernel) (fun v hv => by simp only [List.mem_cons, List.not_mem_nil, or_false] at hv; rcases hv with rfl | rfl <;> first | rfl | exact va_rf_cat _) (Nat.le_of_ble_eq_true rfl) (fun p e s m args below meth c ls F hi hl hW hS => kX4_begin_w N F a0 a1 h hf s.heap [] ls hl hW hS)
set_option maxRecDepth 100000 in
set_option maxHeartbeats 4000000 in
theorem kX4_copy_b26 (N : Nat) {h' : zH} (F : zF p s m args meth c cX4_copy 3 RX4 none) : ∀ (n : Nat) (l0 : Option Nat) (l1 : Option Nat) (l2 : Int32) (h : zH), fX4_copy_b26 N n l0 l1 l2 h = some h' → ∀ (H : Heap) (locs : List Loc) (ls : Array Slot), zhas ls 3 [(0, va_rf l0), (1, va_rf l1), (2, .int l2)] → z_W D base s h H → va_S (zA base) s.heap H locs → W p l e rmX4_copy s m args below meth c H locs 0 0 (MQ below (zQ D base none h') args s rmX4_copy.cells rmX4_copy.slots (zA base)) (F0 m 26 ls []) := by
  obtain ⟨hx, hb, hml, hown, hts, hret, hlk, hZ⟩ := id F
  intro n
  induction n with
  | zero =>
    intro l0 l1 l2 h hf
    rw [fX4_copy_b26] at hf
    cases hf
  | succ n ih =>
    intro l0 l1 l2 h hf H locs ls hl hW hS
    rw [fX4_copy_b26] at hf
    refine lv_iload_n hx hb dX4_copy_26 rfl (lv_at hl.1 2 rfl) ?_
    refine lv_bipush (v := 12) hx hb dX4_copy_27 (by decide) ?_
    refine lv_icmp_ge (tgt := 50) hx hb dX4_copy_29 (by decide) (fun c1 => ?_) (fun c1 => ?_)
    · have hf := oift c1 hf
      obtain rfl := oretv hf
      exact zw_vreturn F hW hS dX4_copy_50
    · have hf := oiff c1 hf
      refine zw_aload_n hx hb dX4_copy_32 rfl (lv_at hl.1 0 rfl) ?_
      obtain ⟨v2, e2, hf⟩ := ob hf
      refine zw_gR hx hb hts inX4 hown hW (ci := 4) rfl (by decide) 0 (by decide) (hts _ wd_56) e2 (fun _ _ => rfl) dX4_copy_33 ?_
      refine lv_iload_n hx hb dX4_copy_36 rfl (lv_at hl.1 2 rfl) ?_
      refine zw_aload_n hx hb dX4_copy_37 rfl (lv_at hl.1 1 rfl) ?_
      obtain ⟨v3, e3, hf⟩ := ob hf
      refine zw_gR hx hb hts inX4 hown hW (ci := 4) rfl (by decide) 0 (by decide) (hts _ wd_56) e3 (fun _ _ => rfl) dX4_copy_38 ?_
      refine lv_iload_n hx hb dX4_copy_41 rfl (lv_at hl.1 2 rfl) ?_
      obtain ⟨v4, e4, hf⟩ := ob hf
      refine zw_aI hx hb hW e4 dX4_copy_42 ?_
      obtain ⟨h5, e5, hf⟩ := ob hf
      refine zw_sI hx hb hW hS e5 dX4_copy_43 (fun H locs hW hS => ?_)
      refine zl_iinc (v := (l2 + 1)) (lv' := [(2, .int (l2 + 1)), (0, va_rf l0), (1, va_rf l1)]) hx hb dX4_copy_44 hl (k := 2) rfl rfl (by decide) rfl (fun ls hl => ?_)
      refine lv_goto (tgt := 26) hx hb dX4_copy_47 (by decide) ?_
      exact ih l0 l1 (l2 + 1) h5 hf H locs ls (z_sub hl [1, 2, 0] rfl) hW hS
set_option maxRecDepth 100000 in
set_option maxHeartbeats 4000000 in
theorem kX4_copy_w (N : Nat) (F : zF p s m args meth c cX4_copy 3 RX4 none) {h' : zH} (a0 : Option Nat) (a1 : Option Nat) (h : zH) (hf : fX4_copy N a0 a1 h = some h') (H : Heap) (locs : List Loc) (ls : Array Slot) (hl : zhas ls 3 [(0, va_rf a0), (1, va_rf a1)]) (hW : z_W D base s h H) (hS : va_S (zA base) s.heap H locs) : W p l e rmX4_copy s m args below meth c H locs 0 0 (MQ below (zQ D base none h') args s rmX4_copy.cells rmX4_copy.slots (zA base)) (F0 m 0 ls []) := by
  obtain ⟨hx, hb, hml, hown, hts, hret, hlk, hZ⟩ := id F
  unfold fX4_copy at hf
  refine zw_aload_n hx hb dX4_copy_0 rfl (lv_at hl.1 0 rfl) ?_
  refine zw_aload_n hx hb dX4_copy_1 rfl (lv_at hl.1 1 rfl) ?_
  obtain ⟨v1, e1, hf⟩ := ob hf
  refine zw_gI hx hb hts inX4 hown hW (ci := 4) rfl (by decide) 1 (by decide) (hts _ wd_57) e1 (fun _ _ => rfl) dX4_copy_2 ?_
  obtain ⟨h2, e2, hf⟩ := ob hf
  refine zw_pI hx hb hts inX4 tyX4 tyX4_ok nmX4 hown hW hS (ci := 4) rfl (by decide) 1 (by decide) (hts _ wd_57) (Or.inl rfl) (fun _ _ => rfl) rfl rfl e2 dX4_copy_5 (fun H locs hW hS => ?_)
  refine zw_aload_n hx hb dX4_copy_8 rfl (lv_at hl.1 0 rfl) ?_
  refine zw_aload_n hx hb dX4_copy_9 rfl (lv_at hl.1 1 rfl) ?_
  obtain ⟨v3, e3, hf⟩ := ob hf
  refine zw_gI hx hb hts inX4 hown hW (ci := 4) rfl (by decide) 2 (by decide) (hts _ wd_58) e3 (fun _ _ => rfl) dX4_copy_10 ?_
  obtain ⟨h4, e4, hf⟩ := ob hf
  refine zw_pI hx hb hts inX4 tyX4 tyX4_ok nmX4 hown hW hS (ci := 4) rfl (by decide) 2 (by decide) (hts _ wd_58) (Or.inl rfl) (fun _ _ => rfl) rfl rfl e4 dX4_copy_13 (fun H locs hW hS => ?_)
  refine zw_aload_n hx hb dX4_copy_16 rfl (lv_at hl.1 0 rfl) ?_
  refine zw_aload_n hx hb dX4_copy_17 rfl (lv_at hl.1 1 rfl) ?_
  obtain ⟨v5, e5, hf⟩ := ob hf
  refine zw_gI hx hb hts inX4 hown hW (ci := 4) rfl (by decide) 3 (by decide) (hts _ wd_59) e5 (fun _ _ => rfl) dX4_copy_18 ?_
  obtain ⟨h6, e6, hf⟩ := ob hf
  refine zw_pI hx hb hts inX4 tyX4 tyX4_ok nmX4 hown hW hS (ci := 4) rfl (by decide) 3 (by decide) (hts _ wd_59) (Or.inl rfl) (fun _ _ => rfl) rfl rfl e6 dX4_copy_21 (fun H locs hW hS => ?_)
  refine lv_iconst (v := 0) hx hb dX4_copy_24 (by decide) ?_
  refine zl_istore_n (lv' := [(2, .int 0), (0, va_rf a0), (1, va_rf a1)]) hx hb dX4_copy_25 rfl hl (by decide) rfl (fun ls hl => ?_)
  exact kX4_copy_b26 N F N a0 a1 0 h6 hf H locs ls (z_sub hl [1, 2, 0] rfl) hW hS
set_option maxRecDepth 100000 in
set_option maxHeartbeats 4000000 in
theorem kX4_copy (l : Launch) (D : va_G) (base : Nat) (N : Nat) (a0 : Option Nat) (a1 : Option Nat) (h : zH) {h' : zH} (hf : fX4_copy N a0 a1 h = some h') : zMet l D base yX4_copy cX4_copy 3 none rmX4_copy h [va_rf a0, va_rf a1] none h' :=
  zMet.of (by decide +kernel) (fun v hv => by simp only [List.mem_cons, List.not_mem_nil, or_false] at hv; rcases hv with rfl | rfl <;> first | rfl | exact va_rf_cat _) (Nat.le_of_ble_eq_true rfl) (fun p e s m args below meth c ls F hi hl hW hS => kX4_copy_w N F a0 a1 h hf s.heap [] ls hl hW hS)
set_option maxRecDepth 100000 in
set_option maxHeartbeats 4000000 in
theorem kX4_localAt_w (F : zF p s m args meth c cX4_localAt 2 RX4 (some .int)) {r : Int32} {h' : zH} (a0 : Option Nat) (a1 : Int32) (h : zH) (hf : fX4_localAt a0 a1 h = some (r, h')) (H : Heap) (locs : List Loc) (ls : Array Slot) (hl : zhas ls 2 [(0, va_rf a0), (1, .int a1)]) (hW : z_W D base s h H) (hS : va_S (zA base) s.heap H locs) : W p l e rmX4_localAt s m args below meth c H locs 0 0 (MQ below (zQ D base (some (.int r)) h') args s rmX4_localAt.cells rmX4_localAt.slots (zA base)) (F0 m 0 ls []) := by
  obtain ⟨hx, hb, hml, hown, hts, hret, hlk, hZ⟩ := id F
  unfold fX4_localAt at hf
  refine lv_iload_n hx hb dX4_localAt_0 rfl (lv_at hl.1 1 rfl) ?_
  refine lv_if_lt (tgt := 27) hx hb dX4_localAt_1 (by decide) (fun c1 => ?_) (fun c1 => ?_)
  · have hf := oift c1 hf
    refine lv_iconst (v := (-1)) hx hb dX4_localAt_27 (by decide) ?_
    obtain ⟨rfl, rfl⟩ := oret hf
    exact zw_ireturn F hW hS dX4_localAt_28
  · have hf := oiff c1 hf
    refine lv_iload_n hx hb dX4_localAt_4 rfl (lv_at hl.1 1 rfl) ?_
    refine zw_aload_n hx hb dX4_localAt_5 rfl (lv_at hl.1 0 rfl) ?_
    obtain ⟨v2, e2, hf⟩ := ob hf
    refine zw_gI hx hb hts inX4 hown hW (ci := 4) rfl (by decide) 1 (by decide) (hts _ wd_57) e2 (fun _ _ => rfl) dX4_localAt_6 ?_
    refine lv_icmp_ge (tgt := 27) hx hb dX4_localAt_9 (by decide) (fun c3 => ?_) (fun c3 => ?_)
    · have hf := oift c3 hf
      refine lv_iconst (v := (-1)) hx hb dX4_localAt_27 (by decide) ?_
      obtain ⟨rfl, rfl⟩ := oret hf
      exact zw_ireturn F hW hS dX4_localAt_28
    · have hf := oiff c3 hf
      refine lv_iload_n hx hb dX4_localAt_12 rfl (lv_at hl.1 1 rfl) ?_
      refine lv_bipush (v := 12) hx hb dX4_localAt_13 (by decide) ?_
      refine lv_icmp_ge (tgt := 27) hx hb dX4_localAt_15 (by decide) (fun c4 => ?_) (fun c4 => ?_)
      · have hf := oift c4 hf
        refine lv_iconst (v := (-1)) hx hb dX4_localAt_27 (by decide) ?_
        obtain ⟨rfl, rfl⟩ := oret hf
        exact zw_ireturn F hW hS dX4_localAt_28
      · have hf := oiff c4 hf
        refine zw_aload_n hx hb dX4_localAt_18 rfl (lv_at hl.1 0 rfl) ?_
        obtain ⟨v5, e5, hf⟩ := ob hf
        refine zw_gR hx hb hts inX4 hown hW (ci := 4) rfl (by decide) 0 (by decide) (hts _ wd_56) e5 (fun _ _ => rfl) dX4_localAt_19 ?_
        refine lv_iload_n hx hb dX4_localAt_22 rfl (lv_at hl.1 1 rfl) ?_
        obtain ⟨v6, e6, hf⟩ := ob hf
        refine zw_aI hx hb hW e6 dX4_localAt_23 ?_
        refine lv_goto (tgt := 28) hx hb dX4_localAt_24 (by decide) ?_
        obtain ⟨rfl, rfl⟩ := oret hf
        exact zw_ireturn F hW hS dX4_localAt_28
set_option maxRecDepth 100000 in
set_option maxHeartbeats 4000000 in
theorem kX4_localAt (l : Launch) (D : va_G) (base : Nat) (a0 : Option Nat) (a1 : Int32) (h : zH) {r : Int32} {h' : zH} (hf : fX4_localAt a0 a1 h = some (r, h')) : zMet l D base yX4_localAt cX4_localAt 2 (some .int) rmX4_localAt h [va_rf a0, .int a1] (some (.int r)) h' :=
  zMet.of (by decide +kernel) (fun v hv => by simp only [List.mem_cons, List.not_mem_nil, or_false] at hv; rcases hv with rfl | rfl <;> first | rfl | exact va_rf_cat _) (Nat.le_of_ble_eq_true rfl) (fun p e s m args below meth c ls F hi hl hW hS => kX4_localAt_w F a0 a1 h hf s.heap [] ls hl hW hS)
set_option maxRecDepth 100000 in
set_option maxHeartbeats 4000000 in
theorem kX4_setLocal_w (F : zF p s m args meth c cX4_setLocal 3 RX4 none) {h' : zH} (a0 : Option Nat) (a1 : Int32) (a2 : Int32) (h : zH) (hf : fX4_setLocal a0 a1 a2 h = some h') (H : Heap) (locs : List Loc) (ls : Array Slot) (hl : zhas ls 3 [(0, va_rf a0), (1, .int a1), (2, .int a2)]) (hW : z_W D base s h H) (hS : va_S (zA base) s.heap H locs) : W p l e rmX4_setLocal s m args below meth c H locs 0 0 (MQ below (zQ D base none h') args s rmX4_setLocal.cells rmX4_setLocal.slots (zA base)) (F0 m 0 ls []) := by
  obtain ⟨hx, hb, hml, hown, hts, hret, hlk, hZ⟩ := id F
  unfold fX4_setLocal at hf
  refine lv_iload_n hx hb dX4_setLocal_0 rfl (lv_at hl.1 1 rfl) ?_
  refine lv_if_lt (tgt := 25) hx hb dX4_setLocal_1 (by decide) (fun c1 => ?_) (fun c1 => ?_)
  · have hf := oift c1 hf
    obtain rfl := oretv hf
    exact zw_vreturn F hW hS dX4_setLocal_25
  · have hf := oiff c1 hf
    refine lv_iload_n hx hb dX4_setLocal_4 rfl (lv_at hl.1 1 rfl) ?_
    refine zw_aload_n hx hb dX4_setLocal_5 rfl (lv_at hl.1 0 rfl) ?_
    obtain ⟨v2, e2, hf⟩ := ob hf
    refine zw_gI hx hb hts inX4 hown hW (ci := 4) rfl (by decide) 1 (by decide) (hts _ wd_57) e2 (fun _ _ => rfl) dX4_setLocal_6 ?_
    refine lv_icmp_ge (tgt := 25) hx hb dX4_setLocal_9 (by decide) (fun c3 => ?_) (fun c3 => ?_)
    · have hf := oift c3 hf
      obtain rfl := oretv hf
      exact zw_vreturn F hW hS dX4_setLocal_25
    · have hf := oiff c3 hf
      refine lv_iload_n hx hb dX4_setLocal_12 rfl (lv_at hl.1 1 rfl) ?_
      refine lv_bipush (v := 12) hx hb dX4_setLocal_13 (by decide) ?_
      refine lv_icmp_ge (tgt := 25) hx hb dX4_setLocal_15 (by decide) (fun c4 => ?_) (fun c4 => ?_)
      · have hf := oift c4 hf
        obtain rfl := oretv hf
        exact zw_vreturn F hW hS dX4_setLocal_25
      · have hf := oiff c4 hf
        refine zw_aload_n hx hb dX4_setLocal_18 rfl (lv_at hl.1 0 rfl) ?_
        obtain ⟨v5, e5, hf⟩ := ob hf
        refine zw_gR hx hb hts inX4 hown hW (ci := 4) rfl (by decide) 0 (by decide) (hts _ wd_56) e5 (fun _ _ => rfl) dX4_setLocal_19 ?_
        refine lv_iload_n hx hb dX4_setLocal_22 rfl (lv_at hl.1 1 rfl) ?_
        refine lv_iload_n hx hb dX4_setLocal_23 rfl (lv_at hl.1 2 rfl) ?_
        obtain ⟨h6, e6, hf⟩ := ob hf
        refine zw_sI hx hb hW hS e6 dX4_setLocal_24 (fun H locs hW hS => ?_)
        obtain rfl := oretv hf
        exact zw_vreturn F hW hS dX4_setLocal_25
set_option maxRecDepth 100000 in
set_option maxHeartbeats 4000000 in
theorem kX4_setLocal (l : Launch) (D : va_G) (base : Nat) (a0 : Option Nat) (a1 : Int32) (a2 : Int32) (h : zH) {h' : zH} (hf : fX4_setLocal a0 a1 a2 h = some h') : zMet l D base yX4_setLocal cX4_setLocal 3 none rmX4_setLocal h [va_rf a0, .int a1, .int a2] none h' :=
  zMet.of (by decide +kernel) (fun v hv => by simp only [List.mem_cons, List.not_mem_nil, or_false] at hv; rcases hv with rfl | rfl | rfl <;> first | rfl | exact va_rf_cat _) (Nat.le_of_ble_eq_true rfl) (fun p e s m args below meth c ls F hi hl hW hS => kX4_setLocal_w F a0 a1 a2 h hf s.heap [] ls hl hW hS)
set_option maxRecDepth 100000 in
set_option maxHeartbeats 4000000 in
theorem kX4_placeAt_w (F : zF p s m args meth c cX4_placeAt 3 RX4 (some .int)) {r : Int32} {h' : zH} (a0 : Option Nat) (a1 : Int32) (h : zH) (hf : fX4_placeAt a0 a1 h = some (r, h')) (H : Heap) (locs : List Loc) (ls : Array Slot) (hl : zhas ls 3 [(0, va_rf a0), (1, .int a1)]) (hW : z_W D base s h H) (hS : va_S (zA base) s.heap H locs) : W p l e rmX4_placeAt s m args below meth c H locs 0 0 (MQ below (zQ D base (some (.int r)) h') args s rmX4_placeAt.cells rmX4_placeAt.slots (zA base)) (F0 m 0 ls []) := by
  obtain ⟨hx, hb, hml, hown, hts, hret, hlk, hZ⟩ := id F
  unfold fX4_placeAt at hf
  refine lv_iload_n hx hb dX4_placeAt_0 rfl (lv_at hl.1 1 rfl) ?_
  refine lv_if_lt (tgt := 12) hx hb dX4_placeAt_1 (by decide) (fun c1 => ?_) (fun c1 => ?_)
  · have hf := oift c1 hf
    refine lv_iconst (v := (-1)) hx hb dX4_placeAt_12 (by decide) ?_
    obtain ⟨rfl, rfl⟩ := oret hf
    exact zw_ireturn F hW hS dX4_placeAt_13
  · have hf := oiff c1 hf
    refine lv_iload_n hx hb dX4_placeAt_4 rfl (lv_at hl.1 1 rfl) ?_
    refine zw_aload_n hx hb dX4_placeAt_5 rfl (lv_at hl.1 0 rfl) ?_
    obtain ⟨v2, e2, hf⟩ := ob hf
    refine zw_gI hx hb hts inX4 hown hW (ci := 4) rfl (by decide) 3 (by decide) (hts _ wd_59) e2 (fun _ _ => rfl) dX4_placeAt_6 ?_
    refine lv_icmp_lt (tgt := 14) hx hb dX4_placeAt_9 (by decide) (fun c3 => ?_) (fun c3 => ?_)
    · have hf := oift c3 hf
      refine zw_aload_n hx hb dX4_placeAt_14 rfl (lv_at hl.1 0 rfl) ?_
      obtain ⟨v4, e4, hf⟩ := ob hf
      refine zw_gI hx hb hts inX4 hown hW (ci := 4) rfl (by decide) 1 (by decide) (hts _ wd_57) e4 (fun _ _ => rfl) dX4_placeAt_15 ?_
      refine lv_iload_n hx hb dX4_placeAt_18 rfl (lv_at hl.1 1 rfl) ?_
      refine lv_iadd hx hb dX4_placeAt_19 ?_
      refine zl_istore_n (lv' := [(2, .int (v4 + a1)), (0, va_rf a0), (1, .int a1)]) hx hb dX4_placeAt_20 rfl hl (by decide) rfl (fun ls hl => ?_)
      refine lv_iload_n hx hb dX4_placeAt_21 rfl (lv_at hl.1 0 rfl) ?_
      refine lv_if_lt (tgt := 40) hx hb dX4_placeAt_22 (by decide) (fun c5 => ?_) (fun c5 => ?_)
      · have hf := oift c5 hf
        refine lv_iconst (v := (-1)) hx hb dX4_placeAt_40 (by decide) ?_
        obtain ⟨rfl, rfl⟩ := oret hf
        exact zw_ireturn F hW hS dX4_placeAt_41
      · have hf := oiff c5 hf
        refine lv_iload_n hx hb dX4_placeAt_25 rfl (lv_at hl.1 0 rfl) ?_
        refine lv_bipush (v := 12) hx hb dX4_placeAt_26 (by decide) ?_
        refine lv_icmp_ge (tgt := 40) hx hb dX4_placeAt_28 (by decide) (fun c6 => ?_) (fun c6 => ?_)
        · have hf := oift c6 hf
          refine lv_iconst (v := (-1)) hx hb dX4_placeAt_40 (by decide) ?_
          obtain ⟨rfl, rfl⟩ := oret hf
          exact zw_ireturn F hW hS dX4_placeAt_41
        · have hf := oiff c6 hf
          refine zw_aload_n hx hb dX4_placeAt_31 rfl (lv_at hl.1 1 rfl) ?_
          obtain ⟨v7, e7, hf⟩ := ob hf
          refine zw_gR hx hb hts inX4 hown hW (ci := 4) rfl (by decide) 0 (by decide) (hts _ wd_56) e7 (fun _ _ => rfl) dX4_placeAt_32 ?_
          refine lv_iload_n hx hb dX4_placeAt_35 rfl (lv_at hl.1 0 rfl) ?_
          obtain ⟨v8, e8, hf⟩ := ob hf
          refine zw_aI hx hb hW e8 dX4_placeAt_36 ?_
          refine lv_goto (tgt := 41) hx hb dX4_placeAt_37 (by decide) ?_
          obtain ⟨rfl, rfl⟩ := oret hf
          exact zw_ireturn F hW hS dX4_placeAt_41
    · have hf := oiff c3 hf
      refine lv_iconst (v := (-1)) hx hb dX4_placeAt_12 (by decide) ?_
      obtain ⟨rfl, rfl⟩ := oret hf
      exact zw_ireturn F hW hS dX4_placeAt_13
set_option maxRecDepth 100000 in
set_option maxHeartbeats 4000000 in
theorem kX4_placeAt (l : Launch) (D : va_G) (base : Nat) (a0 : Option Nat) (a1 : Int32) (h : zH) {r : Int32} {h' : zH} (hf : fX4_placeAt a0 a1 h = some (r, h')) : zMet l D base yX4_placeAt cX4_placeAt 3 (some .int) rmX4_placeAt h [va_rf a0, .int a1] (some (.int r)) h' :=
  zMet.of (by decide +kernel) (fun v hv => by simp only [List.mem_cons, List.not_mem_nil, or_false] at hv; rcases hv with rfl | rfl <;> first | rfl | exact va_rf_cat _) (Nat.le_of_ble_eq_true rfl) (fun p e s m args below meth c ls F hi hl hW hS => kX4_placeAt_w F a0 a1 h hf s.heap [] ls hl hW hS)
set_option maxRecDepth 100000 in
set_option maxHeartbeats 4000000 in
theorem kX4_put_w (F : zF p s m args meth c cX4_put 3 RX4 (some .boolean)) {r : Int32} {h' : zH} (a0 : Option Nat) (a1 : Int32) (h : zH) (hf : fX4_put a0 a1 h = some (r, h')) (H : Heap) (locs : List Loc) (ls : Array Slot) (hl : zhas ls 3 [(0, va_rf a0), (1, .int a1)]) (hW : z_W D base s h H) (hS : va_S (zA base) s.heap H locs) : W p l e rmX4_put s m args below meth c H locs 0 0 (MQ below (zQ D base (some (.int r)) h') args s rmX4_put.cells rmX4_put.slots (zA base)) (F0 m 0 ls []) := by
  obtain ⟨hx, hb, hml, hown, hts, hret, hlk, hZ⟩ := id F
  unfold fX4_put at hf
  refine zw_aload_n hx hb dX4_put_0 rfl (lv_at hl.1 0 rfl) ?_
  obtain ⟨v1, e1, hf⟩ := ob hf
  refine zw_gI hx hb hts inX4 hown hW (ci := 4) rfl (by decide) 1 (by decide) (hts _ wd_57) e1 (fun _ _ => rfl) dX4_put_1 ?_
  refine zw_aload_n hx hb dX4_put_4 rfl (lv_at hl.1 0 rfl) ?_
  obtain ⟨v2, e2, hf⟩ := ob hf
  refine zw_gI hx hb hts inX4 hown hW (ci := 4) rfl (by decide) 3 (by decide) (hts _ wd_59) e2 (fun _ _ => rfl) dX4_put_5 ?_
  refine lv_iadd hx hb dX4_put_8 ?_
  refine zl_istore_n (lv' := [(2, .int (v1 + v2)), (0, va_rf a0), (1, .int a1)]) hx hb dX4_put_9 rfl hl (by decide) rfl (fun ls hl => ?_)
  refine zw_aload_n hx hb dX4_put_10 rfl (lv_at hl.1 1 rfl) ?_
  obtain ⟨v3, e3, hf⟩ := ob hf
  refine zw_gI hx hb hts inX4 hown hW (ci := 4) rfl (by decide) 3 (by decide) (hts _ wd_59) e3 (fun _ _ => rfl) dX4_put_11 ?_
  refine zw_aload_n hx hb dX4_put_14 rfl (lv_at hl.1 1 rfl) ?_
  obtain ⟨v4, e4, hf⟩ := ob hf
  refine zw_gI hx hb hts inX4 hown hW (ci := 4) rfl (by decide) 2 (by decide) (hts _ wd_58) e4 (fun _ _ => rfl) dX4_put_15 ?_
  refine lv_icmp_ge (tgt := 31) hx hb dX4_put_18 (by decide) (fun c5 => ?_) (fun c5 => ?_)
  · have hf := oift c5 hf
    refine lv_iconst (v := 0) hx hb dX4_put_31 (by decide) ?_
    obtain ⟨rfl, rfl⟩ := oret hf
    exact zw_zreturn F (by decide) hW hS dX4_put_32
  · have hf := oiff c5 hf
    refine lv_iload_n hx hb dX4_put_21 rfl (lv_at hl.1 0 rfl) ?_
    refine lv_if_lt (tgt := 31) hx hb dX4_put_22 (by decide) (fun c6 => ?_) (fun c6 => ?_)
    · have hf := oift c6 hf
      refine lv_iconst (v := 0) hx hb dX4_put_31 (by decide) ?_
      obtain ⟨rfl, rfl⟩ := oret hf
      exact zw_zreturn F (by decide) hW hS dX4_put_32
    · have hf := oiff c6 hf
      refine lv_iload_n hx hb dX4_put_25 rfl (lv_at hl.1 0 rfl) ?_
      refine lv_bipush (v := 12) hx hb dX4_put_26 (by decide) ?_
      refine lv_icmp_lt (tgt := 33) hx hb dX4_put_28 (by decide) (fun c7 => ?_) (fun c7 => ?_)
      · have hf := oift c7 hf
        refine zw_aload_n hx hb dX4_put_33 rfl (lv_at hl.1 1 rfl) ?_
        obtain ⟨v8, e8, hf⟩ := ob hf
        refine zw_gR hx hb hts inX4 hown hW (ci := 4) rfl (by decide) 0 (by decide) (hts _ wd_56) e8 (fun _ _ => rfl) dX4_put_34 ?_
        refine lv_iload_n hx hb dX4_put_37 rfl (lv_at hl.1 0 rfl) ?_
        refine lv_iload_n hx hb dX4_put_38 rfl (lv_at hl.1 2 rfl) ?_
        obtain ⟨h9, e9, hf⟩ := ob hf
        refine zw_sI hx hb hW hS e9 dX4_put_39 (fun H locs hW hS => ?_)
        refine zw_aload_n hx hb dX4_put_40 rfl (lv_at hl.1 1 rfl) ?_
        refine lv_dup hx hb dX4_put_41 (va_rf_cat _) ?_
        obtain ⟨v10, e10, hf⟩ := ob hf
        refine zw_gI hx hb hts inX4 hown hW (ci := 4) rfl (by decide) 3 (by decide) (hts _ wd_59) e10 (fun _ _ => rfl) dX4_put_42 ?_
        refine lv_iconst (v := 1) hx hb dX4_put_45 (by decide) ?_
        refine lv_iadd hx hb dX4_put_46 ?_
        obtain ⟨h11, e11, hf⟩ := ob hf
        refine zw_pI hx hb hts inX4 tyX4 tyX4_ok nmX4 hown hW hS (ci := 4) rfl (by decide) 3 (by decide) (hts _ wd_59) (Or.inl rfl) (fun _ _ => rfl) rfl rfl e11 dX4_put_47 (fun H locs hW hS => ?_)
        refine lv_iconst (v := 1) hx hb dX4_put_50 (by decide) ?_
        obtain ⟨rfl, rfl⟩ := oret hf
        exact zw_zreturn F (by decide) hW hS dX4_put_51
      · have hf := oiff c7 hf
        refine lv_iconst (v := 0) hx hb dX4_put_31 (by decide) ?_
        obtain ⟨rfl, rfl⟩ := oret hf
        exact zw_zreturn F (by decide) hW hS dX4_put_32
set_option maxRecDepth 100000 in
set_option maxHeartbeats 4000000 in
theorem kX4_put (l : Launch) (D : va_G) (base : Nat) (a0 : Option Nat) (a1 : Int32) (h : zH) {r : Int32} {h' : zH} (hf : fX4_put a0 a1 h = some (r, h')) : zMet l D base yX4_put cX4_put 3 (some .boolean) rmX4_put h [va_rf a0, .int a1] (some (.int r)) h' :=
  zMet.of (by decide +kernel) (fun v hv => by simp only [List.mem_cons, List.not_mem_nil, or_false] at hv; rcases hv with rfl | rfl <;> first | rfl | exact va_rf_cat _) (Nat.le_of_ble_eq_true rfl) (fun p e s m args below meth c ls F hi hl hW hS => kX4_put_w F a0 a1 h hf s.heap [] ls hl hW hS)
set_option maxRecDepth 100000 in
set_option maxHeartbeats 4000000 in
theorem kX8_isReference_w (F : zF p s m args meth c cX8_isReference 1 RX8 (some .boolean)) {r : Int32} {h' : zH} (a0 : Int32) (h : zH) (hf : fX8_isReference a0 h = some (r, h')) (H : Heap) (locs : List Loc) (ls : Array Slot) (hl : zhas ls 1 [(0, .int a0)]) (hW : z_W D base s h H) (hS : va_S (zA base) s.heap H locs) : W p l e rmX8_isReference s m args below meth c H locs 0 0 (MQ below (zQ D base (some (.int r)) h') args s rmX8_isReference.cells rmX8_isReference.slots (zA base)) (F0 m 0 ls []) := by
  obtain ⟨hx, hb, hml, hown, hts, hret, hlk, hZ⟩ := id F
  unfold fX8_isReference at hf
  refine lv_iload_n hx hb dX8_isReference_0 rfl (lv_at hl.1 0 rfl) ?_
  refine lv_if_le (tgt := 14) hx hb dX8_isReference_1 (by decide) (fun c1 => ?_) (fun c1 => ?_)
  · have hf := oift c1 hf
    refine lv_iconst (v := 0) hx hb dX8_isReference_14 (by decide) ?_
    obtain ⟨rfl, rfl⟩ := oret hf
    exact zw_zreturn F (by decide) hW hS dX8_isReference_15
  · have hf := oiff c1 hf
    refine lv_iload_n hx hb dX8_isReference_4 rfl (lv_at hl.1 0 rfl) ?_
    refine lv_bipush (v := 99) hx hb dX8_isReference_5 (by decide) ?_
    refine lv_icmp_ge (tgt := 14) hx hb dX8_isReference_7 (by decide) (fun c2 => ?_) (fun c2 => ?_)
    · have hf := oift c2 hf
      refine lv_iconst (v := 0) hx hb dX8_isReference_14 (by decide) ?_
      obtain ⟨rfl, rfl⟩ := oret hf
      exact zw_zreturn F (by decide) hW hS dX8_isReference_15
    · have hf := oiff c2 hf
      refine lv_iconst (v := 1) hx hb dX8_isReference_10 (by decide) ?_
      refine lv_goto (tgt := 15) hx hb dX8_isReference_11 (by decide) ?_
      obtain ⟨rfl, rfl⟩ := oret hf
      exact zw_zreturn F (by decide) hW hS dX8_isReference_15
set_option maxRecDepth 100000 in
set_option maxHeartbeats 4000000 in
theorem kX8_isReference (l : Launch) (D : va_G) (base : Nat) (a0 : Int32) (h : zH) {r : Int32} {h' : zH} (hf : fX8_isReference a0 h = some (r, h')) : zMet l D base yX8_isReference cX8_isReference 1 (some .boolean) rmX8_isReference h [.int a0] (some (.int r)) h' :=
  zMet.of (by decide +kernel) (fun v hv => by simp only [List.mem_cons, List.not_mem_nil, or_false] at hv; subst hv; first | rfl | exact va_rf_cat _) (Nat.le_of_ble_eq_true rfl) (fun p e s m args below meth c ls F hi hl hW hS => kX8_isReference_w F a0 h hf s.heap [] ls hl hW hS)
set_option maxRecDepth 100000 in
set_option maxHeartbeats 4000000 in
theorem kX6_kindOf_w (F : zF p s m args meth c cX6_kindOf 3 RX6 (some (.object "CodeVerifier$Kind"))) {r : Option Nat} {h' : zH} (a0 : Option Nat) (a1 : Int32) (h : zH) (hf : fX6_kindOf a0 a1 h = some (r, h')) (H : Heap) (locs : List Loc) (ls : Array Slot) (hl : zhas ls 3 [(0, va_rf a0), (1, .int a1)]) (hW : z_W D base s h H) (hS : va_S (zA base) s.heap H locs) : W p l e rmX6_kindOf s m args below meth c H locs 0 0 (MQ below (zQ D base (some (va_rf r)) h') args s rmX6_kindOf.cells rmX6_kindOf.slots (zA base)) (F0 m 0 ls []) := by
  obtain ⟨hx, hb, hml, hown, hts, hret, hlk, hZ⟩ := id F
  unfold fX6_kindOf at hf
  refine lv_iload_n hx hb dX6_kindOf_0 rfl (lv_at hl.1 1 rfl) ?_
  refine lv_iconst (v := 1) hx hb dX6_kindOf_1 (by decide) ?_
  refine lv_isub hx hb dX6_kindOf_2 ?_
  refine zl_istore_n (lv' := [(2, .int (a1 - 1)), (0, va_rf a0), (1, .int a1)]) hx hb dX6_kindOf_3 rfl hl (by decide) rfl (fun ls hl => ?_)
  refine lv_iload_n hx hb dX6_kindOf_4 rfl (lv_at hl.1 0 rfl) ?_
  refine lv_if_lt (tgt := 31) hx hb dX6_kindOf_5 (by decide) (fun c1 => ?_) (fun c1 => ?_)
  · have hf := oift c1 hf
    refine zw_null hx hb dX6_kindOf_31 ?_
    obtain ⟨rfl, rfl⟩ := oret hf
    exact zw_areturn F hW hS dX6_kindOf_32
  · have hf := oiff c1 hf
    refine lv_iload_n hx hb dX6_kindOf_8 rfl (lv_at hl.1 0 rfl) ?_
    refine zw_aload_n hx hb dX6_kindOf_9 rfl (lv_at hl.1 1 rfl) ?_
    obtain ⟨v2, e2, hf⟩ := ob hf
    refine zw_gI hx hb hts inX6 hown hW (ci := 6) rfl (by decide) 2 (by decide) (hts _ wd_33) e2 (fun _ _ => rfl) dX6_kindOf_10 ?_
    refine lv_icmp_ge (tgt := 31) hx hb dX6_kindOf_13 (by decide) (fun c3 => ?_) (fun c3 => ?_)
    · have hf := oift c3 hf
      refine zw_null hx hb dX6_kindOf_31 ?_
      obtain ⟨rfl, rfl⟩ := oret hf
      exact zw_areturn F hW hS dX6_kindOf_32
    · have hf := oiff c3 hf
      refine lv_iload_n hx hb dX6_kindOf_16 rfl (lv_at hl.1 0 rfl) ?_
      refine lv_bipush (v := 32) hx hb dX6_kindOf_17 (by decide) ?_
      refine lv_icmp_ge (tgt := 31) hx hb dX6_kindOf_19 (by decide) (fun c4 => ?_) (fun c4 => ?_)
      · have hf := oift c4 hf
        refine zw_null hx hb dX6_kindOf_31 ?_
        obtain ⟨rfl, rfl⟩ := oret hf
        exact zw_areturn F hW hS dX6_kindOf_32
      · have hf := oiff c4 hf
        refine zw_aload_n hx hb dX6_kindOf_22 rfl (lv_at hl.1 1 rfl) ?_
        obtain ⟨v5, e5, hf⟩ := ob hf
        refine zw_gR hx hb hts inX6 hown hW (ci := 6) rfl (by decide) 0 (by decide) (hts _ wd_31) e5 (fun _ _ => rfl) dX6_kindOf_23 ?_
        refine lv_iload_n hx hb dX6_kindOf_26 rfl (lv_at hl.1 0 rfl) ?_
        obtain ⟨v6, e6, hf⟩ := ob hf
        refine zw_aQ hx hb hW 104 (by decide) e6 dX6_kindOf_27 ?_
        refine lv_goto (tgt := 32) hx hb dX6_kindOf_28 (by decide) ?_
        obtain ⟨rfl, rfl⟩ := oret hf
        exact zw_areturn F hW hS dX6_kindOf_32
set_option maxRecDepth 100000 in
set_option maxHeartbeats 4000000 in
theorem kX6_kindOf (l : Launch) (D : va_G) (base : Nat) (a0 : Option Nat) (a1 : Int32) (h : zH) {r : Option Nat} {h' : zH} (hf : fX6_kindOf a0 a1 h = some (r, h')) : zMet l D base yX6_kindOf cX6_kindOf 3 (some (.object "CodeVerifier$Kind")) rmX6_kindOf h [va_rf a0, .int a1] (some (va_rf r)) h' :=
  zMet.of (by decide +kernel) (fun v hv => by simp only [List.mem_cons, List.not_mem_nil, or_false] at hv; rcases hv with rfl | rfl <;> first | rfl | exact va_rf_cat _) (Nat.le_of_ble_eq_true rfl) (fun p e s m args below meth c ls F hi hl hW hS => kX6_kindOf_w F a0 a1 h hf s.heap [] ls hl hW hS)
set_option maxRecDepth 100000 in
set_option maxHeartbeats 4000000 in
theorem kX6_lowestAboveBoth_b24 (N : Nat) {r : Int32} {h' : zH} (F : zF p s m args meth c cX6_lowestAboveBoth 4 RX6 (some .int)) : ∀ (n : Nat) (l2 : Int32) (l3 : Int32) (h : zH), fX6_lowestAboveBoth_b24 N n l2 l3 h = some (r, h') → ∀ (H : Heap) (locs : List Loc) (ls : Array Slot), zhas ls 4 [(2, .int l2), (3, .int l3)] → z_W D base s h H → va_S (zA base) s.heap H locs → W p l e rmX6_lowestAboveBoth s m args below meth c H locs 0 0 (MQ below (zQ D base (some (.int r)) h') args s rmX6_lowestAboveBoth.cells rmX6_lowestAboveBoth.slots (zA base)) (F0 m 24 ls []) := by
  obtain ⟨hx, hb, hml, hown, hts, hret, hlk, hZ⟩ := id F
  intro n
  induction n with
  | zero =>
    intro l2 l3 h hf
    rw [fX6_lowestAboveBoth_b24] at hf
    cases hf
  | succ n ih =>
    intro l2 l3 h hf H locs ls hl hW hS
    rw [fX6_lowestAboveBoth_b24] at hf
    refine lv_iload_n hx hb dX6_lowestAboveBoth_24 rfl (lv_at hl.1 1 rfl) ?_
    refine lv_if_lt (tgt := 46) hx hb dX6_lowestAboveBoth_25 (by decide) (fun c1 => ?_) (fun c1 => ?_)
    · have hf := oift c1 hf
      refine lv_bipush (v := 98) hx hb dX6_lowestAboveBoth_46 (by decide) ?_
      obtain ⟨rfl, rfl⟩ := oret hf
      exact zw_ireturn F hW hS dX6_lowestAboveBoth_48
    · have hf := oiff c1 hf
      refine lv_iload_n hx hb dX6_lowestAboveBoth_28 rfl (lv_at hl.1 0 rfl) ?_
      refine lv_iload_n hx hb dX6_lowestAboveBoth_29 rfl (lv_at hl.1 1 rfl) ?_
      refine lv_iushr hx hb dX6_lowestAboveBoth_30 rfl ?_
      refine lv_iconst (v := 1) hx hb dX6_lowestAboveBoth_31 (by decide) ?_
      refine lv_iand hx hb dX6_lowestAboveBoth_32 ?_
      refine lv_if_eq (tgt := 40) hx hb dX6_lowestAboveBoth_33 (by decide) (fun c2 => ?_) (fun c2 => ?_)
      · have hf := oift c2 hf
        refine zl_iinc (v := (l3 + (-1))) (lv' := [(3, .int (l3 + (-1))), (2, .int l2)]) hx hb dX6_lowestAboveBoth_40 hl (k := 1) rfl rfl (by decide) rfl (fun ls hl => ?_)
        refine lv_goto (tgt := 24) hx hb dX6_lowestAboveBoth_43 (by decide) ?_
        exact ih l2 (l3 + (-1)) h hf H locs ls (z_sub hl [1, 0] rfl) hW hS
      · have hf := oiff c2 hf
        refine lv_iconst (v := 1) hx hb dX6_lowestAboveBoth_36 (by decide) ?_
        refine lv_iload_n hx hb dX6_lowestAboveBoth_37 rfl (lv_at hl.1 1 rfl) ?_
        refine lv_iadd hx hb dX6_lowestAboveBoth_38 ?_
        obtain ⟨rfl, rfl⟩ := oret hf
        exact zw_ireturn F hW hS dX6_lowestAboveBoth_39
set_option maxRecDepth 100000 in
set_option maxHeartbeats 4000000 in
theorem kX6_lowestAboveBoth_w (N : Nat) (F : zF p s m args meth c cX6_lowestAboveBoth 4 RX6 (some .int)) {r : Int32} {h' : zH} (a0 : Option Nat) (a1 : Option Nat) (h : zH) (hf : fX6_lowestAboveBoth N a0 a1 h = some (r, h')) (H : Heap) (locs : List Loc) (ls : Array Slot) (hl : zhas ls 4 [(0, va_rf a0), (1, va_rf a1)]) (hW : z_W D base s h H) (hS : va_S (zA base) s.heap H locs) : W p l e rmX6_lowestAboveBoth s m args below meth c H locs 0 0 (MQ below (zQ D base (some (.int r)) h') args s rmX6_lowestAboveBoth.cells rmX6_lowestAboveBoth.slots (zA base)) (F0 m 0 ls []) := by
  obtain ⟨hx, hb, hml, hown, hts, hret, hlk, hZ⟩ := id F
  unfold fX6_lowestAboveBoth at hf
  refine zw_aload_n hx hb dX6_lowestAboveBoth_0 rfl (lv_at hl.1 0 rfl) ?_
  refine zw_ifnull (tgt := 8) hx hb dX6_lowestAboveBoth_1 (by decide) (fun c1 => ?_) (fun c1 => ?_)
  · have hf := oift c1 hf
    refine lv_bipush (v := 98) hx hb dX6_lowestAboveBoth_8 (by decide) ?_
    obtain ⟨rfl, rfl⟩ := oret hf
    exact zw_ireturn F hW hS dX6_lowestAboveBoth_10
  · have hf := oiff c1 hf
    refine zw_aload_n hx hb dX6_lowestAboveBoth_4 rfl (lv_at hl.1 1 rfl) ?_
    refine zw_ifnonnull (tgt := 11) hx hb dX6_lowestAboveBoth_5 (by decide) (fun c2 => ?_) (fun c2 => ?_)
    · have hf := oiff c2 hf
      refine zw_aload_n hx hb dX6_lowestAboveBoth_11 rfl (lv_at hl.1 0 rfl) ?_
      obtain ⟨v3, e3, hf⟩ := ob hf
      refine zw_gI hx hb hts inX2 hown hW (ci := 2) rfl (by decide) 1 (by decide) (hts _ wd_139) e3 (fun _ _ => rfl) dX6_lowestAboveBoth_12 ?_
      refine zw_aload_n hx hb dX6_lowestAboveBoth_15 rfl (lv_at hl.1 1 rfl) ?_
      obtain ⟨v4, e4, hf⟩ := ob hf
      refine zw_gI hx hb hts inX2 hown hW (ci := 2) rfl (by decide) 1 (by decide) (hts _ wd_139) e4 (fun _ _ => rfl) dX6_lowestAboveBoth_16 ?_
      refine lv_iand hx hb dX6_lowestAboveBoth_19 ?_
      refine zl_istore_n (lv' := [(2, .int (v3 &&& v4)), (0, va_rf a0), (1, va_rf a1)]) hx hb dX6_lowestAboveBoth_20 rfl hl (by decide) rfl (fun ls hl => ?_)
      refine lv_bipush (v := 31) hx hb dX6_lowestAboveBoth_21 (by decide) ?_
      refine zl_istore_n (lv' := [(3, .int 31), (2, .int (v3 &&& v4)), (0, va_rf a0), (1, va_rf a1)]) hx hb dX6_lowestAboveBoth_23 rfl hl (by decide) rfl (fun ls hl => ?_)
      exact kX6_lowestAboveBoth_b24 N F N (v3 &&& v4) 31 h hf H locs ls (z_sub hl [1, 0] rfl) hW hS
    · have hf := oift c2 hf
      refine lv_bipush (v := 98) hx hb dX6_lowestAboveBoth_8 (by decide) ?_
      obtain ⟨rfl, rfl⟩ := oret hf
      exact zw_ireturn F hW hS dX6_lowestAboveBoth_10
set_option maxRecDepth 100000 in
set_option maxHeartbeats 4000000 in
theorem kX6_lowestAboveBoth (l : Launch) (D : va_G) (base : Nat) (N : Nat) (a0 : Option Nat) (a1 : Option Nat) (h : zH) {r : Int32} {h' : zH} (hf : fX6_lowestAboveBoth N a0 a1 h = some (r, h')) : zMet l D base yX6_lowestAboveBoth cX6_lowestAboveBoth 4 (some .int) rmX6_lowestAboveBoth h [va_rf a0, va_rf a1] (some (.int r)) h' :=
  zMet.of (by decide +kernel) (fun v hv => by simp only [List.mem_cons, List.not_mem_nil, or_false] at hv; rcases hv with rfl | rfl <;> first | rfl | exact va_rf_cat _) (Nat.le_of_ble_eq_true rfl) (fun p e s m args below meth c ls F hi hl hW hS => kX6_lowestAboveBoth_w N F a0 a1 h hf s.heap [] ls hl hW hS)
set_option maxRecDepth 100000 in
set_option maxHeartbeats 4000000 in
theorem kX6_meeting_w (N : Nat) (F : zF p s m args meth c cX6_meeting 3 RX6 (some .int)) {r : Int32} {h' : zH} (a0 : Option Nat) (a1 : Int32) (a2 : Int32) (h : zH) (hf : fX6_meeting N a0 a1 a2 h = some (r, h')) (H : Heap) (locs : List Loc) (ls : Array Slot) (hl : zhas ls 3 [(0, va_rf a0), (1, .int a1), (2, .int a2)]) (hW : z_W D base s h H) (hS : va_S (zA base) s.heap H locs) : W p l e rmX6_meeting s m args below meth c H locs 0 0 (MQ below (zQ D base (some (.int r)) h') args s rmX6_meeting.cells rmX6_meeting.slots (zA base)) (F0 m 0 ls []) := by
  obtain ⟨hx, hb, hml, hown, hts, hret, hlk, hZ⟩ := id F
  unfold fX6_meeting at hf
  refine lv_iload_n hx hb dX6_meeting_0 rfl (lv_at hl.1 1 rfl) ?_
  refine lv_iload_n hx hb dX6_meeting_1 rfl (lv_at hl.1 2 rfl) ?_
  refine lv_icmp_ne (tgt := 7) hx hb dX6_meeting_2 (by decide) (fun c1 => ?_) (fun c1 => ?_)
  · have hf := oiff c1 hf
    refine lv_iload_n hx hb dX6_meeting_7 rfl (lv_at hl.1 1 rfl) ?_
    obtain ⟨q2, e2, hf⟩ := ob hf
    refine zw_callSN (rest := []) (n := 1) F (kX8_isReference (r := q2.1) (h' := q2.2) l D base a1 h e2) wd_426 wd_427 wd_1 wd_428 (by decide +kernel) ⟨by decide, by decide⟩ hW hS rfl hl.1.1 (by decide) rfl ⟨(by decide), (by decide)⟩ dX6_meeting_8 (fun H locs hW hS => ?_)
    refine W.eq (g2 := F0 m 11 ls [.int q2.1]) rfl ?_
    refine lv_if_eq (tgt := 21) hx hb dX6_meeting_11 (by decide) (fun c3 => ?_) (fun c3 => ?_)
    · have hf := oift c3 hf
      refine lv_bipush (v := 99) hx hb dX6_meeting_21 (by decide) ?_
      obtain ⟨rfl, rfl⟩ := oret hf
      exact zw_ireturn F hW hS dX6_meeting_23
    · have hf := oiff c3 hf
      refine lv_iload_n hx hb dX6_meeting_14 rfl (lv_at hl.1 2 rfl) ?_
      obtain ⟨q4, e4, hf⟩ := ob hf
      refine zw_callSN (rest := []) (n := 1) F (kX8_isReference (r := q4.1) (h' := q4.2) l D base a2 q2.2 e4) wd_426 wd_427 wd_1 wd_428 (by decide +kernel) ⟨by decide, by decide⟩ hW hS rfl hl.1.1 (by decide) rfl ⟨(by decide), (by decide)⟩ dX6_meeting_15 (fun H locs hW hS => ?_)
      refine W.eq (g2 := F0 m 18 ls [.int q4.1]) rfl ?_
      refine lv_if_ne (tgt := 24) hx hb dX6_meeting_18 (by decide) (fun c5 => ?_) (fun c5 => ?_)
      · have hf := oiff c5 hf
        refine lv_iload_n hx hb dX6_meeting_24 rfl (lv_at hl.1 1 rfl) ?_
        refine lv_bipush (v := 97) hx hb dX6_meeting_25 (by decide) ?_
        refine lv_icmp_ne (tgt := 32) hx hb dX6_meeting_27 (by decide) (fun c6 => ?_) (fun c6 => ?_)
        · have hf := oiff c6 hf
          refine lv_iload_n hx hb dX6_meeting_32 rfl (lv_at hl.1 2 rfl) ?_
          refine lv_bipush (v := 97) hx hb dX6_meeting_33 (by decide) ?_
          refine lv_icmp_ne (tgt := 40) hx hb dX6_meeting_35 (by decide) (fun c7 => ?_) (fun c7 => ?_)
          · have hf := oiff c7 hf
            refine zw_aload_n hx hb dX6_meeting_40 rfl (lv_at hl.1 0 rfl) ?_
            refine lv_iload_n hx hb dX6_meeting_41 rfl (lv_at hl.1 1 rfl) ?_
            obtain ⟨a908, j8, hf⟩ := ob hf
            obtain ⟨q8, e8, hf⟩ := ob hf
            refine zw_callV (rest := []) (n := 1) F (kX6_kindOf (r := q8.1) (h' := q8.2) l D base a0 a1 q4.2 e8) 6 rfl (by decide) j8 wd_177 wd_179 ws_0 wd_2 wd_180 (by decide +kernel) ⟨by decide, by decide⟩ hW hS rfl hl.1.1 (by decide) rfl ⟨(by decide), (by decide)⟩ dX6_meeting_42 (fun H locs hW hS => ?_)
            refine W.eq (g2 := F0 m 45 ls [va_rf q8.1]) rfl ?_
            refine zw_aload_n hx hb dX6_meeting_45 rfl (lv_at hl.1 0 rfl) ?_
            refine lv_iload_n hx hb dX6_meeting_46 rfl (lv_at hl.1 2 rfl) ?_
            obtain ⟨a909, j9, hf⟩ := ob hf
            obtain ⟨q9, e9, hf⟩ := ob hf
            refine zw_callV (rest := [va_rf q8.1]) (n := 1) F (kX6_kindOf (r := q9.1) (h' := q9.2) l D base a0 a2 q8.2 e9) 6 rfl (by decide) j9 wd_177 wd_179 ws_0 wd_2 wd_180 (by decide +kernel) ⟨by decide, by decide⟩ hW hS rfl hl.1.1 (by simp only [List.map_cons, List.map_nil, va_rf_cat, z_icat, List.sum_cons, List.sum_nil]; decide) rfl ⟨(by decide), (by decide)⟩ dX6_meeting_47 (fun H locs hW hS => ?_)
            refine W.eq (g2 := F0 m 50 ls [va_rf q9.1, va_rf q8.1]) rfl ?_
            obtain ⟨q10, e10, hf⟩ := ob hf
            refine zw_callS (rest := []) (n := 2) F (kX6_lowestAboveBoth (r := q10.1) (h' := q10.2) l D base N q8.1 q9.1 q9.2 e10) wd_429 wd_430 wd_2 wd_431 (by decide +kernel) ⟨by decide, by decide⟩ hW hS rfl hl.1.1 (by decide) rfl ⟨(by decide), (by decide)⟩ dX6_meeting_50 (fun H locs hW hS => ?_)
            refine W.eq (g2 := F0 m 53 ls [.int q10.1]) rfl ?_
            obtain ⟨rfl, rfl⟩ := oret hf
            exact zw_ireturn F hW hS dX6_meeting_53
          · have hf := oift c7 hf
            refine lv_iload_n hx hb dX6_meeting_38 rfl (lv_at hl.1 1 rfl) ?_
            obtain ⟨rfl, rfl⟩ := oret hf
            exact zw_ireturn F hW hS dX6_meeting_39
        · have hf := oift c6 hf
          refine lv_iload_n hx hb dX6_meeting_30 rfl (lv_at hl.1 2 rfl) ?_
          obtain ⟨rfl, rfl⟩ := oret hf
          exact zw_ireturn F hW hS dX6_meeting_31
      · have hf := oift c5 hf
        refine lv_bipush (v := 99) hx hb dX6_meeting_21 (by decide) ?_
        obtain ⟨rfl, rfl⟩ := oret hf
        exact zw_ireturn F hW hS dX6_meeting_23
  · have hf := oift c1 hf
    refine lv_iload_n hx hb dX6_meeting_5 rfl (lv_at hl.1 1 rfl) ?_
    obtain ⟨rfl, rfl⟩ := oret hf
    exact zw_ireturn F hW hS dX6_meeting_6
set_option maxRecDepth 100000 in
set_option maxHeartbeats 4000000 in
theorem kX6_meeting (l : Launch) (D : va_G) (base : Nat) (N : Nat) (a0 : Option Nat) (a1 : Int32) (a2 : Int32) (h : zH) {r : Int32} {h' : zH} (hf : fX6_meeting N a0 a1 a2 h = some (r, h')) : zMet l D base yX6_meeting cX6_meeting 3 (some .int) rmX6_meeting h [va_rf a0, .int a1, .int a2] (some (.int r)) h' :=
  zMet.of (by decide +kernel) (fun v hv => by simp only [List.mem_cons, List.not_mem_nil, or_false] at hv; rcases hv with rfl | rfl | rfl <;> first | rfl | exact va_rf_cat _) (Nat.le_of_ble_eq_true rfl) (fun p e s m args below meth c ls F hi hl hW hS => kX6_meeting_w N F a0 a1 a2 h hf s.heap [] ls hl hW hS)
set_option maxRecDepth 100000 in
set_option maxHeartbeats 4000000 in
theorem kX4_meet_b100 (N : Nat) {r : Int32} {h' : zH} (k18 : Option Nat → Option Nat → Option Nat → Int32 → Int32 → zH → Option (Int32 × zH)) (hk18 : ∀ (l0 : Option Nat) (l1 : Option Nat) (l2 : Option Nat) (l3 : Int32) (l4 : Int32) (h : zH), k18 l0 l1 l2 l3 l4 h = some (r, h') → ∀ (H : Heap) (locs : List Loc) (ls : Array Slot), zhas ls 6 [(0, va_rf l0), (1, va_rf l1), (2, va_rf l2), (3, .int l3), (4, .int l4)] → z_W D base s h H → va_S (zA base) s.heap H locs → W p l e rmX4_meet s m args below meth c H locs 0 0 (MQ below (zQ D base (some (.int r)) h') args s rmX4_meet.cells rmX4_meet.slots (zA base)) (F0 m 18 ls [])) (F : zF p s m args meth c cX4_meet 6 RX4 (some .int)) (l0 : Option Nat) (l1 : Option Nat) (l2 : Option Nat) (l3 : Int32) (l4 : Int32) (h : zH) (hf : fX4_meet_b100 N k18 l0 l1 l2 l3 l4 h = some (r, h')) (H : Heap) (locs : List Loc) (ls : Array Slot) (hl : zhas ls 6 [(0, va_rf l0), (1, va_rf l1), (2, va_rf l2), (3, .int l3), (4, .int l4)]) (hW : z_W D base s h H) (hS : va_S (zA base) s.heap H locs) : W p l e rmX4_meet s m args below meth c H locs 0 0 (MQ below (zQ D base (some (.int r)) h') args s rmX4_meet.cells rmX4_meet.slots (zA base)) (F0 m 100 ls []) := by
  obtain ⟨hx, hb, hml, hown, hts, hret, hlk, hZ⟩ := id F
  unfold fX4_meet_b100 at hf
  refine zl_iinc (v := (l4 + 1)) (lv' := [(4, .int (l4 + 1)), (0, va_rf l0), (1, va_rf l1), (2, va_rf l2), (3, .int l3)]) hx hb dX4_meet_100 hl (k := 4) rfl rfl (by decide) rfl (fun ls hl => ?_)
  refine lv_goto (tgt := 18) hx hb dX4_meet_103 (by decide) ?_
  exact hk18 l0 l1 l2 l3 (l4 + 1) h hf H locs ls (z_sub hl [1, 2, 3, 4, 0] rfl) hW hS
set_option maxRecDepth 100000 in
set_option maxHeartbeats 4000000 in
theorem kX4_meet_b77 (N : Nat) {r : Int32} {h' : zH} (k18 : Option Nat → Option Nat → Option Nat → Int32 → Int32 → zH → Option (Int32 × zH)) (hk18 : ∀ (l0 : Option Nat) (l1 : Option Nat) (l2 : Option Nat) (l3 : Int32) (l4 : Int32) (h : zH), k18 l0 l1 l2 l3 l4 h = some (r, h') → ∀ (H : Heap) (locs : List Loc) (ls : Array Slot), zhas ls 6 [(0, va_rf l0), (1, va_rf l1), (2, va_rf l2), (3, .int l3), (4, .int l4)] → z_W D base s h H → va_S (zA base) s.heap H locs → W p l e rmX4_meet s m args below meth c H locs 0 0 (MQ below (zQ D base (some (.int r)) h') args s rmX4_meet.cells rmX4_meet.slots (zA base)) (F0 m 18 ls [])) (F : zF p s m args meth c cX4_meet 6 RX4 (some .int)) (l0 : Option Nat) (l1 : Option Nat) (l2 : Option Nat) (l3 : Int32) (l4 : Int32) (l5 : Int32) (h : zH) (hf : fX4_meet_b77 N k18 l0 l1 l2 l3 l4 l5 h = some (r, h')) (H : Heap) (locs : List Loc) (ls : Array Slot) (hl : zhas ls 6 [(0, va_rf l0), (1, va_rf l1), (2, va_rf l2), (3, .int l3), (4, .int l4), (5, .int l5)]) (hW : z_W D base s h H) (hS : va_S (zA base) s.heap H locs) : W p l e rmX4_meet s m args below meth c H locs 0 0 (MQ below (zQ D base (some (.int r)) h') args s rmX4_meet.cells rmX4_meet.slots (zA base)) (F0 m 77 ls []) := by
  obtain ⟨hx, hb, hml, hown, hts, hret, hlk, hZ⟩ := id F
  unfold fX4_meet_b77 at hf
  refine lv_iload hx hb dX4_meet_77 (lv_at hl.1 5 rfl) ?_
  refine zw_aload_n hx hb dX4_meet_79 rfl (lv_at hl.1 0 rfl) ?_
  obtain ⟨v1, e1, hf⟩ := ob hf
  refine zw_gR hx hb hts inX4 hown hW (ci := 4) rfl (by decide) 0 (by decide) (hts _ wd_56) e1 (fun _ _ => rfl) dX4_meet_80 ?_
  refine lv_iload hx hb dX4_meet_83 (lv_at hl.1 4 rfl) ?_
  obtain ⟨v2, e2, hf⟩ := ob hf
  refine zw_aI hx hb hW e2 dX4_meet_85 ?_
  refine lv_icmp_eq (tgt := 100) hx hb dX4_meet_86 (by decide) (fun c3 => ?_) (fun c3 => ?_)
  · have hf := oift c3 hf
    exact kX4_meet_b100 N k18 hk18 F l0 l1 l2 l3 l4 h hf H locs ls (z_sub hl [0, 1, 2, 3, 4] rfl) hW hS
  · have hf := oiff c3 hf
    refine zw_aload_n hx hb dX4_meet_89 rfl (lv_at hl.1 0 rfl) ?_
    obtain ⟨v4, e4, hf⟩ := ob hf
    refine zw_gR hx hb hts inX4 hown hW (ci := 4) rfl (by decide) 0 (by decide) (hts _ wd_56) e4 (fun _ _ => rfl) dX4_meet_90 ?_
    refine lv_iload hx hb dX4_meet_93 (lv_at hl.1 4 rfl) ?_
    refine lv_iload hx hb dX4_meet_95 (lv_at hl.1 5 rfl) ?_
    obtain ⟨h5, e5, hf⟩ := ob hf
    refine zw_sI hx hb hW hS e5 dX4_meet_97 (fun H locs hW hS => ?_)
    refine lv_iconst (v := 1) hx hb dX4_meet_98 (by decide) ?_
    refine zl_istore_n (lv' := [(3, .int 1), (0, va_rf l0), (1, va_rf l1), (2, va_rf l2), (4, .int l4), (5, .int l5)]) hx hb dX4_meet_99 rfl hl (by decide) rfl (fun ls hl => ?_)
    exact kX4_meet_b100 N k18 hk18 F l0 l1 l2 1 l4 h5 hf H locs ls (z_sub hl [1, 2, 3, 0, 4] rfl) hW hS
set_option maxRecDepth 100000 in
set_option maxHeartbeats 4000000 in
theorem kX4_meet_b18 (N : Nat) {r : Int32} {h' : zH} (F : zF p s m args meth c cX4_meet 6 RX4 (some .int)) : ∀ (n : Nat) (l0 : Option Nat) (l1 : Option Nat) (l2 : Option Nat) (l3 : Int32) (l4 : Int32) (h : zH), fX4_meet_b18 N n l0 l1 l2 l3 l4 h = some (r, h') → ∀ (H : Heap) (locs : List Loc) (ls : Array Slot), zhas ls 6 [(0, va_rf l0), (1, va_rf l1), (2, va_rf l2), (3, .int l3), (4, .int l4)] → z_W D base s h H → va_S (zA base) s.heap H locs → W p l e rmX4_meet s m args below meth c H locs 0 0 (MQ below (zQ D base (some (.int r)) h') args s rmX4_meet.cells rmX4_meet.slots (zA base)) (F0 m 18 ls []) := by
  obtain ⟨hx, hb, hml, hown, hts, hret, hlk, hZ⟩ := id F
  intro n
  induction n with
  | zero =>
    intro l0 l1 l2 l3 l4 h hf
    rw [fX4_meet_b18] at hf
    cases hf
  | succ n ih =>
    intro l0 l1 l2 l3 l4 h hf H locs ls hl hW hS
    rw [fX4_meet_b18] at hf
    refine lv_iload hx hb dX4_meet_18 (lv_at hl.1 4 rfl) ?_
    refine zw_aload_n hx hb dX4_meet_20 rfl (lv_at hl.1 0 rfl) ?_
    obtain ⟨v1, e1, hf⟩ := ob hf
    refine zw_gI hx hb hts inX4 hown hW (ci := 4) rfl (by decide) 1 (by decide) (hts _ wd_57) e1 (fun _ _ => rfl) dX4_meet_21 ?_
    refine zw_aload_n hx hb dX4_meet_24 rfl (lv_at hl.1 0 rfl) ?_
    obtain ⟨v2, e2, hf⟩ := ob hf
    refine zw_gI hx hb hts inX4 hown hW (ci := 4) rfl (by decide) 3 (by decide) (hts _ wd_59) e2 (fun _ _ => rfl) dX4_meet_25 ?_
    refine lv_iadd hx hb dX4_meet_28 ?_
    refine lv_icmp_ge (tgt := 106) hx hb dX4_meet_29 (by decide) (fun c3 => ?_) (fun c3 => ?_)
    · have hf := oift c3 hf
      refine lv_iload_n hx hb dX4_meet_106 rfl (lv_at hl.1 3 rfl) ?_
      obtain ⟨rfl, rfl⟩ := oret hf
      exact zw_ireturn F hW hS dX4_meet_107
    · have hf := oiff c3 hf
      refine lv_iload hx hb dX4_meet_32 (lv_at hl.1 4 rfl) ?_
      refine lv_bipush (v := 12) hx hb dX4_meet_34 (by decide) ?_
      refine lv_icmp_ge (tgt := 106) hx hb dX4_meet_36 (by decide) (fun c4 => ?_) (fun c4 => ?_)
      · have hf := oift c4 hf
        refine lv_iload_n hx hb dX4_meet_106 rfl (lv_at hl.1 3 rfl) ?_
        obtain ⟨rfl, rfl⟩ := oret hf
        exact zw_ireturn F hW hS dX4_meet_107
      · have hf := oiff c4 hf
        refine zw_aload_n hx hb dX4_meet_39 rfl (lv_at hl.1 2 rfl) ?_
        refine zw_aload_n hx hb dX4_meet_40 rfl (lv_at hl.1 0 rfl) ?_
        obtain ⟨v5, e5, hf⟩ := ob hf
        refine zw_gR hx hb hts inX4 hown hW (ci := 4) rfl (by decide) 0 (by decide) (hts _ wd_56) e5 (fun _ _ => rfl) dX4_meet_41 ?_
        refine lv_iload hx hb dX4_meet_44 (lv_at hl.1 4 rfl) ?_
        obtain ⟨v6, e6, hf⟩ := ob hf
        refine zw_aI hx hb hW e6 dX4_meet_46 ?_
        refine zw_aload_n hx hb dX4_meet_47 rfl (lv_at hl.1 1 rfl) ?_
        obtain ⟨v7, e7, hf⟩ := ob hf
        refine zw_gR hx hb hts inX4 hown hW (ci := 4) rfl (by decide) 0 (by decide) (hts _ wd_56) e7 (fun _ _ => rfl) dX4_meet_48 ?_
        refine lv_iload hx hb dX4_meet_51 (lv_at hl.1 4 rfl) ?_
        obtain ⟨v8, e8, hf⟩ := ob hf
        refine zw_aI hx hb hW e8 dX4_meet_53 ?_
        obtain ⟨a909, j9, hf⟩ := ob hf
        obtain ⟨q9, e9, hf⟩ := ob hf
        refine zw_callV (rest := []) (n := 2) F (kX6_meeting (r := q9.1) (h' := q9.2) l D base N l2 v6 v8 h e9) 6 rfl (by decide) j9 wd_422 wd_423 wd_424 wd_2 wd_425 (by decide +kernel) ⟨by decide, by decide⟩ hW hS rfl hl.1.1 (by decide) rfl ⟨(by decide), (by decide)⟩ dX4_meet_54 (fun H locs hW hS => ?_)
        refine W.eq (g2 := F0 m 57 ls [.int q9.1]) rfl ?_
        refine zl_istore (lv' := [(5, .int q9.1), (0, va_rf l0), (1, va_rf l1), (2, va_rf l2), (3, .int l3), (4, .int l4)]) hx hb dX4_meet_57 hl (by decide) rfl (fun ls hl => ?_)
        refine lv_iload hx hb dX4_meet_59 (lv_at hl.1 5 rfl) ?_
        refine zw_aload_n hx hb dX4_meet_61 rfl (lv_at hl.1 1 rfl) ?_
        obtain ⟨v10, e10, hf⟩ := ob hf
        refine zw_gI hx hb hts inX4 hown hW (ci := 4) rfl (by decide) 1 (by decide) (hts _ wd_57) e10 (fun _ _ => rfl) dX4_meet_62 ?_
        refine lv_icmp_lt (tgt := 77) hx hb dX4_meet_65 (by decide) (fun c11 => ?_) (fun c11 => ?_)
        · have hf := oift c11 hf
          exact kX4_meet_b77 N (fX4_meet_b18 N n) (fun l0 l1 l2 l3 l4 h hf H locs ls hl hW hS => ih l0 l1 l2 l3 l4 h hf H locs ls hl hW hS) F l0 l1 l2 l3 l4 q9.1 q9.2 hf H locs ls (z_sub hl [1, 2, 3, 4, 5, 0] rfl) hW hS
        · have hf := oiff c11 hf
          refine lv_iload hx hb dX4_meet_68 (lv_at hl.1 0 rfl) ?_
          refine lv_bipush (v := 99) hx hb dX4_meet_70 (by decide) ?_
          refine lv_icmp_ne (tgt := 77) hx hb dX4_meet_72 (by decide) (fun c12 => ?_) (fun c12 => ?_)
          · have hf := oiff c12 hf
            exact kX4_meet_b77 N (fX4_meet_b18 N n) (fun l0 l1 l2 l3 l4 h hf H locs ls hl hW hS => ih l0 l1 l2 l3 l4 h hf H locs ls hl hW hS) F l0 l1 l2 l3 l4 q9.1 q9.2 hf H locs ls (z_sub hl [1, 2, 3, 4, 5, 0] rfl) hW hS
          · have hf := oift c12 hf
            refine lv_iconst (v := 2) hx hb dX4_meet_75 (by decide) ?_
            obtain ⟨rfl, rfl⟩ := oret hf
            exact zw_ireturn F hW hS dX4_meet_76
set_option maxRecDepth 100000 in
set_option maxHeartbeats 4000000 in
theorem kX4_meet_w (N : Nat) (F : zF p s m args meth c cX4_meet 6 RX4 (some .int)) {r : Int32} {h' : zH} (a0 : Option Nat) (a1 : Option Nat) (a2 : Option Nat) (h : zH) (hf : fX4_meet N a0 a1 a2 h = some (r, h')) (H : Heap) (locs : List Loc) (ls : Array Slot) (hl : zhas ls 6 [(0, va_rf a0), (1, va_rf a1), (2, va_rf a2)]) (hW : z_W D base s h H) (hS : va_S (zA base) s.heap H locs) : W p l e rmX4_meet s m args below meth c H locs 0 0 (MQ below (zQ D base (some (.int r)) h') args s rmX4_meet.cells rmX4_meet.slots (zA base)) (F0 m 0 ls []) := by
  obtain ⟨hx, hb, hml, hown, hts, hret, hlk, hZ⟩ := id F
  unfold fX4_meet at hf
  refine zw_aload_n hx hb dX4_meet_0 rfl (lv_at hl.1 0 rfl) ?_
  obtain ⟨v1, e1, hf⟩ := ob hf
  refine zw_gI hx hb hts inX4 hown hW (ci := 4) rfl (by decide) 3 (by decide) (hts _ wd_59) e1 (fun _ _ => rfl) dX4_meet_1 ?_
  refine zw_aload_n hx hb dX4_meet_4 rfl (lv_at hl.1 1 rfl) ?_
  obtain ⟨v2, e2, hf⟩ := ob hf
  refine zw_gI hx hb hts inX4 hown hW (ci := 4) rfl (by decide) 3 (by decide) (hts _ wd_59) e2 (fun _ _ => rfl) dX4_meet_5 ?_
  refine lv_icmp_eq (tgt := 13) hx hb dX4_meet_8 (by decide) (fun c3 => ?_) (fun c3 => ?_)
  · have hf := oift c3 hf
    refine lv_iconst (v := 0) hx hb dX4_meet_13 (by decide) ?_
    refine zl_istore_n (lv' := [(3, .int 0), (0, va_rf a0), (1, va_rf a1), (2, va_rf a2)]) hx hb dX4_meet_14 rfl hl (by decide) rfl (fun ls hl => ?_)
    refine lv_iconst (v := 0) hx hb dX4_meet_15 (by decide) ?_
    refine zl_istore (lv' := [(4, .int 0), (3, .int 0), (0, va_rf a0), (1, va_rf a1), (2, va_rf a2)]) hx hb dX4_meet_16 hl (by decide) rfl (fun ls hl => ?_)
    exact kX4_meet_b18 N F N a0 a1 a2 0 0 h hf H locs ls (z_sub hl [2, 3, 4, 1, 0] rfl) hW hS
  · have hf := oiff c3 hf
    refine lv_iconst (v := 2) hx hb dX4_meet_11 (by decide) ?_
    obtain ⟨rfl, rfl⟩ := oret hf
    exact zw_ireturn F hW hS dX4_meet_12
set_option maxRecDepth 100000 in
set_option maxHeartbeats 4000000 in
theorem kX4_meet (l : Launch) (D : va_G) (base : Nat) (N : Nat) (a0 : Option Nat) (a1 : Option Nat) (a2 : Option Nat) (h : zH) {r : Int32} {h' : zH} (hf : fX4_meet N a0 a1 a2 h = some (r, h')) : zMet l D base yX4_meet cX4_meet 6 (some .int) rmX4_meet h [va_rf a0, va_rf a1, va_rf a2] (some (.int r)) h' :=
  zMet.of (by decide +kernel) (fun v hv => by simp only [List.mem_cons, List.not_mem_nil, or_false] at hv; rcases hv with rfl | rfl | rfl <;> first | rfl | exact va_rf_cat _) (Nat.le_of_ble_eq_true rfl) (fun p e s m args below meth c ls F hi hl hW hS => kX4_meet_w N F a0 a1 a2 h hf s.heap [] ls hl hW hS)
set_option maxRecDepth 100000 in
set_option maxHeartbeats 4000000 in
theorem kX5_init_w (F : zF p s m args meth c cX5_init 3 RX5 none) (hin : meth.name = "<init>") {h' : zH} (a0 : Option Nat) (a1 : Option Nat) (a2 : Option Nat) (h : zH) (hf : fX5_init a0 a1 a2 h = some h') (H : Heap) (locs : List Loc) (ls : Array Slot) (hl : zhas ls 3 [(0, va_rf a0), (1, va_rf a1), (2, va_rf a2)]) (hW : z_W D base s h H) (hS : va_S (zA base) s.heap H locs) : W p l e rmX5_init s m args below meth c H locs 0 0 (MQ below (zQ D base none h') args s rmX5_init.cells rmX5_init.slots (zA base)) (F0 m 0 ls []) := by
  obtain ⟨hx, hb, hml, hown, hts, hret, hlk, hZ⟩ := id F
  unfold fX5_init at hf
  refine zw_aload_n hx hb dX5_init_0 rfl (lv_at hl.1 0 rfl) ?_
  obtain ⟨a901, e1, hf⟩ := ob hf
  refine zw_objInit F e1 wd_78 wd_19 wd_20 (by decide +kernel) hl.1.1 (by decide) (by simp only [List.map_cons, List.map_nil, va_rf_cat, z_icat, List.sum_cons, List.sum_nil]; decide) dX5_init_1 ?_
  refine zw_aload_n hx hb dX5_init_4 rfl (lv_at hl.1 0 rfl) ?_
  refine zw_aload_n hx hb dX5_init_5 rfl (lv_at hl.1 1 rfl) ?_
  obtain ⟨h2, e2, hf⟩ := ob hf
  refine zw_pR hx hb hts inX5 tyX5 tyX5_ok nmX5 hown hW hS (ci := 5) rfl (by decide) 0 (by decide) (hts _ wd_79) (Or.inr ⟨rfl, hin, rfl⟩) (fun _ _ => rfl) (fun v => z_refn v) (fun v => z_reff v) e2 dX5_init_6 (fun H locs hW hS => ?_)
  refine zw_aload_n hx hb dX5_init_9 rfl (lv_at hl.1 0 rfl) ?_
  refine zw_aload_n hx hb dX5_init_10 rfl (lv_at hl.1 2 rfl) ?_
  obtain ⟨h3, e3, hf⟩ := ob hf
  refine zw_pR hx hb hts inX5 tyX5 tyX5_ok nmX5 hown hW hS (ci := 5) rfl (by decide) 1 (by decide) (hts _ wd_80) (Or.inr ⟨rfl, hin, rfl⟩) (fun _ _ => rfl) (fun v => z_refn v) (fun v => z_reff v) e3 dX5_init_11 (fun H locs hW hS => ?_)
  obtain rfl := oretv hf
  exact zw_vreturn F hW hS dX5_init_14
set_option maxRecDepth 100000 in
set_option maxHeartbeats 4000000 in
theorem kX5_init (l : Launch) (D : va_G) (base : Nat) (a0 : Option Nat) (a1 : Option Nat) (a2 : Option Nat) (h : zH) {h' : zH} (hf : fX5_init a0 a1 a2 h = some h') : zMet l D base yX5_init cX5_init 3 none rmX5_init h [va_rf a0, va_rf a1, va_rf a2] none h' :=
  zMet.of (by decide +kernel) (fun v hv => by simp only [List.mem_cons, List.not_mem_nil, or_false] at hv; rcases hv with rfl | rfl | rfl <;> first | rfl | exact va_rf_cat _) (Nat.le_of_ble_eq_true rfl) (fun p e s m args below meth c ls F hi hl hW hS => kX5_init_w F (hi rfl) a0 a1 a2 h hf s.heap [] ls hl hW hS)
set_option maxRecDepth 100000 in
set_option maxHeartbeats 4000000 in
theorem kX5_need_b17 {h' : zH} (F : zF p s m args meth c cX5_need 2 RX5 none) (s0 : Int32) (s1 : Option Nat) (h : zH) (hf : fX5_need_b17 s0 s1 h = some h') (H : Heap) (locs : List Loc) (ls : Array Slot) (hl : zhas ls 2 []) (hW : z_W D base s h H) (hS : va_S (zA base) s.heap H locs) : W p l e rmX5_need s m args below meth c H locs 0 0 (MQ below (zQ D base none h') args s rmX5_need.cells rmX5_need.slots (zA base)) (F0 m 17 ls [.int s0, va_rf s1]) := by
  obtain ⟨hx, hb, hml, hown, hts, hret, hlk, hZ⟩ := id F
  unfold fX5_need_b17 at hf
  obtain ⟨h1, e1, hf⟩ := ob hf
  obtain ⟨b1, e1⟩ := pZ_spec e1
  refine zw_pI hx hb hts inX5 tyX5 tyX5_ok nmX5 hown hW hS (ci := 5) rfl (by decide) 2 (by decide) (hts _ wd_81) (Or.inl rfl) (fun _ _ => rfl) (z_bool b1).1 (z_bool b1).2 e1 dX5_need_17 (fun H locs hW hS => ?_)
  obtain rfl := oretv hf
  exact zw_vreturn F hW hS dX5_need_20
set_option maxRecDepth 100000 in
set_option maxHeartbeats 4000000 in
theorem kX5_need_b16 {h' : zH} (F : zF p s m args meth c cX5_need 2 RX5 none) (s0 : Option Nat) (h : zH) (hf : fX5_need_b16 s0 h = some h') (H : Heap) (locs : List Loc) (ls : Array Slot) (hl : zhas ls 2 []) (hW : z_W D base s h H) (hS : va_S (zA base) s.heap H locs) : W p l e rmX5_need s m args below meth c H locs 0 0 (MQ below (zQ D base none h') args s rmX5_need.cells rmX5_need.slots (zA base)) (F0 m 16 ls [va_rf s0]) := by
  obtain ⟨hx, hb, hml, hown, hts, hret, hlk, hZ⟩ := id F
  unfold fX5_need_b16 at hf
  refine lv_iconst (v := 0) hx hb dX5_need_16 (by decide) ?_
  exact kX5_need_b17 F 0 s0 h hf H locs ls (z_sub hl [] rfl) hW hS
set_option maxRecDepth 100000 in
set_option maxHeartbeats 4000000 in
theorem kX5_need_w (F : zF p s m args meth c cX5_need 2 RX5 none) {h' : zH} (a0 : Option Nat) (a1 : Int32) (h : zH) (hf : fX5_need a0 a1 h = some h') (H : Heap) (locs : List Loc) (ls : Array Slot) (hl : zhas ls 2 [(0, va_rf a0), (1, .int a1)]) (hW : z_W D base s h H) (hS : va_S (zA base) s.heap H locs) : W p l e rmX5_need s m args below meth c H locs 0 0 (MQ below (zQ D base none h') args s rmX5_need.cells rmX5_need.slots (zA base)) (F0 m 0 ls []) := by
  obtain ⟨hx, hb, hml, hown, hts, hret, hlk, hZ⟩ := id F
  unfold fX5_need at hf
  refine zw_aload_n hx hb dX5_need_0 rfl (lv_at hl.1 0 rfl) ?_
  refine zw_aload_n hx hb dX5_need_1 rfl (lv_at hl.1 0 rfl) ?_
  obtain ⟨v1, e1, hf⟩ := ob hf
  refine zw_gI hx hb hts inX5 hown hW (ci := 5) rfl (by decide) 2 (by decide) (hts _ wd_81) e1 (fun _ _ => rfl) dX5_need_2 ?_
  refine lv_if_eq (tgt := 16) hx hb dX5_need_5 (by decide) (fun c2 => ?_) (fun c2 => ?_)
  · have hf := oift c2 hf
    exact kX5_need_b16 F a0 h hf H locs ls (z_sub hl [] rfl) hW hS
  · have hf := oiff c2 hf
    refine lv_iload_n hx hb dX5_need_8 rfl (lv_at hl.1 1 rfl) ?_
    refine lv_if_eq (tgt := 16) hx hb dX5_need_9 (by decide) (fun c3 => ?_) (fun c3 => ?_)
    · have hf := oift c3 hf
      exact kX5_need_b16 F a0 h hf H locs ls (z_sub hl [] rfl) hW hS
    · have hf := oiff c3 hf
      refine lv_iconst (v := 1) hx hb dX5_need_12 (by decide) ?_
      refine lv_goto (tgt := 17) hx hb dX5_need_13 (by decide) ?_
      exact kX5_need_b17 F 1 a0 h hf H locs ls (z_sub hl [] rfl) hW hS
set_option maxRecDepth 100000 in
set_option maxHeartbeats 4000000 in
theorem kX5_need (l : Launch) (D : va_G) (base : Nat) (a0 : Option Nat) (a1 : Int32) (h : zH) {h' : zH} (hf : fX5_need a0 a1 h = some h') : zMet l D base yX5_need cX5_need 2 none rmX5_need h [va_rf a0, .int a1] none h' :=
  zMet.of (by decide +kernel) (fun v hv => by simp only [List.mem_cons, List.not_mem_nil, or_false] at hv; rcases hv with rfl | rfl <;> first | rfl | exact va_rf_cat _) (Nat.le_of_ble_eq_true rfl) (fun p e s m args below meth c ls F hi hl hW hS => kX5_need_w F a0 a1 h hf s.heap [] ls hl hW hS)
set_option maxRecDepth 100000 in
set_option maxHeartbeats 4000000 in
theorem kX5_put_w (F : zF p s m args meth c cX5_put 2 RX5 none) {h' : zH} (a0 : Option Nat) (a1 : Int32) (h : zH) (hf : fX5_put a0 a1 h = some h') (H : Heap) (locs : List Loc) (ls : Array Slot) (hl : zhas ls 2 [(0, va_rf a0), (1, .int a1)]) (hW : z_W D base s h H) (hS : va_S (zA base) s.heap H locs) : W p l e rmX5_put s m args below meth c H locs 0 0 (MQ below (zQ D base none h') args s rmX5_put.cells rmX5_put.slots (zA base)) (F0 m 0 ls []) := by
  obtain ⟨hx, hb, hml, hown, hts, hret, hlk, hZ⟩ := id F
  unfold fX5_put at hf
  refine zw_aload_n hx hb dX5_put_0 rfl (lv_at hl.1 0 rfl) ?_
  refine zw_aload_n hx hb dX5_put_1 rfl (lv_at hl.1 0 rfl) ?_
  obtain ⟨v1, e1, hf⟩ := ob hf
  refine zw_gR hx hb hts inX5 hown hW (ci := 5) rfl (by decide) 1 (by decide) (hts _ wd_80) e1 (fun _ _ => rfl) dX5_put_2 ?_
  refine lv_iload_n hx hb dX5_put_5 rfl (lv_at hl.1 1 rfl) ?_
  obtain ⟨a902, j2, hf⟩ := ob hf
  obtain ⟨q2, e2, hf⟩ := ob hf
  refine zw_callV (rest := [va_rf a0]) (n := 1) F (kX4_put (r := q2.1) (h' := q2.2) l D base v1 a1 h e2) 4 rfl (by decide) j2 wd_469 wd_454 wd_455 wd_4 wd_456 (by decide +kernel) ⟨by decide, by decide⟩ hW hS rfl hl.1.1 (by simp only [List.map_cons, List.map_nil, va_rf_cat, z_icat, List.sum_cons, List.sum_nil]; decide) rfl ⟨(by decide), (by decide)⟩ dX5_put_6 (fun H locs hW hS => ?_)
  refine W.eq (g2 := F0 m 9 ls [.int q2.1, va_rf a0]) rfl ?_
  obtain ⟨a903, j3, hf⟩ := ob hf
  obtain ⟨h3, e3, hf⟩ := ob hf
  refine zw_callV (rest := []) (n := 1) F (kX5_need l D base a0 q2.1 q2.2 e3) 5 rfl (by decide) j3 wd_470 wd_472 ws_9 wd_5 wd_473 (by decide +kernel) ⟨by decide, by decide⟩ hW hS rfl hl.1.1 (by decide) rfl ⟨(by decide), (by decide)⟩ dX5_put_9 (fun H locs hW hS => ?_)
  refine W.eq (g2 := F0 m 12 ls []) rfl ?_
  obtain rfl := oretv hf
  exact zw_vreturn F hW hS dX5_put_12
set_option maxRecDepth 100000 in
set_option maxHeartbeats 4000000 in
theorem kX5_put (l : Launch) (D : va_G) (base : Nat) (a0 : Option Nat) (a1 : Int32) (h : zH) {h' : zH} (hf : fX5_put a0 a1 h = some h') : zMet l D base yX5_put cX5_put 2 none rmX5_put h [va_rf a0, .int a1] none h' :=
  zMet.of (by decide +kernel) (fun v hv => by simp only [List.mem_cons, List.not_mem_nil, or_false] at hv; rcases hv with rfl | rfl <;> first | rfl | exact va_rf_cat _) (Nat.le_of_ble_eq_true rfl) (fun p e s m args below meth c ls F hi hl hW hS => kX5_put_w F a0 a1 h hf s.heap [] ls hl hW hS)
set_option maxRecDepth 100000 in
set_option maxHeartbeats 4000000 in
theorem kX5_load_b26 {h' : zH} (F : zF p s m args meth c cX5_load 3 RX5 none) (l0 : Option Nat) (l2 : Int32) (s0 : Int32) (s1 : Option Nat) (h : zH) (hf : fX5_load_b26 l0 l2 s0 s1 h = some h') (H : Heap) (locs : List Loc) (ls : Array Slot) (hl : zhas ls 3 [(0, va_rf l0), (2, .int l2)]) (hW : z_W D base s h H) (hS : va_S (zA base) s.heap H locs) : W p l e rmX5_load s m args below meth c H locs 0 0 (MQ below (zQ D base none h') args s rmX5_load.cells rmX5_load.slots (zA base)) (F0 m 26 ls [.int s0, va_rf s1]) := by
  obtain ⟨hx, hb, hml, hown, hts, hret, hlk, hZ⟩ := id F
  unfold fX5_load_b26 at hf
  obtain ⟨a901, j1, hf⟩ := ob hf
  obtain ⟨h1, e1, hf⟩ := ob hf
  refine zw_callV (rest := []) (n := 1) F (kX5_need l D base s1 s0 h e1) 5 rfl (by decide) j1 wd_470 wd_472 ws_9 wd_5 wd_473 (by decide +kernel) ⟨by decide, by decide⟩ hW hS rfl hl.1.1 (by decide) rfl ⟨(by decide), (by decide)⟩ dX5_load_26 (fun H locs hW hS => ?_)
  refine W.eq (g2 := F0 m 29 ls []) rfl ?_
  refine zw_aload_n hx hb dX5_load_29 rfl (lv_at hl.1 0 rfl) ?_
  refine lv_iload_n hx hb dX5_load_30 rfl (lv_at hl.1 1 rfl) ?_
  obtain ⟨a902, j2, hf⟩ := ob hf
  obtain ⟨h2, e2, hf⟩ := ob hf
  refine zw_callV (rest := []) (n := 1) F (kX5_put l D base l0 l2 h1 e2) 5 rfl (by decide) j2 wd_465 wd_467 ws_8 wd_5 wd_468 (by decide +kernel) ⟨by decide, by decide⟩ hW hS rfl hl.1.1 (by decide) rfl ⟨(by decide), (by decide)⟩ dX5_load_31 (fun H locs hW hS => ?_)
  refine W.eq (g2 := F0 m 34 ls []) rfl ?_
  obtain rfl := oretv hf
  exact zw_vreturn F hW hS dX5_load_34
set_option maxRecDepth 100000 in
set_option maxHeartbeats 4000000 in
theorem kX5_load_b25 {h' : zH} (F : zF p s m args meth c cX5_load 3 RX5 none) (l0 : Option Nat) (l2 : Int32) (s0 : Option Nat) (h : zH) (hf : fX5_load_b25 l0 l2 s0 h = some h') (H : Heap) (locs : List Loc) (ls : Array Slot) (hl : zhas ls 3 [(0, va_rf l0), (2, .int l2)]) (hW : z_W D base s h H) (hS : va_S (zA base) s.heap H locs) : W p l e rmX5_load s m args below meth c H locs 0 0 (MQ below (zQ D base none h') args s rmX5_load.cells rmX5_load.slots (zA base)) (F0 m 25 ls [va_rf s0]) := by
  obtain ⟨hx, hb, hml, hown, hts, hret, hlk, hZ⟩ := id F
  unfold fX5_load_b25 at hf
  refine lv_iconst (v := 0) hx hb dX5_load_25 (by decide) ?_
  exact kX5_load_b26 F l0 l2 0 s0 h hf H locs ls (z_sub hl [0, 1] rfl) hW hS
set_option maxRecDepth 100000 in
set_option maxHeartbeats 4000000 in
theorem kX5_load_w (F : zF p s m args meth c cX5_load 3 RX5 none) {h' : zH} (a0 : Option Nat) (a1 : Int32) (h : zH) (hf : fX5_load a0 a1 h = some h') (H : Heap) (locs : List Loc) (ls : Array Slot) (hl : zhas ls 3 [(0, va_rf a0), (1, .int a1)]) (hW : z_W D base s h H) (hS : va_S (zA base) s.heap H locs) : W p l e rmX5_load s m args below meth c H locs 0 0 (MQ below (zQ D base none h') args s rmX5_load.cells rmX5_load.slots (zA base)) (F0 m 0 ls []) := by
  obtain ⟨hx, hb, hml, hown, hts, hret, hlk, hZ⟩ := id F
  unfold fX5_load at hf
  refine zw_aload_n hx hb dX5_load_0 rfl (lv_at hl.1 0 rfl) ?_
  obtain ⟨v1, e1, hf⟩ := ob hf
  refine zw_gR hx hb hts inX5 hown hW (ci := 5) rfl (by decide) 1 (by decide) (hts _ wd_80) e1 (fun _ _ => rfl) dX5_load_1 ?_
  refine lv_iload_n hx hb dX5_load_4 rfl (lv_at hl.1 1 rfl) ?_
  obtain ⟨a902, j2, hf⟩ := ob hf
  obtain ⟨q2, e2, hf⟩ := ob hf
  refine zw_callV (rest := []) (n := 1) F (kX4_localAt (r := q2.1) (h' := q2.2) l D base v1 a1 h e2) 4 rfl (by decide) j2 wd_478 wd_479 wd_480 wd_4 wd_481 (by decide +kernel) ⟨by decide, by decide⟩ hW hS rfl hl.1.1 (by decide) rfl ⟨(by decide), (by decide)⟩ dX5_load_5 (fun H locs hW hS => ?_)
  refine W.eq (g2 := F0 m 8 ls [.int q2.1]) rfl ?_
  refine zl_istore_n (lv' := [(2, .int q2.1), (0, va_rf a0), (1, .int a1)]) hx hb dX5_load_8 rfl hl (by decide) rfl (fun ls hl => ?_)
  refine zw_aload_n hx hb dX5_load_9 rfl (lv_at hl.1 1 rfl) ?_
  refine lv_iload_n hx hb dX5_load_10 rfl (lv_at hl.1 0 rfl) ?_
  refine lv_bipush (v := 99) hx hb dX5_load_11 (by decide) ?_
  refine lv_icmp_eq (tgt := 25) hx hb dX5_load_13 (by decide) (fun c3 => ?_) (fun c3 => ?_)
  · have hf := oift c3 hf
    exact kX5_load_b25 F a0 q2.1 a0 q2.2 hf H locs ls (z_sub hl [1, 0] rfl) hW hS
  · have hf := oiff c3 hf
    refine lv_iload_n hx hb dX5_load_16 rfl (lv_at hl.1 0 rfl) ?_
    refine lv_iconst (v := (-1)) hx hb dX5_load_17 (by decide) ?_
    refine lv_icmp_eq (tgt := 25) hx hb dX5_load_18 (by decide) (fun c4 => ?_) (fun c4 => ?_)
    · have hf := oift c4 hf
      exact kX5_load_b25 F a0 q2.1 a0 q2.2 hf H locs ls (z_sub hl [1, 0] rfl) hW hS
    · have hf := oiff c4 hf
      refine lv_iconst (v := 1) hx hb dX5_load_21 (by decide) ?_
      refine lv_goto (tgt := 26) hx hb dX5_load_22 (by decide) ?_
      exact kX5_load_b26 F a0 q2.1 1 a0 q2.2 hf H locs ls (z_sub hl [1, 0] rfl) hW hS
set_option maxRecDepth 100000 in
set_option maxHeartbeats 4000000 in
theorem kX5_load (l : Launch) (D : va_G) (base : Nat) (a0 : Option Nat) (a1 : Int32) (h : zH) {h' : zH} (hf : fX5_load a0 a1 h = some h') : zMet l D base yX5_load cX5_load 3 none rmX5_load h [va_rf a0, .int a1] none h' :=
  zMet.of (by decide +kernel) (fun v hv => by simp only [List.mem_cons, List.not_mem_nil, or_false] at hv; rcases hv with rfl | rfl <;> first | rfl | exact va_rf_cat _) (Nat.le_of_ble_eq_true rfl) (fun p e s m args below meth c ls F hi hl hW hS => kX5_load_w F a0 a1 h hf s.heap [] ls hl hW hS)
end
