section
variable {p : Program} {l : Launch} {e : Env} {s : State} {m : MethodId} {args : Array Value} {below : List Frame} {meth : Method} {c : Code} {D : va_G} {base : Nat}
set_option maxRecDepth 100000 in
set_option maxHeartbeats 4000000 in
theorem kX7_lookAt_b87 (N : Nat) {h' : zH} (F : zF p s m args meth c cX7_lookAt 4 RX7 none) (l0 : Option Nat) (l1 : Option Nat) (l2 : Int32) (l3 : Option Nat) (h : zH) (hf : fX7_lookAt_b87 N l0 l1 l2 l3 h = some h') (H : Heap) (locs : List Loc) (ls : Array Slot) (hl : zhas ls 4 [(0, va_rf l0), (1, va_rf l1), (2, .int l2), (3, va_rf l3)]) (hW : z_W D base s h H) (hS : va_S (zA base) s.heap H locs) : W p l e rmX7_lookAt s m args below meth c H locs 0 0 (MQ below (zQ D base none h') args s rmX7_lookAt.cells rmX7_lookAt.slots (zA base)) (F0 m 87 ls []) := by
  obtain ⟨hx, hb, hml, hown, hts, hret, hlk, hZ⟩ := id F
  unfold fX7_lookAt_b87 at hf
  refine zw_aload_n hx hb dX7_lookAt_87 rfl (lv_at hl.1 3 rfl) ?_
  obtain ⟨a901, j1, hf⟩ := ob hf
  obtain ⟨q1, e1, hf⟩ := ob hf
  refine zw_callV (rest := []) (n := 0) F (kX1_isJump (r := q1.1) (h' := q1.2) l D base l3 h e1) 1 rfl (by decide) j1 wd_567 wd_568 wd_569 wd_10 wd_570 (by decide +kernel) ⟨by decide, by decide⟩ hW hS rfl hl.1.1 (by decide) rfl ⟨(by decide), (by decide)⟩ dX7_lookAt_88 (fun H locs hW hS => ?_)
  refine W.eq (g2 := F0 m 91 ls [.int q1.1]) rfl ?_
  refine lv_if_eq (tgt := 112) hx hb dX7_lookAt_91 (by decide) (fun c2 => ?_) (fun c2 => ?_)
  · have hf := oift c2 hf
    obtain rfl := oretv hf
    exact zw_vreturn F hW hS dX7_lookAt_112
  · have hf := oiff c2 hf
    refine zw_aload_n hx hb dX7_lookAt_94 rfl (lv_at hl.1 0 rfl) ?_
    obtain ⟨v3, e3, hf⟩ := ob hf
    refine zw_gI hx hb hts inX7 hown hW (ci := 7) rfl (by decide) 4 (by decide) (hts _ wd_93) e3 (fun _ _ => rfl) dX7_lookAt_95 ?_
    refine lv_iconst (v := (-1)) hx hb dX7_lookAt_98 (by decide) ?_
    refine lv_icmp_ne (tgt := 112) hx hb dX7_lookAt_99 (by decide) (fun c4 => ?_) (fun c4 => ?_)
    · have hf := oiff c4 hf
      obtain rfl := oretv hf
      exact zw_vreturn F hW hS dX7_lookAt_112
    · have hf := oift c4 hf
      refine zw_aload_n hx hb dX7_lookAt_102 rfl (lv_at hl.1 0 rfl) ?_
      refine zw_aload_n hx hb dX7_lookAt_103 rfl (lv_at hl.1 1 rfl) ?_
      refine lv_iload_n hx hb dX7_lookAt_104 rfl (lv_at hl.1 2 rfl) ?_
      refine zw_aload_n hx hb dX7_lookAt_105 rfl (lv_at hl.1 3 rfl) ?_
      obtain ⟨v5, e5, hf⟩ := ob hf
      refine zw_gI hx hb hts inX1 hown hW (ci := 1) rfl (by decide) 1 (by decide) (hts _ wd_331) e5 (fun _ _ => rfl) dX7_lookAt_106 ?_
      obtain ⟨a906, j6, hf⟩ := ob hf
      obtain ⟨h6, e6, hf⟩ := ob hf
      refine zw_callV (rest := []) (n := 3) F (kX7_come l D base N l0 l1 l2 v5 q1.2 e6) 7 rfl (by decide) j6 wd_403 wd_405 ws_2 wd_3 wd_406 (by decide +kernel) ⟨by decide, by decide⟩ hW hS rfl hl.1.1 (by decide) rfl ⟨(by decide), (by decide)⟩ dX7_lookAt_109 (fun H locs hW hS => ?_)
      refine W.eq (g2 := F0 m 112 ls []) rfl ?_
      obtain rfl := oretv hf
      exact zw_vreturn F hW hS dX7_lookAt_112
set_option maxRecDepth 100000 in
set_option maxHeartbeats 4000000 in
theorem kX7_lookAt_w (N : Nat) (F : zF p s m args meth c cX7_lookAt 4 RX7 none) {h' : zH} (a0 : Option Nat) (a1 : Option Nat) (a2 : Int32) (h : zH) (hf : fX7_lookAt N a0 a1 a2 h = some h') (H : Heap) (locs : List Loc) (ls : Array Slot) (hl : zhas ls 4 [(0, va_rf a0), (1, va_rf a1), (2, .int a2)]) (hW : z_W D base s h H) (hS : va_S (zA base) s.heap H locs) : W p l e rmX7_lookAt s m args below meth c H locs 0 0 (MQ below (zQ D base none h') args s rmX7_lookAt.cells rmX7_lookAt.slots (zA base)) (F0 m 0 ls []) := by
  obtain ⟨hx, hb, hml, hown, hts, hret, hlk, hZ⟩ := id F
  unfold fX7_lookAt at hf
  refine zw_aload_n hx hb dX7_lookAt_0 rfl (lv_at hl.1 1 rfl) ?_
  refine lv_iload_n hx hb dX7_lookAt_1 rfl (lv_at hl.1 2 rfl) ?_
  obtain ⟨a901, j1, hf⟩ := ob hf
  obtain ⟨q1, e1, hf⟩ := ob hf
  refine zw_callV (rest := []) (n := 1) F (kX3_instructionAt (r := q1.1) (h' := q1.2) l D base a1 a2 h e1) 3 rfl (by decide) j1 wd_394 wd_395 wd_396 wd_9 wd_397 (by decide +kernel) ⟨by decide, by decide⟩ hW hS rfl hl.1.1 (by decide) rfl ⟨(by decide), (by decide)⟩ dX7_lookAt_2 (fun H locs hW hS => ?_)
  refine W.eq (g2 := F0 m 5 ls [va_rf q1.1]) rfl ?_
  refine zl_astore_n (lv' := [(3, va_rf q1.1), (0, va_rf a0), (1, va_rf a1), (2, .int a2)]) hx hb dX7_lookAt_5 rfl hl (by decide) rfl (fun ls hl => ?_)
  refine zw_aload_n hx hb dX7_lookAt_6 rfl (lv_at hl.1 0 rfl) ?_
  refine zw_ifnonnull (tgt := 11) hx hb dX7_lookAt_7 (by decide) (fun c2 => ?_) (fun c2 => ?_)
  · have hf := oiff c2 hf
    refine zw_aload_n hx hb dX7_lookAt_11 rfl (lv_at hl.1 0 rfl) ?_
    refine lv_iconst (v := 0) hx hb dX7_lookAt_12 (by decide) ?_
    obtain ⟨h3, e3, hf⟩ := ob hf
    obtain ⟨b3, e3⟩ := pZ_spec e3
    refine zw_pI hx hb hts inX1 tyX1 tyX1_ok nmX1 hown hW hS (ci := 1) rfl (by decide) 5 (by decide) (hts _ wd_339) (Or.inl rfl) (fun _ _ => rfl) (z_bool b3).1 (z_bool b3).2 e3 dX7_lookAt_13 (fun H locs hW hS => ?_)
    refine zw_aload_n hx hb dX7_lookAt_16 rfl (lv_at hl.1 1 rfl) ?_
    refine lv_dup hx hb dX7_lookAt_17 (va_rf_cat _) ?_
    obtain ⟨v4, e4, hf⟩ := ob hf
    refine zw_gI hx hb hts inX7 hown hW (ci := 7) rfl (by decide) 5 (by decide) (hts _ wd_94) e4 (fun _ _ => rfl) dX7_lookAt_18 ?_
    refine lv_iconst (v := 1) hx hb dX7_lookAt_21 (by decide) ?_
    refine lv_iadd hx hb dX7_lookAt_22 ?_
    obtain ⟨h5, e5, hf⟩ := ob hf
    refine zw_pI hx hb hts inX7 tyX7 tyX7_ok nmX7 hown hW hS (ci := 7) rfl (by decide) 5 (by decide) (hts _ wd_94) (Or.inl rfl) (fun _ _ => rfl) rfl rfl e5 dX7_lookAt_23 (fun H locs hW hS => ?_)
    refine zw_aload_n hx hb dX7_lookAt_26 rfl (lv_at hl.1 1 rfl) ?_
    refine zw_aload_n hx hb dX7_lookAt_27 rfl (lv_at hl.1 2 rfl) ?_
    refine lv_iload_n hx hb dX7_lookAt_28 rfl (lv_at hl.1 3 rfl) ?_
    refine zw_aload_n hx hb dX7_lookAt_29 rfl (lv_at hl.1 0 rfl) ?_
    obtain ⟨a906, j6, hf⟩ := ob hf
    obtain ⟨h6, e6, hf⟩ := ob hf
    refine zw_callV (rest := []) (n := 3) F (kX7_comeToHandlers l D base N a0 a1 a2 q1.1 h5 e6) 7 rfl (by decide) j6 wd_441 wd_443 ws_6 wd_3 wd_444 (by decide +kernel) ⟨by decide, by decide⟩ hW hS rfl hl.1.1 (by decide) rfl ⟨(by decide), (by decide)⟩ dX7_lookAt_30 (fun H locs hW hS => ?_)
    refine W.eq (g2 := F0 m 33 ls []) rfl ?_
    refine zw_aload_n hx hb dX7_lookAt_33 rfl (lv_at hl.1 1 rfl) ?_
    obtain ⟨v7, e7, hf⟩ := ob hf
    refine zw_gI hx hb hts inX7 hown hW (ci := 7) rfl (by decide) 4 (by decide) (hts _ wd_93) e7 (fun _ _ => rfl) dX7_lookAt_34 ?_
    refine lv_iconst (v := (-1)) hx hb dX7_lookAt_37 (by decide) ?_
    refine lv_icmp_eq (tgt := 42) hx hb dX7_lookAt_38 (by decide) (fun c8 => ?_) (fun c8 => ?_)
    · have hf := oift c8 hf
      refine zw_aload_n hx hb dX7_lookAt_42 rfl (lv_at hl.1 1 rfl) ?_
      obtain ⟨v9, e9, hf⟩ := ob hf
      refine zw_gR hx hb hts inX7 hown hW (ci := 7) rfl (by decide) 1 (by decide) (hts _ wd_90) e9 (fun _ _ => rfl) dX7_lookAt_43 ?_
      refine zw_aload_n hx hb dX7_lookAt_46 rfl (lv_at hl.1 0 rfl) ?_
      obtain ⟨v10, e10, hf⟩ := ob hf
      refine zw_gR hx hb hts inX1 hown hW (ci := 1) rfl (by decide) 3 (by decide) (hts _ wd_335) e10 (fun _ _ => rfl) dX7_lookAt_47 ?_
      obtain ⟨a911, j11, hf⟩ := ob hf
      obtain ⟨h11, e11, hf⟩ := ob hf
      refine zw_callV (rest := []) (n := 1) F (kX4_copy l D base N v9 v10 h6 e11) 4 rfl (by decide) j11 wd_407 wd_408 wd_409 wd_4 wd_410 (by decide +kernel) ⟨by decide, by decide⟩ hW hS rfl hl.1.1 (by decide) rfl ⟨(by decide), (by decide)⟩ dX7_lookAt_50 (fun H locs hW hS => ?_)
      refine W.eq (g2 := F0 m 53 ls []) rfl ?_
      refine zw_aload_n hx hb dX7_lookAt_53 rfl (lv_at hl.1 1 rfl) ?_
      obtain ⟨v12, e12, hf⟩ := ob hf
      refine zw_gR hx hb hts inX7 hown hW (ci := 7) rfl (by decide) 2 (by decide) (hts _ wd_91) e12 (fun _ _ => rfl) dX7_lookAt_54 ?_
      refine zw_aload_n hx hb dX7_lookAt_57 rfl (lv_at hl.1 2 rfl) ?_
      refine zw_aload_n hx hb dX7_lookAt_58 rfl (lv_at hl.1 0 rfl) ?_
      obtain ⟨a913, j13, hf⟩ := ob hf
      obtain ⟨q13, e13, hf⟩ := ob hf
      refine zw_callV (rest := []) (n := 2) F (kX5_perform (r := q13.1) (h' := q13.2) l D base N v12 a1 q1.1 h11 e13) 5 rfl (by decide) j13 wd_457 wd_458 wd_459 wd_5 wd_460 (by decide +kernel) ⟨by decide, by decide⟩ hW hS rfl hl.1.1 (by decide) rfl ⟨(by decide), (by decide)⟩ dX7_lookAt_59 (fun H locs hW hS => ?_)
      refine W.eq (g2 := F0 m 62 ls [.int q13.1]) rfl ?_
      refine lv_if_ne (tgt := 71) hx hb dX7_lookAt_62 (by decide) (fun c14 => ?_) (fun c14 => ?_)
      · have hf := oiff c14 hf
        refine zw_aload_n hx hb dX7_lookAt_71 rfl (lv_at hl.1 0 rfl) ?_
        obtain ⟨a915, j15, hf⟩ := ob hf
        obtain ⟨q15, e15, hf⟩ := ob hf
        refine zw_callV (rest := []) (n := 0) F (kX1_goesOnBehind (r := q15.1) (h' := q15.2) l D base q1.1 q13.2 e15) 1 rfl (by decide) j15 wd_563 wd_564 wd_565 wd_10 wd_566 (by decide +kernel) ⟨by decide, by decide⟩ hW hS rfl hl.1.1 (by decide) rfl ⟨(by decide), (by decide)⟩ dX7_lookAt_72 (fun H locs hW hS => ?_)
        refine W.eq (g2 := F0 m 75 ls [.int q15.1]) rfl ?_
        refine lv_if_eq (tgt := 87) hx hb dX7_lookAt_75 (by decide) (fun c16 => ?_) (fun c16 => ?_)
        · have hf := oift c16 hf
          exact kX7_lookAt_b87 N F a0 a1 a2 q1.1 q15.2 hf H locs ls (z_sub hl [1, 2, 3, 0] rfl) hW hS
        · have hf := oiff c16 hf
          refine zw_aload_n hx hb dX7_lookAt_78 rfl (lv_at hl.1 1 rfl) ?_
          refine zw_aload_n hx hb dX7_lookAt_79 rfl (lv_at hl.1 2 rfl) ?_
          refine lv_iload_n hx hb dX7_lookAt_80 rfl (lv_at hl.1 3 rfl) ?_
          refine lv_iload_n hx hb dX7_lookAt_81 rfl (lv_at hl.1 3 rfl) ?_
          refine lv_iconst (v := 1) hx hb dX7_lookAt_82 (by decide) ?_
          refine lv_iadd hx hb dX7_lookAt_83 ?_
          obtain ⟨a917, j17, hf⟩ := ob hf
          obtain ⟨h17, e17, hf⟩ := ob hf
          refine zw_callV (rest := []) (n := 3) F (kX7_come l D base N a0 a1 a2 (a2 + 1) q15.2 e17) 7 rfl (by decide) j17 wd_403 wd_405 ws_2 wd_3 wd_406 (by decide +kernel) ⟨by decide, by decide⟩ hW hS rfl hl.1.1 (by decide) rfl ⟨(by decide), (by decide)⟩ dX7_lookAt_84 (fun H locs hW hS => ?_)
          refine W.eq (g2 := F0 m 87 ls []) rfl ?_
          exact kX7_lookAt_b87 N F a0 a1 a2 q1.1 h17 hf H locs ls (z_sub hl [1, 2, 3, 0] rfl) hW hS
      · have hf := oift c14 hf
        refine zw_aload_n hx hb dX7_lookAt_65 rfl (lv_at hl.1 1 rfl) ?_
        refine lv_iload_n hx hb dX7_lookAt_66 rfl (lv_at hl.1 3 rfl) ?_
        obtain ⟨h18, e18, hf⟩ := ob hf
        refine zw_pI hx hb hts inX7 tyX7 tyX7_ok nmX7 hown hW hS (ci := 7) rfl (by decide) 4 (by decide) (hts _ wd_93) (Or.inl rfl) (fun _ _ => rfl) rfl rfl e18 dX7_lookAt_67 (fun H locs hW hS => ?_)
        obtain rfl := oretv hf
        exact zw_vreturn F hW hS dX7_lookAt_70
    · have hf := oiff c8 hf
      obtain rfl := oretv hf
      exact zw_vreturn F hW hS dX7_lookAt_41
  · have hf := oift c2 hf
    obtain rfl := oretv hf
    exact zw_vreturn F hW hS dX7_lookAt_10
set_option maxRecDepth 100000 in
set_option maxHeartbeats 4000000 in
theorem kX7_lookAt (l : Launch) (D : va_G) (base : Nat) (N : Nat) (a0 : Option Nat) (a1 : Option Nat) (a2 : Int32) (h : zH) {h' : zH} (hf : fX7_lookAt N a0 a1 a2 h = some h') : zMet l D base yX7_lookAt cX7_lookAt 4 none rmX7_lookAt h [va_rf a0, va_rf a1, .int a2] none h' :=
  zMet.of (by decide +kernel) (fun v hv => by simp only [List.mem_cons, List.not_mem_nil, or_false] at hv; rcases hv with rfl | rfl | rfl <;> first | rfl | exact va_rf_cat _) (Nat.le_of_ble_eq_true rfl) (fun p e s m args below meth c ls F hi hl hW hS => kX7_lookAt_w N F a0 a1 a2 h hf s.heap [] ls hl hW hS)
set_option maxRecDepth 100000 in
set_option maxHeartbeats 4000000 in
theorem kX7_goOver_b47 (N : Nat) {r : Int32} {h' : zH} (F : zF p s m args meth c cX7_goOver 4 RX7 (some .int)) (l0 : Option Nat) (h : zH) (hf : fX7_goOver_b47 N l0 h = some (r, h')) (H : Heap) (locs : List Loc) (ls : Array Slot) (hl : zhas ls 4 [(0, va_rf l0)]) (hW : z_W D base s h H) (hS : va_S (zA base) s.heap H locs) : W p l e rmX7_goOver s m args below meth c H locs 0 0 (MQ below (zQ D base (some (.int r)) h') args s rmX7_goOver.cells rmX7_goOver.slots (zA base)) (F0 m 47 ls []) := by
  obtain ⟨hx, hb, hml, hown, hts, hret, hlk, hZ⟩ := id F
  unfold fX7_goOver_b47 at hf
  refine zw_aload_n hx hb dX7_goOver_47 rfl (lv_at hl.1 0 rfl) ?_
  obtain ⟨v1, e1, hf⟩ := ob hf
  refine zw_gI hx hb hts inX7 hown hW (ci := 7) rfl (by decide) 4 (by decide) (hts _ wd_93) e1 (fun _ _ => rfl) dX7_goOver_48 ?_
  obtain ⟨rfl, rfl⟩ := oret hf
  exact zw_ireturn F hW hS dX7_goOver_51
set_option maxRecDepth 100000 in
set_option maxHeartbeats 4000000 in
theorem kX7_goOver_b7 (N : Nat) {r : Int32} {h' : zH} (F : zF p s m args meth c cX7_goOver 4 RX7 (some .int)) : ∀ (n : Nat) (l0 : Option Nat) (l1 : Option Nat) (l2 : Int32) (h : zH), fX7_goOver_b7 N n l0 l1 l2 h = some (r, h') → ∀ (H : Heap) (locs : List Loc) (ls : Array Slot), zhas ls 4 [(0, va_rf l0), (1, va_rf l1), (2, .int l2)] → z_W D base s h H → va_S (zA base) s.heap H locs → W p l e rmX7_goOver s m args below meth c H locs 0 0 (MQ below (zQ D base (some (.int r)) h') args s rmX7_goOver.cells rmX7_goOver.slots (zA base)) (F0 m 7 ls []) := by
  obtain ⟨hx, hb, hml, hown, hts, hret, hlk, hZ⟩ := id F
  intro n
  induction n with
  | zero =>
    intro l0 l1 l2 h hf
    rw [fX7_goOver_b7] at hf
    cases hf
  | succ n ih =>
    intro l0 l1 l2 h hf H locs ls hl hW hS
    rw [fX7_goOver_b7] at hf
    refine lv_iload_n hx hb dX7_goOver_7 rfl (lv_at hl.1 2 rfl) ?_
    refine lv_ldc (v := 1000000) hx hb hown (hts _ wd_432) dX7_goOver_8 ?_
    refine lv_icmp_ge (tgt := 47) hx hb dX7_goOver_10 (by decide) (fun c1 => ?_) (fun c1 => ?_)
    · have hf := oift c1 hf
      exact kX7_goOver_b47 N F l0 h hf H locs ls (z_sub hl [0] rfl) hW hS
    · have hf := oiff c1 hf
      refine zw_aload_n hx hb dX7_goOver_13 rfl (lv_at hl.1 0 rfl) ?_
      obtain ⟨v2, e2, hf⟩ := ob hf
      refine zw_gI hx hb hts inX7 hown hW (ci := 7) rfl (by decide) 4 (by decide) (hts _ wd_93) e2 (fun _ _ => rfl) dX7_goOver_14 ?_
      refine lv_iconst (v := (-1)) hx hb dX7_goOver_17 (by decide) ?_
      refine lv_icmp_ne (tgt := 47) hx hb dX7_goOver_18 (by decide) (fun c3 => ?_) (fun c3 => ?_)
      · have hf := oiff c3 hf
        exact kX7_goOver_b47 N F l0 h hf H locs ls (z_sub hl [0] rfl) hW hS
      · have hf := oift c3 hf
        refine zw_aload_n hx hb dX7_goOver_21 rfl (lv_at hl.1 0 rfl) ?_
        refine zw_aload_n hx hb dX7_goOver_22 rfl (lv_at hl.1 1 rfl) ?_
        obtain ⟨a904, j4, hf⟩ := ob hf
        obtain ⟨q4, e4, hf⟩ := ob hf
        refine zw_callV (rest := []) (n := 1) F (kX7_leastMarked (r := q4.1) (h' := q4.2) l D base N l0 l1 h e4) 7 rfl (by decide) j4 wd_433 wd_435 ws_4 wd_3 wd_436 (by decide +kernel) ⟨by decide, by decide⟩ hW hS rfl hl.1.1 (by decide) rfl ⟨(by decide), (by decide)⟩ dX7_goOver_23 (fun H locs hW hS => ?_)
        refine W.eq (g2 := F0 m 26 ls [.int q4.1]) rfl ?_
        refine zl_istore_n (lv' := [(3, .int q4.1), (0, va_rf l0), (1, va_rf l1), (2, .int l2)]) hx hb dX7_goOver_26 rfl hl (by decide) rfl (fun ls hl => ?_)
        refine lv_iload_n hx hb dX7_goOver_27 rfl (lv_at hl.1 0 rfl) ?_
        refine lv_iconst (v := (-1)) hx hb dX7_goOver_28 (by decide) ?_
        refine lv_icmp_ne (tgt := 35) hx hb dX7_goOver_29 (by decide) (fun c5 => ?_) (fun c5 => ?_)
        · have hf := oiff c5 hf
          refine zw_aload_n hx hb dX7_goOver_35 rfl (lv_at hl.1 1 rfl) ?_
          refine zw_aload_n hx hb dX7_goOver_36 rfl (lv_at hl.1 2 rfl) ?_
          refine lv_iload_n hx hb dX7_goOver_37 rfl (lv_at hl.1 0 rfl) ?_
          obtain ⟨a906, j6, hf⟩ := ob hf
          obtain ⟨h6, e6, hf⟩ := ob hf
          refine zw_callV (rest := []) (n := 2) F (kX7_lookAt l D base N l0 l1 q4.1 q4.2 e6) 7 rfl (by decide) j6 wd_437 wd_439 ws_5 wd_3 wd_440 (by decide +kernel) ⟨by decide, by decide⟩ hW hS rfl hl.1.1 (by decide) rfl ⟨(by decide), (by decide)⟩ dX7_goOver_38 (fun H locs hW hS => ?_)
          refine W.eq (g2 := F0 m 41 ls []) rfl ?_
          refine zl_iinc (v := (l2 + 1)) (lv' := [(2, .int (l2 + 1)), (3, .int q4.1), (0, va_rf l0), (1, va_rf l1)]) hx hb dX7_goOver_41 hl (k := 3) rfl rfl (by decide) rfl (fun ls hl => ?_)
          refine lv_goto (tgt := 7) hx hb dX7_goOver_44 (by decide) ?_
          exact ih l0 l1 (l2 + 1) h6 hf H locs ls (z_sub hl [2, 3, 0] rfl) hW hS
        · have hf := oift c5 hf
          refine lv_goto (tgt := 47) hx hb dX7_goOver_32 (by decide) ?_
          exact kX7_goOver_b47 N F l0 q4.2 hf H locs ls (z_sub hl [1] rfl) hW hS
set_option maxRecDepth 100000 in
set_option maxHeartbeats 4000000 in
theorem kX7_goOver_w (N : Nat) (F : zF p s m args meth c cX7_goOver 4 RX7 (some .int)) {r : Int32} {h' : zH} (a0 : Option Nat) (a1 : Option Nat) (h : zH) (hf : fX7_goOver N a0 a1 h = some (r, h')) (H : Heap) (locs : List Loc) (ls : Array Slot) (hl : zhas ls 4 [(0, va_rf a0), (1, va_rf a1)]) (hW : z_W D base s h H) (hS : va_S (zA base) s.heap H locs) : W p l e rmX7_goOver s m args below meth c H locs 0 0 (MQ below (zQ D base (some (.int r)) h') args s rmX7_goOver.cells rmX7_goOver.slots (zA base)) (F0 m 0 ls []) := by
  obtain ⟨hx, hb, hml, hown, hts, hret, hlk, hZ⟩ := id F
  unfold fX7_goOver at hf
  refine zw_aload_n hx hb dX7_goOver_0 rfl (lv_at hl.1 0 rfl) ?_
  refine zw_aload_n hx hb dX7_goOver_1 rfl (lv_at hl.1 1 rfl) ?_
  obtain ⟨a901, j1, hf⟩ := ob hf
  obtain ⟨h1, e1, hf⟩ := ob hf
  refine zw_callV (rest := []) (n := 1) F (kX7_begin l D base N a0 a1 h e1) 7 rfl (by decide) j1 wd_390 wd_392 ws_1 wd_3 wd_393 (by decide +kernel) ⟨by decide, by decide⟩ hW hS rfl hl.1.1 (by decide) rfl ⟨(by decide), (by decide)⟩ dX7_goOver_2 (fun H locs hW hS => ?_)
  refine W.eq (g2 := F0 m 5 ls []) rfl ?_
  refine lv_iconst (v := 0) hx hb dX7_goOver_5 (by decide) ?_
  refine zl_istore_n (lv' := [(2, .int 0), (0, va_rf a0), (1, va_rf a1)]) hx hb dX7_goOver_6 rfl hl (by decide) rfl (fun ls hl => ?_)
  exact kX7_goOver_b7 N F N a0 a1 0 h1 hf H locs ls (z_sub hl [1, 2, 0] rfl) hW hS
set_option maxRecDepth 100000 in
set_option maxHeartbeats 4000000 in
theorem kX7_goOver (l : Launch) (D : va_G) (base : Nat) (N : Nat) (a0 : Option Nat) (a1 : Option Nat) (h : zH) {r : Int32} {h' : zH} (hf : fX7_goOver N a0 a1 h = some (r, h')) : zMet l D base yX7_goOver cX7_goOver 4 (some .int) rmX7_goOver h [va_rf a0, va_rf a1] (some (.int r)) h' :=
  zMet.of (by decide +kernel) (fun v hv => by simp only [List.mem_cons, List.not_mem_nil, or_false] at hv; rcases hv with rfl | rfl <;> first | rfl | exact va_rf_cat _) (Nat.le_of_ble_eq_true rfl) (fun p e s m args below meth c ls F hi hl hW hS => kX7_goOver_w N F a0 a1 h hf s.heap [] ls hl hW hS)
set_option maxRecDepth 100000 in
set_option maxHeartbeats 4000000 in
theorem kX8_init_w (F : zF p s m args meth c cX8_init 1 RX8 none) (hin : meth.name = "<init>") {h' : zH} (a0 : Option Nat) (h : zH) (hf : fX8_init a0 h = some h') (H : Heap) (locs : List Loc) (ls : Array Slot) (hl : zhas ls 1 [(0, va_rf a0)]) (hW : z_W D base s h H) (hS : va_S (zA base) s.heap H locs) : W p l e rmX8_init s m args below meth c H locs 0 0 (MQ below (zQ D base none h') args s rmX8_init.cells rmX8_init.slots (zA base)) (F0 m 0 ls []) := by
  obtain ⟨hx, hb, hml, hown, hts, hret, hlk, hZ⟩ := id F
  unfold fX8_init at hf
  refine zw_aload_n hx hb dX8_init_0 rfl (lv_at hl.1 0 rfl) ?_
  obtain ⟨a901, e1, hf⟩ := ob hf
  refine zw_objInit F e1 wd_18 wd_19 wd_20 (by decide +kernel) hl.1.1 (by decide) (by simp only [List.map_cons, List.map_nil, va_rf_cat, z_icat, List.sum_cons, List.sum_nil]; decide) dX8_init_1 ?_
  refine zw_aload_n hx hb dX8_init_4 rfl (lv_at hl.1 0 rfl) ?_
  refine zw_nO hx hb hts inX6 tyX6 tyX6_ok hown (hts _ wd_21) (hts _ wd_22) (hts _ wd_2) hW hS (ci := 6) rfl (by decide) zdX6 (by decide) (by decide) dX8_init_5 (fun H hW hS => ?_)
  refine lv_dup hx hb dX8_init_8 (va_rf_cat _) ?_
  obtain ⟨h2, e2, hf⟩ := ob hf
  refine zw_callIN (rest := [va_rf (some (zs h)), va_rf a0]) (n := 0) F (kX6_init l D base (some (zs h)) (nwO 6 h) e2) rfl wd_23 wd_24 wd_2 wd_25 rfl (by decide +kernel) ⟨by decide, by decide⟩ hW hS rfl hl.1.1 (by simp only [List.map_cons, List.map_nil, va_rf_cat, z_icat, List.sum_cons, List.sum_nil]; decide) rfl ⟨(by decide), (by decide)⟩ dX8_init_9 (fun H locs hW hS => ?_)
  refine W.eq (g2 := F0 m 12 ls [va_rf (some (zs h)), va_rf a0]) rfl ?_
  obtain ⟨h3, e3, hf⟩ := ob hf
  refine zw_pR hx hb hts inX8 tyX8 tyX8_ok nmX8 hown hW hS (ci := 8) rfl (by decide) 0 (by decide) (hts _ wd_109) (Or.inr ⟨rfl, hin, rfl⟩) (fun _ _ => rfl) (fun v => z_refn v) (fun v => z_reff v) e3 dX8_init_12 (fun H locs hW hS => ?_)
  refine zw_aload_n hx hb dX8_init_15 rfl (lv_at hl.1 0 rfl) ?_
  refine zw_nO hx hb hts inX7 tyX7 tyX7_ok hown (hts _ wd_44) (hts _ wd_45) (hts _ wd_3) hW hS (ci := 7) rfl (by decide) zdX7 (by decide) (by decide) dX8_init_16 (fun H hW hS => ?_)
  refine lv_dup hx hb dX8_init_19 (va_rf_cat _) ?_
  refine zw_aload_n hx hb dX8_init_20 rfl (lv_at hl.1 0 rfl) ?_
  obtain ⟨v4, e4, hf⟩ := ob hf
  refine zw_gR hx hb hts inX8 hown hW (ci := 8) rfl (by decide) 0 (by decide) (hts _ wd_109) e4 (fun _ _ => rfl) dX8_init_21 ?_
  obtain ⟨h5, e5, hf⟩ := ob hf
  refine zw_callI (rest := [va_rf (some (zs h3)), va_rf a0]) (n := 1) F (kX7_init l D base (some (zs h3)) v4 (nwO 7 h3) e5) rfl wd_46 wd_47 wd_3 wd_48 rfl (by decide +kernel) ⟨by decide, by decide⟩ hW hS rfl hl.1.1 (by simp only [List.map_cons, List.map_nil, va_rf_cat, z_icat, List.sum_cons, List.sum_nil]; decide) rfl ⟨(by decide), (by decide)⟩ dX8_init_24 (fun H locs hW hS => ?_)
  refine W.eq (g2 := F0 m 27 ls [va_rf (some (zs h3)), va_rf a0]) rfl ?_
  obtain ⟨h6, e6, hf⟩ := ob hf
  refine zw_pR hx hb hts inX8 tyX8 tyX8_ok nmX8 hown hW hS (ci := 8) rfl (by decide) 1 (by decide) (hts _ wd_110) (Or.inr ⟨rfl, hin, rfl⟩) (fun _ _ => rfl) (fun v => z_refn v) (fun v => z_reff v) e6 dX8_init_27 (fun H locs hW hS => ?_)
  obtain rfl := oretv hf
  exact zw_vreturn F hW hS dX8_init_30
set_option maxRecDepth 100000 in
set_option maxHeartbeats 4000000 in
theorem kX8_init (l : Launch) (D : va_G) (base : Nat) (a0 : Option Nat) (h : zH) {h' : zH} (hf : fX8_init a0 h = some h') : zMet l D base yX8_init cX8_init 1 none rmX8_init h [va_rf a0] none h' :=
  zMet.of (by decide +kernel) (fun v hv => by simp only [List.mem_cons, List.not_mem_nil, or_false] at hv; subst hv; first | rfl | exact va_rf_cat _) (Nat.le_of_ble_eq_true rfl) (fun p e s m args below meth c ls F hi hl hW hS => kX8_init_w F (hi rfl) a0 h hf s.heap [] ls hl hW hS)
set_option maxRecDepth 100000 in
set_option maxHeartbeats 4000000 in
theorem kX8_kind_b20 (N : Nat) {r : Int32} {h' : zH} (F : zF p s m args meth c cX8_kind 3 RX8 (some .int)) (l0 : Option Nat) (l2 : Option Nat) (h : zH) (hf : fX8_kind_b20 N l0 l2 h = some (r, h')) (H : Heap) (locs : List Loc) (ls : Array Slot) (hl : zhas ls 3 [(0, va_rf l0), (2, va_rf l2)]) (hW : z_W D base s h H) (hS : va_S (zA base) s.heap H locs) : W p l e rmX8_kind s m args below meth c H locs 0 0 (MQ below (zQ D base (some (.int r)) h') args s rmX8_kind.cells rmX8_kind.slots (zA base)) (F0 m 20 ls []) := by
  obtain ⟨hx, hb, hml, hown, hts, hret, hlk, hZ⟩ := id F
  unfold fX8_kind_b20 at hf
  refine zw_aload_n hx hb dX8_kind_20 rfl (lv_at hl.1 0 rfl) ?_
  obtain ⟨v1, e1, hf⟩ := ob hf
  refine zw_gR hx hb hts inX8 hown hW (ci := 8) rfl (by decide) 0 (by decide) (hts _ wd_109) e1 (fun _ _ => rfl) dX8_kind_21 ?_
  refine zw_aload_n hx hb dX8_kind_24 rfl (lv_at hl.1 1 rfl) ?_
  obtain ⟨a902, j2, hf⟩ := ob hf
  obtain ⟨q2, e2, hf⟩ := ob hf
  refine zw_callV (rest := []) (n := 1) F (kX6_addKind (r := q2.1) (h' := q2.2) l D base N v1 l2 h e2) 6 rfl (by decide) j2 wd_124 wd_125 wd_126 wd_2 wd_127 (by decide +kernel) ⟨by decide, by decide⟩ hW hS rfl hl.1.1 (by decide) rfl ⟨(by decide), (by decide)⟩ dX8_kind_25 (fun H locs hW hS => ?_)
  refine W.eq (g2 := F0 m 28 ls [.int q2.1]) rfl ?_
  obtain ⟨rfl, rfl⟩ := oret hf
  exact zw_ireturn F hW hS dX8_kind_28
set_option maxRecDepth 100000 in
set_option maxHeartbeats 4000000 in
theorem kX8_kind_w (N : Nat) (F : zF p s m args meth c cX8_kind 3 RX8 (some .int)) {r : Int32} {h' : zH} (a0 : Option Nat) (a1 : Int32) (h : zH) (hf : fX8_kind N a0 a1 h = some (r, h')) (H : Heap) (locs : List Loc) (ls : Array Slot) (hl : zhas ls 3 [(0, va_rf a0), (1, .int a1)]) (hW : z_W D base s h H) (hS : va_S (zA base) s.heap H locs) : W p l e rmX8_kind s m args below meth c H locs 0 0 (MQ below (zQ D base (some (.int r)) h') args s rmX8_kind.cells rmX8_kind.slots (zA base)) (F0 m 0 ls []) := by
  obtain ⟨hx, hb, hml, hown, hts, hret, hlk, hZ⟩ := id F
  unfold fX8_kind at hf
  refine zw_aload_n hx hb dX8_kind_0 rfl (lv_at hl.1 0 rfl) ?_
  obtain ⟨v1, e1, hf⟩ := ob hf
  refine zw_gR hx hb hts inX8 hown hW (ci := 8) rfl (by decide) 0 (by decide) (hts _ wd_109) e1 (fun _ _ => rfl) dX8_kind_1 ?_
  refine lv_iload_n hx hb dX8_kind_4 rfl (lv_at hl.1 1 rfl) ?_
  obtain ⟨a902, j2, hf⟩ := ob hf
  obtain ⟨q2, e2, hf⟩ := ob hf
  refine zw_callV (rest := []) (n := 1) F (kX6_kindAt (r := q2.1) (h' := q2.2) l D base v1 a1 h e2) 6 rfl (by decide) j2 wd_120 wd_121 wd_122 wd_2 wd_123 (by decide +kernel) ⟨by decide, by decide⟩ hW hS rfl hl.1.1 (by decide) rfl ⟨(by decide), (by decide)⟩ dX8_kind_5 (fun H locs hW hS => ?_)
  refine W.eq (g2 := F0 m 8 ls [va_rf q2.1]) rfl ?_
  refine zl_astore_n (lv' := [(2, va_rf q2.1), (0, va_rf a0), (1, .int a1)]) hx hb dX8_kind_8 rfl hl (by decide) rfl (fun ls hl => ?_)
  refine lv_iload_n hx hb dX8_kind_9 rfl (lv_at hl.1 2 rfl) ?_
  refine lv_iconst (v := (-1)) hx hb dX8_kind_10 (by decide) ?_
  refine lv_icmp_eq (tgt := 20) hx hb dX8_kind_11 (by decide) (fun c3 => ?_) (fun c3 => ?_)
  · have hf := oift c3 hf
    exact kX8_kind_b20 N F a0 q2.1 q2.2 hf H locs ls (z_sub hl [1, 0] rfl) hW hS
  · have hf := oiff c3 hf
    refine zw_aload_n hx hb dX8_kind_14 rfl (lv_at hl.1 0 rfl) ?_
    refine zw_ifnonnull (tgt := 20) hx hb dX8_kind_15 (by decide) (fun c4 => ?_) (fun c4 => ?_)
    · have hf := oiff c4 hf
      exact kX8_kind_b20 N F a0 q2.1 q2.2 hf H locs ls (z_sub hl [1, 0] rfl) hW hS
    · have hf := oift c4 hf
      refine lv_iconst (v := (-1)) hx hb dX8_kind_18 (by decide) ?_
      refine W.widen (k := 3) (n := 38) (by decide) (by decide) ?_
      obtain ⟨rfl, rfl⟩ := oret hf
      exact zw_ireturn F hW hS dX8_kind_19
set_option maxRecDepth 100000 in
set_option maxHeartbeats 4000000 in
theorem kX8_kind (l : Launch) (D : va_G) (base : Nat) (N : Nat) (a0 : Option Nat) (a1 : Int32) (h : zH) {r : Int32} {h' : zH} (hf : fX8_kind N a0 a1 h = some (r, h')) : zMet l D base yX8_kind cX8_kind 3 (some .int) rmX8_kind h [va_rf a0, .int a1] (some (.int r)) h' :=
  zMet.of (by decide +kernel) (fun v hv => by simp only [List.mem_cons, List.not_mem_nil, or_false] at hv; rcases hv with rfl | rfl <;> first | rfl | exact va_rf_cat _) (Nat.le_of_ble_eq_true rfl) (fun p e s m args below meth c ls F hi hl hW hS => kX8_kind_w N F a0 a1 h hf s.heap [] ls hl hW hS)
set_option maxRecDepth 100000 in
set_option maxHeartbeats 4000000 in
theorem kX8_field_w (F : zF p s m args meth c cX8_field 4 RX8 (some .int)) {r : Int32} {h' : zH} (a0 : Option Nat) (a1 : Int32) (a2 : Int32) (h : zH) (hf : fX8_field a0 a1 a2 h = some (r, h')) (H : Heap) (locs : List Loc) (ls : Array Slot) (hl : zhas ls 4 [(0, va_rf a0), (1, .int a1), (2, .int a2)]) (hW : z_W D base s h H) (hS : va_S (zA base) s.heap H locs) : W p l e rmX8_field s m args below meth c H locs 0 0 (MQ below (zQ D base (some (.int r)) h') args s rmX8_field.cells rmX8_field.slots (zA base)) (F0 m 0 ls []) := by
  obtain ⟨hx, hb, hml, hown, hts, hret, hlk, hZ⟩ := id F
  unfold fX8_field at hf
  refine zw_aload_n hx hb dX8_field_0 rfl (lv_at hl.1 0 rfl) ?_
  obtain ⟨v1, e1, hf⟩ := ob hf
  refine zw_gR hx hb hts inX8 hown hW (ci := 8) rfl (by decide) 0 (by decide) (hts _ wd_109) e1 (fun _ _ => rfl) dX8_field_1 ?_
  refine lv_iload_n hx hb dX8_field_4 rfl (lv_at hl.1 1 rfl) ?_
  obtain ⟨a902, j2, hf⟩ := ob hf
  obtain ⟨q2, e2, hf⟩ := ob hf
  refine zw_callV (rest := []) (n := 1) F (kX6_kindAt (r := q2.1) (h' := q2.2) l D base v1 a1 h e2) 6 rfl (by decide) j2 wd_120 wd_121 wd_122 wd_2 wd_123 (by decide +kernel) ⟨by decide, by decide⟩ hW hS rfl hl.1.1 (by decide) rfl ⟨(by decide), (by decide)⟩ dX8_field_5 (fun H locs hW hS => ?_)
  refine W.eq (g2 := F0 m 8 ls [va_rf q2.1]) rfl ?_
  refine zl_astore_n (lv' := [(3, va_rf q2.1), (0, va_rf a0), (1, .int a1), (2, .int a2)]) hx hb dX8_field_8 rfl hl (by decide) rfl (fun ls hl => ?_)
  refine zw_aload_n hx hb dX8_field_9 rfl (lv_at hl.1 0 rfl) ?_
  refine zw_ifnull (tgt := 38) hx hb dX8_field_10 (by decide) (fun c3 => ?_) (fun c3 => ?_)
  · have hf := oift c3 hf
    refine lv_iconst (v := (-1)) hx hb dX8_field_38 (by decide) ?_
    obtain ⟨rfl, rfl⟩ := oret hf
    exact zw_ireturn F hW hS dX8_field_39
  · have hf := oiff c3 hf
    refine zw_aload_n hx hb dX8_field_13 rfl (lv_at hl.1 1 rfl) ?_
    obtain ⟨v4, e4, hf⟩ := ob hf
    refine zw_gR hx hb hts inX8 hown hW (ci := 8) rfl (by decide) 0 (by decide) (hts _ wd_109) e4 (fun _ _ => rfl) dX8_field_14 ?_
    refine lv_iload_n hx hb dX8_field_17 rfl (lv_at hl.1 3 rfl) ?_
    obtain ⟨a905, j5, hf⟩ := ob hf
    obtain ⟨q5, e5, hf⟩ := ob hf
    refine zw_callV (rest := []) (n := 1) F (kX6_isType (r := q5.1) (h' := q5.2) l D base v4 a2 q2.2 e5) 6 rfl (by decide) j5 wd_167 wd_168 wd_169 wd_2 wd_170 (by decide +kernel) ⟨by decide, by decide⟩ hW hS rfl hl.1.1 (by decide) rfl ⟨(by decide), (by decide)⟩ dX8_field_18 (fun H locs hW hS => ?_)
    refine W.eq (g2 := F0 m 21 ls [.int q5.1]) rfl ?_
    refine lv_if_eq (tgt := 38) hx hb dX8_field_21 (by decide) (fun c6 => ?_) (fun c6 => ?_)
    · have hf := oift c6 hf
      refine lv_iconst (v := (-1)) hx hb dX8_field_38 (by decide) ?_
      obtain ⟨rfl, rfl⟩ := oret hf
      exact zw_ireturn F hW hS dX8_field_39
    · have hf := oiff c6 hf
      refine zw_aload_n hx hb dX8_field_24 rfl (lv_at hl.1 0 rfl) ?_
      obtain ⟨v7, e7, hf⟩ := ob hf
      refine zw_gI hx hb hts inX2 hown hW (ci := 2) rfl (by decide) 5 (by decide) (hts _ wd_144) e7 (fun _ _ => rfl) dX8_field_25 ?_
      refine lv_if_ne (tgt := 38) hx hb dX8_field_28 (by decide) (fun c8 => ?_) (fun c8 => ?_)
      · have hf := oiff c8 hf
        refine lv_iconst (v := (-1)) hx hb dX8_field_38 (by decide) ?_
        obtain ⟨rfl, rfl⟩ := oret hf
        exact zw_ireturn F hW hS dX8_field_39
      · have hf := oift c8 hf
        refine zw_aload_n hx hb dX8_field_31 rfl (lv_at hl.1 0 rfl) ?_
        obtain ⟨v9, e9, hf⟩ := ob hf
        refine zw_gI hx hb hts inX2 hown hW (ci := 2) rfl (by decide) 6 (by decide) (hts _ wd_146) e9 (fun _ _ => rfl) dX8_field_32 ?_
        refine lv_if_eq (tgt := 40) hx hb dX8_field_35 (by decide) (fun c10 => ?_) (fun c10 => ?_)
        · have hf := oift c10 hf
          refine zw_aload_n hx hb dX8_field_40 rfl (lv_at hl.1 0 rfl) ?_
          refine lv_iload_n hx hb dX8_field_41 rfl (lv_at hl.1 3 rfl) ?_
          obtain ⟨a911, j11, hf⟩ := ob hf
          obtain ⟨q11, e11, hf⟩ := ob hf
          refine zw_callV (rest := []) (n := 1) F (kX2_addField (r := q11.1) (h' := q11.2) l D base q2.1 a2 q5.2 e11) 2 rfl (by decide) j11 wd_181 wd_182 wd_183 wd_7 wd_184 (by decide +kernel) ⟨by decide, by decide⟩ hW hS rfl hl.1.1 (by decide) rfl ⟨(by decide), (by decide)⟩ dX8_field_42 (fun H locs hW hS => ?_)
          refine W.eq (g2 := F0 m 45 ls [.int q11.1]) rfl ?_
          obtain ⟨rfl, rfl⟩ := oret hf
          exact zw_ireturn F hW hS dX8_field_45
        · have hf := oiff c10 hf
          refine lv_iconst (v := (-1)) hx hb dX8_field_38 (by decide) ?_
          obtain ⟨rfl, rfl⟩ := oret hf
          exact zw_ireturn F hW hS dX8_field_39
set_option maxRecDepth 100000 in
set_option maxHeartbeats 4000000 in
theorem kX8_field (l : Launch) (D : va_G) (base : Nat) (a0 : Option Nat) (a1 : Int32) (a2 : Int32) (h : zH) {r : Int32} {h' : zH} (hf : fX8_field a0 a1 a2 h = some (r, h')) : zMet l D base yX8_field cX8_field 4 (some .int) rmX8_field h [va_rf a0, .int a1, .int a2] (some (.int r)) h' :=
  zMet.of (by decide +kernel) (fun v hv => by simp only [List.mem_cons, List.not_mem_nil, or_false] at hv; rcases hv with rfl | rfl | rfl <;> first | rfl | exact va_rf_cat _) (Nat.le_of_ble_eq_true rfl) (fun p e s m args below meth c ls F hi hl hW hS => kX8_field_w F a0 a1 a2 h hf s.heap [] ls hl hW hS)
set_option maxRecDepth 100000 in
set_option maxHeartbeats 4000000 in
theorem kX8_isRoom_w (F : zF p s m args meth c cX8_isRoom 2 RX8 (some .boolean)) {r : Int32} {h' : zH} (a0 : Int32) (a1 : Int32) (h : zH) (hf : fX8_isRoom a0 a1 h = some (r, h')) (H : Heap) (locs : List Loc) (ls : Array Slot) (hl : zhas ls 2 [(0, .int a0), (1, .int a1)]) (hW : z_W D base s h H) (hS : va_S (zA base) s.heap H locs) : W p l e rmX8_isRoom s m args below meth c H locs 0 0 (MQ below (zQ D base (some (.int r)) h') args s rmX8_isRoom.cells rmX8_isRoom.slots (zA base)) (F0 m 0 ls []) := by
  obtain ⟨hx, hb, hml, hown, hts, hret, hlk, hZ⟩ := id F
  unfold fX8_isRoom at hf
  refine lv_iload_n hx hb dX8_isRoom_0 rfl (lv_at hl.1 0 rfl) ?_
  refine lv_if_lt (tgt := 32) hx hb dX8_isRoom_1 (by decide) (fun c1 => ?_) (fun c1 => ?_)
  · have hf := oift c1 hf
    refine lv_iconst (v := 0) hx hb dX8_isRoom_32 (by decide) ?_
    obtain ⟨rfl, rfl⟩ := oret hf
    exact zw_zreturn F (by decide) hW hS dX8_isRoom_33
  · have hf := oiff c1 hf
    refine lv_iload_n hx hb dX8_isRoom_4 rfl (lv_at hl.1 0 rfl) ?_
    refine lv_bipush (v := 12) hx hb dX8_isRoom_5 (by decide) ?_
    refine lv_icmp_gt (tgt := 32) hx hb dX8_isRoom_7 (by decide) (fun c2 => ?_) (fun c2 => ?_)
    · have hf := oift c2 hf
      refine lv_iconst (v := 0) hx hb dX8_isRoom_32 (by decide) ?_
      obtain ⟨rfl, rfl⟩ := oret hf
      exact zw_zreturn F (by decide) hW hS dX8_isRoom_33
    · have hf := oiff c2 hf
      refine lv_iload_n hx hb dX8_isRoom_10 rfl (lv_at hl.1 1 rfl) ?_
      refine lv_if_lt (tgt := 32) hx hb dX8_isRoom_11 (by decide) (fun c3 => ?_) (fun c3 => ?_)
      · have hf := oift c3 hf
        refine lv_iconst (v := 0) hx hb dX8_isRoom_32 (by decide) ?_
        obtain ⟨rfl, rfl⟩ := oret hf
        exact zw_zreturn F (by decide) hW hS dX8_isRoom_33
      · have hf := oiff c3 hf
        refine lv_iload_n hx hb dX8_isRoom_14 rfl (lv_at hl.1 1 rfl) ?_
        refine lv_bipush (v := 12) hx hb dX8_isRoom_15 (by decide) ?_
        refine lv_icmp_gt (tgt := 32) hx hb dX8_isRoom_17 (by decide) (fun c4 => ?_) (fun c4 => ?_)
        · have hf := oift c4 hf
          refine lv_iconst (v := 0) hx hb dX8_isRoom_32 (by decide) ?_
          obtain ⟨rfl, rfl⟩ := oret hf
          exact zw_zreturn F (by decide) hW hS dX8_isRoom_33
        · have hf := oiff c4 hf
          refine lv_iload_n hx hb dX8_isRoom_20 rfl (lv_at hl.1 0 rfl) ?_
          refine lv_iload_n hx hb dX8_isRoom_21 rfl (lv_at hl.1 1 rfl) ?_
          refine lv_iadd hx hb dX8_isRoom_22 ?_
          refine lv_bipush (v := 12) hx hb dX8_isRoom_23 (by decide) ?_
          refine lv_icmp_gt (tgt := 32) hx hb dX8_isRoom_25 (by decide) (fun c5 => ?_) (fun c5 => ?_)
          · have hf := oift c5 hf
            refine lv_iconst (v := 0) hx hb dX8_isRoom_32 (by decide) ?_
            obtain ⟨rfl, rfl⟩ := oret hf
            exact zw_zreturn F (by decide) hW hS dX8_isRoom_33
          · have hf := oiff c5 hf
            refine lv_iconst (v := 1) hx hb dX8_isRoom_28 (by decide) ?_
            refine lv_goto (tgt := 33) hx hb dX8_isRoom_29 (by decide) ?_
            obtain ⟨rfl, rfl⟩ := oret hf
            exact zw_zreturn F (by decide) hW hS dX8_isRoom_33
set_option maxRecDepth 100000 in
set_option maxHeartbeats 4000000 in
theorem kX8_isRoom (l : Launch) (D : va_G) (base : Nat) (a0 : Int32) (a1 : Int32) (h : zH) {r : Int32} {h' : zH} (hf : fX8_isRoom a0 a1 h = some (r, h')) : zMet l D base yX8_isRoom cX8_isRoom 2 (some .boolean) rmX8_isRoom h [.int a0, .int a1] (some (.int r)) h' :=
  zMet.of (by decide +kernel) (fun v hv => by simp only [List.mem_cons, List.not_mem_nil, or_false] at hv; rcases hv with rfl | rfl <;> first | rfl | exact va_rf_cat _) (Nat.le_of_ble_eq_true rfl) (fun p e s m args below meth c ls F hi hl hW hS => kX8_isRoom_w F a0 a1 h hf s.heap [] ls hl hW hS)
set_option maxRecDepth 100000 in
set_option maxHeartbeats 4000000 in
theorem kX8_method_b60 {r : Int32} {h' : zH} (F : zF p s m args meth c cX8_method 6 RX8 (some .int)) (l0 : Option Nat) (l2 : Int32) (l3 : Int32) (l4 : Int32) (l5 : Option Nat) (h : zH) (hf : fX8_method_b60 l0 l2 l3 l4 l5 h = some (r, h')) (H : Heap) (locs : List Loc) (ls : Array Slot) (hl : zhas ls 6 [(0, va_rf l0), (2, .int l2), (3, .int l3), (4, .int l4), (5, va_rf l5)]) (hW : z_W D base s h H) (hS : va_S (zA base) s.heap H locs) : W p l e rmX8_method s m args below meth c H locs 0 0 (MQ below (zQ D base (some (.int r)) h') args s rmX8_method.cells rmX8_method.slots (zA base)) (F0 m 60 ls []) := by
  obtain ⟨hx, hb, hml, hown, hts, hret, hlk, hZ⟩ := id F
  unfold fX8_method_b60 at hf
  refine zw_aload_n hx hb dX8_method_60 rfl (lv_at hl.1 0 rfl) ?_
  obtain ⟨v1, e1, hf⟩ := ob hf
  refine zw_gR hx hb hts inX8 hown hW (ci := 8) rfl (by decide) 0 (by decide) (hts _ wd_109) e1 (fun _ _ => rfl) dX8_method_61 ?_
  refine zw_aload hx hb dX8_method_64 (lv_at hl.1 4 rfl) ?_
  refine lv_iload_n hx hb dX8_method_66 rfl (lv_at hl.1 1 rfl) ?_
  refine lv_iload_n hx hb dX8_method_67 rfl (lv_at hl.1 2 rfl) ?_
  refine lv_iload hx hb dX8_method_68 (lv_at hl.1 3 rfl) ?_
  obtain ⟨a902, j2, hf⟩ := ob hf
  obtain ⟨q2, e2, hf⟩ := ob hf
  refine zw_callV (rest := []) (n := 4) F (kX6_addMethod (r := q2.1) (h' := q2.2) l D base v1 l5 l2 l3 l4 h e2) 6 rfl (by decide) j2 wd_192 wd_193 wd_194 wd_2 wd_195 (by decide +kernel) ⟨by decide, by decide⟩ hW hS rfl hl.1.1 (by decide) rfl ⟨(by decide), (by decide)⟩ dX8_method_70 (fun H locs hW hS => ?_)
  refine W.eq (g2 := F0 m 73 ls [.int q2.1]) rfl ?_
  obtain ⟨rfl, rfl⟩ := oret hf
  exact zw_ireturn F hW hS dX8_method_73
set_option maxRecDepth 100000 in
set_option maxHeartbeats 4000000 in
theorem kX8_method_b40 {r : Int32} {h' : zH} (F : zF p s m args meth c cX8_method 6 RX8 (some .int)) (l0 : Option Nat) (l2 : Int32) (l3 : Int32) (l4 : Int32) (l5 : Option Nat) (h : zH) (hf : fX8_method_b40 l0 l2 l3 l4 l5 h = some (r, h')) (H : Heap) (locs : List Loc) (ls : Array Slot) (hl : zhas ls 6 [(0, va_rf l0), (2, .int l2), (3, .int l3), (4, .int l4), (5, va_rf l5)]) (hW : z_W D base s h H) (hS : va_S (zA base) s.heap H locs) : W p l e rmX8_method s m args below meth c H locs 0 0 (MQ below (zQ D base (some (.int r)) h') args s rmX8_method.cells rmX8_method.slots (zA base)) (F0 m 40 ls []) := by
  obtain ⟨hx, hb, hml, hown, hts, hret, hlk, hZ⟩ := id F
  unfold fX8_method_b40 at hf
  refine lv_iload_n hx hb dX8_method_40 rfl (lv_at hl.1 2 rfl) ?_
  refine lv_iload hx hb dX8_method_41 (lv_at hl.1 3 rfl) ?_
  obtain ⟨q1, e1, hf⟩ := ob hf
  refine zw_callS (rest := []) (n := 2) F (kX8_isRoom (r := q1.1) (h' := q1.2) l D base l3 l4 h e1) wd_189 wd_190 wd_1 wd_191 (by decide +kernel) ⟨by decide, by decide⟩ hW hS rfl hl.1.1 (by decide) rfl ⟨(by decide), (by decide)⟩ dX8_method_43 (fun H locs hW hS => ?_)
  refine W.eq (g2 := F0 m 46 ls [.int q1.1]) rfl ?_
  refine lv_if_eq (tgt := 58) hx hb dX8_method_46 (by decide) (fun c2 => ?_) (fun c2 => ?_)
  · have hf := oift c2 hf
    refine lv_iconst (v := (-1)) hx hb dX8_method_58 (by decide) ?_
    refine W.widen (k := 4) (n := 228) (by decide) (by decide) ?_
    obtain ⟨rfl, rfl⟩ := oret hf
    exact zw_ireturn F hW hS dX8_method_59
  · have hf := oiff c2 hf
    refine zw_aload hx hb dX8_method_49 (lv_at hl.1 4 rfl) ?_
    refine zw_ifnull (tgt := 60) hx hb dX8_method_51 (by decide) (fun c3 => ?_) (fun c3 => ?_)
    · have hf := oift c3 hf
      exact kX8_method_b60 F l0 l2 l3 l4 l5 q1.2 hf H locs ls (z_sub hl [0, 1, 2, 3, 4] rfl) hW hS
    · have hf := oiff c3 hf
      refine lv_iload_n hx hb dX8_method_54 rfl (lv_at hl.1 2 rfl) ?_
      refine lv_if_ne (tgt := 60) hx hb dX8_method_55 (by decide) (fun c4 => ?_) (fun c4 => ?_)
      · have hf := oiff c4 hf
        exact kX8_method_b60 F l0 l2 l3 l4 l5 q1.2 hf H locs ls (z_sub hl [0, 1, 2, 3, 4] rfl) hW hS
      · have hf := oift c4 hf
        refine lv_iconst (v := (-1)) hx hb dX8_method_58 (by decide) ?_
        refine W.widen (k := 4) (n := 228) (by decide) (by decide) ?_
        obtain ⟨rfl, rfl⟩ := oret hf
        exact zw_ireturn F hW hS dX8_method_59
set_option maxRecDepth 100000 in
set_option maxHeartbeats 4000000 in
theorem kX8_method_b22 {r : Int32} {h' : zH} (F : zF p s m args meth c cX8_method 6 RX8 (some .int)) (l0 : Option Nat) (l2 : Int32) (l3 : Int32) (l4 : Int32) (l5 : Option Nat) (h : zH) (hf : fX8_method_b22 l0 l2 l3 l4 l5 h = some (r, h')) (H : Heap) (locs : List Loc) (ls : Array Slot) (hl : zhas ls 6 [(0, va_rf l0), (2, .int l2), (3, .int l3), (4, .int l4), (5, va_rf l5)]) (hW : z_W D base s h H) (hS : va_S (zA base) s.heap H locs) : W p l e rmX8_method s m args below meth c H locs 0 0 (MQ below (zQ D base (some (.int r)) h') args s rmX8_method.cells rmX8_method.slots (zA base)) (F0 m 22 ls []) := by
  obtain ⟨hx, hb, hml, hown, hts, hret, hlk, hZ⟩ := id F
  unfold fX8_method_b22 at hf
  refine lv_iload_n hx hb dX8_method_22 rfl (lv_at hl.1 1 rfl) ?_
  refine lv_iconst (v := (-1)) hx hb dX8_method_23 (by decide) ?_
  refine lv_icmp_eq (tgt := 40) hx hb dX8_method_24 (by decide) (fun c1 => ?_) (fun c1 => ?_)
  · have hf := oift c1 hf
    exact kX8_method_b40 F l0 l2 l3 l4 l5 h hf H locs ls (z_sub hl [0, 1, 2, 3, 4] rfl) hW hS
  · have hf := oiff c1 hf
    refine zw_aload_n hx hb dX8_method_27 rfl (lv_at hl.1 0 rfl) ?_
    obtain ⟨v2, e2, hf⟩ := ob hf
    refine zw_gR hx hb hts inX8 hown hW (ci := 8) rfl (by decide) 0 (by decide) (hts _ wd_109) e2 (fun _ _ => rfl) dX8_method_28 ?_
    refine lv_iload_n hx hb dX8_method_31 rfl (lv_at hl.1 1 rfl) ?_
    obtain ⟨a903, j3, hf⟩ := ob hf
    obtain ⟨q3, e3, hf⟩ := ob hf
    refine zw_callV (rest := []) (n := 1) F (kX6_isType (r := q3.1) (h' := q3.2) l D base v2 l2 h e3) 6 rfl (by decide) j3 wd_167 wd_168 wd_169 wd_2 wd_170 (by decide +kernel) ⟨by decide, by decide⟩ hW hS rfl hl.1.1 (by decide) rfl ⟨(by decide), (by decide)⟩ dX8_method_32 (fun H locs hW hS => ?_)
    refine W.eq (g2 := F0 m 35 ls [.int q3.1]) rfl ?_
    refine lv_if_ne (tgt := 40) hx hb dX8_method_35 (by decide) (fun c4 => ?_) (fun c4 => ?_)
    · have hf := oiff c4 hf
      exact kX8_method_b40 F l0 l2 l3 l4 l5 q3.2 hf H locs ls (z_sub hl [0, 1, 2, 3, 4] rfl) hW hS
    · have hf := oift c4 hf
      refine lv_iconst (v := (-1)) hx hb dX8_method_38 (by decide) ?_
      refine W.widen (k := 4) (n := 228) (by decide) (by decide) ?_
      obtain ⟨rfl, rfl⟩ := oret hf
      exact zw_ireturn F hW hS dX8_method_39
set_option maxRecDepth 100000 in
set_option maxHeartbeats 4000000 in
theorem kX8_method_w (F : zF p s m args meth c cX8_method 6 RX8 (some .int)) {r : Int32} {h' : zH} (a0 : Option Nat) (a1 : Int32) (a2 : Int32) (a3 : Int32) (a4 : Int32) (h : zH) (hf : fX8_method a0 a1 a2 a3 a4 h = some (r, h')) (H : Heap) (locs : List Loc) (ls : Array Slot) (hl : zhas ls 6 [(0, va_rf a0), (1, .int a1), (2, .int a2), (3, .int a3), (4, .int a4)]) (hW : z_W D base s h H) (hS : va_S (zA base) s.heap H locs) : W p l e rmX8_method s m args below meth c H locs 0 0 (MQ below (zQ D base (some (.int r)) h') args s rmX8_method.cells rmX8_method.slots (zA base)) (F0 m 0 ls []) := by
  obtain ⟨hx, hb, hml, hown, hts, hret, hlk, hZ⟩ := id F
  unfold fX8_method at hf
  refine zw_aload_n hx hb dX8_method_0 rfl (lv_at hl.1 0 rfl) ?_
  obtain ⟨v1, e1, hf⟩ := ob hf
  refine zw_gR hx hb hts inX8 hown hW (ci := 8) rfl (by decide) 0 (by decide) (hts _ wd_109) e1 (fun _ _ => rfl) dX8_method_1 ?_
  refine lv_iload_n hx hb dX8_method_4 rfl (lv_at hl.1 1 rfl) ?_
  obtain ⟨a902, j2, hf⟩ := ob hf
  obtain ⟨q2, e2, hf⟩ := ob hf
  refine zw_callV (rest := []) (n := 1) F (kX6_kindAt (r := q2.1) (h' := q2.2) l D base v1 a1 h e2) 6 rfl (by decide) j2 wd_120 wd_121 wd_122 wd_2 wd_123 (by decide +kernel) ⟨by decide, by decide⟩ hW hS rfl hl.1.1 (by decide) rfl ⟨(by decide), (by decide)⟩ dX8_method_5 (fun H locs hW hS => ?_)
  refine W.eq (g2 := F0 m 8 ls [va_rf q2.1]) rfl ?_
  refine zl_astore (lv' := [(5, va_rf q2.1), (0, va_rf a0), (1, .int a1), (2, .int a2), (3, .int a3), (4, .int a4)]) hx hb dX8_method_8 hl (by decide) rfl (fun ls hl => ?_)
  refine lv_iload_n hx hb dX8_method_10 rfl (lv_at hl.1 2 rfl) ?_
  refine lv_iconst (v := (-1)) hx hb dX8_method_11 (by decide) ?_
  refine lv_icmp_eq (tgt := 22) hx hb dX8_method_12 (by decide) (fun c3 => ?_) (fun c3 => ?_)
  · have hf := oift c3 hf
    exact kX8_method_b22 F a0 a2 a3 a4 q2.1 q2.2 hf H locs ls (z_sub hl [1, 3, 4, 5, 0] rfl) hW hS
  · have hf := oiff c3 hf
    refine zw_aload hx hb dX8_method_15 (lv_at hl.1 0 rfl) ?_
    refine zw_ifnonnull (tgt := 22) hx hb dX8_method_17 (by decide) (fun c4 => ?_) (fun c4 => ?_)
    · have hf := oiff c4 hf
      exact kX8_method_b22 F a0 a2 a3 a4 q2.1 q2.2 hf H locs ls (z_sub hl [1, 3, 4, 5, 0] rfl) hW hS
    · have hf := oift c4 hf
      refine lv_iconst (v := (-1)) hx hb dX8_method_20 (by decide) ?_
      refine W.widen (k := 4) (n := 228) (by decide) (by decide) ?_
      obtain ⟨rfl, rfl⟩ := oret hf
      exact zw_ireturn F hW hS dX8_method_21
set_option maxRecDepth 100000 in
set_option maxHeartbeats 4000000 in
theorem kX8_method (l : Launch) (D : va_G) (base : Nat) (a0 : Option Nat) (a1 : Int32) (a2 : Int32) (a3 : Int32) (a4 : Int32) (h : zH) {r : Int32} {h' : zH} (hf : fX8_method a0 a1 a2 a3 a4 h = some (r, h')) : zMet l D base yX8_method cX8_method 6 (some .int) rmX8_method h [va_rf a0, .int a1, .int a2, .int a3, .int a4] (some (.int r)) h' :=
  zMet.of (by decide +kernel) (fun v hv => by simp only [List.mem_cons, List.not_mem_nil, or_false] at hv; rcases hv with rfl | rfl | rfl | rfl | rfl <;> first | rfl | exact va_rf_cat _) (Nat.le_of_ble_eq_true rfl) (fun p e s m args below meth c ls F hi hl hW hS => kX8_method_w F a0 a1 a2 a3 a4 h hf s.heap [] ls hl hW hS)
set_option maxRecDepth 100000 in
set_option maxHeartbeats 4000000 in
theorem kX8_parameter_w (F : zF p s m args meth c cX8_parameter 4 RX8 (some .int)) {r : Int32} {h' : zH} (a0 : Option Nat) (a1 : Int32) (a2 : Int32) (h : zH) (hf : fX8_parameter a0 a1 a2 h = some (r, h')) (H : Heap) (locs : List Loc) (ls : Array Slot) (hl : zhas ls 4 [(0, va_rf a0), (1, .int a1), (2, .int a2)]) (hW : z_W D base s h H) (hS : va_S (zA base) s.heap H locs) : W p l e rmX8_parameter s m args below meth c H locs 0 0 (MQ below (zQ D base (some (.int r)) h') args s rmX8_parameter.cells rmX8_parameter.slots (zA base)) (F0 m 0 ls []) := by
  obtain ⟨hx, hb, hml, hown, hts, hret, hlk, hZ⟩ := id F
  unfold fX8_parameter at hf
  refine zw_aload_n hx hb dX8_parameter_0 rfl (lv_at hl.1 0 rfl) ?_
  obtain ⟨v1, e1, hf⟩ := ob hf
  refine zw_gR hx hb hts inX8 hown hW (ci := 8) rfl (by decide) 0 (by decide) (hts _ wd_109) e1 (fun _ _ => rfl) dX8_parameter_1 ?_
  refine lv_iload_n hx hb dX8_parameter_4 rfl (lv_at hl.1 1 rfl) ?_
  obtain ⟨a902, j2, hf⟩ := ob hf
  obtain ⟨q2, e2, hf⟩ := ob hf
  refine zw_callV (rest := []) (n := 1) F (kX6_methodAt (r := q2.1) (h' := q2.2) l D base v1 a1 h e2) 6 rfl (by decide) j2 wd_262 wd_263 wd_264 wd_2 wd_265 (by decide +kernel) ⟨by decide, by decide⟩ hW hS rfl hl.1.1 (by decide) rfl ⟨(by decide), (by decide)⟩ dX8_parameter_5 (fun H locs hW hS => ?_)
  refine W.eq (g2 := F0 m 8 ls [va_rf q2.1]) rfl ?_
  refine zl_astore_n (lv' := [(3, va_rf q2.1), (0, va_rf a0), (1, .int a1), (2, .int a2)]) hx hb dX8_parameter_8 rfl hl (by decide) rfl (fun ls hl => ?_)
  refine zw_aload_n hx hb dX8_parameter_9 rfl (lv_at hl.1 0 rfl) ?_
  refine zw_ifnull (tgt := 31) hx hb dX8_parameter_10 (by decide) (fun c3 => ?_) (fun c3 => ?_)
  · have hf := oift c3 hf
    refine lv_iconst (v := (-1)) hx hb dX8_parameter_31 (by decide) ?_
    obtain ⟨rfl, rfl⟩ := oret hf
    exact zw_ireturn F hW hS dX8_parameter_32
  · have hf := oiff c3 hf
    refine zw_aload_n hx hb dX8_parameter_13 rfl (lv_at hl.1 1 rfl) ?_
    obtain ⟨v4, e4, hf⟩ := ob hf
    refine zw_gR hx hb hts inX8 hown hW (ci := 8) rfl (by decide) 0 (by decide) (hts _ wd_109) e4 (fun _ _ => rfl) dX8_parameter_14 ?_
    refine lv_iload_n hx hb dX8_parameter_17 rfl (lv_at hl.1 3 rfl) ?_
    obtain ⟨a905, j5, hf⟩ := ob hf
    obtain ⟨q5, e5, hf⟩ := ob hf
    refine zw_callV (rest := []) (n := 1) F (kX6_isType (r := q5.1) (h' := q5.2) l D base v4 a2 q2.2 e5) 6 rfl (by decide) j5 wd_167 wd_168 wd_169 wd_2 wd_170 (by decide +kernel) ⟨by decide, by decide⟩ hW hS rfl hl.1.1 (by decide) rfl ⟨(by decide), (by decide)⟩ dX8_parameter_18 (fun H locs hW hS => ?_)
    refine W.eq (g2 := F0 m 21 ls [.int q5.1]) rfl ?_
    refine lv_if_eq (tgt := 31) hx hb dX8_parameter_21 (by decide) (fun c6 => ?_) (fun c6 => ?_)
    · have hf := oift c6 hf
      refine lv_iconst (v := (-1)) hx hb dX8_parameter_31 (by decide) ?_
      obtain ⟨rfl, rfl⟩ := oret hf
      exact zw_ireturn F hW hS dX8_parameter_32
    · have hf := oiff c6 hf
      refine zw_aload_n hx hb dX8_parameter_24 rfl (lv_at hl.1 0 rfl) ?_
      obtain ⟨a907, j7, hf⟩ := ob hf
      obtain ⟨q7, e7, hf⟩ := ob hf
      refine zw_callV (rest := []) (n := 0) F (kX3_isOpenForParameters (r := q7.1) (h' := q7.2) l D base q2.1 q5.2 e7) 3 rfl (by decide) j7 wd_266 wd_267 wd_268 wd_9 wd_269 (by decide +kernel) ⟨by decide, by decide⟩ hW hS rfl hl.1.1 (by decide) rfl ⟨(by decide), (by decide)⟩ dX8_parameter_25 (fun H locs hW hS => ?_)
      refine W.eq (g2 := F0 m 28 ls [.int q7.1]) rfl ?_
      refine lv_if_ne (tgt := 33) hx hb dX8_parameter_28 (by decide) (fun c8 => ?_) (fun c8 => ?_)
      · have hf := oiff c8 hf
        refine zw_aload_n hx hb dX8_parameter_33 rfl (lv_at hl.1 0 rfl) ?_
        refine lv_iload_n hx hb dX8_parameter_34 rfl (lv_at hl.1 3 rfl) ?_
        obtain ⟨a909, j9, hf⟩ := ob hf
        obtain ⟨q9, e9, hf⟩ := ob hf
        refine zw_callV (rest := []) (n := 1) F (kX3_addParameter (r := q9.1) (h' := q9.2) l D base q2.1 a2 q7.2 e9) 3 rfl (by decide) j9 wd_270 wd_271 wd_272 wd_9 wd_273 (by decide +kernel) ⟨by decide, by decide⟩ hW hS rfl hl.1.1 (by decide) rfl ⟨(by decide), (by decide)⟩ dX8_parameter_35 (fun H locs hW hS => ?_)
        refine W.eq (g2 := F0 m 38 ls [.int q9.1]) rfl ?_
        obtain ⟨rfl, rfl⟩ := oret hf
        exact zw_ireturn F hW hS dX8_parameter_38
      · have hf := oift c8 hf
        refine lv_iconst (v := (-1)) hx hb dX8_parameter_31 (by decide) ?_
        obtain ⟨rfl, rfl⟩ := oret hf
        exact zw_ireturn F hW hS dX8_parameter_32
set_option maxRecDepth 100000 in
set_option maxHeartbeats 4000000 in
theorem kX8_parameter (l : Launch) (D : va_G) (base : Nat) (a0 : Option Nat) (a1 : Int32) (a2 : Int32) (h : zH) {r : Int32} {h' : zH} (hf : fX8_parameter a0 a1 a2 h = some (r, h')) : zMet l D base yX8_parameter cX8_parameter 4 (some .int) rmX8_parameter h [va_rf a0, .int a1, .int a2] (some (.int r)) h' :=
  zMet.of (by decide +kernel) (fun v hv => by simp only [List.mem_cons, List.not_mem_nil, or_false] at hv; rcases hv with rfl | rfl | rfl <;> first | rfl | exact va_rf_cat _) (Nat.le_of_ble_eq_true rfl) (fun p e s m args below meth c ls F hi hl hW hS => kX8_parameter_w F a0 a1 a2 h hf s.heap [] ls hl hW hS)
set_option maxRecDepth 100000 in
set_option maxHeartbeats 4000000 in
theorem kX8_slot_b77 (N : Nat) {r : Int32} {h' : zH} (F : zF p s m args meth c cX8_slot 6 RX8 (some .boolean)) (l1 : Int32) (l2 : Int32) (l3 : Option Nat) (l4 : Option Nat) (h : zH) (hf : fX8_slot_b77 N l1 l2 l3 l4 h = some (r, h')) (H : Heap) (locs : List Loc) (ls : Array Slot) (hl : zhas ls 6 [(1, .int l1), (2, .int l2), (3, va_rf l3), (4, va_rf l4)]) (hW : z_W D base s h H) (hS : va_S (zA base) s.heap H locs) : W p l e rmX8_slot s m args below meth c H locs 0 0 (MQ below (zQ D base (some (.int r)) h') args s rmX8_slot.cells rmX8_slot.slots (zA base)) (F0 m 77 ls []) := by
  obtain ⟨hx, hb, hml, hown, hts, hret, hlk, hZ⟩ := id F
  unfold fX8_slot_b77 at hf
  refine zw_aload hx hb dX8_slot_77 (lv_at hl.1 3 rfl) ?_
  obtain ⟨v1, e1, hf⟩ := ob hf
  refine zw_gR hx hb hts inX2 hown hW (ci := 2) rfl (by decide) 3 (by decide) (hts _ wd_142) e1 (fun _ _ => rfl) dX8_slot_79 ?_
  refine lv_iload_n hx hb dX8_slot_82 rfl (lv_at hl.1 1 rfl) ?_
  refine lv_iload_n hx hb dX8_slot_83 rfl (lv_at hl.1 0 rfl) ?_
  obtain ⟨h2, e2, hf⟩ := ob hf
  refine zw_sI hx hb hW hS e2 dX8_slot_84 (fun H locs hW hS => ?_)
  refine zw_aload_n hx hb dX8_slot_85 rfl (lv_at hl.1 2 rfl) ?_
  refine lv_iconst (v := 1) hx hb dX8_slot_86 (by decide) ?_
  obtain ⟨h3, e3, hf⟩ := ob hf
  obtain ⟨b3, e3⟩ := pZ_spec e3
  refine zw_pI hx hb hts inX3 tyX3 tyX3_ok nmX3 hown hW hS (ci := 3) rfl (by decide) 10 (by decide) (hts _ wd_229) (Or.inl rfl) (fun _ _ => rfl) (z_bool b3).1 (z_bool b3).2 e3 dX8_slot_87 (fun H locs hW hS => ?_)
  refine lv_iconst (v := 1) hx hb dX8_slot_90 (by decide) ?_
  obtain ⟨rfl, rfl⟩ := oret hf
  exact zw_zreturn F (by decide) hW hS dX8_slot_91
set_option maxRecDepth 100000 in
set_option maxHeartbeats 4000000 in
theorem kX8_slot_w (N : Nat) (F : zF p s m args meth c cX8_slot 6 RX8 (some .boolean)) {r : Int32} {h' : zH} (a0 : Option Nat) (a1 : Int32) (a2 : Int32) (h : zH) (hf : fX8_slot N a0 a1 a2 h = some (r, h')) (H : Heap) (locs : List Loc) (ls : Array Slot) (hl : zhas ls 6 [(0, va_rf a0), (1, .int a1), (2, .int a2)]) (hW : z_W D base s h H) (hS : va_S (zA base) s.heap H locs) : W p l e rmX8_slot s m args below meth c H locs 0 0 (MQ below (zQ D base (some (.int r)) h') args s rmX8_slot.cells rmX8_slot.slots (zA base)) (F0 m 0 ls []) := by
  obtain ⟨hx, hb, hml, hown, hts, hret, hlk, hZ⟩ := id F
  unfold fX8_slot at hf
  refine zw_aload_n hx hb dX8_slot_0 rfl (lv_at hl.1 0 rfl) ?_
  obtain ⟨v1, e1, hf⟩ := ob hf
  refine zw_gR hx hb hts inX8 hown hW (ci := 8) rfl (by decide) 0 (by decide) (hts _ wd_109) e1 (fun _ _ => rfl) dX8_slot_1 ?_
  refine lv_iload_n hx hb dX8_slot_4 rfl (lv_at hl.1 1 rfl) ?_
  obtain ⟨a902, j2, hf⟩ := ob hf
  obtain ⟨q2, e2, hf⟩ := ob hf
  refine zw_callV (rest := []) (n := 1) F (kX6_methodAt (r := q2.1) (h' := q2.2) l D base v1 a1 h e2) 6 rfl (by decide) j2 wd_262 wd_263 wd_264 wd_2 wd_265 (by decide +kernel) ⟨by decide, by decide⟩ hW hS rfl hl.1.1 (by decide) rfl ⟨(by decide), (by decide)⟩ dX8_slot_5 (fun H locs hW hS => ?_)
  refine W.eq (g2 := F0 m 8 ls [va_rf q2.1]) rfl ?_
  refine zl_astore_n (lv' := [(3, va_rf q2.1), (0, va_rf a0), (1, .int a1), (2, .int a2)]) hx hb dX8_slot_8 rfl hl (by decide) rfl (fun ls hl => ?_)
  refine zw_aload_n hx hb dX8_slot_9 rfl (lv_at hl.1 0 rfl) ?_
  refine zw_ifnull (tgt := 23) hx hb dX8_slot_10 (by decide) (fun c3 => ?_) (fun c3 => ?_)
  · have hf := oift c3 hf
    refine lv_iconst (v := 0) hx hb dX8_slot_23 (by decide) ?_
    obtain ⟨rfl, rfl⟩ := oret hf
    exact zw_zreturn F (by decide) hW hS dX8_slot_24
  · have hf := oiff c3 hf
    refine lv_iload_n hx hb dX8_slot_13 rfl (lv_at hl.1 3 rfl) ?_
    refine lv_if_lt (tgt := 23) hx hb dX8_slot_14 (by decide) (fun c4 => ?_) (fun c4 => ?_)
    · have hf := oift c4 hf
      refine lv_iconst (v := 0) hx hb dX8_slot_23 (by decide) ?_
      obtain ⟨rfl, rfl⟩ := oret hf
      exact zw_zreturn F (by decide) hW hS dX8_slot_24
    · have hf := oiff c4 hf
      refine lv_iload_n hx hb dX8_slot_17 rfl (lv_at hl.1 3 rfl) ?_
      refine lv_bipush (v := 16) hx hb dX8_slot_18 (by decide) ?_
      refine lv_icmp_lt (tgt := 25) hx hb dX8_slot_20 (by decide) (fun c5 => ?_) (fun c5 => ?_)
      · have hf := oift c5 hf
        refine zw_aload_n hx hb dX8_slot_25 rfl (lv_at hl.1 0 rfl) ?_
        obtain ⟨v6, e6, hf⟩ := ob hf
        refine zw_gR hx hb hts inX3 hown hW (ci := 3) rfl (by decide) 0 (by decide) (hts _ wd_210) e6 (fun _ _ => rfl) dX8_slot_26 ?_
        refine zl_astore (lv' := [(4, va_rf v6), (3, va_rf q2.1), (0, va_rf a0), (1, .int a1), (2, .int a2)]) hx hb dX8_slot_29 hl (by decide) rfl (fun ls hl => ?_)
        refine zw_aload hx hb dX8_slot_31 (lv_at hl.1 0 rfl) ?_
        refine zw_ifnull (tgt := 44) hx hb dX8_slot_33 (by decide) (fun c7 => ?_) (fun c7 => ?_)
        · have hf := oift c7 hf
          refine lv_iconst (v := 0) hx hb dX8_slot_44 (by decide) ?_
          obtain ⟨rfl, rfl⟩ := oret hf
          exact zw_zreturn F (by decide) hW hS dX8_slot_45
        · have hf := oiff c7 hf
          refine zw_aload hx hb dX8_slot_36 (lv_at hl.1 0 rfl) ?_
          obtain ⟨v8, e8, hf⟩ := ob hf
          refine zw_gI hx hb hts inX2 hown hW (ci := 2) rfl (by decide) 5 (by decide) (hts _ wd_144) e8 (fun _ _ => rfl) dX8_slot_38 ?_
          refine lv_if_eq (tgt := 46) hx hb dX8_slot_41 (by decide) (fun c9 => ?_) (fun c9 => ?_)
          · have hf := oift c9 hf
            refine zw_aload_n hx hb dX8_slot_46 rfl (lv_at hl.1 2 rfl) ?_
            obtain ⟨v10, e10, hf⟩ := ob hf
            refine zw_gR hx hb hts inX8 hown hW (ci := 8) rfl (by decide) 0 (by decide) (hts _ wd_109) e10 (fun _ _ => rfl) dX8_slot_47 ?_
            refine zw_aload hx hb dX8_slot_50 (lv_at hl.1 0 rfl) ?_
            refine lv_iload_n hx hb dX8_slot_52 rfl (lv_at hl.1 4 rfl) ?_
            obtain ⟨a911, j11, hf⟩ := ob hf
            obtain ⟨q11, e11, hf⟩ := ob hf
            refine zw_callV (rest := [va_rf v10]) (n := 1) F (kX2_inSlot (r := q11.1) (h' := q11.2) l D base v6 a2 q2.2 e11) 2 rfl (by decide) j11 wd_278 wd_279 wd_280 wd_7 wd_281 (by decide +kernel) ⟨by decide, by decide⟩ hW hS rfl hl.1.1 (by simp only [List.map_cons, List.map_nil, va_rf_cat, z_icat, List.sum_cons, List.sum_nil]; decide) rfl ⟨(by decide), (by decide)⟩ dX8_slot_53 (fun H locs hW hS => ?_)
            refine W.eq (g2 := F0 m 56 ls [.int q11.1, va_rf v10]) rfl ?_
            obtain ⟨a912, j12, hf⟩ := ob hf
            obtain ⟨q12, e12, hf⟩ := ob hf
            refine zw_callV (rest := []) (n := 1) F (kX6_methodAt (r := q12.1) (h' := q12.2) l D base v10 q11.1 q11.2 e12) 6 rfl (by decide) j12 wd_262 wd_263 wd_264 wd_2 wd_265 (by decide +kernel) ⟨by decide, by decide⟩ hW hS rfl hl.1.1 (by decide) rfl ⟨(by decide), (by decide)⟩ dX8_slot_56 (fun H locs hW hS => ?_)
            refine W.eq (g2 := F0 m 59 ls [va_rf q12.1]) rfl ?_
            refine zl_astore (lv' := [(5, va_rf q12.1), (4, va_rf v6), (3, va_rf q2.1), (0, va_rf a0), (1, .int a1), (2, .int a2)]) hx hb dX8_slot_59 hl (by decide) rfl (fun ls hl => ?_)
            refine zw_aload hx hb dX8_slot_61 (lv_at hl.1 0 rfl) ?_
            refine zw_ifnull (tgt := 77) hx hb dX8_slot_63 (by decide) (fun c13 => ?_) (fun c13 => ?_)
            · have hf := oift c13 hf
              exact kX8_slot_b77 N F a1 a2 q2.1 v6 q12.2 hf H locs ls (z_sub hl [4, 5, 2, 1] rfl) hW hS
            · have hf := oiff c13 hf
              refine zw_aload hx hb dX8_slot_66 (lv_at hl.1 0 rfl) ?_
              refine zw_aload_n hx hb dX8_slot_68 rfl (lv_at hl.1 2 rfl) ?_
              obtain ⟨a914, j14, hf⟩ := ob hf
              obtain ⟨q14, e14, hf⟩ := ob hf
              refine zw_callV (rest := []) (n := 1) F (kX3_isCalledLike (r := q14.1) (h' := q14.2) l D base N q12.1 q2.1 q12.2 e14) 3 rfl (by decide) j14 wd_282 wd_283 wd_284 wd_9 wd_285 (by decide +kernel) ⟨by decide, by decide⟩ hW hS rfl hl.1.1 (by decide) rfl ⟨(by decide), (by decide)⟩ dX8_slot_69 (fun H locs hW hS => ?_)
              refine W.eq (g2 := F0 m 72 ls [.int q14.1]) rfl ?_
              refine lv_if_ne (tgt := 77) hx hb dX8_slot_72 (by decide) (fun c15 => ?_) (fun c15 => ?_)
              · have hf := oiff c15 hf
                exact kX8_slot_b77 N F a1 a2 q2.1 v6 q14.2 hf H locs ls (z_sub hl [4, 5, 2, 1] rfl) hW hS
              · have hf := oift c15 hf
                refine lv_iconst (v := 0) hx hb dX8_slot_75 (by decide) ?_
                obtain ⟨rfl, rfl⟩ := oret hf
                exact zw_zreturn F (by decide) hW hS dX8_slot_76
          · have hf := oiff c9 hf
            refine lv_iconst (v := 0) hx hb dX8_slot_44 (by decide) ?_
            obtain ⟨rfl, rfl⟩ := oret hf
            exact zw_zreturn F (by decide) hW hS dX8_slot_45
      · have hf := oiff c5 hf
        refine lv_iconst (v := 0) hx hb dX8_slot_23 (by decide) ?_
        obtain ⟨rfl, rfl⟩ := oret hf
        exact zw_zreturn F (by decide) hW hS dX8_slot_24
set_option maxRecDepth 100000 in
set_option maxHeartbeats 4000000 in
theorem kX8_slot (l : Launch) (D : va_G) (base : Nat) (N : Nat) (a0 : Option Nat) (a1 : Int32) (a2 : Int32) (h : zH) {r : Int32} {h' : zH} (hf : fX8_slot N a0 a1 a2 h = some (r, h')) : zMet l D base yX8_slot cX8_slot 6 (some .boolean) rmX8_slot h [va_rf a0, .int a1, .int a2] (some (.int r)) h' :=
  zMet.of (by decide +kernel) (fun v hv => by simp only [List.mem_cons, List.not_mem_nil, or_false] at hv; rcases hv with rfl | rfl | rfl <;> first | rfl | exact va_rf_cat _) (Nat.le_of_ble_eq_true rfl) (fun p e s m args below meth c ls F hi hl hW hS => kX8_slot_w N F a0 a1 a2 h hf s.heap [] ls hl hW hS)
set_option maxRecDepth 100000 in
set_option maxHeartbeats 4000000 in
theorem kX8_op_w (F : zF p s m args meth c cX8_op 6 RX8 (some .int)) {r : Int32} {h' : zH} (a0 : Option Nat) (a1 : Int32) (a2 : Int32) (a3 : Int32) (a4 : Int32) (h : zH) (hf : fX8_op a0 a1 a2 a3 a4 h = some (r, h')) (H : Heap) (locs : List Loc) (ls : Array Slot) (hl : zhas ls 6 [(0, va_rf a0), (1, .int a1), (2, .int a2), (3, .int a3), (4, .int a4)]) (hW : z_W D base s h H) (hS : va_S (zA base) s.heap H locs) : W p l e rmX8_op s m args below meth c H locs 0 0 (MQ below (zQ D base (some (.int r)) h') args s rmX8_op.cells rmX8_op.slots (zA base)) (F0 m 0 ls []) := by
  obtain ⟨hx, hb, hml, hown, hts, hret, hlk, hZ⟩ := id F
  unfold fX8_op at hf
  refine zw_aload_n hx hb dX8_op_0 rfl (lv_at hl.1 0 rfl) ?_
  obtain ⟨v1, e1, hf⟩ := ob hf
  refine zw_gR hx hb hts inX8 hown hW (ci := 8) rfl (by decide) 0 (by decide) (hts _ wd_109) e1 (fun _ _ => rfl) dX8_op_1 ?_
  refine lv_iload_n hx hb dX8_op_4 rfl (lv_at hl.1 1 rfl) ?_
  obtain ⟨a902, j2, hf⟩ := ob hf
  obtain ⟨q2, e2, hf⟩ := ob hf
  refine zw_callV (rest := []) (n := 1) F (kX6_methodAt (r := q2.1) (h' := q2.2) l D base v1 a1 h e2) 6 rfl (by decide) j2 wd_262 wd_263 wd_264 wd_2 wd_265 (by decide +kernel) ⟨by decide, by decide⟩ hW hS rfl hl.1.1 (by decide) rfl ⟨(by decide), (by decide)⟩ dX8_op_5 (fun H locs hW hS => ?_)
  refine W.eq (g2 := F0 m 8 ls [va_rf q2.1]) rfl ?_
  refine zl_astore (lv' := [(5, va_rf q2.1), (0, va_rf a0), (1, .int a1), (2, .int a2), (3, .int a3), (4, .int a4)]) hx hb dX8_op_8 hl (by decide) rfl (fun ls hl => ?_)
  refine zw_aload hx hb dX8_op_10 (lv_at hl.1 0 rfl) ?_
  refine zw_ifnull (tgt := 31) hx hb dX8_op_12 (by decide) (fun c3 => ?_) (fun c3 => ?_)
  · have hf := oift c3 hf
    refine lv_iconst (v := (-1)) hx hb dX8_op_31 (by decide) ?_
    refine W.widen (k := 3) (n := 22) (by decide) (by decide) ?_
    obtain ⟨rfl, rfl⟩ := oret hf
    exact zw_ireturn F hW hS dX8_op_32
  · have hf := oiff c3 hf
    refine zw_aload_n hx hb dX8_op_15 rfl (lv_at hl.1 1 rfl) ?_
    obtain ⟨v4, e4, hf⟩ := ob hf
    refine zw_gR hx hb hts inX8 hown hW (ci := 8) rfl (by decide) 0 (by decide) (hts _ wd_109) e4 (fun _ _ => rfl) dX8_op_16 ?_
    refine zw_aload hx hb dX8_op_19 (lv_at hl.1 0 rfl) ?_
    refine lv_iload_n hx hb dX8_op_21 rfl (lv_at hl.1 3 rfl) ?_
    refine lv_iload_n hx hb dX8_op_22 rfl (lv_at hl.1 4 rfl) ?_
    refine lv_iload hx hb dX8_op_23 (lv_at hl.1 5 rfl) ?_
    obtain ⟨a905, j5, hf⟩ := ob hf
    obtain ⟨q5, e5, hf⟩ := ob hf
    refine zw_callV (rest := []) (n := 4) F (kX6_areOperands (r := q5.1) (h' := q5.2) l D base v4 q2.1 a2 a3 a4 q2.2 e5) 6 rfl (by decide) j5 wd_294 wd_295 wd_296 wd_2 wd_297 (by decide +kernel) ⟨by decide, by decide⟩ hW hS rfl hl.1.1 (by decide) rfl ⟨(by decide), (by decide)⟩ dX8_op_25 (fun H locs hW hS => ?_)
    refine W.eq (g2 := F0 m 28 ls [.int q5.1]) rfl ?_
    refine lv_if_ne (tgt := 33) hx hb dX8_op_28 (by decide) (fun c6 => ?_) (fun c6 => ?_)
    · have hf := oiff c6 hf
      refine zw_aload hx hb dX8_op_33 (lv_at hl.1 0 rfl) ?_
      refine lv_iload_n hx hb dX8_op_35 rfl (lv_at hl.1 3 rfl) ?_
      refine lv_iload_n hx hb dX8_op_36 rfl (lv_at hl.1 4 rfl) ?_
      refine lv_iload hx hb dX8_op_37 (lv_at hl.1 5 rfl) ?_
      obtain ⟨a907, j7, hf⟩ := ob hf
      obtain ⟨q7, e7, hf⟩ := ob hf
      refine zw_callV (rest := []) (n := 3) F (kX3_addInstruction (r := q7.1) (h' := q7.2) l D base q2.1 a2 a3 a4 q5.2 e7) 3 rfl (by decide) j7 wd_316 wd_317 wd_318 wd_9 wd_319 (by decide +kernel) ⟨by decide, by decide⟩ hW hS rfl hl.1.1 (by decide) rfl ⟨(by decide), (by decide)⟩ dX8_op_39 (fun H locs hW hS => ?_)
      refine W.eq (g2 := F0 m 42 ls [.int q7.1]) rfl ?_
      obtain ⟨rfl, rfl⟩ := oret hf
      exact zw_ireturn F hW hS dX8_op_42
    · have hf := oift c6 hf
      refine lv_iconst (v := (-1)) hx hb dX8_op_31 (by decide) ?_
      refine W.widen (k := 3) (n := 22) (by decide) (by decide) ?_
      obtain ⟨rfl, rfl⟩ := oret hf
      exact zw_ireturn F hW hS dX8_op_32
set_option maxRecDepth 100000 in
set_option maxHeartbeats 4000000 in
theorem kX8_op (l : Launch) (D : va_G) (base : Nat) (a0 : Option Nat) (a1 : Int32) (a2 : Int32) (a3 : Int32) (a4 : Int32) (h : zH) {r : Int32} {h' : zH} (hf : fX8_op a0 a1 a2 a3 a4 h = some (r, h')) : zMet l D base yX8_op cX8_op 6 (some .int) rmX8_op h [va_rf a0, .int a1, .int a2, .int a3, .int a4] (some (.int r)) h' :=
  zMet.of (by decide +kernel) (fun v hv => by simp only [List.mem_cons, List.not_mem_nil, or_false] at hv; rcases hv with rfl | rfl | rfl | rfl | rfl <;> first | rfl | exact va_rf_cat _) (Nat.le_of_ble_eq_true rfl) (fun p e s m args below meth c ls F hi hl hW hS => kX8_op_w F a0 a1 a2 a3 a4 h hf s.heap [] ls hl hW hS)
set_option maxRecDepth 100000 in
set_option maxHeartbeats 4000000 in
theorem kX8_handler_w (F : zF p s m args meth c cX8_handler 7 RX8 (some .int)) {r : Int32} {h' : zH} (a0 : Option Nat) (a1 : Int32) (a2 : Int32) (a3 : Int32) (a4 : Int32) (a5 : Int32) (h : zH) (hf : fX8_handler a0 a1 a2 a3 a4 a5 h = some (r, h')) (H : Heap) (locs : List Loc) (ls : Array Slot) (hl : zhas ls 7 [(0, va_rf a0), (1, .int a1), (2, .int a2), (3, .int a3), (4, .int a4), (5, .int a5)]) (hW : z_W D base s h H) (hS : va_S (zA base) s.heap H locs) : W p l e rmX8_handler s m args below meth c H locs 0 0 (MQ below (zQ D base (some (.int r)) h') args s rmX8_handler.cells rmX8_handler.slots (zA base)) (F0 m 0 ls []) := by
  obtain ⟨hx, hb, hml, hown, hts, hret, hlk, hZ⟩ := id F
  unfold fX8_handler at hf
  refine zw_aload_n hx hb dX8_handler_0 rfl (lv_at hl.1 0 rfl) ?_
  obtain ⟨v1, e1, hf⟩ := ob hf
  refine zw_gR hx hb hts inX8 hown hW (ci := 8) rfl (by decide) 0 (by decide) (hts _ wd_109) e1 (fun _ _ => rfl) dX8_handler_1 ?_
  refine lv_iload_n hx hb dX8_handler_4 rfl (lv_at hl.1 1 rfl) ?_
  obtain ⟨a902, j2, hf⟩ := ob hf
  obtain ⟨q2, e2, hf⟩ := ob hf
  refine zw_callV (rest := []) (n := 1) F (kX6_methodAt (r := q2.1) (h' := q2.2) l D base v1 a1 h e2) 6 rfl (by decide) j2 wd_262 wd_263 wd_264 wd_2 wd_265 (by decide +kernel) ⟨by decide, by decide⟩ hW hS rfl hl.1.1 (by decide) rfl ⟨(by decide), (by decide)⟩ dX8_handler_5 (fun H locs hW hS => ?_)
  refine W.eq (g2 := F0 m 8 ls [va_rf q2.1]) rfl ?_
  refine zl_astore (lv' := [(6, va_rf q2.1), (0, va_rf a0), (1, .int a1), (2, .int a2), (3, .int a3), (4, .int a4), (5, .int a5)]) hx hb dX8_handler_8 hl (by decide) rfl (fun ls hl => ?_)
  refine zw_aload hx hb dX8_handler_10 (lv_at hl.1 0 rfl) ?_
  refine zw_ifnull (tgt := 35) hx hb dX8_handler_12 (by decide) (fun c3 => ?_) (fun c3 => ?_)
  · have hf := oift c3 hf
    refine lv_iconst (v := (-1)) hx hb dX8_handler_35 (by decide) ?_
    refine W.widen (k := 1) (n := 4) (by decide) (by decide) ?_
    obtain ⟨rfl, rfl⟩ := oret hf
    exact zw_ireturn F hW hS dX8_handler_36
  · have hf := oiff c3 hf
    refine zw_aload_n hx hb dX8_handler_15 rfl (lv_at hl.1 1 rfl) ?_
    obtain ⟨v4, e4, hf⟩ := ob hf
    refine zw_gR hx hb hts inX8 hown hW (ci := 8) rfl (by decide) 0 (by decide) (hts _ wd_109) e4 (fun _ _ => rfl) dX8_handler_16 ?_
    refine lv_iload hx hb dX8_handler_19 (lv_at hl.1 5 rfl) ?_
    obtain ⟨a905, j5, hf⟩ := ob hf
    obtain ⟨q5, e5, hf⟩ := ob hf
    refine zw_callV (rest := []) (n := 1) F (kX6_kindAt (r := q5.1) (h' := q5.2) l D base v4 a4 q2.2 e5) 6 rfl (by decide) j5 wd_120 wd_121 wd_122 wd_2 wd_123 (by decide +kernel) ⟨by decide, by decide⟩ hW hS rfl hl.1.1 (by decide) rfl ⟨(by decide), (by decide)⟩ dX8_handler_21 (fun H locs hW hS => ?_)
    refine W.eq (g2 := F0 m 24 ls [va_rf q5.1]) rfl ?_
    refine zw_ifnull (tgt := 35) hx hb dX8_handler_24 (by decide) (fun c6 => ?_) (fun c6 => ?_)
    · have hf := oift c6 hf
      refine lv_iconst (v := (-1)) hx hb dX8_handler_35 (by decide) ?_
      refine W.widen (k := 1) (n := 4) (by decide) (by decide) ?_
      obtain ⟨rfl, rfl⟩ := oret hf
      exact zw_ireturn F hW hS dX8_handler_36
    · have hf := oiff c6 hf
      refine lv_iload hx hb dX8_handler_27 (lv_at hl.1 6 rfl) ?_
      obtain ⟨q7, e7, hf⟩ := ob hf
      refine zw_callS (rest := []) (n := 1) F (kX8_isPlace (r := q7.1) (h' := q7.2) l D base a5 q5.2 e7) wd_357 wd_299 wd_1 wd_300 (by decide +kernel) ⟨by decide, by decide⟩ hW hS rfl hl.1.1 (by decide) rfl ⟨(by decide), (by decide)⟩ dX8_handler_29 (fun H locs hW hS => ?_)
      refine W.eq (g2 := F0 m 32 ls [.int q7.1]) rfl ?_
      refine lv_if_ne (tgt := 37) hx hb dX8_handler_32 (by decide) (fun c8 => ?_) (fun c8 => ?_)
      · have hf := oiff c8 hf
        refine lv_iload_n hx hb dX8_handler_37 rfl (lv_at hl.1 3 rfl) ?_
        refine lv_if_lt (tgt := 53) hx hb dX8_handler_38 (by decide) (fun c9 => ?_) (fun c9 => ?_)
        · have hf := oift c9 hf
          refine lv_iconst (v := (-1)) hx hb dX8_handler_53 (by decide) ?_
          refine W.widen (k := 1) (n := 4) (by decide) (by decide) ?_
          obtain ⟨rfl, rfl⟩ := oret hf
          exact zw_ireturn F hW hS dX8_handler_54
        · have hf := oiff c9 hf
          refine lv_iload_n hx hb dX8_handler_41 rfl (lv_at hl.1 3 rfl) ?_
          refine lv_iload_n hx hb dX8_handler_42 rfl (lv_at hl.1 4 rfl) ?_
          refine lv_icmp_ge (tgt := 53) hx hb dX8_handler_43 (by decide) (fun c10 => ?_) (fun c10 => ?_)
          · have hf := oift c10 hf
            refine lv_iconst (v := (-1)) hx hb dX8_handler_53 (by decide) ?_
            refine W.widen (k := 1) (n := 4) (by decide) (by decide) ?_
            obtain ⟨rfl, rfl⟩ := oret hf
            exact zw_ireturn F hW hS dX8_handler_54
          · have hf := oiff c10 hf
            refine lv_iload_n hx hb dX8_handler_46 rfl (lv_at hl.1 4 rfl) ?_
            refine lv_sipush (v := 200) hx hb dX8_handler_47 (by decide) ?_
            refine lv_icmp_le (tgt := 55) hx hb dX8_handler_50 (by decide) (fun c11 => ?_) (fun c11 => ?_)
            · have hf := oift c11 hf
              refine zw_aload hx hb dX8_handler_55 (lv_at hl.1 0 rfl) ?_
              refine lv_iload_n hx hb dX8_handler_57 rfl (lv_at hl.1 3 rfl) ?_
              refine lv_iload_n hx hb dX8_handler_58 rfl (lv_at hl.1 4 rfl) ?_
              refine lv_iload hx hb dX8_handler_59 (lv_at hl.1 5 rfl) ?_
              refine lv_iload hx hb dX8_handler_61 (lv_at hl.1 6 rfl) ?_
              obtain ⟨a912, j12, hf⟩ := ob hf
              obtain ⟨q12, e12, hf⟩ := ob hf
              refine zw_callV (rest := []) (n := 4) F (kX3_addHandler (r := q12.1) (h' := q12.2) l D base q2.1 a2 a3 a4 a5 q7.2 e12) 3 rfl (by decide) j12 wd_358 wd_359 wd_360 wd_9 wd_361 (by decide +kernel) ⟨by decide, by decide⟩ hW hS rfl hl.1.1 (by decide) rfl ⟨(by decide), (by decide)⟩ dX8_handler_63 (fun H locs hW hS => ?_)
              refine W.eq (g2 := F0 m 66 ls [.int q12.1]) rfl ?_
              obtain ⟨rfl, rfl⟩ := oret hf
              exact zw_ireturn F hW hS dX8_handler_66
            · have hf := oiff c11 hf
              refine lv_iconst (v := (-1)) hx hb dX8_handler_53 (by decide) ?_
              refine W.widen (k := 1) (n := 4) (by decide) (by decide) ?_
              obtain ⟨rfl, rfl⟩ := oret hf
              exact zw_ireturn F hW hS dX8_handler_54
      · have hf := oift c8 hf
        refine lv_iconst (v := (-1)) hx hb dX8_handler_35 (by decide) ?_
        refine W.widen (k := 1) (n := 4) (by decide) (by decide) ?_
        obtain ⟨rfl, rfl⟩ := oret hf
        exact zw_ireturn F hW hS dX8_handler_36
set_option maxRecDepth 100000 in
set_option maxHeartbeats 4000000 in
theorem kX8_handler (l : Launch) (D : va_G) (base : Nat) (a0 : Option Nat) (a1 : Int32) (a2 : Int32) (a3 : Int32) (a4 : Int32) (a5 : Int32) (h : zH) {r : Int32} {h' : zH} (hf : fX8_handler a0 a1 a2 a3 a4 a5 h = some (r, h')) : zMet l D base yX8_handler cX8_handler 7 (some .int) rmX8_handler h [va_rf a0, .int a1, .int a2, .int a3, .int a4, .int a5] (some (.int r)) h' :=
  zMet.of (by decide +kernel) (fun v hv => by simp only [List.mem_cons, List.not_mem_nil, or_false] at hv; rcases hv with rfl | rfl | rfl | rfl | rfl | rfl <;> first | rfl | exact va_rf_cat _) (Nat.le_of_ble_eq_true rfl) (fun p e s m args below meth c ls F hi hl hW hS => kX8_handler_w F a0 a1 a2 a3 a4 a5 h hf s.heap [] ls hl hW hS)
set_option maxRecDepth 100000 in
set_option maxHeartbeats 4000000 in
theorem kX8_verify_w (N : Nat) (F : zF p s m args meth c cX8_verify 4 RX8 (some .int)) {r : Int32} {h' : zH} (a0 : Option Nat) (a1 : Int32) (h : zH) (hf : fX8_verify N a0 a1 h = some (r, h')) (H : Heap) (locs : List Loc) (ls : Array Slot) (hl : zhas ls 4 [(0, va_rf a0), (1, .int a1)]) (hW : z_W D base s h H) (hS : va_S (zA base) s.heap H locs) : W p l e rmX8_verify s m args below meth c H locs 0 0 (MQ below (zQ D base (some (.int r)) h') args s rmX8_verify.cells rmX8_verify.slots (zA base)) (F0 m 0 ls []) := by
  obtain ⟨hx, hb, hml, hown, hts, hret, hlk, hZ⟩ := id F
  unfold fX8_verify at hf
  refine zw_aload_n hx hb dX8_verify_0 rfl (lv_at hl.1 0 rfl) ?_
  obtain ⟨v1, e1, hf⟩ := ob hf
  refine zw_gR hx hb hts inX8 hown hW (ci := 8) rfl (by decide) 0 (by decide) (hts _ wd_109) e1 (fun _ _ => rfl) dX8_verify_1 ?_
  refine lv_iload_n hx hb dX8_verify_4 rfl (lv_at hl.1 1 rfl) ?_
  obtain ⟨a902, j2, hf⟩ := ob hf
  obtain ⟨q2, e2, hf⟩ := ob hf
  refine zw_callV (rest := []) (n := 1) F (kX6_methodAt (r := q2.1) (h' := q2.2) l D base v1 a1 h e2) 6 rfl (by decide) j2 wd_262 wd_263 wd_264 wd_2 wd_265 (by decide +kernel) ⟨by decide, by decide⟩ hW hS rfl hl.1.1 (by decide) rfl ⟨(by decide), (by decide)⟩ dX8_verify_5 (fun H locs hW hS => ?_)
  refine W.eq (g2 := F0 m 8 ls [va_rf q2.1]) rfl ?_
  refine zl_astore_n (lv' := [(2, va_rf q2.1), (0, va_rf a0), (1, .int a1)]) hx hb dX8_verify_8 rfl hl (by decide) rfl (fun ls hl => ?_)
  refine zw_aload_n hx hb dX8_verify_9 rfl (lv_at hl.1 0 rfl) ?_
  refine zw_ifnonnull (tgt := 15) hx hb dX8_verify_10 (by decide) (fun c3 => ?_) (fun c3 => ?_)
  · have hf := oiff c3 hf
    refine zw_aload_n hx hb dX8_verify_15 rfl (lv_at hl.1 1 rfl) ?_
    obtain ⟨v4, e4, hf⟩ := ob hf
    refine zw_gR hx hb hts inX8 hown hW (ci := 8) rfl (by decide) 1 (by decide) (hts _ wd_110) e4 (fun _ _ => rfl) dX8_verify_16 ?_
    refine zw_aload_n hx hb dX8_verify_19 rfl (lv_at hl.1 0 rfl) ?_
    obtain ⟨a905, j5, hf⟩ := ob hf
    obtain ⟨q5, e5, hf⟩ := ob hf
    refine zw_callV (rest := []) (n := 1) F (kX7_goOver (r := q5.1) (h' := q5.2) l D base N v4 q2.1 q2.2 e5) 7 rfl (by decide) j5 wd_386 wd_387 wd_388 wd_3 wd_389 (by decide +kernel) ⟨by decide, by decide⟩ hW hS rfl hl.1.1 (by decide) rfl ⟨(by decide), (by decide)⟩ dX8_verify_20 (fun H locs hW hS => ?_)
    refine W.eq (g2 := F0 m 23 ls [.int q5.1]) rfl ?_
    refine zl_istore_n (lv' := [(3, .int q5.1), (2, va_rf q2.1), (0, va_rf a0), (1, .int a1)]) hx hb dX8_verify_23 rfl hl (by decide) rfl (fun ls hl => ?_)
    refine lv_iload_n hx hb dX8_verify_24 rfl (lv_at hl.1 0 rfl) ?_
    refine lv_iconst (v := (-1)) hx hb dX8_verify_25 (by decide) ?_
    refine lv_icmp_ne (tgt := 33) hx hb dX8_verify_26 (by decide) (fun c6 => ?_) (fun c6 => ?_)
    · have hf := oiff c6 hf
      refine lv_iload_n hx hb dX8_verify_33 rfl (lv_at hl.1 0 rfl) ?_
      refine lv_iconst (v := 1) hx hb dX8_verify_34 (by decide) ?_
      refine lv_iadd hx hb dX8_verify_35 ?_
      obtain ⟨rfl, rfl⟩ := oret hf
      exact zw_ireturn F hW hS dX8_verify_36
    · have hf := oift c6 hf
      refine lv_iconst (v := 0) hx hb dX8_verify_29 (by decide) ?_
      refine lv_goto (tgt := 36) hx hb dX8_verify_30 (by decide) ?_
      obtain ⟨rfl, rfl⟩ := oret hf
      exact zw_ireturn F hW hS dX8_verify_36
  · have hf := oift c3 hf
    refine lv_iconst (v := (-1)) hx hb dX8_verify_13 (by decide) ?_
    obtain ⟨rfl, rfl⟩ := oret hf
    exact zw_ireturn F hW hS dX8_verify_14
set_option maxRecDepth 100000 in
set_option maxHeartbeats 4000000 in
theorem kX8_verify (l : Launch) (D : va_G) (base : Nat) (N : Nat) (a0 : Option Nat) (a1 : Int32) (h : zH) {r : Int32} {h' : zH} (hf : fX8_verify N a0 a1 h = some (r, h')) : zMet l D base yX8_verify cX8_verify 4 (some .int) rmX8_verify h [va_rf a0, .int a1] (some (.int r)) h' :=
  zMet.of (by decide +kernel) (fun v hv => by simp only [List.mem_cons, List.not_mem_nil, or_false] at hv; rcases hv with rfl | rfl <;> first | rfl | exact va_rf_cat _) (Nat.le_of_ble_eq_true rfl) (fun p e s m args below meth c ls F hi hl hW hS => kX8_verify_w N F a0 a1 h hf s.heap [] ls hl hW hS)
end
