section
variable {p : Program} {l : Launch} {e : Env} {s : State} {m : MethodId} {args : Array Value} {below : List Frame} {meth : Method} {c : Code} {D : va_G} {base : Nat}
set_option maxRecDepth 100000 in
set_option maxHeartbeats 4000000 in
theorem kX5_take_w (F : zF p s m args meth c cX5_take 2 RX5 (some .int)) {r : Int32} {h' : zH} (a0 : Option Nat) (h : zH) (hf : fX5_take a0 h = some (r, h')) (H : Heap) (locs : List Loc) (ls : Array Slot) (hl : zhas ls 2 [(0, va_rf a0)]) (hW : z_W D base s h H) (hS : va_S (zA base) s.heap H locs) : W p l e rmX5_take s m args below meth c H locs 0 0 (MQ below (zQ D base (some (.int r)) h') args s rmX5_take.cells rmX5_take.slots (zA base)) (F0 m 0 ls []) := by
  obtain ⟨hx, hb, hml, hown, hts, hret, hlk, hZ⟩ := id F
  unfold fX5_take at hf
  refine zw_aload_n hx hb dX5_take_0 rfl (lv_at hl.1 0 rfl) ?_
  obtain ⟨v1, e1, hf⟩ := ob hf
  refine zw_gR hx hb hts inX5 hown hW (ci := 5) rfl (by decide) 1 (by decide) (hts _ wd_80) e1 (fun _ _ => rfl) dX5_take_1 ?_
  refine zw_aload_n hx hb dX5_take_4 rfl (lv_at hl.1 0 rfl) ?_
  obtain ⟨v2, e2, hf⟩ := ob hf
  refine zw_gR hx hb hts inX5 hown hW (ci := 5) rfl (by decide) 1 (by decide) (hts _ wd_80) e2 (fun _ _ => rfl) dX5_take_5 ?_
  obtain ⟨v3, e3, hf⟩ := ob hf
  refine zw_gI hx hb hts inX4 hown hW (ci := 4) rfl (by decide) 3 (by decide) (hts _ wd_62) e3 (fun _ _ => rfl) dX5_take_8 ?_
  refine lv_iconst (v := 1) hx hb dX5_take_11 (by decide) ?_
  refine lv_isub hx hb dX5_take_12 ?_
  obtain ⟨a904, j4, hf⟩ := ob hf
  obtain ⟨q4, e4, hf⟩ := ob hf
  refine zw_callV (rest := []) (n := 1) F (kX4_placeAt (r := q4.1) (h' := q4.2) l D base v1 (v3 - 1) h e4) 4 rfl (by decide) j4 wd_486 wd_487 wd_488 wd_4 wd_489 (by decide +kernel) ⟨by decide, by decide⟩ hW hS rfl hl.1.1 (by decide) rfl ⟨(by decide), (by decide)⟩ dX5_take_13 (fun H locs hW hS => ?_)
  refine W.eq (g2 := F0 m 16 ls [.int q4.1]) rfl ?_
  refine zl_istore_n (lv' := [(1, .int q4.1), (0, va_rf a0)]) hx hb dX5_take_16 rfl hl (by decide) rfl (fun ls hl => ?_)
  refine lv_iload_n hx hb dX5_take_17 rfl (lv_at hl.1 0 rfl) ?_
  refine lv_iconst (v := (-1)) hx hb dX5_take_18 (by decide) ?_
  refine lv_icmp_ne (tgt := 30) hx hb dX5_take_19 (by decide) (fun c5 => ?_) (fun c5 => ?_)
  · have hf := oiff c5 hf
    refine zw_aload_n hx hb dX5_take_30 rfl (lv_at hl.1 1 rfl) ?_
    obtain ⟨v6, e6, hf⟩ := ob hf
    refine zw_gR hx hb hts inX5 hown hW (ci := 5) rfl (by decide) 1 (by decide) (hts _ wd_80) e6 (fun _ _ => rfl) dX5_take_31 ?_
    refine lv_dup hx hb dX5_take_34 (va_rf_cat _) ?_
    obtain ⟨v7, e7, hf⟩ := ob hf
    refine zw_gI hx hb hts inX4 hown hW (ci := 4) rfl (by decide) 3 (by decide) (hts _ wd_62) e7 (fun _ _ => rfl) dX5_take_35 ?_
    refine lv_iconst (v := 1) hx hb dX5_take_38 (by decide) ?_
    refine lv_isub hx hb dX5_take_39 ?_
    obtain ⟨h8, e8, hf⟩ := ob hf
    refine zw_pI hx hb hts inX4 tyX4 tyX4_ok nmX4 hown hW hS (ci := 4) rfl (by decide) 3 (by decide) (hts _ wd_62) (Or.inl rfl) (fun _ _ => rfl) rfl rfl e8 dX5_take_40 (fun H locs hW hS => ?_)
    refine lv_iload_n hx hb dX5_take_43 rfl (lv_at hl.1 0 rfl) ?_
    obtain ⟨rfl, rfl⟩ := oret hf
    exact zw_ireturn F hW hS dX5_take_44
  · have hf := oift c5 hf
    refine zw_aload_n hx hb dX5_take_22 rfl (lv_at hl.1 1 rfl) ?_
    refine lv_iconst (v := 0) hx hb dX5_take_23 (by decide) ?_
    obtain ⟨h9, e9, hf⟩ := ob hf
    obtain ⟨b9, e9⟩ := pZ_spec e9
    refine zw_pI hx hb hts inX5 tyX5 tyX5_ok nmX5 hown hW hS (ci := 5) rfl (by decide) 2 (by decide) (hts _ wd_81) (Or.inl rfl) (fun _ _ => rfl) (z_bool b9).1 (z_bool b9).2 e9 dX5_take_24 (fun H locs hW hS => ?_)
    refine lv_goto (tgt := 43) hx hb dX5_take_27 (by decide) ?_
    refine lv_iload_n hx hb dX5_take_43 rfl (lv_at hl.1 0 rfl) ?_
    obtain ⟨rfl, rfl⟩ := oret hf
    exact zw_ireturn F hW hS dX5_take_44
set_option maxRecDepth 100000 in
set_option maxHeartbeats 4000000 in
theorem kX5_take (l : Launch) (D : va_G) (base : Nat) (a0 : Option Nat) (h : zH) {r : Int32} {h' : zH} (hf : fX5_take a0 h = some (r, h')) : zMet l D base yX5_take cX5_take 2 (some .int) rmX5_take h [va_rf a0] (some (.int r)) h' :=
  zMet.of (by decide +kernel) (fun v hv => by simp only [List.mem_cons, List.not_mem_nil, or_false] at hv; subst hv; first | rfl | exact va_rf_cat _) (Nat.le_of_ble_eq_true rfl) (fun p e s m args below meth c ls F hi hl hW hS => kX5_take_w F a0 h hf s.heap [] ls hl hW hS)
set_option maxRecDepth 100000 in
set_option maxHeartbeats 4000000 in
theorem kX5_duplicate_w (F : zF p s m args meth c cX5_duplicate 2 RX5 none) {h' : zH} (a0 : Option Nat) (h : zH) (hf : fX5_duplicate a0 h = some h') (H : Heap) (locs : List Loc) (ls : Array Slot) (hl : zhas ls 2 [(0, va_rf a0)]) (hW : z_W D base s h H) (hS : va_S (zA base) s.heap H locs) : W p l e rmX5_duplicate s m args below meth c H locs 0 0 (MQ below (zQ D base none h') args s rmX5_duplicate.cells rmX5_duplicate.slots (zA base)) (F0 m 0 ls []) := by
  obtain ⟨hx, hb, hml, hown, hts, hret, hlk, hZ⟩ := id F
  unfold fX5_duplicate at hf
  refine zw_aload_n hx hb dX5_duplicate_0 rfl (lv_at hl.1 0 rfl) ?_
  obtain ⟨a901, j1, hf⟩ := ob hf
  obtain ⟨q1, e1, hf⟩ := ob hf
  refine zw_callV (rest := []) (n := 0) F (kX5_take (r := q1.1) (h' := q1.2) l D base a0 h e1) 5 rfl (by decide) j1 wd_482 wd_484 ws_11 wd_5 wd_485 (by decide +kernel) ⟨by decide, by decide⟩ hW hS rfl hl.1.1 (by decide) rfl ⟨(by decide), (by decide)⟩ dX5_duplicate_1 (fun H locs hW hS => ?_)
  refine W.eq (g2 := F0 m 4 ls [.int q1.1]) rfl ?_
  refine zl_istore_n (lv' := [(1, .int q1.1), (0, va_rf a0)]) hx hb dX5_duplicate_4 rfl hl (by decide) rfl (fun ls hl => ?_)
  refine zw_aload_n hx hb dX5_duplicate_5 rfl (lv_at hl.1 1 rfl) ?_
  refine lv_iload_n hx hb dX5_duplicate_6 rfl (lv_at hl.1 0 rfl) ?_
  obtain ⟨a902, j2, hf⟩ := ob hf
  obtain ⟨h2, e2, hf⟩ := ob hf
  refine zw_callV (rest := []) (n := 1) F (kX5_put l D base a0 q1.1 q1.2 e2) 5 rfl (by decide) j2 wd_465 wd_467 ws_8 wd_5 wd_468 (by decide +kernel) ⟨by decide, by decide⟩ hW hS rfl hl.1.1 (by decide) rfl ⟨(by decide), (by decide)⟩ dX5_duplicate_7 (fun H locs hW hS => ?_)
  refine W.eq (g2 := F0 m 10 ls []) rfl ?_
  refine zw_aload_n hx hb dX5_duplicate_10 rfl (lv_at hl.1 1 rfl) ?_
  refine lv_iload_n hx hb dX5_duplicate_11 rfl (lv_at hl.1 0 rfl) ?_
  obtain ⟨a903, j3, hf⟩ := ob hf
  obtain ⟨h3, e3, hf⟩ := ob hf
  refine zw_callV (rest := []) (n := 1) F (kX5_put l D base a0 q1.1 h2 e3) 5 rfl (by decide) j3 wd_465 wd_467 ws_8 wd_5 wd_468 (by decide +kernel) ⟨by decide, by decide⟩ hW hS rfl hl.1.1 (by decide) rfl ⟨(by decide), (by decide)⟩ dX5_duplicate_12 (fun H locs hW hS => ?_)
  refine W.eq (g2 := F0 m 15 ls []) rfl ?_
  obtain rfl := oretv hf
  exact zw_vreturn F hW hS dX5_duplicate_15
set_option maxRecDepth 100000 in
set_option maxHeartbeats 4000000 in
theorem kX5_duplicate (l : Launch) (D : va_G) (base : Nat) (a0 : Option Nat) (h : zH) {h' : zH} (hf : fX5_duplicate a0 h = some h') : zMet l D base yX5_duplicate cX5_duplicate 2 none rmX5_duplicate h [va_rf a0] none h' :=
  zMet.of (by decide +kernel) (fun v hv => by simp only [List.mem_cons, List.not_mem_nil, or_false] at hv; subst hv; first | rfl | exact va_rf_cat _) (Nat.le_of_ble_eq_true rfl) (fun p e s m args below meth c ls F hi hl hW hS => kX5_duplicate_w F a0 h hf s.heap [] ls hl hW hS)
set_option maxRecDepth 100000 in
set_option maxHeartbeats 4000000 in
theorem kX5_swap_w (F : zF p s m args meth c cX5_swap 3 RX5 none) {h' : zH} (a0 : Option Nat) (h : zH) (hf : fX5_swap a0 h = some h') (H : Heap) (locs : List Loc) (ls : Array Slot) (hl : zhas ls 3 [(0, va_rf a0)]) (hW : z_W D base s h H) (hS : va_S (zA base) s.heap H locs) : W p l e rmX5_swap s m args below meth c H locs 0 0 (MQ below (zQ D base none h') args s rmX5_swap.cells rmX5_swap.slots (zA base)) (F0 m 0 ls []) := by
  obtain ⟨hx, hb, hml, hown, hts, hret, hlk, hZ⟩ := id F
  unfold fX5_swap at hf
  refine zw_aload_n hx hb dX5_swap_0 rfl (lv_at hl.1 0 rfl) ?_
  obtain ⟨a901, j1, hf⟩ := ob hf
  obtain ⟨q1, e1, hf⟩ := ob hf
  refine zw_callV (rest := []) (n := 0) F (kX5_take (r := q1.1) (h' := q1.2) l D base a0 h e1) 5 rfl (by decide) j1 wd_482 wd_484 ws_11 wd_5 wd_485 (by decide +kernel) ⟨by decide, by decide⟩ hW hS rfl hl.1.1 (by decide) rfl ⟨(by decide), (by decide)⟩ dX5_swap_1 (fun H locs hW hS => ?_)
  refine W.eq (g2 := F0 m 4 ls [.int q1.1]) rfl ?_
  refine zl_istore_n (lv' := [(1, .int q1.1), (0, va_rf a0)]) hx hb dX5_swap_4 rfl hl (by decide) rfl (fun ls hl => ?_)
  refine zw_aload_n hx hb dX5_swap_5 rfl (lv_at hl.1 1 rfl) ?_
  obtain ⟨a902, j2, hf⟩ := ob hf
  obtain ⟨q2, e2, hf⟩ := ob hf
  refine zw_callV (rest := []) (n := 0) F (kX5_take (r := q2.1) (h' := q2.2) l D base a0 q1.2 e2) 5 rfl (by decide) j2 wd_482 wd_484 ws_11 wd_5 wd_485 (by decide +kernel) ⟨by decide, by decide⟩ hW hS rfl hl.1.1 (by decide) rfl ⟨(by decide), (by decide)⟩ dX5_swap_6 (fun H locs hW hS => ?_)
  refine W.eq (g2 := F0 m 9 ls [.int q2.1]) rfl ?_
  refine zl_istore_n (lv' := [(2, .int q2.1), (1, .int q1.1), (0, va_rf a0)]) hx hb dX5_swap_9 rfl hl (by decide) rfl (fun ls hl => ?_)
  refine zw_aload_n hx hb dX5_swap_10 rfl (lv_at hl.1 2 rfl) ?_
  refine lv_iload_n hx hb dX5_swap_11 rfl (lv_at hl.1 1 rfl) ?_
  obtain ⟨a903, j3, hf⟩ := ob hf
  obtain ⟨h3, e3, hf⟩ := ob hf
  refine zw_callV (rest := []) (n := 1) F (kX5_put l D base a0 q1.1 q2.2 e3) 5 rfl (by decide) j3 wd_465 wd_467 ws_8 wd_5 wd_468 (by decide +kernel) ⟨by decide, by decide⟩ hW hS rfl hl.1.1 (by decide) rfl ⟨(by decide), (by decide)⟩ dX5_swap_12 (fun H locs hW hS => ?_)
  refine W.eq (g2 := F0 m 15 ls []) rfl ?_
  refine zw_aload_n hx hb dX5_swap_15 rfl (lv_at hl.1 2 rfl) ?_
  refine lv_iload_n hx hb dX5_swap_16 rfl (lv_at hl.1 0 rfl) ?_
  obtain ⟨a904, j4, hf⟩ := ob hf
  obtain ⟨h4, e4, hf⟩ := ob hf
  refine zw_callV (rest := []) (n := 1) F (kX5_put l D base a0 q2.1 h3 e4) 5 rfl (by decide) j4 wd_465 wd_467 ws_8 wd_5 wd_468 (by decide +kernel) ⟨by decide, by decide⟩ hW hS rfl hl.1.1 (by decide) rfl ⟨(by decide), (by decide)⟩ dX5_swap_17 (fun H locs hW hS => ?_)
  refine W.eq (g2 := F0 m 20 ls []) rfl ?_
  obtain rfl := oretv hf
  exact zw_vreturn F hW hS dX5_swap_20
set_option maxRecDepth 100000 in
set_option maxHeartbeats 4000000 in
theorem kX5_swap (l : Launch) (D : va_G) (base : Nat) (a0 : Option Nat) (h : zH) {h' : zH} (hf : fX5_swap a0 h = some h') : zMet l D base yX5_swap cX5_swap 3 none rmX5_swap h [va_rf a0] none h' :=
  zMet.of (by decide +kernel) (fun v hv => by simp only [List.mem_cons, List.not_mem_nil, or_false] at hv; subst hv; first | rfl | exact va_rf_cat _) (Nat.le_of_ble_eq_true rfl) (fun p e s m args below meth c ls F hi hl hW hS => kX5_swap_w F a0 h hf s.heap [] ls hl hW hS)
set_option maxRecDepth 100000 in
set_option maxHeartbeats 4000000 in
theorem kX5_move_w (F : zF p s m args meth c cX5_move 2 RX5 none) {h' : zH} (a0 : Option Nat) (a1 : Option Nat) (h : zH) (hf : fX5_move a0 a1 h = some h') (H : Heap) (locs : List Loc) (ls : Array Slot) (hl : zhas ls 2 [(0, va_rf a0), (1, va_rf a1)]) (hW : z_W D base s h H) (hS : va_S (zA base) s.heap H locs) : W p l e rmX5_move s m args below meth c H locs 0 0 (MQ below (zQ D base none h') args s rmX5_move.cells rmX5_move.slots (zA base)) (F0 m 0 ls []) := by
  obtain ⟨hx, hb, hml, hown, hts, hret, hlk, hZ⟩ := id F
  unfold fX5_move at hf
  refine zw_aload_n hx hb dX5_move_0 rfl (lv_at hl.1 1 rfl) ?_
  obtain ⟨v1, e1, hf⟩ := ob hf
  refine zw_gI hx hb hts inX1 hown hW (ci := 1) rfl (by decide) 0 (by decide) (hts _ wd_328) e1 (fun _ _ => rfl) dX5_move_1 ?_
  by_cases c2 : v1 = 0
  · have hf := oift c2 hf
    refine zl_tab hx hb (0) (40) (tgt := 44) dX5_move_4 (by rw [c2]; decide) (by decide) ?_
    refine zw_aload_n hx hb dX5_move_44 rfl (lv_at hl.1 0 rfl) ?_
    refine lv_iconst (v := 0) hx hb dX5_move_45 (by decide) ?_
    obtain ⟨a903, j3, hf⟩ := ob hf
    obtain ⟨h3, e3, hf⟩ := ob hf
    refine zw_callV (rest := []) (n := 1) F (kX5_put l D base a0 0 h e3) 5 rfl (by decide) j3 wd_465 wd_467 ws_8 wd_5 wd_468 (by decide +kernel) ⟨by decide, by decide⟩ hW hS rfl hl.1.1 (by decide) rfl ⟨(by decide), (by decide)⟩ dX5_move_46 (fun H locs hW hS => ?_)
    refine W.eq (g2 := F0 m 49 ls []) rfl ?_
    refine lv_goto (tgt := 109) hx hb dX5_move_49 (by decide) ?_
    obtain rfl := oretv hf
    exact zw_vreturn F hW hS dX5_move_109
  · have hf := oiff c2 hf
    by_cases c4 : v1 = 1
    · have hf := oift c4 hf
      refine zl_tab hx hb (1) (48) (tgt := 52) dX5_move_4 (by rw [c4]; decide) (by decide) ?_
      refine zw_aload_n hx hb dX5_move_52 rfl (lv_at hl.1 0 rfl) ?_
      refine lv_bipush (v := 97) hx hb dX5_move_53 (by decide) ?_
      obtain ⟨a905, j5, hf⟩ := ob hf
      obtain ⟨h5, e5, hf⟩ := ob hf
      refine zw_callV (rest := []) (n := 1) F (kX5_put l D base a0 97 h e5) 5 rfl (by decide) j5 wd_465 wd_467 ws_8 wd_5 wd_468 (by decide +kernel) ⟨by decide, by decide⟩ hW hS rfl hl.1.1 (by decide) rfl ⟨(by decide), (by decide)⟩ dX5_move_55 (fun H locs hW hS => ?_)
      refine W.eq (g2 := F0 m 58 ls []) rfl ?_
      refine lv_goto (tgt := 109) hx hb dX5_move_58 (by decide) ?_
      obtain rfl := oretv hf
      exact zw_vreturn F hW hS dX5_move_109
    · have hf := oiff c4 hf
      by_cases c6 : v1 = 2
      · have hf := oift c6 hf
        refine zl_tab hx hb (2) (57) (tgt := 61) dX5_move_4 (by rw [c6]; decide) (by decide) ?_
        refine zw_aload_n hx hb dX5_move_61 rfl (lv_at hl.1 0 rfl) ?_
        refine zw_aload_n hx hb dX5_move_62 rfl (lv_at hl.1 1 rfl) ?_
        obtain ⟨v7, e7, hf⟩ := ob hf
        refine zw_gI hx hb hts inX1 hown hW (ci := 1) rfl (by decide) 1 (by decide) (hts _ wd_330) e7 (fun _ _ => rfl) dX5_move_63 ?_
        obtain ⟨a908, j8, hf⟩ := ob hf
        obtain ⟨h8, e8, hf⟩ := ob hf
        refine zw_callV (rest := []) (n := 1) F (kX5_load l D base a0 v7 h e8) 5 rfl (by decide) j8 wd_474 wd_476 ws_10 wd_5 wd_477 (by decide +kernel) ⟨by decide, by decide⟩ hW hS rfl hl.1.1 (by decide) rfl ⟨(by decide), (by decide)⟩ dX5_move_66 (fun H locs hW hS => ?_)
        refine W.eq (g2 := F0 m 69 ls []) rfl ?_
        refine lv_goto (tgt := 109) hx hb dX5_move_69 (by decide) ?_
        obtain rfl := oretv hf
        exact zw_vreturn F hW hS dX5_move_109
      · have hf := oiff c6 hf
        by_cases c9 : v1 = 3
        · have hf := oift c9 hf
          refine zl_tab hx hb (3) (68) (tgt := 72) dX5_move_4 (by rw [c9]; decide) (by decide) ?_
          refine zw_aload_n hx hb dX5_move_72 rfl (lv_at hl.1 0 rfl) ?_
          obtain ⟨v10, e10, hf⟩ := ob hf
          refine zw_gR hx hb hts inX5 hown hW (ci := 5) rfl (by decide) 1 (by decide) (hts _ wd_80) e10 (fun _ _ => rfl) dX5_move_73 ?_
          refine zw_aload_n hx hb dX5_move_76 rfl (lv_at hl.1 1 rfl) ?_
          obtain ⟨v11, e11, hf⟩ := ob hf
          refine zw_gI hx hb hts inX1 hown hW (ci := 1) rfl (by decide) 1 (by decide) (hts _ wd_330) e11 (fun _ _ => rfl) dX5_move_77 ?_
          refine zw_aload_n hx hb dX5_move_80 rfl (lv_at hl.1 0 rfl) ?_
          obtain ⟨a912, j12, hf⟩ := ob hf
          obtain ⟨q12, e12, hf⟩ := ob hf
          refine zw_callV (rest := [.int v11, va_rf v10]) (n := 0) F (kX5_take (r := q12.1) (h' := q12.2) l D base a0 h e12) 5 rfl (by decide) j12 wd_482 wd_484 ws_11 wd_5 wd_485 (by decide +kernel) ⟨by decide, by decide⟩ hW hS rfl hl.1.1 (by simp only [List.map_cons, List.map_nil, va_rf_cat, z_icat, List.sum_cons, List.sum_nil]; decide) rfl ⟨(by decide), (by decide)⟩ dX5_move_81 (fun H locs hW hS => ?_)
          refine W.eq (g2 := F0 m 84 ls [.int q12.1, .int v11, va_rf v10]) rfl ?_
          obtain ⟨a913, j13, hf⟩ := ob hf
          obtain ⟨h13, e13, hf⟩ := ob hf
          refine zw_callV (rest := []) (n := 2) F (kX4_setLocal l D base v10 v11 q12.1 q12.2 e13) 4 rfl (by decide) j13 wd_490 wd_491 wd_492 wd_4 wd_493 (by decide +kernel) ⟨by decide, by decide⟩ hW hS rfl hl.1.1 (by decide) rfl ⟨(by decide), (by decide)⟩ dX5_move_84 (fun H locs hW hS => ?_)
          refine W.eq (g2 := F0 m 87 ls []) rfl ?_
          refine lv_goto (tgt := 109) hx hb dX5_move_87 (by decide) ?_
          obtain rfl := oretv hf
          exact zw_vreturn F hW hS dX5_move_109
        · have hf := oiff c9 hf
          by_cases c14 : v1 = 4
          · have hf := oift c14 hf
            refine zl_tab hx hb (4) (86) (tgt := 90) dX5_move_4 (by rw [c14]; decide) (by decide) ?_
            refine zw_aload_n hx hb dX5_move_90 rfl (lv_at hl.1 0 rfl) ?_
            obtain ⟨a915, j15, hf⟩ := ob hf
            obtain ⟨q15, e15, hf⟩ := ob hf
            refine zw_callV (rest := []) (n := 0) F (kX5_take (r := q15.1) (h' := q15.2) l D base a0 h e15) 5 rfl (by decide) j15 wd_482 wd_484 ws_11 wd_5 wd_485 (by decide +kernel) ⟨by decide, by decide⟩ hW hS rfl hl.1.1 (by decide) rfl ⟨(by decide), (by decide)⟩ dX5_move_91 (fun H locs hW hS => ?_)
            refine W.eq (g2 := F0 m 94 ls [.int q15.1]) rfl ?_
            refine lv_pop hx hb dX5_move_94 rfl ?_
            refine lv_goto (tgt := 109) hx hb dX5_move_95 (by decide) ?_
            obtain rfl := oretv hf
            exact zw_vreturn F hW hS dX5_move_109
          · have hf := oiff c14 hf
            by_cases c16 : v1 = 5
            · have hf := oift c16 hf
              refine zl_tab hx hb (5) (94) (tgt := 98) dX5_move_4 (by rw [c16]; decide) (by decide) ?_
              refine zw_aload_n hx hb dX5_move_98 rfl (lv_at hl.1 0 rfl) ?_
              obtain ⟨a917, j17, hf⟩ := ob hf
              obtain ⟨h17, e17, hf⟩ := ob hf
              refine zw_callV (rest := []) (n := 0) F (kX5_duplicate l D base a0 h e17) 5 rfl (by decide) j17 wd_494 wd_496 ws_12 wd_5 wd_497 (by decide +kernel) ⟨by decide, by decide⟩ hW hS rfl hl.1.1 (by decide) rfl ⟨(by decide), (by decide)⟩ dX5_move_99 (fun H locs hW hS => ?_)
              refine W.eq (g2 := F0 m 102 ls []) rfl ?_
              refine lv_goto (tgt := 109) hx hb dX5_move_102 (by decide) ?_
              obtain rfl := oretv hf
              exact zw_vreturn F hW hS dX5_move_109
            · have hf := oiff c16 hf
              refine zl_tabD hx hb [0, 1, 2, 3, 4, 5] (tgt := 105) dX5_move_4 (fun k hk => by simp only [List.mem_cons, List.not_mem_nil, or_false] at hk; rcases hk with rfl | rfl | rfl | rfl | rfl | rfl <;> first | exact lv_neT c2 (by decide) | exact lv_neT c4 (by decide) | exact lv_neT c6 (by decide) | exact lv_neT c9 (by decide) | exact lv_neT c14 (by decide) | exact lv_neT c16 (by decide)) (by decide) ?_
              refine zw_aload_n hx hb dX5_move_105 rfl (lv_at hl.1 0 rfl) ?_
              obtain ⟨a918, j18, hf⟩ := ob hf
              obtain ⟨h18, e18, hf⟩ := ob hf
              refine zw_callV (rest := []) (n := 0) F (kX5_swap l D base a0 h e18) 5 rfl (by decide) j18 wd_498 wd_500 ws_13 wd_5 wd_501 (by decide +kernel) ⟨by decide, by decide⟩ hW hS rfl hl.1.1 (by decide) rfl ⟨(by decide), (by decide)⟩ dX5_move_106 (fun H locs hW hS => ?_)
              refine W.eq (g2 := F0 m 109 ls []) rfl ?_
              obtain rfl := oretv hf
              exact zw_vreturn F hW hS dX5_move_109
set_option maxRecDepth 100000 in
set_option maxHeartbeats 4000000 in
theorem kX5_move (l : Launch) (D : va_G) (base : Nat) (a0 : Option Nat) (a1 : Option Nat) (h : zH) {h' : zH} (hf : fX5_move a0 a1 h = some h') : zMet l D base yX5_move cX5_move 2 none rmX5_move h [va_rf a0, va_rf a1] none h' :=
  zMet.of (by decide +kernel) (fun v hv => by simp only [List.mem_cons, List.not_mem_nil, or_false] at hv; rcases hv with rfl | rfl <;> first | rfl | exact va_rf_cat _) (Nat.le_of_ble_eq_true rfl) (fun p e s m args below meth c ls F hi hl hW hS => kX5_move_w F a0 a1 h hf s.heap [] ls hl hW hS)
set_option maxRecDepth 100000 in
set_option maxHeartbeats 4000000 in
theorem kX5_takeInt_b13 {h' : zH} (F : zF p s m args meth c cX5_takeInt 1 RX5 none) (s0 : Int32) (s1 : Option Nat) (h : zH) (hf : fX5_takeInt_b13 s0 s1 h = some h') (H : Heap) (locs : List Loc) (ls : Array Slot) (hl : zhas ls 1 []) (hW : z_W D base s h H) (hS : va_S (zA base) s.heap H locs) : W p l e rmX5_takeInt s m args below meth c H locs 0 0 (MQ below (zQ D base none h') args s rmX5_takeInt.cells rmX5_takeInt.slots (zA base)) (F0 m 13 ls [.int s0, va_rf s1]) := by
  obtain ⟨hx, hb, hml, hown, hts, hret, hlk, hZ⟩ := id F
  unfold fX5_takeInt_b13 at hf
  obtain ⟨a901, j1, hf⟩ := ob hf
  obtain ⟨h1, e1, hf⟩ := ob hf
  refine zw_callV (rest := []) (n := 1) F (kX5_need l D base s1 s0 h e1) 5 rfl (by decide) j1 wd_470 wd_472 ws_9 wd_5 wd_473 (by decide +kernel) ⟨by decide, by decide⟩ hW hS rfl hl.1.1 (by decide) rfl ⟨(by decide), (by decide)⟩ dX5_takeInt_13 (fun H locs hW hS => ?_)
  refine W.eq (g2 := F0 m 16 ls []) rfl ?_
  obtain rfl := oretv hf
  exact zw_vreturn F hW hS dX5_takeInt_16
set_option maxRecDepth 100000 in
set_option maxHeartbeats 4000000 in
theorem kX5_takeInt_w (F : zF p s m args meth c cX5_takeInt 1 RX5 none) {h' : zH} (a0 : Option Nat) (h : zH) (hf : fX5_takeInt a0 h = some h') (H : Heap) (locs : List Loc) (ls : Array Slot) (hl : zhas ls 1 [(0, va_rf a0)]) (hW : z_W D base s h H) (hS : va_S (zA base) s.heap H locs) : W p l e rmX5_takeInt s m args below meth c H locs 0 0 (MQ below (zQ D base none h') args s rmX5_takeInt.cells rmX5_takeInt.slots (zA base)) (F0 m 0 ls []) := by
  obtain ⟨hx, hb, hml, hown, hts, hret, hlk, hZ⟩ := id F
  unfold fX5_takeInt at hf
  refine zw_aload_n hx hb dX5_takeInt_0 rfl (lv_at hl.1 0 rfl) ?_
  refine zw_aload_n hx hb dX5_takeInt_1 rfl (lv_at hl.1 0 rfl) ?_
  obtain ⟨a901, j1, hf⟩ := ob hf
  obtain ⟨q1, e1, hf⟩ := ob hf
  refine zw_callV (rest := [va_rf a0]) (n := 0) F (kX5_take (r := q1.1) (h' := q1.2) l D base a0 h e1) 5 rfl (by decide) j1 wd_482 wd_484 ws_11 wd_5 wd_485 (by decide +kernel) ⟨by decide, by decide⟩ hW hS rfl hl.1.1 (by simp only [List.map_cons, List.map_nil, va_rf_cat, z_icat, List.sum_cons, List.sum_nil]; decide) rfl ⟨(by decide), (by decide)⟩ dX5_takeInt_2 (fun H locs hW hS => ?_)
  refine W.eq (g2 := F0 m 5 ls [.int q1.1, va_rf a0]) rfl ?_
  refine lv_if_ne (tgt := 12) hx hb dX5_takeInt_5 (by decide) (fun c2 => ?_) (fun c2 => ?_)
  · have hf := oiff c2 hf
    refine lv_iconst (v := 0) hx hb dX5_takeInt_12 (by decide) ?_
    exact kX5_takeInt_b13 F 0 a0 q1.2 hf H locs ls (z_sub hl [] rfl) hW hS
  · have hf := oift c2 hf
    refine lv_iconst (v := 1) hx hb dX5_takeInt_8 (by decide) ?_
    refine lv_goto (tgt := 13) hx hb dX5_takeInt_9 (by decide) ?_
    exact kX5_takeInt_b13 F 1 a0 q1.2 hf H locs ls (z_sub hl [] rfl) hW hS
set_option maxRecDepth 100000 in
set_option maxHeartbeats 4000000 in
theorem kX5_takeInt (l : Launch) (D : va_G) (base : Nat) (a0 : Option Nat) (h : zH) {h' : zH} (hf : fX5_takeInt a0 h = some h') : zMet l D base yX5_takeInt cX5_takeInt 1 none rmX5_takeInt h [va_rf a0] none h' :=
  zMet.of (by decide +kernel) (fun v hv => by simp only [List.mem_cons, List.not_mem_nil, or_false] at hv; subst hv; first | rfl | exact va_rf_cat _) (Nat.le_of_ble_eq_true rfl) (fun p e s m args below meth c ls F hi hl hW hS => kX5_takeInt_w F a0 h hf s.heap [] ls hl hW hS)
set_option maxRecDepth 100000 in
set_option maxHeartbeats 4000000 in
theorem kX5_reckon_b14 {h' : zH} (F : zF p s m args meth c cX5_reckon 2 RX5 none) (l0 : Option Nat) (h : zH) (hf : fX5_reckon_b14 l0 h = some h') (H : Heap) (locs : List Loc) (ls : Array Slot) (hl : zhas ls 2 [(0, va_rf l0)]) (hW : z_W D base s h H) (hS : va_S (zA base) s.heap H locs) : W p l e rmX5_reckon s m args below meth c H locs 0 0 (MQ below (zQ D base none h') args s rmX5_reckon.cells rmX5_reckon.slots (zA base)) (F0 m 14 ls []) := by
  obtain ⟨hx, hb, hml, hown, hts, hret, hlk, hZ⟩ := id F
  unfold fX5_reckon_b14 at hf
  refine zw_aload_n hx hb dX5_reckon_14 rfl (lv_at hl.1 0 rfl) ?_
  refine lv_iconst (v := 0) hx hb dX5_reckon_15 (by decide) ?_
  obtain ⟨a901, j1, hf⟩ := ob hf
  obtain ⟨h1, e1, hf⟩ := ob hf
  refine zw_callV (rest := []) (n := 1) F (kX5_put l D base l0 0 h e1) 5 rfl (by decide) j1 wd_465 wd_467 ws_8 wd_5 wd_468 (by decide +kernel) ⟨by decide, by decide⟩ hW hS rfl hl.1.1 (by decide) rfl ⟨(by decide), (by decide)⟩ dX5_reckon_16 (fun H locs hW hS => ?_)
  refine W.eq (g2 := F0 m 19 ls []) rfl ?_
  obtain rfl := oretv hf
  exact zw_vreturn F hW hS dX5_reckon_19
set_option maxRecDepth 100000 in
set_option maxHeartbeats 4000000 in
theorem kX5_reckon_w (F : zF p s m args meth c cX5_reckon 2 RX5 none) {h' : zH} (a0 : Option Nat) (a1 : Int32) (h : zH) (hf : fX5_reckon a0 a1 h = some h') (H : Heap) (locs : List Loc) (ls : Array Slot) (hl : zhas ls 2 [(0, va_rf a0), (1, .int a1)]) (hW : z_W D base s h H) (hS : va_S (zA base) s.heap H locs) : W p l e rmX5_reckon s m args below meth c H locs 0 0 (MQ below (zQ D base none h') args s rmX5_reckon.cells rmX5_reckon.slots (zA base)) (F0 m 0 ls []) := by
  obtain ⟨hx, hb, hml, hown, hts, hret, hlk, hZ⟩ := id F
  unfold fX5_reckon at hf
  refine zw_aload_n hx hb dX5_reckon_0 rfl (lv_at hl.1 0 rfl) ?_
  obtain ⟨a901, j1, hf⟩ := ob hf
  obtain ⟨h1, e1, hf⟩ := ob hf
  refine zw_callV (rest := []) (n := 0) F (kX5_takeInt l D base a0 h e1) 5 rfl (by decide) j1 wd_506 wd_508 ws_15 wd_5 wd_509 (by decide +kernel) ⟨by decide, by decide⟩ hW hS rfl hl.1.1 (by decide) rfl ⟨(by decide), (by decide)⟩ dX5_reckon_1 (fun H locs hW hS => ?_)
  refine W.eq (g2 := F0 m 4 ls []) rfl ?_
  refine lv_iload_n hx hb dX5_reckon_4 rfl (lv_at hl.1 1 rfl) ?_
  refine lv_bipush (v := 17) hx hb dX5_reckon_5 (by decide) ?_
  refine lv_icmp_gt (tgt := 14) hx hb dX5_reckon_7 (by decide) (fun c2 => ?_) (fun c2 => ?_)
  · have hf := oift c2 hf
    exact kX5_reckon_b14 F a0 h1 hf H locs ls (z_sub hl [0] rfl) hW hS
  · have hf := oiff c2 hf
    refine zw_aload_n hx hb dX5_reckon_10 rfl (lv_at hl.1 0 rfl) ?_
    obtain ⟨a903, j3, hf⟩ := ob hf
    obtain ⟨h3, e3, hf⟩ := ob hf
    refine zw_callV (rest := []) (n := 0) F (kX5_takeInt l D base a0 h1 e3) 5 rfl (by decide) j3 wd_506 wd_508 ws_15 wd_5 wd_509 (by decide +kernel) ⟨by decide, by decide⟩ hW hS rfl hl.1.1 (by decide) rfl ⟨(by decide), (by decide)⟩ dX5_reckon_11 (fun H locs hW hS => ?_)
    refine W.eq (g2 := F0 m 14 ls []) rfl ?_
    exact kX5_reckon_b14 F a0 h3 hf H locs ls (z_sub hl [0] rfl) hW hS
set_option maxRecDepth 100000 in
set_option maxHeartbeats 4000000 in
theorem kX5_reckon (l : Launch) (D : va_G) (base : Nat) (a0 : Option Nat) (a1 : Int32) (h : zH) {h' : zH} (hf : fX5_reckon a0 a1 h = some h') : zMet l D base yX5_reckon cX5_reckon 2 none rmX5_reckon h [va_rf a0, .int a1] none h' :=
  zMet.of (by decide +kernel) (fun v hv => by simp only [List.mem_cons, List.not_mem_nil, or_false] at hv; rcases hv with rfl | rfl <;> first | rfl | exact va_rf_cat _) (Nat.le_of_ble_eq_true rfl) (fun p e s m args below meth c ls F hi hl hW hS => kX5_reckon_w F a0 a1 h hf s.heap [] ls hl hW hS)
set_option maxRecDepth 100000 in
set_option maxHeartbeats 4000000 in
theorem kX5_takeReference_w (F : zF p s m args meth c cX5_takeReference 1 RX5 none) {h' : zH} (a0 : Option Nat) (h : zH) (hf : fX5_takeReference a0 h = some h') (H : Heap) (locs : List Loc) (ls : Array Slot) (hl : zhas ls 1 [(0, va_rf a0)]) (hW : z_W D base s h H) (hS : va_S (zA base) s.heap H locs) : W p l e rmX5_takeReference s m args below meth c H locs 0 0 (MQ below (zQ D base none h') args s rmX5_takeReference.cells rmX5_takeReference.slots (zA base)) (F0 m 0 ls []) := by
  obtain ⟨hx, hb, hml, hown, hts, hret, hlk, hZ⟩ := id F
  unfold fX5_takeReference at hf
  refine zw_aload_n hx hb dX5_takeReference_0 rfl (lv_at hl.1 0 rfl) ?_
  refine zw_aload_n hx hb dX5_takeReference_1 rfl (lv_at hl.1 0 rfl) ?_
  obtain ⟨a901, j1, hf⟩ := ob hf
  obtain ⟨q1, e1, hf⟩ := ob hf
  refine zw_callV (rest := [va_rf a0]) (n := 0) F (kX5_take (r := q1.1) (h' := q1.2) l D base a0 h e1) 5 rfl (by decide) j1 wd_482 wd_484 ws_11 wd_5 wd_485 (by decide +kernel) ⟨by decide, by decide⟩ hW hS rfl hl.1.1 (by simp only [List.map_cons, List.map_nil, va_rf_cat, z_icat, List.sum_cons, List.sum_nil]; decide) rfl ⟨(by decide), (by decide)⟩ dX5_takeReference_2 (fun H locs hW hS => ?_)
  refine W.eq (g2 := F0 m 5 ls [.int q1.1, va_rf a0]) rfl ?_
  obtain ⟨q2, e2, hf⟩ := ob hf
  refine zw_callSN (rest := [va_rf a0]) (n := 1) F (kX8_isReference (r := q2.1) (h' := q2.2) l D base q1.1 q1.2 e2) wd_518 wd_427 wd_1 wd_428 (by decide +kernel) ⟨by decide, by decide⟩ hW hS rfl hl.1.1 (by simp only [List.map_cons, List.map_nil, va_rf_cat, z_icat, List.sum_cons, List.sum_nil]; decide) rfl ⟨(by decide), (by decide)⟩ dX5_takeReference_5 (fun H locs hW hS => ?_)
  refine W.eq (g2 := F0 m 8 ls [.int q2.1, va_rf a0]) rfl ?_
  obtain ⟨a903, j3, hf⟩ := ob hf
  obtain ⟨h3, e3, hf⟩ := ob hf
  refine zw_callV (rest := []) (n := 1) F (kX5_need l D base a0 q2.1 q2.2 e3) 5 rfl (by decide) j3 wd_470 wd_472 ws_9 wd_5 wd_473 (by decide +kernel) ⟨by decide, by decide⟩ hW hS rfl hl.1.1 (by decide) rfl ⟨(by decide), (by decide)⟩ dX5_takeReference_8 (fun H locs hW hS => ?_)
  refine W.eq (g2 := F0 m 11 ls []) rfl ?_
  obtain rfl := oretv hf
  exact zw_vreturn F hW hS dX5_takeReference_11
set_option maxRecDepth 100000 in
set_option maxHeartbeats 4000000 in
theorem kX5_takeReference (l : Launch) (D : va_G) (base : Nat) (a0 : Option Nat) (h : zH) {h' : zH} (hf : fX5_takeReference a0 h = some h') : zMet l D base yX5_takeReference cX5_takeReference 1 none rmX5_takeReference h [va_rf a0] none h' :=
  zMet.of (by decide +kernel) (fun v hv => by simp only [List.mem_cons, List.not_mem_nil, or_false] at hv; subst hv; first | rfl | exact va_rf_cat _) (Nat.le_of_ble_eq_true rfl) (fun p e s m args below meth c ls F hi hl hW hS => kX5_takeReference_w F a0 h hf s.heap [] ls hl hW hS)
set_option maxRecDepth 100000 in
set_option maxHeartbeats 4000000 in
theorem kX5_branch_w (F : zF p s m args meth c cX5_branch 2 RX5 none) {h' : zH} (a0 : Option Nat) (a1 : Int32) (h : zH) (hf : fX5_branch a0 a1 h = some h') (H : Heap) (locs : List Loc) (ls : Array Slot) (hl : zhas ls 2 [(0, va_rf a0), (1, .int a1)]) (hW : z_W D base s h H) (hS : va_S (zA base) s.heap H locs) : W p l e rmX5_branch s m args below meth c H locs 0 0 (MQ below (zQ D base none h') args s rmX5_branch.cells rmX5_branch.slots (zA base)) (F0 m 0 ls []) := by
  obtain ⟨hx, hb, hml, hown, hts, hret, hlk, hZ⟩ := id F
  unfold fX5_branch at hf
  refine lv_iload_n hx hb dX5_branch_0 rfl (lv_at hl.1 1 rfl) ?_
  by_cases c1 : a1 = 19
  · have hf := oift c1 hf
    refine zl_tab hx hb (19) (39) (tgt := 40) dX5_branch_1 (by rw [c1]; decide) (by decide) ?_
    refine zw_aload_n hx hb dX5_branch_40 rfl (lv_at hl.1 0 rfl) ?_
    obtain ⟨a902, j2, hf⟩ := ob hf
    obtain ⟨h2, e2, hf⟩ := ob hf
    refine zw_callV (rest := []) (n := 0) F (kX5_takeInt l D base a0 h e2) 5 rfl (by decide) j2 wd_506 wd_508 ws_15 wd_5 wd_509 (by decide +kernel) ⟨by decide, by decide⟩ hW hS rfl hl.1.1 (by decide) rfl ⟨(by decide), (by decide)⟩ dX5_branch_41 (fun H locs hW hS => ?_)
    refine W.eq (g2 := F0 m 44 ls []) rfl ?_
    refine lv_goto (tgt := 76) hx hb dX5_branch_44 (by decide) ?_
    obtain rfl := oretv hf
    exact zw_vreturn F hW hS dX5_branch_76
  · have hf := oiff c1 hf
    by_cases c3 : a1 = 20
    · have hf := oift c3 hf
      refine zl_tab hx hb (20) (46) (tgt := 47) dX5_branch_1 (by rw [c3]; decide) (by decide) ?_
      refine zw_aload_n hx hb dX5_branch_47 rfl (lv_at hl.1 0 rfl) ?_
      obtain ⟨a904, j4, hf⟩ := ob hf
      obtain ⟨h4, e4, hf⟩ := ob hf
      refine zw_callV (rest := []) (n := 0) F (kX5_takeInt l D base a0 h e4) 5 rfl (by decide) j4 wd_506 wd_508 ws_15 wd_5 wd_509 (by decide +kernel) ⟨by decide, by decide⟩ hW hS rfl hl.1.1 (by decide) rfl ⟨(by decide), (by decide)⟩ dX5_branch_48 (fun H locs hW hS => ?_)
      refine W.eq (g2 := F0 m 51 ls []) rfl ?_
      refine zw_aload_n hx hb dX5_branch_51 rfl (lv_at hl.1 0 rfl) ?_
      obtain ⟨a905, j5, hf⟩ := ob hf
      obtain ⟨h5, e5, hf⟩ := ob hf
      refine zw_callV (rest := []) (n := 0) F (kX5_takeInt l D base a0 h4 e5) 5 rfl (by decide) j5 wd_506 wd_508 ws_15 wd_5 wd_509 (by decide +kernel) ⟨by decide, by decide⟩ hW hS rfl hl.1.1 (by decide) rfl ⟨(by decide), (by decide)⟩ dX5_branch_52 (fun H locs hW hS => ?_)
      refine W.eq (g2 := F0 m 55 ls []) rfl ?_
      refine lv_goto (tgt := 76) hx hb dX5_branch_55 (by decide) ?_
      obtain rfl := oretv hf
      exact zw_vreturn F hW hS dX5_branch_76
    · have hf := oiff c3 hf
      by_cases c6 : a1 = 21
      · have hf := oift c6 hf
        refine zl_tab hx hb (21) (57) (tgt := 58) dX5_branch_1 (by rw [c6]; decide) (by decide) ?_
        refine zw_aload_n hx hb dX5_branch_58 rfl (lv_at hl.1 0 rfl) ?_
        obtain ⟨a907, j7, hf⟩ := ob hf
        obtain ⟨h7, e7, hf⟩ := ob hf
        refine zw_callV (rest := []) (n := 0) F (kX5_takeReference l D base a0 h e7) 5 rfl (by decide) j7 wd_514 wd_516 ws_17 wd_5 wd_517 (by decide +kernel) ⟨by decide, by decide⟩ hW hS rfl hl.1.1 (by decide) rfl ⟨(by decide), (by decide)⟩ dX5_branch_59 (fun H locs hW hS => ?_)
        refine W.eq (g2 := F0 m 62 ls []) rfl ?_
        refine lv_goto (tgt := 76) hx hb dX5_branch_62 (by decide) ?_
        obtain rfl := oretv hf
        exact zw_vreturn F hW hS dX5_branch_76
      · have hf := oiff c6 hf
        by_cases c8 : a1 = 22
        · have hf := oift c8 hf
          refine zl_tab hx hb (22) (57) (tgt := 58) dX5_branch_1 (by rw [c8]; decide) (by decide) ?_
          refine zw_aload_n hx hb dX5_branch_58 rfl (lv_at hl.1 0 rfl) ?_
          obtain ⟨a909, j9, hf⟩ := ob hf
          obtain ⟨h9, e9, hf⟩ := ob hf
          refine zw_callV (rest := []) (n := 0) F (kX5_takeReference l D base a0 h e9) 5 rfl (by decide) j9 wd_514 wd_516 ws_17 wd_5 wd_517 (by decide +kernel) ⟨by decide, by decide⟩ hW hS rfl hl.1.1 (by decide) rfl ⟨(by decide), (by decide)⟩ dX5_branch_59 (fun H locs hW hS => ?_)
          refine W.eq (g2 := F0 m 62 ls []) rfl ?_
          refine lv_goto (tgt := 76) hx hb dX5_branch_62 (by decide) ?_
          obtain rfl := oretv hf
          exact zw_vreturn F hW hS dX5_branch_76
        · have hf := oiff c8 hf
          by_cases c10 : a1 = 23
          · have hf := oift c10 hf
            refine zl_tab hx hb (23) (64) (tgt := 65) dX5_branch_1 (by rw [c10]; decide) (by decide) ?_
            refine zw_aload_n hx hb dX5_branch_65 rfl (lv_at hl.1 0 rfl) ?_
            obtain ⟨a911, j11, hf⟩ := ob hf
            obtain ⟨h11, e11, hf⟩ := ob hf
            refine zw_callV (rest := []) (n := 0) F (kX5_takeReference l D base a0 h e11) 5 rfl (by decide) j11 wd_514 wd_516 ws_17 wd_5 wd_517 (by decide +kernel) ⟨by decide, by decide⟩ hW hS rfl hl.1.1 (by decide) rfl ⟨(by decide), (by decide)⟩ dX5_branch_66 (fun H locs hW hS => ?_)
            refine W.eq (g2 := F0 m 69 ls []) rfl ?_
            refine zw_aload_n hx hb dX5_branch_69 rfl (lv_at hl.1 0 rfl) ?_
            obtain ⟨a912, j12, hf⟩ := ob hf
            obtain ⟨h12, e12, hf⟩ := ob hf
            refine zw_callV (rest := []) (n := 0) F (kX5_takeReference l D base a0 h11 e12) 5 rfl (by decide) j12 wd_514 wd_516 ws_17 wd_5 wd_517 (by decide +kernel) ⟨by decide, by decide⟩ hW hS rfl hl.1.1 (by decide) rfl ⟨(by decide), (by decide)⟩ dX5_branch_70 (fun H locs hW hS => ?_)
            refine W.eq (g2 := F0 m 73 ls []) rfl ?_
            refine lv_goto (tgt := 76) hx hb dX5_branch_73 (by decide) ?_
            obtain rfl := oretv hf
            exact zw_vreturn F hW hS dX5_branch_76
          · have hf := oiff c10 hf
            by_cases c13 : a1 = 24
            · have hf := oift c13 hf
              refine zl_tab hx hb (24) (64) (tgt := 65) dX5_branch_1 (by rw [c13]; decide) (by decide) ?_
              refine zw_aload_n hx hb dX5_branch_65 rfl (lv_at hl.1 0 rfl) ?_
              obtain ⟨a914, j14, hf⟩ := ob hf
              obtain ⟨h14, e14, hf⟩ := ob hf
              refine zw_callV (rest := []) (n := 0) F (kX5_takeReference l D base a0 h e14) 5 rfl (by decide) j14 wd_514 wd_516 ws_17 wd_5 wd_517 (by decide +kernel) ⟨by decide, by decide⟩ hW hS rfl hl.1.1 (by decide) rfl ⟨(by decide), (by decide)⟩ dX5_branch_66 (fun H locs hW hS => ?_)
              refine W.eq (g2 := F0 m 69 ls []) rfl ?_
              refine zw_aload_n hx hb dX5_branch_69 rfl (lv_at hl.1 0 rfl) ?_
              obtain ⟨a915, j15, hf⟩ := ob hf
              obtain ⟨h15, e15, hf⟩ := ob hf
              refine zw_callV (rest := []) (n := 0) F (kX5_takeReference l D base a0 h14 e15) 5 rfl (by decide) j15 wd_514 wd_516 ws_17 wd_5 wd_517 (by decide +kernel) ⟨by decide, by decide⟩ hW hS rfl hl.1.1 (by decide) rfl ⟨(by decide), (by decide)⟩ dX5_branch_70 (fun H locs hW hS => ?_)
              refine W.eq (g2 := F0 m 73 ls []) rfl ?_
              refine lv_goto (tgt := 76) hx hb dX5_branch_73 (by decide) ?_
              obtain rfl := oretv hf
              exact zw_vreturn F hW hS dX5_branch_76
            · have hf := oiff c13 hf
              refine zl_tabD hx hb [19, 20, 21, 22, 23, 24] (tgt := 76) dX5_branch_1 (fun k hk => by simp only [List.mem_cons, List.not_mem_nil, or_false] at hk; rcases hk with rfl | rfl | rfl | rfl | rfl | rfl <;> first | exact lv_neT c1 (by decide) | exact lv_neT c3 (by decide) | exact lv_neT c6 (by decide) | exact lv_neT c8 (by decide) | exact lv_neT c10 (by decide) | exact lv_neT c13 (by decide)) (by decide) ?_
              obtain rfl := oretv hf
              exact zw_vreturn F hW hS dX5_branch_76
set_option maxRecDepth 100000 in
set_option maxHeartbeats 4000000 in
theorem kX5_branch (l : Launch) (D : va_G) (base : Nat) (a0 : Option Nat) (a1 : Int32) (h : zH) {h' : zH} (hf : fX5_branch a0 a1 h = some h') : zMet l D base yX5_branch cX5_branch 2 none rmX5_branch h [va_rf a0, .int a1] none h' :=
  zMet.of (by decide +kernel) (fun v hv => by simp only [List.mem_cons, List.not_mem_nil, or_false] at hv; rcases hv with rfl | rfl <;> first | rfl | exact va_rf_cat _) (Nat.le_of_ble_eq_true rfl) (fun p e s m args below meth c ls F hi hl hW hS => kX5_branch_w F a0 a1 h hf s.heap [] ls hl hW hS)
set_option maxRecDepth 100000 in
set_option maxHeartbeats 4000000 in
theorem kX6_goesInto_w (F : zF p s m args meth c cX6_goesInto 5 RX6 (some .boolean)) {r : Int32} {h' : zH} (a0 : Option Nat) (a1 : Int32) (a2 : Int32) (h : zH) (hf : fX6_goesInto a0 a1 a2 h = some (r, h')) (H : Heap) (locs : List Loc) (ls : Array Slot) (hl : zhas ls 5 [(0, va_rf a0), (1, .int a1), (2, .int a2)]) (hW : z_W D base s h H) (hS : va_S (zA base) s.heap H locs) : W p l e rmX6_goesInto s m args below meth c H locs 0 0 (MQ below (zQ D base (some (.int r)) h') args s rmX6_goesInto.cells rmX6_goesInto.slots (zA base)) (F0 m 0 ls []) := by
  obtain ⟨hx, hb, hml, hown, hts, hret, hlk, hZ⟩ := id F
  unfold fX6_goesInto at hf
  refine lv_iload_n hx hb dX6_goesInto_0 rfl (lv_at hl.1 1 rfl) ?_
  refine lv_iload_n hx hb dX6_goesInto_1 rfl (lv_at hl.1 2 rfl) ?_
  refine lv_icmp_ne (tgt := 7) hx hb dX6_goesInto_2 (by decide) (fun c1 => ?_) (fun c1 => ?_)
  · have hf := oiff c1 hf
    refine lv_iload_n hx hb dX6_goesInto_7 rfl (lv_at hl.1 1 rfl) ?_
    refine lv_bipush (v := 97) hx hb dX6_goesInto_8 (by decide) ?_
    refine lv_icmp_ne (tgt := 32) hx hb dX6_goesInto_10 (by decide) (fun c2 => ?_) (fun c2 => ?_)
    · have hf := oiff c2 hf
      refine zw_aload_n hx hb dX6_goesInto_32 rfl (lv_at hl.1 0 rfl) ?_
      refine lv_iload_n hx hb dX6_goesInto_33 rfl (lv_at hl.1 1 rfl) ?_
      obtain ⟨a903, j3, hf⟩ := ob hf
      obtain ⟨q3, e3, hf⟩ := ob hf
      refine zw_callV (rest := []) (n := 1) F (kX6_kindOf (r := q3.1) (h' := q3.2) l D base a0 a1 h e3) 6 rfl (by decide) j3 wd_177 wd_179 ws_0 wd_2 wd_180 (by decide +kernel) ⟨by decide, by decide⟩ hW hS rfl hl.1.1 (by decide) rfl ⟨(by decide), (by decide)⟩ dX6_goesInto_34 (fun H locs hW hS => ?_)
      refine W.eq (g2 := F0 m 37 ls [va_rf q3.1]) rfl ?_
      refine zl_astore_n (lv' := [(3, va_rf q3.1), (0, va_rf a0), (1, .int a1), (2, .int a2)]) hx hb dX6_goesInto_37 rfl hl (by decide) rfl (fun ls hl => ?_)
      refine zw_aload_n hx hb dX6_goesInto_38 rfl (lv_at hl.1 1 rfl) ?_
      refine lv_iload_n hx hb dX6_goesInto_39 rfl (lv_at hl.1 3 rfl) ?_
      obtain ⟨a904, j4, hf⟩ := ob hf
      obtain ⟨q4, e4, hf⟩ := ob hf
      refine zw_callV (rest := []) (n := 1) F (kX6_kindOf (r := q4.1) (h' := q4.2) l D base a0 a2 q3.2 e4) 6 rfl (by decide) j4 wd_177 wd_179 ws_0 wd_2 wd_180 (by decide +kernel) ⟨by decide, by decide⟩ hW hS rfl hl.1.1 (by decide) rfl ⟨(by decide), (by decide)⟩ dX6_goesInto_40 (fun H locs hW hS => ?_)
      refine W.eq (g2 := F0 m 43 ls [va_rf q4.1]) rfl ?_
      refine zl_astore (lv' := [(4, va_rf q4.1), (3, va_rf q3.1), (0, va_rf a0), (1, .int a1), (2, .int a2)]) hx hb dX6_goesInto_43 hl (by decide) rfl (fun ls hl => ?_)
      refine zw_aload_n hx hb dX6_goesInto_45 rfl (lv_at hl.1 1 rfl) ?_
      refine zw_ifnull (tgt := 70) hx hb dX6_goesInto_46 (by decide) (fun c5 => ?_) (fun c5 => ?_)
      · have hf := oift c5 hf
        refine lv_iconst (v := 0) hx hb dX6_goesInto_70 (by decide) ?_
        obtain ⟨rfl, rfl⟩ := oret hf
        exact zw_zreturn F (by decide) hW hS dX6_goesInto_71
      · have hf := oiff c5 hf
        refine zw_aload hx hb dX6_goesInto_49 (lv_at hl.1 0 rfl) ?_
        refine zw_ifnull (tgt := 70) hx hb dX6_goesInto_51 (by decide) (fun c6 => ?_) (fun c6 => ?_)
        · have hf := oift c6 hf
          refine lv_iconst (v := 0) hx hb dX6_goesInto_70 (by decide) ?_
          obtain ⟨rfl, rfl⟩ := oret hf
          exact zw_zreturn F (by decide) hW hS dX6_goesInto_71
        · have hf := oiff c6 hf
          refine zw_aload_n hx hb dX6_goesInto_54 rfl (lv_at hl.1 1 rfl) ?_
          refine zw_aload hx hb dX6_goesInto_55 (lv_at hl.1 0 rfl) ?_
          obtain ⟨v7, e7, hf⟩ := ob hf
          refine zw_gI hx hb hts inX2 hown hW (ci := 2) rfl (by decide) 0 (by decide) (hts _ wd_137) e7 (fun _ _ => rfl) dX6_goesInto_57 ?_
          obtain ⟨a908, j8, hf⟩ := ob hf
          obtain ⟨q8, e8, hf⟩ := ob hf
          refine zw_callV (rest := []) (n := 1) F (kX2_isOrIsUnder (r := q8.1) (h' := q8.2) l D base q3.1 v7 q4.2 e8) 2 rfl (by decide) j8 wd_531 wd_532 wd_533 wd_7 wd_534 (by decide +kernel) ⟨by decide, by decide⟩ hW hS rfl hl.1.1 (by decide) rfl ⟨(by decide), (by decide)⟩ dX6_goesInto_60 (fun H locs hW hS => ?_)
          refine W.eq (g2 := F0 m 63 ls [.int q8.1]) rfl ?_
          refine lv_if_eq (tgt := 70) hx hb dX6_goesInto_63 (by decide) (fun c9 => ?_) (fun c9 => ?_)
          · have hf := oift c9 hf
            refine lv_iconst (v := 0) hx hb dX6_goesInto_70 (by decide) ?_
            obtain ⟨rfl, rfl⟩ := oret hf
            exact zw_zreturn F (by decide) hW hS dX6_goesInto_71
          · have hf := oiff c9 hf
            refine lv_iconst (v := 1) hx hb dX6_goesInto_66 (by decide) ?_
            refine lv_goto (tgt := 71) hx hb dX6_goesInto_67 (by decide) ?_
            obtain ⟨rfl, rfl⟩ := oret hf
            exact zw_zreturn F (by decide) hW hS dX6_goesInto_71
    · have hf := oift c2 hf
      refine lv_iload_n hx hb dX6_goesInto_13 rfl (lv_at hl.1 2 rfl) ?_
      obtain ⟨q10, e10, hf⟩ := ob hf
      refine zw_callSN (rest := []) (n := 1) F (kX8_isReference (r := q10.1) (h' := q10.2) l D base a2 h e10) wd_426 wd_427 wd_1 wd_428 (by decide +kernel) ⟨by decide, by decide⟩ hW hS rfl hl.1.1 (by decide) rfl ⟨(by decide), (by decide)⟩ dX6_goesInto_14 (fun H locs hW hS => ?_)
      refine W.eq (g2 := F0 m 17 ls [.int q10.1]) rfl ?_
      refine lv_if_eq (tgt := 30) hx hb dX6_goesInto_17 (by decide) (fun c11 => ?_) (fun c11 => ?_)
      · have hf := oift c11 hf
        refine lv_iconst (v := 0) hx hb dX6_goesInto_30 (by decide) ?_
        obtain ⟨rfl, rfl⟩ := oret hf
        exact zw_zreturn F (by decide) hW hS dX6_goesInto_31
      · have hf := oiff c11 hf
        refine lv_iload_n hx hb dX6_goesInto_20 rfl (lv_at hl.1 2 rfl) ?_
        refine lv_bipush (v := 98) hx hb dX6_goesInto_21 (by decide) ?_
        refine lv_icmp_eq (tgt := 30) hx hb dX6_goesInto_23 (by decide) (fun c12 => ?_) (fun c12 => ?_)
        · have hf := oift c12 hf
          refine lv_iconst (v := 0) hx hb dX6_goesInto_30 (by decide) ?_
          obtain ⟨rfl, rfl⟩ := oret hf
          exact zw_zreturn F (by decide) hW hS dX6_goesInto_31
        · have hf := oiff c12 hf
          refine lv_iconst (v := 1) hx hb dX6_goesInto_26 (by decide) ?_
          refine lv_goto (tgt := 31) hx hb dX6_goesInto_27 (by decide) ?_
          obtain ⟨rfl, rfl⟩ := oret hf
          exact zw_zreturn F (by decide) hW hS dX6_goesInto_31
  · have hf := oift c1 hf
    refine lv_iconst (v := 1) hx hb dX6_goesInto_5 (by decide) ?_
    obtain ⟨rfl, rfl⟩ := oret hf
    exact zw_zreturn F (by decide) hW hS dX6_goesInto_6
set_option maxRecDepth 100000 in
set_option maxHeartbeats 4000000 in
theorem kX6_goesInto (l : Launch) (D : va_G) (base : Nat) (a0 : Option Nat) (a1 : Int32) (a2 : Int32) (h : zH) {r : Int32} {h' : zH} (hf : fX6_goesInto a0 a1 a2 h = some (r, h')) : zMet l D base yX6_goesInto cX6_goesInto 5 (some .boolean) rmX6_goesInto h [va_rf a0, .int a1, .int a2] (some (.int r)) h' :=
  zMet.of (by decide +kernel) (fun v hv => by simp only [List.mem_cons, List.not_mem_nil, or_false] at hv; rcases hv with rfl | rfl | rfl <;> first | rfl | exact va_rf_cat _) (Nat.le_of_ble_eq_true rfl) (fun p e s m args below meth c ls F hi hl hW hS => kX6_goesInto_w F a0 a1 a2 h hf s.heap [] ls hl hW hS)
set_option maxRecDepth 100000 in
set_option maxHeartbeats 4000000 in
theorem kX5_takeInto_w (F : zF p s m args meth c cX5_takeInto 2 RX5 none) {h' : zH} (a0 : Option Nat) (a1 : Int32) (h : zH) (hf : fX5_takeInto a0 a1 h = some h') (H : Heap) (locs : List Loc) (ls : Array Slot) (hl : zhas ls 2 [(0, va_rf a0), (1, .int a1)]) (hW : z_W D base s h H) (hS : va_S (zA base) s.heap H locs) : W p l e rmX5_takeInto s m args below meth c H locs 0 0 (MQ below (zQ D base none h') args s rmX5_takeInto.cells rmX5_takeInto.slots (zA base)) (F0 m 0 ls []) := by
  obtain ⟨hx, hb, hml, hown, hts, hret, hlk, hZ⟩ := id F
  unfold fX5_takeInto at hf
  refine zw_aload_n hx hb dX5_takeInto_0 rfl (lv_at hl.1 0 rfl) ?_
  refine zw_aload_n hx hb dX5_takeInto_1 rfl (lv_at hl.1 0 rfl) ?_
  obtain ⟨v1, e1, hf⟩ := ob hf
  refine zw_gR hx hb hts inX5 hown hW (ci := 5) rfl (by decide) 0 (by decide) (hts _ wd_79) e1 (fun _ _ => rfl) dX5_takeInto_2 ?_
  refine zw_aload_n hx hb dX5_takeInto_5 rfl (lv_at hl.1 0 rfl) ?_
  obtain ⟨a902, j2, hf⟩ := ob hf
  obtain ⟨q2, e2, hf⟩ := ob hf
  refine zw_callV (rest := [va_rf v1, va_rf a0]) (n := 0) F (kX5_take (r := q2.1) (h' := q2.2) l D base a0 h e2) 5 rfl (by decide) j2 wd_482 wd_484 ws_11 wd_5 wd_485 (by decide +kernel) ⟨by decide, by decide⟩ hW hS rfl hl.1.1 (by simp only [List.map_cons, List.map_nil, va_rf_cat, z_icat, List.sum_cons, List.sum_nil]; decide) rfl ⟨(by decide), (by decide)⟩ dX5_takeInto_6 (fun H locs hW hS => ?_)
  refine W.eq (g2 := F0 m 9 ls [.int q2.1, va_rf v1, va_rf a0]) rfl ?_
  refine lv_iload_n hx hb dX5_takeInto_9 rfl (lv_at hl.1 1 rfl) ?_
  obtain ⟨a903, j3, hf⟩ := ob hf
  obtain ⟨q3, e3, hf⟩ := ob hf
  refine zw_callV (rest := [va_rf a0]) (n := 2) F (kX6_goesInto (r := q3.1) (h' := q3.2) l D base v1 q2.1 a1 q2.2 e3) 6 rfl (by decide) j3 wd_527 wd_528 wd_529 wd_2 wd_530 (by decide +kernel) ⟨by decide, by decide⟩ hW hS rfl hl.1.1 (by simp only [List.map_cons, List.map_nil, va_rf_cat, z_icat, List.sum_cons, List.sum_nil]; decide) rfl ⟨(by decide), (by decide)⟩ dX5_takeInto_10 (fun H locs hW hS => ?_)
  refine W.eq (g2 := F0 m 13 ls [.int q3.1, va_rf a0]) rfl ?_
  obtain ⟨a904, j4, hf⟩ := ob hf
  obtain ⟨h4, e4, hf⟩ := ob hf
  refine zw_callV (rest := []) (n := 1) F (kX5_need l D base a0 q3.1 q3.2 e4) 5 rfl (by decide) j4 wd_470 wd_472 ws_9 wd_5 wd_473 (by decide +kernel) ⟨by decide, by decide⟩ hW hS rfl hl.1.1 (by decide) rfl ⟨(by decide), (by decide)⟩ dX5_takeInto_13 (fun H locs hW hS => ?_)
  refine W.eq (g2 := F0 m 16 ls []) rfl ?_
  obtain rfl := oretv hf
  exact zw_vreturn F hW hS dX5_takeInto_16
set_option maxRecDepth 100000 in
set_option maxHeartbeats 4000000 in
theorem kX5_takeInto (l : Launch) (D : va_G) (base : Nat) (a0 : Option Nat) (a1 : Int32) (h : zH) {h' : zH} (hf : fX5_takeInto a0 a1 h = some h') : zMet l D base yX5_takeInto cX5_takeInto 2 none rmX5_takeInto h [va_rf a0, .int a1] none h' :=
  zMet.of (by decide +kernel) (fun v hv => by simp only [List.mem_cons, List.not_mem_nil, or_false] at hv; rcases hv with rfl | rfl <;> first | rfl | exact va_rf_cat _) (Nat.le_of_ble_eq_true rfl) (fun p e s m args below meth c ls F hi hl hW hS => kX5_takeInto_w F a0 a1 h hf s.heap [] ls hl hW hS)
set_option maxRecDepth 100000 in
set_option maxHeartbeats 4000000 in
theorem kX6_kindAt_w (F : zF p s m args meth c cX6_kindAt 2 RX6 (some (.object "CodeVerifier$Kind"))) {r : Option Nat} {h' : zH} (a0 : Option Nat) (a1 : Int32) (h : zH) (hf : fX6_kindAt a0 a1 h = some (r, h')) (H : Heap) (locs : List Loc) (ls : Array Slot) (hl : zhas ls 2 [(0, va_rf a0), (1, .int a1)]) (hW : z_W D base s h H) (hS : va_S (zA base) s.heap H locs) : W p l e rmX6_kindAt s m args below meth c H locs 0 0 (MQ below (zQ D base (some (va_rf r)) h') args s rmX6_kindAt.cells rmX6_kindAt.slots (zA base)) (F0 m 0 ls []) := by
  obtain ⟨hx, hb, hml, hown, hts, hret, hlk, hZ⟩ := id F
  unfold fX6_kindAt at hf
  refine lv_iload_n hx hb dX6_kindAt_0 rfl (lv_at hl.1 1 rfl) ?_
  refine lv_if_lt (tgt := 27) hx hb dX6_kindAt_1 (by decide) (fun c1 => ?_) (fun c1 => ?_)
  · have hf := oift c1 hf
    refine zw_null hx hb dX6_kindAt_27 ?_
    obtain ⟨rfl, rfl⟩ := oret hf
    exact zw_areturn F hW hS dX6_kindAt_28
  · have hf := oiff c1 hf
    refine lv_iload_n hx hb dX6_kindAt_4 rfl (lv_at hl.1 1 rfl) ?_
    refine zw_aload_n hx hb dX6_kindAt_5 rfl (lv_at hl.1 0 rfl) ?_
    obtain ⟨v2, e2, hf⟩ := ob hf
    refine zw_gI hx hb hts inX6 hown hW (ci := 6) rfl (by decide) 2 (by decide) (hts _ wd_33) e2 (fun _ _ => rfl) dX6_kindAt_6 ?_
    refine lv_icmp_ge (tgt := 27) hx hb dX6_kindAt_9 (by decide) (fun c3 => ?_) (fun c3 => ?_)
    · have hf := oift c3 hf
      refine zw_null hx hb dX6_kindAt_27 ?_
      obtain ⟨rfl, rfl⟩ := oret hf
      exact zw_areturn F hW hS dX6_kindAt_28
    · have hf := oiff c3 hf
      refine lv_iload_n hx hb dX6_kindAt_12 rfl (lv_at hl.1 1 rfl) ?_
      refine lv_bipush (v := 32) hx hb dX6_kindAt_13 (by decide) ?_
      refine lv_icmp_ge (tgt := 27) hx hb dX6_kindAt_15 (by decide) (fun c4 => ?_) (fun c4 => ?_)
      · have hf := oift c4 hf
        refine zw_null hx hb dX6_kindAt_27 ?_
        obtain ⟨rfl, rfl⟩ := oret hf
        exact zw_areturn F hW hS dX6_kindAt_28
      · have hf := oiff c4 hf
        refine zw_aload_n hx hb dX6_kindAt_18 rfl (lv_at hl.1 0 rfl) ?_
        obtain ⟨v5, e5, hf⟩ := ob hf
        refine zw_gR hx hb hts inX6 hown hW (ci := 6) rfl (by decide) 0 (by decide) (hts _ wd_31) e5 (fun _ _ => rfl) dX6_kindAt_19 ?_
        refine lv_iload_n hx hb dX6_kindAt_22 rfl (lv_at hl.1 1 rfl) ?_
        obtain ⟨v6, e6, hf⟩ := ob hf
        refine zw_aQ hx hb hW 104 (by decide) e6 dX6_kindAt_23 ?_
        refine lv_goto (tgt := 28) hx hb dX6_kindAt_24 (by decide) ?_
        obtain ⟨rfl, rfl⟩ := oret hf
        exact zw_areturn F hW hS dX6_kindAt_28
set_option maxRecDepth 100000 in
set_option maxHeartbeats 4000000 in
theorem kX6_kindAt (l : Launch) (D : va_G) (base : Nat) (a0 : Option Nat) (a1 : Int32) (h : zH) {r : Option Nat} {h' : zH} (hf : fX6_kindAt a0 a1 h = some (r, h')) : zMet l D base yX6_kindAt cX6_kindAt 2 (some (.object "CodeVerifier$Kind")) rmX6_kindAt h [va_rf a0, .int a1] (some (va_rf r)) h' :=
  zMet.of (by decide +kernel) (fun v hv => by simp only [List.mem_cons, List.not_mem_nil, or_false] at hv; rcases hv with rfl | rfl <;> first | rfl | exact va_rf_cat _) (Nat.le_of_ble_eq_true rfl) (fun p e s m args below meth c ls F hi hl hW hS => kX6_kindAt_w F a0 a1 h hf s.heap [] ls hl hW hS)
set_option maxRecDepth 100000 in
set_option maxHeartbeats 4000000 in
theorem kX6_fieldType_w (F : zF p s m args meth c cX6_fieldType 4 RX6 (some .int)) {r : Int32} {h' : zH} (a0 : Option Nat) (a1 : Int32) (a2 : Int32) (h : zH) (hf : fX6_fieldType a0 a1 a2 h = some (r, h')) (H : Heap) (locs : List Loc) (ls : Array Slot) (hl : zhas ls 4 [(0, va_rf a0), (1, .int a1), (2, .int a2)]) (hW : z_W D base s h H) (hS : va_S (zA base) s.heap H locs) : W p l e rmX6_fieldType s m args below meth c H locs 0 0 (MQ below (zQ D base (some (.int r)) h') args s rmX6_fieldType.cells rmX6_fieldType.slots (zA base)) (F0 m 0 ls []) := by
  obtain ⟨hx, hb, hml, hown, hts, hret, hlk, hZ⟩ := id F
  unfold fX6_fieldType at hf
  refine zw_aload_n hx hb dX6_fieldType_0 rfl (lv_at hl.1 0 rfl) ?_
  refine lv_iload_n hx hb dX6_fieldType_1 rfl (lv_at hl.1 1 rfl) ?_
  obtain ⟨a901, j1, hf⟩ := ob hf
  obtain ⟨q1, e1, hf⟩ := ob hf
  refine zw_callV (rest := []) (n := 1) F (kX6_kindAt (r := q1.1) (h' := q1.2) l D base a0 a1 h e1) 6 rfl (by decide) j1 wd_301 wd_121 wd_122 wd_2 wd_123 (by decide +kernel) ⟨by decide, by decide⟩ hW hS rfl hl.1.1 (by decide) rfl ⟨(by decide), (by decide)⟩ dX6_fieldType_2 (fun H locs hW hS => ?_)
  refine W.eq (g2 := F0 m 5 ls [va_rf q1.1]) rfl ?_
  refine zl_astore_n (lv' := [(3, va_rf q1.1), (0, va_rf a0), (1, .int a1), (2, .int a2)]) hx hb dX6_fieldType_5 rfl hl (by decide) rfl (fun ls hl => ?_)
  refine zw_aload_n hx hb dX6_fieldType_6 rfl (lv_at hl.1 0 rfl) ?_
  refine zw_ifnonnull (tgt := 14) hx hb dX6_fieldType_7 (by decide) (fun c2 => ?_) (fun c2 => ?_)
  · have hf := oiff c2 hf
    refine zw_aload_n hx hb dX6_fieldType_14 rfl (lv_at hl.1 0 rfl) ?_
    refine lv_iload_n hx hb dX6_fieldType_15 rfl (lv_at hl.1 3 rfl) ?_
    obtain ⟨a903, j3, hf⟩ := ob hf
    obtain ⟨q3, e3, hf⟩ := ob hf
    refine zw_callV (rest := []) (n := 1) F (kX2_fieldType (r := q3.1) (h' := q3.2) l D base q1.1 a2 q1.2 e3) 2 rfl (by decide) j3 wd_306 wd_307 wd_308 wd_7 wd_309 (by decide +kernel) ⟨by decide, by decide⟩ hW hS rfl hl.1.1 (by decide) rfl ⟨(by decide), (by decide)⟩ dX6_fieldType_16 (fun H locs hW hS => ?_)
    refine W.eq (g2 := F0 m 19 ls [.int q3.1]) rfl ?_
    obtain ⟨rfl, rfl⟩ := oret hf
    exact zw_ireturn F hW hS dX6_fieldType_19
  · have hf := oift c2 hf
    refine lv_iconst (v := (-1)) hx hb dX6_fieldType_10 (by decide) ?_
    refine lv_goto (tgt := 19) hx hb dX6_fieldType_11 (by decide) ?_
    obtain ⟨rfl, rfl⟩ := oret hf
    exact zw_ireturn F hW hS dX6_fieldType_19
set_option maxRecDepth 100000 in
set_option maxHeartbeats 4000000 in
theorem kX6_fieldType (l : Launch) (D : va_G) (base : Nat) (a0 : Option Nat) (a1 : Int32) (a2 : Int32) (h : zH) {r : Int32} {h' : zH} (hf : fX6_fieldType a0 a1 a2 h = some (r, h')) : zMet l D base yX6_fieldType cX6_fieldType 4 (some .int) rmX6_fieldType h [va_rf a0, .int a1, .int a2] (some (.int r)) h' :=
  zMet.of (by decide +kernel) (fun v hv => by simp only [List.mem_cons, List.not_mem_nil, or_false] at hv; rcases hv with rfl | rfl | rfl <;> first | rfl | exact va_rf_cat _) (Nat.le_of_ble_eq_true rfl) (fun p e s m args below meth c ls F hi hl hW hS => kX6_fieldType_w F a0 a1 a2 h hf s.heap [] ls hl hW hS)
set_option maxRecDepth 100000 in
set_option maxHeartbeats 4000000 in
theorem kX5_useObject_w (F : zF p s m args meth c cX5_useObject 3 RX5 none) {h' : zH} (a0 : Option Nat) (a1 : Option Nat) (h : zH) (hf : fX5_useObject a0 a1 h = some h') (H : Heap) (locs : List Loc) (ls : Array Slot) (hl : zhas ls 3 [(0, va_rf a0), (1, va_rf a1)]) (hW : z_W D base s h H) (hS : va_S (zA base) s.heap H locs) : W p l e rmX5_useObject s m args below meth c H locs 0 0 (MQ below (zQ D base none h') args s rmX5_useObject.cells rmX5_useObject.slots (zA base)) (F0 m 0 ls []) := by
  obtain ⟨hx, hb, hml, hown, hts, hret, hlk, hZ⟩ := id F
  unfold fX5_useObject at hf
  refine lv_iconst (v := 1) hx hb dX5_useObject_0 (by decide) ?_
  refine zw_aload_n hx hb dX5_useObject_1 rfl (lv_at hl.1 1 rfl) ?_
  obtain ⟨v1, e1, hf⟩ := ob hf
  refine zw_gI hx hb hts inX1 hown hW (ci := 1) rfl (by decide) 1 (by decide) (hts _ wd_330) e1 (fun _ _ => rfl) dX5_useObject_2 ?_
  refine lv_iadd hx hb dX5_useObject_5 ?_
  refine zl_istore_n (lv' := [(2, .int (1 + v1)), (0, va_rf a0), (1, va_rf a1)]) hx hb dX5_useObject_6 rfl hl (by decide) rfl (fun ls hl => ?_)
  refine zw_aload_n hx hb dX5_useObject_7 rfl (lv_at hl.1 2 rfl) ?_
  obtain ⟨v2, e2, hf⟩ := ob hf
  refine zw_gI hx hb hts inX1 hown hW (ci := 1) rfl (by decide) 0 (by decide) (hts _ wd_328) e2 (fun _ _ => rfl) dX5_useObject_8 ?_
  by_cases c3 : v2 = 26
  · have hf := oift c3 hf
    refine zl_tab hx hb (26) (29) (tgt := 40) dX5_useObject_11 (by rw [c3]; decide) (by decide) ?_
    refine zw_aload_n hx hb dX5_useObject_40 rfl (lv_at hl.1 1 rfl) ?_
    refine lv_iload_n hx hb dX5_useObject_41 rfl (lv_at hl.1 0 rfl) ?_
    obtain ⟨a904, j4, hf⟩ := ob hf
    obtain ⟨h4, e4, hf⟩ := ob hf
    refine zw_callV (rest := []) (n := 1) F (kX5_put l D base a0 (1 + v1) h e4) 5 rfl (by decide) j4 wd_465 wd_467 ws_8 wd_5 wd_468 (by decide +kernel) ⟨by decide, by decide⟩ hW hS rfl hl.1.1 (by decide) rfl ⟨(by decide), (by decide)⟩ dX5_useObject_42 (fun H locs hW hS => ?_)
    refine W.eq (g2 := F0 m 45 ls []) rfl ?_
    refine lv_goto (tgt := 123) hx hb dX5_useObject_45 (by decide) ?_
    obtain rfl := oretv hf
    exact zw_vreturn F hW hS dX5_useObject_123
  · have hf := oiff c3 hf
    by_cases c5 : v2 = 27
    · have hf := oift c5 hf
      refine zl_tab hx hb (27) (37) (tgt := 48) dX5_useObject_11 (by rw [c5]; decide) (by decide) ?_
      refine zw_aload_n hx hb dX5_useObject_48 rfl (lv_at hl.1 1 rfl) ?_
      refine lv_iload_n hx hb dX5_useObject_49 rfl (lv_at hl.1 0 rfl) ?_
      obtain ⟨a906, j6, hf⟩ := ob hf
      obtain ⟨h6, e6, hf⟩ := ob hf
      refine zw_callV (rest := []) (n := 1) F (kX5_takeInto l D base a0 (1 + v1) h e6) 5 rfl (by decide) j6 wd_523 wd_525 ws_19 wd_5 wd_526 (by decide +kernel) ⟨by decide, by decide⟩ hW hS rfl hl.1.1 (by decide) rfl ⟨(by decide), (by decide)⟩ dX5_useObject_50 (fun H locs hW hS => ?_)
      refine W.eq (g2 := F0 m 53 ls []) rfl ?_
      refine zw_aload_n hx hb dX5_useObject_53 rfl (lv_at hl.1 1 rfl) ?_
      refine zw_aload_n hx hb dX5_useObject_54 rfl (lv_at hl.1 1 rfl) ?_
      obtain ⟨v7, e7, hf⟩ := ob hf
      refine zw_gR hx hb hts inX5 hown hW (ci := 5) rfl (by decide) 0 (by decide) (hts _ wd_79) e7 (fun _ _ => rfl) dX5_useObject_55 ?_
      refine zw_aload_n hx hb dX5_useObject_58 rfl (lv_at hl.1 2 rfl) ?_
      obtain ⟨v8, e8, hf⟩ := ob hf
      refine zw_gI hx hb hts inX1 hown hW (ci := 1) rfl (by decide) 1 (by decide) (hts _ wd_330) e8 (fun _ _ => rfl) dX5_useObject_59 ?_
      refine zw_aload_n hx hb dX5_useObject_62 rfl (lv_at hl.1 2 rfl) ?_
      obtain ⟨v9, e9, hf⟩ := ob hf
      refine zw_gI hx hb hts inX1 hown hW (ci := 1) rfl (by decide) 2 (by decide) (hts _ wd_333) e9 (fun _ _ => rfl) dX5_useObject_63 ?_
      obtain ⟨a910, j10, hf⟩ := ob hf
      obtain ⟨q10, e10, hf⟩ := ob hf
      refine zw_callV (rest := [va_rf a0]) (n := 2) F (kX6_fieldType (r := q10.1) (h' := q10.2) l D base v7 v8 v9 h6 e10) 6 rfl (by decide) j10 wd_535 wd_303 wd_304 wd_2 wd_305 (by decide +kernel) ⟨by decide, by decide⟩ hW hS rfl hl.1.1 (by simp only [List.map_cons, List.map_nil, va_rf_cat, z_icat, List.sum_cons, List.sum_nil]; decide) rfl ⟨(by decide), (by decide)⟩ dX5_useObject_66 (fun H locs hW hS => ?_)
      refine W.eq (g2 := F0 m 69 ls [.int q10.1, va_rf a0]) rfl ?_
      obtain ⟨a911, j11, hf⟩ := ob hf
      obtain ⟨h11, e11, hf⟩ := ob hf
      refine zw_callV (rest := []) (n := 1) F (kX5_put l D base a0 q10.1 q10.2 e11) 5 rfl (by decide) j11 wd_465 wd_467 ws_8 wd_5 wd_468 (by decide +kernel) ⟨by decide, by decide⟩ hW hS rfl hl.1.1 (by decide) rfl ⟨(by decide), (by decide)⟩ dX5_useObject_69 (fun H locs hW hS => ?_)
      refine W.eq (g2 := F0 m 72 ls []) rfl ?_
      refine lv_goto (tgt := 123) hx hb dX5_useObject_72 (by decide) ?_
      obtain rfl := oretv hf
      exact zw_vreturn F hW hS dX5_useObject_123
    · have hf := oiff c5 hf
      by_cases c12 : v2 = 28
      · have hf := oift c12 hf
        refine zl_tab hx hb (28) (64) (tgt := 75) dX5_useObject_11 (by rw [c12]; decide) (by decide) ?_
        refine zw_aload_n hx hb dX5_useObject_75 rfl (lv_at hl.1 1 rfl) ?_
        refine zw_aload_n hx hb dX5_useObject_76 rfl (lv_at hl.1 1 rfl) ?_
        obtain ⟨v13, e13, hf⟩ := ob hf
        refine zw_gR hx hb hts inX5 hown hW (ci := 5) rfl (by decide) 0 (by decide) (hts _ wd_79) e13 (fun _ _ => rfl) dX5_useObject_77 ?_
        refine zw_aload_n hx hb dX5_useObject_80 rfl (lv_at hl.1 2 rfl) ?_
        obtain ⟨v14, e14, hf⟩ := ob hf
        refine zw_gI hx hb hts inX1 hown hW (ci := 1) rfl (by decide) 1 (by decide) (hts _ wd_330) e14 (fun _ _ => rfl) dX5_useObject_81 ?_
        refine zw_aload_n hx hb dX5_useObject_84 rfl (lv_at hl.1 2 rfl) ?_
        obtain ⟨v15, e15, hf⟩ := ob hf
        refine zw_gI hx hb hts inX1 hown hW (ci := 1) rfl (by decide) 2 (by decide) (hts _ wd_333) e15 (fun _ _ => rfl) dX5_useObject_85 ?_
        obtain ⟨a916, j16, hf⟩ := ob hf
        obtain ⟨q16, e16, hf⟩ := ob hf
        refine zw_callV (rest := [va_rf a0]) (n := 2) F (kX6_fieldType (r := q16.1) (h' := q16.2) l D base v13 v14 v15 h e16) 6 rfl (by decide) j16 wd_535 wd_303 wd_304 wd_2 wd_305 (by decide +kernel) ⟨by decide, by decide⟩ hW hS rfl hl.1.1 (by simp only [List.map_cons, List.map_nil, va_rf_cat, z_icat, List.sum_cons, List.sum_nil]; decide) rfl ⟨(by decide), (by decide)⟩ dX5_useObject_88 (fun H locs hW hS => ?_)
        refine W.eq (g2 := F0 m 91 ls [.int q16.1, va_rf a0]) rfl ?_
        obtain ⟨a917, j17, hf⟩ := ob hf
        obtain ⟨h17, e17, hf⟩ := ob hf
        refine zw_callV (rest := []) (n := 1) F (kX5_takeInto l D base a0 q16.1 q16.2 e17) 5 rfl (by decide) j17 wd_523 wd_525 ws_19 wd_5 wd_526 (by decide +kernel) ⟨by decide, by decide⟩ hW hS rfl hl.1.1 (by decide) rfl ⟨(by decide), (by decide)⟩ dX5_useObject_91 (fun H locs hW hS => ?_)
        refine W.eq (g2 := F0 m 94 ls []) rfl ?_
        refine zw_aload_n hx hb dX5_useObject_94 rfl (lv_at hl.1 1 rfl) ?_
        refine lv_iload_n hx hb dX5_useObject_95 rfl (lv_at hl.1 0 rfl) ?_
        obtain ⟨a918, j18, hf⟩ := ob hf
        obtain ⟨h18, e18, hf⟩ := ob hf
        refine zw_callV (rest := []) (n := 1) F (kX5_takeInto l D base a0 (1 + v1) h17 e18) 5 rfl (by decide) j18 wd_523 wd_525 ws_19 wd_5 wd_526 (by decide +kernel) ⟨by decide, by decide⟩ hW hS rfl hl.1.1 (by decide) rfl ⟨(by decide), (by decide)⟩ dX5_useObject_96 (fun H locs hW hS => ?_)
        refine W.eq (g2 := F0 m 99 ls []) rfl ?_
        refine lv_goto (tgt := 123) hx hb dX5_useObject_99 (by decide) ?_
        obtain rfl := oretv hf
        exact zw_vreturn F hW hS dX5_useObject_123
      · have hf := oiff c12 hf
        by_cases c19 : v2 = 29
        · have hf := oift c19 hf
          refine zl_tab hx hb (29) (91) (tgt := 102) dX5_useObject_11 (by rw [c19]; decide) (by decide) ?_
          refine zw_aload_n hx hb dX5_useObject_102 rfl (lv_at hl.1 1 rfl) ?_
          obtain ⟨a920, j20, hf⟩ := ob hf
          obtain ⟨h20, e20, hf⟩ := ob hf
          refine zw_callV (rest := []) (n := 0) F (kX5_takeReference l D base a0 h e20) 5 rfl (by decide) j20 wd_514 wd_516 ws_17 wd_5 wd_517 (by decide +kernel) ⟨by decide, by decide⟩ hW hS rfl hl.1.1 (by decide) rfl ⟨(by decide), (by decide)⟩ dX5_useObject_103 (fun H locs hW hS => ?_)
          refine W.eq (g2 := F0 m 106 ls []) rfl ?_
          refine zw_aload_n hx hb dX5_useObject_106 rfl (lv_at hl.1 1 rfl) ?_
          refine lv_iconst (v := 0) hx hb dX5_useObject_107 (by decide) ?_
          obtain ⟨a921, j21, hf⟩ := ob hf
          obtain ⟨h21, e21, hf⟩ := ob hf
          refine zw_callV (rest := []) (n := 1) F (kX5_put l D base a0 0 h20 e21) 5 rfl (by decide) j21 wd_465 wd_467 ws_8 wd_5 wd_468 (by decide +kernel) ⟨by decide, by decide⟩ hW hS rfl hl.1.1 (by decide) rfl ⟨(by decide), (by decide)⟩ dX5_useObject_108 (fun H locs hW hS => ?_)
          refine W.eq (g2 := F0 m 111 ls []) rfl ?_
          refine lv_goto (tgt := 123) hx hb dX5_useObject_111 (by decide) ?_
          obtain rfl := oretv hf
          exact zw_vreturn F hW hS dX5_useObject_123
        · have hf := oiff c19 hf
          refine zl_tabD hx hb [26, 27, 28, 29] (tgt := 114) dX5_useObject_11 (fun k hk => by simp only [List.mem_cons, List.not_mem_nil, or_false] at hk; rcases hk with rfl | rfl | rfl | rfl <;> first | exact lv_neT c3 (by decide) | exact lv_neT c5 (by decide) | exact lv_neT c12 (by decide) | exact lv_neT c19 (by decide)) (by decide) ?_
          refine zw_aload_n hx hb dX5_useObject_114 rfl (lv_at hl.1 1 rfl) ?_
          obtain ⟨a922, j22, hf⟩ := ob hf
          obtain ⟨h22, e22, hf⟩ := ob hf
          refine zw_callV (rest := []) (n := 0) F (kX5_takeReference l D base a0 h e22) 5 rfl (by decide) j22 wd_514 wd_516 ws_17 wd_5 wd_517 (by decide +kernel) ⟨by decide, by decide⟩ hW hS rfl hl.1.1 (by decide) rfl ⟨(by decide), (by decide)⟩ dX5_useObject_115 (fun H locs hW hS => ?_)
          refine W.eq (g2 := F0 m 118 ls []) rfl ?_
          refine zw_aload_n hx hb dX5_useObject_118 rfl (lv_at hl.1 1 rfl) ?_
          refine lv_iload_n hx hb dX5_useObject_119 rfl (lv_at hl.1 0 rfl) ?_
          obtain ⟨a923, j23, hf⟩ := ob hf
          obtain ⟨h23, e23, hf⟩ := ob hf
          refine zw_callV (rest := []) (n := 1) F (kX5_put l D base a0 (1 + v1) h22 e23) 5 rfl (by decide) j23 wd_465 wd_467 ws_8 wd_5 wd_468 (by decide +kernel) ⟨by decide, by decide⟩ hW hS rfl hl.1.1 (by decide) rfl ⟨(by decide), (by decide)⟩ dX5_useObject_120 (fun H locs hW hS => ?_)
          refine W.eq (g2 := F0 m 123 ls []) rfl ?_
          obtain rfl := oretv hf
          exact zw_vreturn F hW hS dX5_useObject_123
set_option maxRecDepth 100000 in
set_option maxHeartbeats 4000000 in
theorem kX5_useObject (l : Launch) (D : va_G) (base : Nat) (a0 : Option Nat) (a1 : Option Nat) (h : zH) {h' : zH} (hf : fX5_useObject a0 a1 h = some h') : zMet l D base yX5_useObject cX5_useObject 3 none rmX5_useObject h [va_rf a0, va_rf a1] none h' :=
  zMet.of (by decide +kernel) (fun v hv => by simp only [List.mem_cons, List.not_mem_nil, or_false] at hv; rcases hv with rfl | rfl <;> first | rfl | exact va_rf_cat _) (Nat.le_of_ble_eq_true rfl) (fun p e s m args below meth c ls F hi hl hW hS => kX5_useObject_w F a0 a1 h hf s.heap [] ls hl hW hS)
set_option maxRecDepth 100000 in
set_option maxHeartbeats 4000000 in
theorem kX8_rowOf_w (F : zF p s m args meth c cX8_rowOf 1 RX8 (some .int)) {r : Int32} {h' : zH} (a0 : Int32) (h : zH) (hf : fX8_rowOf a0 h = some (r, h')) (H : Heap) (locs : List Loc) (ls : Array Slot) (hl : zhas ls 1 [(0, .int a0)]) (hW : z_W D base s h H) (hS : va_S (zA base) s.heap H locs) : W p l e rmX8_rowOf s m args below meth c H locs 0 0 (MQ below (zQ D base (some (.int r)) h') args s rmX8_rowOf.cells rmX8_rowOf.slots (zA base)) (F0 m 0 ls []) := by
  obtain ⟨hx, hb, hml, hown, hts, hret, hlk, hZ⟩ := id F
  unfold fX8_rowOf at hf
  refine lv_bipush (v := 64) hx hb dX8_rowOf_0 (by decide) ?_
  refine lv_iload_n hx hb dX8_rowOf_2 rfl (lv_at hl.1 0 rfl) ?_
  refine lv_iadd hx hb dX8_rowOf_3 ?_
  obtain ⟨rfl, rfl⟩ := oret hf
  exact zw_ireturn F hW hS dX8_rowOf_4
set_option maxRecDepth 100000 in
set_option maxHeartbeats 4000000 in
theorem kX8_rowOf (l : Launch) (D : va_G) (base : Nat) (a0 : Int32) (h : zH) {r : Int32} {h' : zH} (hf : fX8_rowOf a0 h = some (r, h')) : zMet l D base yX8_rowOf cX8_rowOf 1 (some .int) rmX8_rowOf h [.int a0] (some (.int r)) h' :=
  zMet.of (by decide +kernel) (fun v hv => by simp only [List.mem_cons, List.not_mem_nil, or_false] at hv; subst hv; first | rfl | exact va_rf_cat _) (Nat.le_of_ble_eq_true rfl) (fun p e s m args below meth c ls F hi hl hW hS => kX8_rowOf_w F a0 h hf s.heap [] ls hl hW hS)
set_option maxRecDepth 100000 in
set_option maxHeartbeats 4000000 in
theorem kX8_isRowType_w (F : zF p s m args meth c cX8_isRowType 1 RX8 (some .boolean)) {r : Int32} {h' : zH} (a0 : Int32) (h : zH) (hf : fX8_isRowType a0 h = some (r, h')) (H : Heap) (locs : List Loc) (ls : Array Slot) (hl : zhas ls 1 [(0, .int a0)]) (hW : z_W D base s h H) (hS : va_S (zA base) s.heap H locs) : W p l e rmX8_isRowType s m args below meth c H locs 0 0 (MQ below (zQ D base (some (.int r)) h') args s rmX8_isRowType.cells rmX8_isRowType.slots (zA base)) (F0 m 0 ls []) := by
  obtain ⟨hx, hb, hml, hown, hts, hret, hlk, hZ⟩ := id F
  unfold fX8_isRowType at hf
  refine lv_iload_n hx hb dX8_isRowType_0 rfl (lv_at hl.1 0 rfl) ?_
  refine lv_bipush (v := 64) hx hb dX8_isRowType_1 (by decide) ?_
  refine lv_icmp_lt (tgt := 16) hx hb dX8_isRowType_3 (by decide) (fun c1 => ?_) (fun c1 => ?_)
  · have hf := oift c1 hf
    refine lv_iconst (v := 0) hx hb dX8_isRowType_16 (by decide) ?_
    obtain ⟨rfl, rfl⟩ := oret hf
    exact zw_zreturn F (by decide) hW hS dX8_isRowType_17
  · have hf := oiff c1 hf
    refine lv_iload_n hx hb dX8_isRowType_6 rfl (lv_at hl.1 0 rfl) ?_
    refine lv_bipush (v := 96) hx hb dX8_isRowType_7 (by decide) ?_
    refine lv_icmp_gt (tgt := 16) hx hb dX8_isRowType_9 (by decide) (fun c2 => ?_) (fun c2 => ?_)
    · have hf := oift c2 hf
      refine lv_iconst (v := 0) hx hb dX8_isRowType_16 (by decide) ?_
      obtain ⟨rfl, rfl⟩ := oret hf
      exact zw_zreturn F (by decide) hW hS dX8_isRowType_17
    · have hf := oiff c2 hf
      refine lv_iconst (v := 1) hx hb dX8_isRowType_12 (by decide) ?_
      refine lv_goto (tgt := 17) hx hb dX8_isRowType_13 (by decide) ?_
      obtain ⟨rfl, rfl⟩ := oret hf
      exact zw_zreturn F (by decide) hW hS dX8_isRowType_17
set_option maxRecDepth 100000 in
set_option maxHeartbeats 4000000 in
theorem kX8_isRowType (l : Launch) (D : va_G) (base : Nat) (a0 : Int32) (h : zH) {r : Int32} {h' : zH} (hf : fX8_isRowType a0 h = some (r, h')) : zMet l D base yX8_isRowType cX8_isRowType 1 (some .boolean) rmX8_isRowType h [.int a0] (some (.int r)) h' :=
  zMet.of (by decide +kernel) (fun v hv => by simp only [List.mem_cons, List.not_mem_nil, or_false] at hv; subst hv; first | rfl | exact va_rf_cat _) (Nat.le_of_ble_eq_true rfl) (fun p e s m args below meth c ls F hi hl hW hS => kX8_isRowType_w F a0 h hf s.heap [] ls hl hW hS)
set_option maxRecDepth 100000 in
set_option maxHeartbeats 4000000 in
theorem kX5_takeRow_b24 {r : Int32} {h' : zH} (F : zF p s m args meth c cX5_takeRow 2 RX5 (some .int)) (l1 : Int32) (s0 : Int32) (s1 : Option Nat) (h : zH) (hf : fX5_takeRow_b24 l1 s0 s1 h = some (r, h')) (H : Heap) (locs : List Loc) (ls : Array Slot) (hl : zhas ls 2 [(1, .int l1)]) (hW : z_W D base s h H) (hS : va_S (zA base) s.heap H locs) : W p l e rmX5_takeRow s m args below meth c H locs 0 0 (MQ below (zQ D base (some (.int r)) h') args s rmX5_takeRow.cells rmX5_takeRow.slots (zA base)) (F0 m 24 ls [.int s0, va_rf s1]) := by
  obtain ⟨hx, hb, hml, hown, hts, hret, hlk, hZ⟩ := id F
  unfold fX5_takeRow_b24 at hf
  obtain ⟨a901, j1, hf⟩ := ob hf
  obtain ⟨h1, e1, hf⟩ := ob hf
  refine zw_callV (rest := []) (n := 1) F (kX5_need l D base s1 s0 h e1) 5 rfl (by decide) j1 wd_470 wd_472 ws_9 wd_5 wd_473 (by decide +kernel) ⟨by decide, by decide⟩ hW hS rfl hl.1.1 (by decide) rfl ⟨(by decide), (by decide)⟩ dX5_takeRow_24 (fun H locs hW hS => ?_)
  refine W.eq (g2 := F0 m 27 ls []) rfl ?_
  refine lv_iload_n hx hb dX5_takeRow_27 rfl (lv_at hl.1 0 rfl) ?_
  obtain ⟨rfl, rfl⟩ := oret hf
  exact zw_ireturn F hW hS dX5_takeRow_28
set_option maxRecDepth 100000 in
set_option maxHeartbeats 4000000 in
theorem kX5_takeRow_b19 {r : Int32} {h' : zH} (F : zF p s m args meth c cX5_takeRow 2 RX5 (some .int)) (l1 : Int32) (s0 : Option Nat) (h : zH) (hf : fX5_takeRow_b19 l1 s0 h = some (r, h')) (H : Heap) (locs : List Loc) (ls : Array Slot) (hl : zhas ls 2 [(1, .int l1)]) (hW : z_W D base s h H) (hS : va_S (zA base) s.heap H locs) : W p l e rmX5_takeRow s m args below meth c H locs 0 0 (MQ below (zQ D base (some (.int r)) h') args s rmX5_takeRow.cells rmX5_takeRow.slots (zA base)) (F0 m 19 ls [va_rf s0]) := by
  obtain ⟨hx, hb, hml, hown, hts, hret, hlk, hZ⟩ := id F
  unfold fX5_takeRow_b19 at hf
  refine lv_iconst (v := 1) hx hb dX5_takeRow_19 (by decide) ?_
  refine lv_goto (tgt := 24) hx hb dX5_takeRow_20 (by decide) ?_
  exact kX5_takeRow_b24 F l1 1 s0 h hf H locs ls (z_sub hl [0] rfl) hW hS
set_option maxRecDepth 100000 in
set_option maxHeartbeats 4000000 in
theorem kX5_takeRow_w (F : zF p s m args meth c cX5_takeRow 2 RX5 (some .int)) {r : Int32} {h' : zH} (a0 : Option Nat) (h : zH) (hf : fX5_takeRow a0 h = some (r, h')) (H : Heap) (locs : List Loc) (ls : Array Slot) (hl : zhas ls 2 [(0, va_rf a0)]) (hW : z_W D base s h H) (hS : va_S (zA base) s.heap H locs) : W p l e rmX5_takeRow s m args below meth c H locs 0 0 (MQ below (zQ D base (some (.int r)) h') args s rmX5_takeRow.cells rmX5_takeRow.slots (zA base)) (F0 m 0 ls []) := by
  obtain ⟨hx, hb, hml, hown, hts, hret, hlk, hZ⟩ := id F
  unfold fX5_takeRow at hf
  refine zw_aload_n hx hb dX5_takeRow_0 rfl (lv_at hl.1 0 rfl) ?_
  obtain ⟨a901, j1, hf⟩ := ob hf
  obtain ⟨q1, e1, hf⟩ := ob hf
  refine zw_callV (rest := []) (n := 0) F (kX5_take (r := q1.1) (h' := q1.2) l D base a0 h e1) 5 rfl (by decide) j1 wd_482 wd_484 ws_11 wd_5 wd_485 (by decide +kernel) ⟨by decide, by decide⟩ hW hS rfl hl.1.1 (by decide) rfl ⟨(by decide), (by decide)⟩ dX5_takeRow_1 (fun H locs hW hS => ?_)
  refine W.eq (g2 := F0 m 4 ls [.int q1.1]) rfl ?_
  refine zl_istore_n (lv' := [(1, .int q1.1), (0, va_rf a0)]) hx hb dX5_takeRow_4 rfl hl (by decide) rfl (fun ls hl => ?_)
  refine zw_aload_n hx hb dX5_takeRow_5 rfl (lv_at hl.1 1 rfl) ?_
  refine lv_iload_n hx hb dX5_takeRow_6 rfl (lv_at hl.1 0 rfl) ?_
  obtain ⟨q2, e2, hf⟩ := ob hf
  refine zw_callSN (rest := [va_rf a0]) (n := 1) F (kX8_isRowType (r := q2.1) (h' := q2.2) l D base q1.1 q1.2 e2) wd_547 wd_172 wd_1 wd_173 (by decide +kernel) ⟨by decide, by decide⟩ hW hS rfl hl.1.1 (by simp only [List.map_cons, List.map_nil, va_rf_cat, z_icat, List.sum_cons, List.sum_nil]; decide) rfl ⟨(by decide), (by decide)⟩ dX5_takeRow_7 (fun H locs hW hS => ?_)
  refine W.eq (g2 := F0 m 10 ls [.int q2.1, va_rf a0]) rfl ?_
  refine lv_if_ne (tgt := 19) hx hb dX5_takeRow_10 (by decide) (fun c3 => ?_) (fun c3 => ?_)
  · have hf := oiff c3 hf
    exact kX5_takeRow_b19 F q1.1 a0 q2.2 hf H locs ls (z_sub hl [0] rfl) hW hS
  · have hf := oift c3 hf
    refine lv_iload_n hx hb dX5_takeRow_13 rfl (lv_at hl.1 0 rfl) ?_
    refine lv_bipush (v := 97) hx hb dX5_takeRow_14 (by decide) ?_
    refine lv_icmp_ne (tgt := 23) hx hb dX5_takeRow_16 (by decide) (fun c4 => ?_) (fun c4 => ?_)
    · have hf := oiff c4 hf
      refine lv_iconst (v := 0) hx hb dX5_takeRow_23 (by decide) ?_
      exact kX5_takeRow_b24 F q1.1 0 a0 q2.2 hf H locs ls (z_sub hl [0] rfl) hW hS
    · have hf := oift c4 hf
      exact kX5_takeRow_b19 F q1.1 a0 q2.2 hf H locs ls (z_sub hl [0] rfl) hW hS
set_option maxRecDepth 100000 in
set_option maxHeartbeats 4000000 in
theorem kX5_takeRow (l : Launch) (D : va_G) (base : Nat) (a0 : Option Nat) (h : zH) {r : Int32} {h' : zH} (hf : fX5_takeRow a0 h = some (r, h')) : zMet l D base yX5_takeRow cX5_takeRow 2 (some .int) rmX5_takeRow h [va_rf a0] (some (.int r)) h' :=
  zMet.of (by decide +kernel) (fun v hv => by simp only [List.mem_cons, List.not_mem_nil, or_false] at hv; subst hv; first | rfl | exact va_rf_cat _) (Nat.le_of_ble_eq_true rfl) (fun p e s m args below meth c ls F hi hl hW hS => kX5_takeRow_w F a0 h hf s.heap [] ls hl hW hS)
set_option maxRecDepth 100000 in
set_option maxHeartbeats 4000000 in
theorem kX8_elementOf_w (F : zF p s m args meth c cX8_elementOf 1 RX8 (some .int)) {r : Int32} {h' : zH} (a0 : Int32) (h : zH) (hf : fX8_elementOf a0 h = some (r, h')) (H : Heap) (locs : List Loc) (ls : Array Slot) (hl : zhas ls 1 [(0, .int a0)]) (hW : z_W D base s h H) (hS : va_S (zA base) s.heap H locs) : W p l e rmX8_elementOf s m args below meth c H locs 0 0 (MQ below (zQ D base (some (.int r)) h') args s rmX8_elementOf.cells rmX8_elementOf.slots (zA base)) (F0 m 0 ls []) := by
  obtain ⟨hx, hb, hml, hown, hts, hret, hlk, hZ⟩ := id F
  unfold fX8_elementOf at hf
  refine lv_iload_n hx hb dX8_elementOf_0 rfl (lv_at hl.1 0 rfl) ?_
  refine lv_bipush (v := 64) hx hb dX8_elementOf_1 (by decide) ?_
  refine lv_isub hx hb dX8_elementOf_3 ?_
  obtain ⟨rfl, rfl⟩ := oret hf
  exact zw_ireturn F hW hS dX8_elementOf_4
set_option maxRecDepth 100000 in
set_option maxHeartbeats 4000000 in
theorem kX8_elementOf (l : Launch) (D : va_G) (base : Nat) (a0 : Int32) (h : zH) {r : Int32} {h' : zH} (hf : fX8_elementOf a0 h = some (r, h')) : zMet l D base yX8_elementOf cX8_elementOf 1 (some .int) rmX8_elementOf h [.int a0] (some (.int r)) h' :=
  zMet.of (by decide +kernel) (fun v hv => by simp only [List.mem_cons, List.not_mem_nil, or_false] at hv; subst hv; first | rfl | exact va_rf_cat _) (Nat.le_of_ble_eq_true rfl) (fun p e s m args below meth c ls F hi hl hW hS => kX8_elementOf_w F a0 h hf s.heap [] ls hl hW hS)
end
