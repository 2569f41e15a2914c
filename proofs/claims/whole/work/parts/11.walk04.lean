section
variable {p : Program} {l : Launch} {e : Env} {s : State} {m : MethodId} {args : Array Value} {below : List Frame} {meth : Method} {c : Code} {D : va_G} {base : Nat}
set_option maxRecDepth 100000 in
set_option maxHeartbeats 4000000 in
theorem kX5_useRow_b138 {h' : zH} (F : zF p s m args meth c cX5_useRow 5 RX5 none) (s0 : Int32) (s1 : Option Nat) (h : zH) (hf : fX5_useRow_b138 s0 s1 h = some h') (H : Heap) (locs : List Loc) (ls : Array Slot) (hl : zhas ls 5 []) (hW : z_W D base s h H) (hS : va_S (zA base) s.heap H locs) : W p l e rmX5_useRow s m args below meth c H locs 0 0 (MQ below (zQ D base none h') args s rmX5_useRow.cells rmX5_useRow.slots (zA base)) (F0 m 138 ls [.int s0, va_rf s1]) := by
  obtain ⟨hx, hb, hml, hown, hts, hret, hlk, hZ⟩ := id F
  unfold fX5_useRow_b138 at hf
  obtain ⟨a901, j1, hf⟩ := ob hf
  obtain ⟨h1, e1, hf⟩ := ob hf
  refine zw_callV (rest := []) (n := 1) F (kX5_need l D base s1 s0 h e1) 5 rfl (by decide) j1 wd_470 wd_472 ws_9 wd_5 wd_473 (by decide +kernel) ⟨by decide, by decide⟩ hW hS rfl hl.1.1 (by decide) rfl ⟨(by decide), (by decide)⟩ dX5_useRow_138 (fun H locs hW hS => ?_)
  refine W.eq (g2 := F0 m 141 ls []) rfl ?_
  obtain rfl := oretv hf
  exact zw_vreturn F hW hS dX5_useRow_141
set_option maxRecDepth 100000 in
set_option maxHeartbeats 4000000 in
theorem kX5_useRow_b133 {h' : zH} (F : zF p s m args meth c cX5_useRow 5 RX5 none) (s0 : Option Nat) (h : zH) (hf : fX5_useRow_b133 s0 h = some h') (H : Heap) (locs : List Loc) (ls : Array Slot) (hl : zhas ls 5 []) (hW : z_W D base s h H) (hS : va_S (zA base) s.heap H locs) : W p l e rmX5_useRow s m args below meth c H locs 0 0 (MQ below (zQ D base none h') args s rmX5_useRow.cells rmX5_useRow.slots (zA base)) (F0 m 133 ls [va_rf s0]) := by
  obtain ⟨hx, hb, hml, hown, hts, hret, hlk, hZ⟩ := id F
  unfold fX5_useRow_b133 at hf
  refine lv_iconst (v := 1) hx hb dX5_useRow_133 (by decide) ?_
  refine lv_goto (tgt := 138) hx hb dX5_useRow_134 (by decide) ?_
  exact kX5_useRow_b138 F 1 s0 h hf H locs ls (z_sub hl [] rfl) hW hS
set_option maxRecDepth 100000 in
set_option maxHeartbeats 4000000 in
theorem kX5_useRow_b88 {h' : zH} (F : zF p s m args meth c cX5_useRow 5 RX5 none) (s0 : Int32) (s1 : Option Nat) (h : zH) (hf : fX5_useRow_b88 s0 s1 h = some h') (H : Heap) (locs : List Loc) (ls : Array Slot) (hl : zhas ls 5 []) (hW : z_W D base s h H) (hS : va_S (zA base) s.heap H locs) : W p l e rmX5_useRow s m args below meth c H locs 0 0 (MQ below (zQ D base none h') args s rmX5_useRow.cells rmX5_useRow.slots (zA base)) (F0 m 88 ls [.int s0, va_rf s1]) := by
  obtain ⟨hx, hb, hml, hown, hts, hret, hlk, hZ⟩ := id F
  unfold fX5_useRow_b88 at hf
  obtain ⟨a901, j1, hf⟩ := ob hf
  obtain ⟨h1, e1, hf⟩ := ob hf
  refine zw_callV (rest := []) (n := 1) F (kX5_put l D base s1 s0 h e1) 5 rfl (by decide) j1 wd_465 wd_467 ws_8 wd_5 wd_468 (by decide +kernel) ⟨by decide, by decide⟩ hW hS rfl hl.1.1 (by decide) rfl ⟨(by decide), (by decide)⟩ dX5_useRow_88 (fun H locs hW hS => ?_)
  refine W.eq (g2 := F0 m 91 ls []) rfl ?_
  refine lv_goto (tgt := 141) hx hb dX5_useRow_91 (by decide) ?_
  obtain rfl := oretv hf
  exact zw_vreturn F hW hS dX5_useRow_141
set_option maxRecDepth 100000 in
set_option maxHeartbeats 4000000 in
theorem kX5_useRow_w (F : zF p s m args meth c cX5_useRow 5 RX5 none) {h' : zH} (a0 : Option Nat) (a1 : Option Nat) (h : zH) (hf : fX5_useRow a0 a1 h = some h') (H : Heap) (locs : List Loc) (ls : Array Slot) (hl : zhas ls 5 [(0, va_rf a0), (1, va_rf a1)]) (hW : z_W D base s h H) (hS : va_S (zA base) s.heap H locs) : W p l e rmX5_useRow s m args below meth c H locs 0 0 (MQ below (zQ D base none h') args s rmX5_useRow.cells rmX5_useRow.slots (zA base)) (F0 m 0 ls []) := by
  obtain ⟨hx, hb, hml, hown, hts, hret, hlk, hZ⟩ := id F
  unfold fX5_useRow at hf
  refine zw_aload_n hx hb dX5_useRow_0 rfl (lv_at hl.1 1 rfl) ?_
  obtain ⟨v1, e1, hf⟩ := ob hf
  refine zw_gI hx hb hts inX1 hown hW (ci := 1) rfl (by decide) 0 (by decide) (hts _ wd_328) e1 (fun _ _ => rfl) dX5_useRow_1 ?_
  by_cases c2 : v1 = 31
  · have hf := oift c2 hf
    refine zl_tab hx hb (31) (28) (tgt := 32) dX5_useRow_4 (by rw [c2]; decide) (by decide) ?_
    refine zw_aload_n hx hb dX5_useRow_32 rfl (lv_at hl.1 0 rfl) ?_
    obtain ⟨a903, j3, hf⟩ := ob hf
    obtain ⟨h3, e3, hf⟩ := ob hf
    refine zw_callV (rest := []) (n := 0) F (kX5_takeInt l D base a0 h e3) 5 rfl (by decide) j3 wd_506 wd_508 ws_15 wd_5 wd_509 (by decide +kernel) ⟨by decide, by decide⟩ hW hS rfl hl.1.1 (by decide) rfl ⟨(by decide), (by decide)⟩ dX5_useRow_33 (fun H locs hW hS => ?_)
    refine W.eq (g2 := F0 m 36 ls []) rfl ?_
    refine zw_aload_n hx hb dX5_useRow_36 rfl (lv_at hl.1 0 rfl) ?_
    refine zw_aload_n hx hb dX5_useRow_37 rfl (lv_at hl.1 1 rfl) ?_
    obtain ⟨v4, e4, hf⟩ := ob hf
    refine zw_gI hx hb hts inX1 hown hW (ci := 1) rfl (by decide) 1 (by decide) (hts _ wd_330) e4 (fun _ _ => rfl) dX5_useRow_38 ?_
    obtain ⟨q5, e5, hf⟩ := ob hf
    refine zw_callSN (rest := [va_rf a0]) (n := 1) F (kX8_rowOf (r := q5.1) (h' := q5.2) l D base v4 h3 e5) wd_540 wd_541 wd_1 wd_542 (by decide +kernel) ⟨by decide, by decide⟩ hW hS rfl hl.1.1 (by simp only [List.map_cons, List.map_nil, va_rf_cat, z_icat, List.sum_cons, List.sum_nil]; decide) rfl ⟨(by decide), (by decide)⟩ dX5_useRow_41 (fun H locs hW hS => ?_)
    refine W.eq (g2 := F0 m 44 ls [.int q5.1, va_rf a0]) rfl ?_
    obtain ⟨a906, j6, hf⟩ := ob hf
    obtain ⟨h6, e6, hf⟩ := ob hf
    refine zw_callV (rest := []) (n := 1) F (kX5_put l D base a0 q5.1 q5.2 e6) 5 rfl (by decide) j6 wd_465 wd_467 ws_8 wd_5 wd_468 (by decide +kernel) ⟨by decide, by decide⟩ hW hS rfl hl.1.1 (by decide) rfl ⟨(by decide), (by decide)⟩ dX5_useRow_44 (fun H locs hW hS => ?_)
    refine W.eq (g2 := F0 m 47 ls []) rfl ?_
    refine lv_goto (tgt := 141) hx hb dX5_useRow_47 (by decide) ?_
    obtain rfl := oretv hf
    exact zw_vreturn F hW hS dX5_useRow_141
  · have hf := oiff c2 hf
    by_cases c7 : v1 = 32
    · have hf := oift c7 hf
      refine zl_tab hx hb (32) (46) (tgt := 50) dX5_useRow_4 (by rw [c7]; decide) (by decide) ?_
      refine zw_aload_n hx hb dX5_useRow_50 rfl (lv_at hl.1 0 rfl) ?_
      obtain ⟨a908, j8, hf⟩ := ob hf
      obtain ⟨q8, e8, hf⟩ := ob hf
      refine zw_callV (rest := []) (n := 0) F (kX5_takeRow (r := q8.1) (h' := q8.2) l D base a0 h e8) 5 rfl (by decide) j8 wd_543 wd_545 ws_21 wd_5 wd_546 (by decide +kernel) ⟨by decide, by decide⟩ hW hS rfl hl.1.1 (by decide) rfl ⟨(by decide), (by decide)⟩ dX5_useRow_51 (fun H locs hW hS => ?_)
      refine W.eq (g2 := F0 m 54 ls [.int q8.1]) rfl ?_
      refine lv_pop hx hb dX5_useRow_54 rfl ?_
      refine zw_aload_n hx hb dX5_useRow_55 rfl (lv_at hl.1 0 rfl) ?_
      refine lv_iconst (v := 0) hx hb dX5_useRow_56 (by decide) ?_
      obtain ⟨a909, j9, hf⟩ := ob hf
      obtain ⟨h9, e9, hf⟩ := ob hf
      refine zw_callV (rest := []) (n := 1) F (kX5_put l D base a0 0 q8.2 e9) 5 rfl (by decide) j9 wd_465 wd_467 ws_8 wd_5 wd_468 (by decide +kernel) ⟨by decide, by decide⟩ hW hS rfl hl.1.1 (by decide) rfl ⟨(by decide), (by decide)⟩ dX5_useRow_57 (fun H locs hW hS => ?_)
      refine W.eq (g2 := F0 m 60 ls []) rfl ?_
      refine lv_goto (tgt := 141) hx hb dX5_useRow_60 (by decide) ?_
      obtain rfl := oretv hf
      exact zw_vreturn F hW hS dX5_useRow_141
    · have hf := oiff c7 hf
      by_cases c10 : v1 = 33
      · have hf := oift c10 hf
        refine zl_tab hx hb (33) (59) (tgt := 63) dX5_useRow_4 (by rw [c10]; decide) (by decide) ?_
        refine zw_aload_n hx hb dX5_useRow_63 rfl (lv_at hl.1 0 rfl) ?_
        obtain ⟨a911, j11, hf⟩ := ob hf
        obtain ⟨h11, e11, hf⟩ := ob hf
        refine zw_callV (rest := []) (n := 0) F (kX5_takeInt l D base a0 h e11) 5 rfl (by decide) j11 wd_506 wd_508 ws_15 wd_5 wd_509 (by decide +kernel) ⟨by decide, by decide⟩ hW hS rfl hl.1.1 (by decide) rfl ⟨(by decide), (by decide)⟩ dX5_useRow_64 (fun H locs hW hS => ?_)
        refine W.eq (g2 := F0 m 67 ls []) rfl ?_
        refine zw_aload_n hx hb dX5_useRow_67 rfl (lv_at hl.1 0 rfl) ?_
        obtain ⟨a912, j12, hf⟩ := ob hf
        obtain ⟨q12, e12, hf⟩ := ob hf
        refine zw_callV (rest := []) (n := 0) F (kX5_takeRow (r := q12.1) (h' := q12.2) l D base a0 h11 e12) 5 rfl (by decide) j12 wd_543 wd_545 ws_21 wd_5 wd_546 (by decide +kernel) ⟨by decide, by decide⟩ hW hS rfl hl.1.1 (by decide) rfl ⟨(by decide), (by decide)⟩ dX5_useRow_68 (fun H locs hW hS => ?_)
        refine W.eq (g2 := F0 m 71 ls [.int q12.1]) rfl ?_
        refine zl_istore_n (lv' := [(2, .int q12.1), (0, va_rf a0), (1, va_rf a1)]) hx hb dX5_useRow_71 rfl hl (by decide) rfl (fun ls hl => ?_)
        refine zw_aload_n hx hb dX5_useRow_72 rfl (lv_at hl.1 1 rfl) ?_
        refine lv_iload_n hx hb dX5_useRow_73 rfl (lv_at hl.1 0 rfl) ?_
        refine lv_bipush (v := 97) hx hb dX5_useRow_74 (by decide) ?_
        refine lv_icmp_ne (tgt := 84) hx hb dX5_useRow_76 (by decide) (fun c13 => ?_) (fun c13 => ?_)
        · have hf := oiff c13 hf
          refine lv_iload_n hx hb dX5_useRow_84 rfl (lv_at hl.1 0 rfl) ?_
          obtain ⟨q14, e14, hf⟩ := ob hf
          refine zw_callSN (rest := [va_rf a0]) (n := 1) F (kX8_elementOf (r := q14.1) (h' := q14.2) l D base q12.1 q12.2 e14) wd_548 wd_175 wd_1 wd_176 (by decide +kernel) ⟨by decide, by decide⟩ hW hS rfl hl.1.1 (by simp only [List.map_cons, List.map_nil, va_rf_cat, z_icat, List.sum_cons, List.sum_nil]; decide) rfl ⟨(by decide), (by decide)⟩ dX5_useRow_85 (fun H locs hW hS => ?_)
          refine W.eq (g2 := F0 m 88 ls [.int q14.1, va_rf a0]) rfl ?_
          exact kX5_useRow_b88 F q14.1 a0 q14.2 hf H locs ls (z_sub hl [] rfl) hW hS
        · have hf := oift c13 hf
          refine lv_bipush (v := 97) hx hb dX5_useRow_79 (by decide) ?_
          refine lv_goto (tgt := 88) hx hb dX5_useRow_81 (by decide) ?_
          exact kX5_useRow_b88 F 97 a0 q12.2 hf H locs ls (z_sub hl [] rfl) hW hS
      · have hf := oiff c10 hf
        refine zl_tabD hx hb [31, 32, 33] (tgt := 94) dX5_useRow_4 (fun k hk => by simp only [List.mem_cons, List.not_mem_nil, or_false] at hk; rcases hk with rfl | rfl | rfl <;> first | exact lv_neT c2 (by decide) | exact lv_neT c7 (by decide) | exact lv_neT c10 (by decide)) (by decide) ?_
        refine zw_aload_n hx hb dX5_useRow_94 rfl (lv_at hl.1 0 rfl) ?_
        obtain ⟨a915, j15, hf⟩ := ob hf
        obtain ⟨q15, e15, hf⟩ := ob hf
        refine zw_callV (rest := []) (n := 0) F (kX5_take (r := q15.1) (h' := q15.2) l D base a0 h e15) 5 rfl (by decide) j15 wd_482 wd_484 ws_11 wd_5 wd_485 (by decide +kernel) ⟨by decide, by decide⟩ hW hS rfl hl.1.1 (by decide) rfl ⟨(by decide), (by decide)⟩ dX5_useRow_95 (fun H locs hW hS => ?_)
        refine W.eq (g2 := F0 m 98 ls [.int q15.1]) rfl ?_
        refine zl_istore_n (lv' := [(3, .int q15.1), (0, va_rf a0), (1, va_rf a1)]) hx hb dX5_useRow_98 rfl hl (by decide) rfl (fun ls hl => ?_)
        refine zw_aload_n hx hb dX5_useRow_99 rfl (lv_at hl.1 1 rfl) ?_
        obtain ⟨a916, j16, hf⟩ := ob hf
        obtain ⟨h16, e16, hf⟩ := ob hf
        refine zw_callV (rest := []) (n := 0) F (kX5_takeInt l D base a0 q15.2 e16) 5 rfl (by decide) j16 wd_506 wd_508 ws_15 wd_5 wd_509 (by decide +kernel) ⟨by decide, by decide⟩ hW hS rfl hl.1.1 (by decide) rfl ⟨(by decide), (by decide)⟩ dX5_useRow_100 (fun H locs hW hS => ?_)
        refine W.eq (g2 := F0 m 103 ls []) rfl ?_
        refine zw_aload_n hx hb dX5_useRow_103 rfl (lv_at hl.1 1 rfl) ?_
        obtain ⟨a917, j17, hf⟩ := ob hf
        obtain ⟨q17, e17, hf⟩ := ob hf
        refine zw_callV (rest := []) (n := 0) F (kX5_takeRow (r := q17.1) (h' := q17.2) l D base a0 h16 e17) 5 rfl (by decide) j17 wd_543 wd_545 ws_21 wd_5 wd_546 (by decide +kernel) ⟨by decide, by decide⟩ hW hS rfl hl.1.1 (by decide) rfl ⟨(by decide), (by decide)⟩ dX5_useRow_104 (fun H locs hW hS => ?_)
        refine W.eq (g2 := F0 m 107 ls [.int q17.1]) rfl ?_
        refine zl_istore (lv' := [(4, .int q17.1), (3, .int q15.1), (0, va_rf a0), (1, va_rf a1)]) hx hb dX5_useRow_107 hl (by decide) rfl (fun ls hl => ?_)
        refine zw_aload_n hx hb dX5_useRow_109 rfl (lv_at hl.1 2 rfl) ?_
        refine lv_iload hx hb dX5_useRow_110 (lv_at hl.1 0 rfl) ?_
        refine lv_bipush (v := 97) hx hb dX5_useRow_112 (by decide) ?_
        refine lv_icmp_eq (tgt := 133) hx hb dX5_useRow_114 (by decide) (fun c18 => ?_) (fun c18 => ?_)
        · have hf := oift c18 hf
          exact kX5_useRow_b133 F a0 q17.2 hf H locs ls (z_sub hl [] rfl) hW hS
        · have hf := oiff c18 hf
          refine zw_aload_n hx hb dX5_useRow_117 rfl (lv_at hl.1 2 rfl) ?_
          obtain ⟨v19, e19, hf⟩ := ob hf
          refine zw_gR hx hb hts inX5 hown hW (ci := 5) rfl (by decide) 0 (by decide) (hts _ wd_79) e19 (fun _ _ => rfl) dX5_useRow_118 ?_
          refine lv_iload_n hx hb dX5_useRow_121 rfl (lv_at hl.1 1 rfl) ?_
          refine lv_iload hx hb dX5_useRow_122 (lv_at hl.1 0 rfl) ?_
          obtain ⟨q20, e20, hf⟩ := ob hf
          refine zw_callSN (rest := [.int q15.1, va_rf v19, va_rf a0]) (n := 1) F (kX8_elementOf (r := q20.1) (h' := q20.2) l D base q17.1 q17.2 e20) wd_548 wd_175 wd_1 wd_176 (by decide +kernel) ⟨by decide, by decide⟩ hW hS rfl hl.1.1 (by simp only [List.map_cons, List.map_nil, va_rf_cat, z_icat, List.sum_cons, List.sum_nil]; decide) rfl ⟨(by decide), (by decide)⟩ dX5_useRow_124 (fun H locs hW hS => ?_)
          refine W.eq (g2 := F0 m 127 ls [.int q20.1, .int q15.1, va_rf v19, va_rf a0]) rfl ?_
          obtain ⟨a921, j21, hf⟩ := ob hf
          obtain ⟨q21, e21, hf⟩ := ob hf
          refine zw_callV (rest := [va_rf a0]) (n := 2) F (kX6_goesInto (r := q21.1) (h' := q21.2) l D base v19 q15.1 q20.1 q20.2 e21) 6 rfl (by decide) j21 wd_527 wd_528 wd_529 wd_2 wd_530 (by decide +kernel) ⟨by decide, by decide⟩ hW hS rfl hl.1.1 (by simp only [List.map_cons, List.map_nil, va_rf_cat, z_icat, List.sum_cons, List.sum_nil]; decide) rfl ⟨(by decide), (by decide)⟩ dX5_useRow_127 (fun H locs hW hS => ?_)
          refine W.eq (g2 := F0 m 130 ls [.int q21.1, va_rf a0]) rfl ?_
          refine lv_if_eq (tgt := 137) hx hb dX5_useRow_130 (by decide) (fun c22 => ?_) (fun c22 => ?_)
          · have hf := oift c22 hf
            refine lv_iconst (v := 0) hx hb dX5_useRow_137 (by decide) ?_
            exact kX5_useRow_b138 F 0 a0 q21.2 hf H locs ls (z_sub hl [] rfl) hW hS
          · have hf := oiff c22 hf
            exact kX5_useRow_b133 F a0 q21.2 hf H locs ls (z_sub hl [] rfl) hW hS
set_option maxRecDepth 100000 in
set_option maxHeartbeats 4000000 in
theorem kX5_useRow (l : Launch) (D : va_G) (base : Nat) (a0 : Option Nat) (a1 : Option Nat) (h : zH) {h' : zH} (hf : fX5_useRow a0 a1 h = some h') : zMet l D base yX5_useRow cX5_useRow 5 none rmX5_useRow h [va_rf a0, va_rf a1] none h' :=
  zMet.of (by decide +kernel) (fun v hv => by simp only [List.mem_cons, List.not_mem_nil, or_false] at hv; rcases hv with rfl | rfl <;> first | rfl | exact va_rf_cat _) (Nat.le_of_ble_eq_true rfl) (fun p e s m args below meth c ls F hi hl hW hS => kX5_useRow_w F a0 a1 h hf s.heap [] ls hl hW hS)
set_option maxRecDepth 100000 in
set_option maxHeartbeats 4000000 in
theorem kX6_methodAt_w (F : zF p s m args meth c cX6_methodAt 2 RX6 (some (.object "CodeVerifier$Method"))) {r : Option Nat} {h' : zH} (a0 : Option Nat) (a1 : Int32) (h : zH) (hf : fX6_methodAt a0 a1 h = some (r, h')) (H : Heap) (locs : List Loc) (ls : Array Slot) (hl : zhas ls 2 [(0, va_rf a0), (1, .int a1)]) (hW : z_W D base s h H) (hS : va_S (zA base) s.heap H locs) : W p l e rmX6_methodAt s m args below meth c H locs 0 0 (MQ below (zQ D base (some (va_rf r)) h') args s rmX6_methodAt.cells rmX6_methodAt.slots (zA base)) (F0 m 0 ls []) := by
  obtain ⟨hx, hb, hml, hown, hts, hret, hlk, hZ⟩ := id F
  unfold fX6_methodAt at hf
  refine lv_iload_n hx hb dX6_methodAt_0 rfl (lv_at hl.1 1 rfl) ?_
  refine lv_if_lt (tgt := 27) hx hb dX6_methodAt_1 (by decide) (fun c1 => ?_) (fun c1 => ?_)
  · have hf := oift c1 hf
    refine zw_null hx hb dX6_methodAt_27 ?_
    obtain ⟨rfl, rfl⟩ := oret hf
    exact zw_areturn F hW hS dX6_methodAt_28
  · have hf := oiff c1 hf
    refine lv_iload_n hx hb dX6_methodAt_4 rfl (lv_at hl.1 1 rfl) ?_
    refine zw_aload_n hx hb dX6_methodAt_5 rfl (lv_at hl.1 0 rfl) ?_
    obtain ⟨v2, e2, hf⟩ := ob hf
    refine zw_gI hx hb hts inX6 hown hW (ci := 6) rfl (by decide) 3 (by decide) (hts _ wd_34) e2 (fun _ _ => rfl) dX6_methodAt_6 ?_
    refine lv_icmp_ge (tgt := 27) hx hb dX6_methodAt_9 (by decide) (fun c3 => ?_) (fun c3 => ?_)
    · have hf := oift c3 hf
      refine zw_null hx hb dX6_methodAt_27 ?_
      obtain ⟨rfl, rfl⟩ := oret hf
      exact zw_areturn F hW hS dX6_methodAt_28
    · have hf := oiff c3 hf
      refine lv_iload_n hx hb dX6_methodAt_12 rfl (lv_at hl.1 1 rfl) ?_
      refine lv_bipush (v := 64) hx hb dX6_methodAt_13 (by decide) ?_
      refine lv_icmp_ge (tgt := 27) hx hb dX6_methodAt_15 (by decide) (fun c4 => ?_) (fun c4 => ?_)
      · have hf := oift c4 hf
        refine zw_null hx hb dX6_methodAt_27 ?_
        obtain ⟨rfl, rfl⟩ := oret hf
        exact zw_areturn F hW hS dX6_methodAt_28
      · have hf := oiff c4 hf
        refine zw_aload_n hx hb dX6_methodAt_18 rfl (lv_at hl.1 0 rfl) ?_
        obtain ⟨v5, e5, hf⟩ := ob hf
        refine zw_gR hx hb hts inX6 hown hW (ci := 6) rfl (by decide) 1 (by decide) (hts _ wd_32) e5 (fun _ _ => rfl) dX6_methodAt_19 ?_
        refine lv_iload_n hx hb dX6_methodAt_22 rfl (lv_at hl.1 1 rfl) ?_
        obtain ⟨v6, e6, hf⟩ := ob hf
        refine zw_aQ hx hb hW 105 (by decide) e6 dX6_methodAt_23 ?_
        refine lv_goto (tgt := 28) hx hb dX6_methodAt_24 (by decide) ?_
        obtain ⟨rfl, rfl⟩ := oret hf
        exact zw_areturn F hW hS dX6_methodAt_28
set_option maxRecDepth 100000 in
set_option maxHeartbeats 4000000 in
theorem kX6_methodAt (l : Launch) (D : va_G) (base : Nat) (a0 : Option Nat) (a1 : Int32) (h : zH) {r : Option Nat} {h' : zH} (hf : fX6_methodAt a0 a1 h = some (r, h')) : zMet l D base yX6_methodAt cX6_methodAt 2 (some (.object "CodeVerifier$Method")) rmX6_methodAt h [va_rf a0, .int a1] (some (va_rf r)) h' :=
  zMet.of (by decide +kernel) (fun v hv => by simp only [List.mem_cons, List.not_mem_nil, or_false] at hv; rcases hv with rfl | rfl <;> first | rfl | exact va_rf_cat _) (Nat.le_of_ble_eq_true rfl) (fun p e s m args below meth c ls F hi hl hW hS => kX6_methodAt_w F a0 a1 h hf s.heap [] ls hl hW hS)
set_option maxRecDepth 100000 in
set_option maxHeartbeats 4000000 in
theorem kX6_methodInSlot_w (F : zF p s m args meth c cX6_methodInSlot 4 RX6 (some (.object "CodeVerifier$Method"))) {r : Option Nat} {h' : zH} (a0 : Option Nat) (a1 : Int32) (a2 : Int32) (h : zH) (hf : fX6_methodInSlot a0 a1 a2 h = some (r, h')) (H : Heap) (locs : List Loc) (ls : Array Slot) (hl : zhas ls 4 [(0, va_rf a0), (1, .int a1), (2, .int a2)]) (hW : z_W D base s h H) (hS : va_S (zA base) s.heap H locs) : W p l e rmX6_methodInSlot s m args below meth c H locs 0 0 (MQ below (zQ D base (some (va_rf r)) h') args s rmX6_methodInSlot.cells rmX6_methodInSlot.slots (zA base)) (F0 m 0 ls []) := by
  obtain ⟨hx, hb, hml, hown, hts, hret, hlk, hZ⟩ := id F
  unfold fX6_methodInSlot at hf
  refine zw_aload_n hx hb dX6_methodInSlot_0 rfl (lv_at hl.1 0 rfl) ?_
  refine lv_iload_n hx hb dX6_methodInSlot_1 rfl (lv_at hl.1 1 rfl) ?_
  obtain ⟨a901, j1, hf⟩ := ob hf
  obtain ⟨q1, e1, hf⟩ := ob hf
  refine zw_callV (rest := []) (n := 1) F (kX6_kindAt (r := q1.1) (h' := q1.2) l D base a0 a1 h e1) 6 rfl (by decide) j1 wd_301 wd_121 wd_122 wd_2 wd_123 (by decide +kernel) ⟨by decide, by decide⟩ hW hS rfl hl.1.1 (by decide) rfl ⟨(by decide), (by decide)⟩ dX6_methodInSlot_2 (fun H locs hW hS => ?_)
  refine W.eq (g2 := F0 m 5 ls [va_rf q1.1]) rfl ?_
  refine zl_astore_n (lv' := [(3, va_rf q1.1), (0, va_rf a0), (1, .int a1), (2, .int a2)]) hx hb dX6_methodInSlot_5 rfl hl (by decide) rfl (fun ls hl => ?_)
  refine zw_aload_n hx hb dX6_methodInSlot_6 rfl (lv_at hl.1 0 rfl) ?_
  refine zw_ifnonnull (tgt := 14) hx hb dX6_methodInSlot_7 (by decide) (fun c2 => ?_) (fun c2 => ?_)
  · have hf := oiff c2 hf
    refine zw_aload_n hx hb dX6_methodInSlot_14 rfl (lv_at hl.1 1 rfl) ?_
    refine zw_aload_n hx hb dX6_methodInSlot_15 rfl (lv_at hl.1 0 rfl) ?_
    refine lv_iload_n hx hb dX6_methodInSlot_16 rfl (lv_at hl.1 3 rfl) ?_
    obtain ⟨a903, j3, hf⟩ := ob hf
    obtain ⟨q3, e3, hf⟩ := ob hf
    refine zw_callV (rest := [va_rf a0]) (n := 1) F (kX2_inSlot (r := q3.1) (h' := q3.2) l D base q1.1 a2 q1.2 e3) 2 rfl (by decide) j3 wd_315 wd_279 wd_280 wd_7 wd_281 (by decide +kernel) ⟨by decide, by decide⟩ hW hS rfl hl.1.1 (by simp only [List.map_cons, List.map_nil, va_rf_cat, z_icat, List.sum_cons, List.sum_nil]; decide) rfl ⟨(by decide), (by decide)⟩ dX6_methodInSlot_17 (fun H locs hW hS => ?_)
    refine W.eq (g2 := F0 m 20 ls [.int q3.1, va_rf a0]) rfl ?_
    obtain ⟨a904, j4, hf⟩ := ob hf
    obtain ⟨q4, e4, hf⟩ := ob hf
    refine zw_callV (rest := []) (n := 1) F (kX6_methodAt (r := q4.1) (h' := q4.2) l D base a0 q3.1 q3.2 e4) 6 rfl (by decide) j4 wd_310 wd_263 wd_264 wd_2 wd_265 (by decide +kernel) ⟨by decide, by decide⟩ hW hS rfl hl.1.1 (by decide) rfl ⟨(by decide), (by decide)⟩ dX6_methodInSlot_20 (fun H locs hW hS => ?_)
    refine W.eq (g2 := F0 m 23 ls [va_rf q4.1]) rfl ?_
    obtain ⟨rfl, rfl⟩ := oret hf
    exact zw_areturn F hW hS dX6_methodInSlot_23
  · have hf := oift c2 hf
    refine zw_null hx hb dX6_methodInSlot_10 ?_
    refine lv_goto (tgt := 23) hx hb dX6_methodInSlot_11 (by decide) ?_
    obtain ⟨rfl, rfl⟩ := oret hf
    exact zw_areturn F hW hS dX6_methodInSlot_23
set_option maxRecDepth 100000 in
set_option maxHeartbeats 4000000 in
theorem kX6_methodInSlot (l : Launch) (D : va_G) (base : Nat) (a0 : Option Nat) (a1 : Int32) (a2 : Int32) (h : zH) {r : Option Nat} {h' : zH} (hf : fX6_methodInSlot a0 a1 a2 h = some (r, h')) : zMet l D base yX6_methodInSlot cX6_methodInSlot 4 (some (.object "CodeVerifier$Method")) rmX6_methodInSlot h [va_rf a0, .int a1, .int a2] (some (va_rf r)) h' :=
  zMet.of (by decide +kernel) (fun v hv => by simp only [List.mem_cons, List.not_mem_nil, or_false] at hv; rcases hv with rfl | rfl | rfl <;> first | rfl | exact va_rf_cat _) (Nat.le_of_ble_eq_true rfl) (fun p e s m args below meth c ls F hi hl hW hS => kX6_methodInSlot_w F a0 a1 a2 h hf s.heap [] ls hl hW hS)
set_option maxRecDepth 100000 in
set_option maxHeartbeats 4000000 in
theorem kX5_invoke_b115 (N : Nat) {h' : zH} (F : zF p s m args meth c cX5_invoke 6 RX5 none) (l0 : Option Nat) (l3 : Option Nat) (h : zH) (hf : fX5_invoke_b115 N l0 l3 h = some h') (H : Heap) (locs : List Loc) (ls : Array Slot) (hl : zhas ls 6 [(0, va_rf l0), (3, va_rf l3)]) (hW : z_W D base s h H) (hS : va_S (zA base) s.heap H locs) : W p l e rmX5_invoke s m args below meth c H locs 0 0 (MQ below (zQ D base none h') args s rmX5_invoke.cells rmX5_invoke.slots (zA base)) (F0 m 115 ls []) := by
  obtain ⟨hx, hb, hml, hown, hts, hret, hlk, hZ⟩ := id F
  unfold fX5_invoke_b115 at hf
  refine zw_aload_n hx hb dX5_invoke_115 rfl (lv_at hl.1 1 rfl) ?_
  obtain ⟨v1, e1, hf⟩ := ob hf
  refine zw_gI hx hb hts inX3 hown hW (ci := 3) rfl (by decide) 1 (by decide) (hts _ wd_212) e1 (fun _ _ => rfl) dX5_invoke_116 ?_
  refine lv_iconst (v := (-1)) hx hb dX5_invoke_119 (by decide) ?_
  refine lv_icmp_eq (tgt := 131) hx hb dX5_invoke_120 (by decide) (fun c2 => ?_) (fun c2 => ?_)
  · have hf := oift c2 hf
    obtain rfl := oretv hf
    exact zw_vreturn F hW hS dX5_invoke_131
  · have hf := oiff c2 hf
    refine zw_aload_n hx hb dX5_invoke_123 rfl (lv_at hl.1 0 rfl) ?_
    refine zw_aload_n hx hb dX5_invoke_124 rfl (lv_at hl.1 1 rfl) ?_
    obtain ⟨v3, e3, hf⟩ := ob hf
    refine zw_gI hx hb hts inX3 hown hW (ci := 3) rfl (by decide) 1 (by decide) (hts _ wd_212) e3 (fun _ _ => rfl) dX5_invoke_125 ?_
    obtain ⟨a904, j4, hf⟩ := ob hf
    obtain ⟨h4, e4, hf⟩ := ob hf
    refine zw_callV (rest := []) (n := 1) F (kX5_put l D base l0 v3 h e4) 5 rfl (by decide) j4 wd_465 wd_467 ws_8 wd_5 wd_468 (by decide +kernel) ⟨by decide, by decide⟩ hW hS rfl hl.1.1 (by decide) rfl ⟨(by decide), (by decide)⟩ dX5_invoke_128 (fun H locs hW hS => ?_)
    refine W.eq (g2 := F0 m 131 ls []) rfl ?_
    obtain rfl := oretv hf
    exact zw_vreturn F hW hS dX5_invoke_131
set_option maxRecDepth 100000 in
set_option maxHeartbeats 4000000 in
theorem kX5_invoke_b78 (N : Nat) {h' : zH} (F : zF p s m args meth c cX5_invoke 6 RX5 none) : ∀ (n : Nat) (l0 : Option Nat) (l1 : Option Nat) (l2 : Int32) (l3 : Option Nat) (l4 : Int32) (l5 : Int32) (h : zH), fX5_invoke_b78 N n l0 l1 l2 l3 l4 l5 h = some h' → ∀ (H : Heap) (locs : List Loc) (ls : Array Slot), zhas ls 6 [(0, va_rf l0), (1, va_rf l1), (2, .int l2), (3, va_rf l3), (4, .int l4), (5, .int l5)] → z_W D base s h H → va_S (zA base) s.heap H locs → W p l e rmX5_invoke s m args below meth c H locs 0 0 (MQ below (zQ D base none h') args s rmX5_invoke.cells rmX5_invoke.slots (zA base)) (F0 m 78 ls []) := by
  obtain ⟨hx, hb, hml, hown, hts, hret, hlk, hZ⟩ := id F
  intro n
  induction n with
  | zero =>
    intro l0 l1 l2 l3 l4 l5 h hf
    rw [fX5_invoke_b78] at hf
    cases hf
  | succ n ih =>
    intro l0 l1 l2 l3 l4 l5 h hf H locs ls hl hW hS
    rw [fX5_invoke_b78] at hf
    refine lv_iload hx hb dX5_invoke_78 (lv_at hl.1 5 rfl) ?_
    refine lv_iload hx hb dX5_invoke_80 (lv_at hl.1 4 rfl) ?_
    refine lv_icmp_lt (tgt := 101) hx hb dX5_invoke_82 (by decide) (fun c1 => ?_) (fun c1 => ?_)
    · have hf := oift c1 hf
      refine lv_iload_n hx hb dX5_invoke_101 rfl (lv_at hl.1 2 rfl) ?_
      refine lv_if_eq (tgt := 115) hx hb dX5_invoke_102 (by decide) (fun c2 => ?_) (fun c2 => ?_)
      · have hf := oift c2 hf
        exact kX5_invoke_b115 N F l0 l3 h hf H locs ls (z_sub hl [0, 3] rfl) hW hS
      · have hf := oiff c2 hf
        refine zw_aload_n hx hb dX5_invoke_105 rfl (lv_at hl.1 0 rfl) ?_
        refine lv_iconst (v := 1) hx hb dX5_invoke_106 (by decide) ?_
        refine zw_aload_n hx hb dX5_invoke_107 rfl (lv_at hl.1 1 rfl) ?_
        obtain ⟨v3, e3, hf⟩ := ob hf
        refine zw_gI hx hb hts inX1 hown hW (ci := 1) rfl (by decide) 1 (by decide) (hts _ wd_330) e3 (fun _ _ => rfl) dX5_invoke_108 ?_
        refine lv_iadd hx hb dX5_invoke_111 ?_
        obtain ⟨a904, j4, hf⟩ := ob hf
        obtain ⟨h4, e4, hf⟩ := ob hf
        refine zw_callV (rest := []) (n := 1) F (kX5_takeInto l D base l0 (1 + v3) h e4) 5 rfl (by decide) j4 wd_523 wd_525 ws_19 wd_5 wd_526 (by decide +kernel) ⟨by decide, by decide⟩ hW hS rfl hl.1.1 (by decide) rfl ⟨(by decide), (by decide)⟩ dX5_invoke_112 (fun H locs hW hS => ?_)
        refine W.eq (g2 := F0 m 115 ls []) rfl ?_
        exact kX5_invoke_b115 N F l0 l3 h4 hf H locs ls (z_sub hl [0, 3] rfl) hW hS
    · have hf := oiff c1 hf
      refine zw_aload_n hx hb dX5_invoke_85 rfl (lv_at hl.1 0 rfl) ?_
      refine zw_aload_n hx hb dX5_invoke_86 rfl (lv_at hl.1 3 rfl) ?_
      refine lv_iload hx hb dX5_invoke_87 (lv_at hl.1 5 rfl) ?_
      obtain ⟨a905, j5, hf⟩ := ob hf
      obtain ⟨q5, e5, hf⟩ := ob hf
      refine zw_callV (rest := [va_rf l0]) (n := 1) F (kX3_parameterAt (r := q5.1) (h' := q5.2) l D base l3 l5 h e5) 3 rfl (by decide) j5 wd_555 wd_287 wd_288 wd_9 wd_289 (by decide +kernel) ⟨by decide, by decide⟩ hW hS rfl hl.1.1 (by simp only [List.map_cons, List.map_nil, va_rf_cat, z_icat, List.sum_cons, List.sum_nil]; decide) rfl ⟨(by decide), (by decide)⟩ dX5_invoke_89 (fun H locs hW hS => ?_)
      refine W.eq (g2 := F0 m 92 ls [.int q5.1, va_rf l0]) rfl ?_
      obtain ⟨a906, j6, hf⟩ := ob hf
      obtain ⟨h6, e6, hf⟩ := ob hf
      refine zw_callV (rest := []) (n := 1) F (kX5_takeInto l D base l0 q5.1 q5.2 e6) 5 rfl (by decide) j6 wd_523 wd_525 ws_19 wd_5 wd_526 (by decide +kernel) ⟨by decide, by decide⟩ hW hS rfl hl.1.1 (by decide) rfl ⟨(by decide), (by decide)⟩ dX5_invoke_92 (fun H locs hW hS => ?_)
      refine W.eq (g2 := F0 m 95 ls []) rfl ?_
      refine zl_iinc (v := (l5 + (-1))) (lv' := [(5, .int (l5 + (-1))), (0, va_rf l0), (1, va_rf l1), (2, .int l2), (3, va_rf l3), (4, .int l4)]) hx hb dX5_invoke_95 hl (k := 5) rfl rfl (by decide) rfl (fun ls hl => ?_)
      refine lv_goto (tgt := 78) hx hb dX5_invoke_98 (by decide) ?_
      exact ih l0 l1 l2 l3 l4 (l5 + (-1)) h6 hf H locs ls (z_sub hl [1, 2, 3, 4, 5, 0] rfl) hW hS
set_option maxRecDepth 100000 in
set_option maxHeartbeats 4000000 in
theorem kX5_invoke_b68 (N : Nat) {h' : zH} (F : zF p s m args meth c cX5_invoke 6 RX5 none) (l0 : Option Nat) (l1 : Option Nat) (l2 : Int32) (l3 : Option Nat) (s0 : Int32) (h : zH) (hf : fX5_invoke_b68 N l0 l1 l2 l3 s0 h = some h') (H : Heap) (locs : List Loc) (ls : Array Slot) (hl : zhas ls 6 [(0, va_rf l0), (1, va_rf l1), (2, .int l2), (3, va_rf l3)]) (hW : z_W D base s h H) (hS : va_S (zA base) s.heap H locs) : W p l e rmX5_invoke s m args below meth c H locs 0 0 (MQ below (zQ D base none h') args s rmX5_invoke.cells rmX5_invoke.slots (zA base)) (F0 m 68 ls [.int s0]) := by
  obtain ⟨hx, hb, hml, hown, hts, hret, hlk, hZ⟩ := id F
  unfold fX5_invoke_b68 at hf
  refine zl_istore (lv' := [(4, .int s0), (0, va_rf l0), (1, va_rf l1), (2, .int l2), (3, va_rf l3)]) hx hb dX5_invoke_68 hl (by decide) rfl (fun ls hl => ?_)
  refine zw_aload_n hx hb dX5_invoke_70 rfl (lv_at hl.1 4 rfl) ?_
  obtain ⟨v1, e1, hf⟩ := ob hf
  refine zw_gI hx hb hts inX3 hown hW (ci := 3) rfl (by decide) 7 (by decide) (hts _ wd_223) e1 (fun _ _ => rfl) dX5_invoke_71 ?_
  refine lv_iconst (v := 1) hx hb dX5_invoke_74 (by decide) ?_
  refine lv_isub hx hb dX5_invoke_75 ?_
  refine zl_istore (lv' := [(5, .int (v1 - 1)), (4, .int s0), (0, va_rf l0), (1, va_rf l1), (2, .int l2), (3, va_rf l3)]) hx hb dX5_invoke_76 hl (by decide) rfl (fun ls hl => ?_)
  exact kX5_invoke_b78 N F N l0 l1 l2 l3 s0 (v1 - 1) h hf H locs ls (z_sub hl [2, 3, 4, 5, 1, 0] rfl) hW hS
set_option maxRecDepth 100000 in
set_option maxHeartbeats 4000000 in
theorem kX5_invoke_b48 (N : Nat) {h' : zH} (F : zF p s m args meth c cX5_invoke 6 RX5 none) (l0 : Option Nat) (l1 : Option Nat) (l2 : Int32) (s0 : Option Nat) (h : zH) (hf : fX5_invoke_b48 N l0 l1 l2 s0 h = some h') (H : Heap) (locs : List Loc) (ls : Array Slot) (hl : zhas ls 6 [(0, va_rf l0), (1, va_rf l1), (2, .int l2)]) (hW : z_W D base s h H) (hS : va_S (zA base) s.heap H locs) : W p l e rmX5_invoke s m args below meth c H locs 0 0 (MQ below (zQ D base none h') args s rmX5_invoke.cells rmX5_invoke.slots (zA base)) (F0 m 48 ls [va_rf s0]) := by
  obtain ⟨hx, hb, hml, hown, hts, hret, hlk, hZ⟩ := id F
  unfold fX5_invoke_b48 at hf
  refine zl_astore_n (lv' := [(3, va_rf s0), (0, va_rf l0), (1, va_rf l1), (2, .int l2)]) hx hb dX5_invoke_48 rfl hl (by decide) rfl (fun ls hl => ?_)
  refine zw_aload_n hx hb dX5_invoke_49 rfl (lv_at hl.1 0 rfl) ?_
  refine zw_ifnonnull (tgt := 59) hx hb dX5_invoke_50 (by decide) (fun c1 => ?_) (fun c1 => ?_)
  · have hf := oiff c1 hf
    refine lv_iload_n hx hb dX5_invoke_59 rfl (lv_at hl.1 3 rfl) ?_
    refine lv_if_eq (tgt := 67) hx hb dX5_invoke_60 (by decide) (fun c2 => ?_) (fun c2 => ?_)
    · have hf := oift c2 hf
      refine lv_iconst (v := 0) hx hb dX5_invoke_67 (by decide) ?_
      exact kX5_invoke_b68 N F l0 l1 l2 s0 0 h hf H locs ls (z_sub hl [1, 2, 3, 0] rfl) hW hS
    · have hf := oiff c2 hf
      refine lv_iconst (v := 1) hx hb dX5_invoke_63 (by decide) ?_
      refine lv_goto (tgt := 68) hx hb dX5_invoke_64 (by decide) ?_
      exact kX5_invoke_b68 N F l0 l1 l2 s0 1 h hf H locs ls (z_sub hl [1, 2, 3, 0] rfl) hW hS
  · have hf := oift c1 hf
    refine zw_aload_n hx hb dX5_invoke_53 rfl (lv_at hl.1 1 rfl) ?_
    refine lv_iconst (v := 0) hx hb dX5_invoke_54 (by decide) ?_
    obtain ⟨h3, e3, hf⟩ := ob hf
    obtain ⟨b3, e3⟩ := pZ_spec e3
    refine zw_pI hx hb hts inX5 tyX5 tyX5_ok nmX5 hown hW hS (ci := 5) rfl (by decide) 2 (by decide) (hts _ wd_81) (Or.inl rfl) (fun _ _ => rfl) (z_bool b3).1 (z_bool b3).2 e3 dX5_invoke_55 (fun H locs hW hS => ?_)
    obtain rfl := oretv hf
    exact zw_vreturn F hW hS dX5_invoke_58
set_option maxRecDepth 100000 in
set_option maxHeartbeats 4000000 in
theorem kX5_invoke_b14 (N : Nat) {h' : zH} (F : zF p s m args meth c cX5_invoke 6 RX5 none) (l0 : Option Nat) (l1 : Option Nat) (s0 : Int32) (h : zH) (hf : fX5_invoke_b14 N l0 l1 s0 h = some h') (H : Heap) (locs : List Loc) (ls : Array Slot) (hl : zhas ls 6 [(0, va_rf l0), (1, va_rf l1)]) (hW : z_W D base s h H) (hS : va_S (zA base) s.heap H locs) : W p l e rmX5_invoke s m args below meth c H locs 0 0 (MQ below (zQ D base none h') args s rmX5_invoke.cells rmX5_invoke.slots (zA base)) (F0 m 14 ls [.int s0]) := by
  obtain ⟨hx, hb, hml, hown, hts, hret, hlk, hZ⟩ := id F
  unfold fX5_invoke_b14 at hf
  refine zl_istore_n (lv' := [(2, .int s0), (0, va_rf l0), (1, va_rf l1)]) hx hb dX5_invoke_14 rfl hl (by decide) rfl (fun ls hl => ?_)
  refine lv_iload_n hx hb dX5_invoke_15 rfl (lv_at hl.1 0 rfl) ?_
  refine lv_if_eq (tgt := 37) hx hb dX5_invoke_16 (by decide) (fun c1 => ?_) (fun c1 => ?_)
  · have hf := oift c1 hf
    refine zw_aload_n hx hb dX5_invoke_37 rfl (lv_at hl.1 1 rfl) ?_
    obtain ⟨v2, e2, hf⟩ := ob hf
    refine zw_gR hx hb hts inX5 hown hW (ci := 5) rfl (by decide) 0 (by decide) (hts _ wd_79) e2 (fun _ _ => rfl) dX5_invoke_38 ?_
    refine zw_aload_n hx hb dX5_invoke_41 rfl (lv_at hl.1 2 rfl) ?_
    obtain ⟨v3, e3, hf⟩ := ob hf
    refine zw_gI hx hb hts inX1 hown hW (ci := 1) rfl (by decide) 1 (by decide) (hts _ wd_330) e3 (fun _ _ => rfl) dX5_invoke_42 ?_
    obtain ⟨a904, j4, hf⟩ := ob hf
    obtain ⟨q4, e4, hf⟩ := ob hf
    refine zw_callV (rest := []) (n := 1) F (kX6_methodAt (r := q4.1) (h' := q4.2) l D base v2 v3 h e4) 6 rfl (by decide) j4 wd_554 wd_263 wd_264 wd_2 wd_265 (by decide +kernel) ⟨by decide, by decide⟩ hW hS rfl hl.1.1 (by decide) rfl ⟨(by decide), (by decide)⟩ dX5_invoke_45 (fun H locs hW hS => ?_)
    refine W.eq (g2 := F0 m 48 ls [va_rf q4.1]) rfl ?_
    exact kX5_invoke_b48 N F l0 l1 s0 q4.1 q4.2 hf H locs ls (z_sub hl [1, 2, 0] rfl) hW hS
  · have hf := oiff c1 hf
    refine zw_aload_n hx hb dX5_invoke_19 rfl (lv_at hl.1 1 rfl) ?_
    obtain ⟨v5, e5, hf⟩ := ob hf
    refine zw_gR hx hb hts inX5 hown hW (ci := 5) rfl (by decide) 0 (by decide) (hts _ wd_79) e5 (fun _ _ => rfl) dX5_invoke_20 ?_
    refine zw_aload_n hx hb dX5_invoke_23 rfl (lv_at hl.1 2 rfl) ?_
    obtain ⟨v6, e6, hf⟩ := ob hf
    refine zw_gI hx hb hts inX1 hown hW (ci := 1) rfl (by decide) 1 (by decide) (hts _ wd_330) e6 (fun _ _ => rfl) dX5_invoke_24 ?_
    refine zw_aload_n hx hb dX5_invoke_27 rfl (lv_at hl.1 2 rfl) ?_
    obtain ⟨v7, e7, hf⟩ := ob hf
    refine zw_gI hx hb hts inX1 hown hW (ci := 1) rfl (by decide) 2 (by decide) (hts _ wd_333) e7 (fun _ _ => rfl) dX5_invoke_28 ?_
    obtain ⟨a908, j8, hf⟩ := ob hf
    obtain ⟨q8, e8, hf⟩ := ob hf
    refine zw_callV (rest := []) (n := 2) F (kX6_methodInSlot (r := q8.1) (h' := q8.2) l D base v5 v6 v7 h e8) 6 rfl (by decide) j8 wd_553 wd_312 wd_313 wd_2 wd_314 (by decide +kernel) ⟨by decide, by decide⟩ hW hS rfl hl.1.1 (by decide) rfl ⟨(by decide), (by decide)⟩ dX5_invoke_31 (fun H locs hW hS => ?_)
    refine W.eq (g2 := F0 m 34 ls [va_rf q8.1]) rfl ?_
    refine lv_goto (tgt := 48) hx hb dX5_invoke_34 (by decide) ?_
    exact kX5_invoke_b48 N F l0 l1 s0 q8.1 q8.2 hf H locs ls (z_sub hl [1, 2, 0] rfl) hW hS
set_option maxRecDepth 100000 in
set_option maxHeartbeats 4000000 in
theorem kX5_invoke_w (N : Nat) (F : zF p s m args meth c cX5_invoke 6 RX5 none) {h' : zH} (a0 : Option Nat) (a1 : Option Nat) (h : zH) (hf : fX5_invoke N a0 a1 h = some h') (H : Heap) (locs : List Loc) (ls : Array Slot) (hl : zhas ls 6 [(0, va_rf a0), (1, va_rf a1)]) (hW : z_W D base s h H) (hS : va_S (zA base) s.heap H locs) : W p l e rmX5_invoke s m args below meth c H locs 0 0 (MQ below (zQ D base none h') args s rmX5_invoke.cells rmX5_invoke.slots (zA base)) (F0 m 0 ls []) := by
  obtain ⟨hx, hb, hml, hown, hts, hret, hlk, hZ⟩ := id F
  unfold fX5_invoke at hf
  refine zw_aload_n hx hb dX5_invoke_0 rfl (lv_at hl.1 1 rfl) ?_
  obtain ⟨v1, e1, hf⟩ := ob hf
  refine zw_gI hx hb hts inX1 hown hW (ci := 1) rfl (by decide) 0 (by decide) (hts _ wd_328) e1 (fun _ _ => rfl) dX5_invoke_1 ?_
  refine lv_bipush (v := 36) hx hb dX5_invoke_4 (by decide) ?_
  refine lv_icmp_ne (tgt := 13) hx hb dX5_invoke_6 (by decide) (fun c2 => ?_) (fun c2 => ?_)
  · have hf := oiff c2 hf
    refine lv_iconst (v := 0) hx hb dX5_invoke_13 (by decide) ?_
    exact kX5_invoke_b14 N F a0 a1 0 h hf H locs ls (z_sub hl [0, 1] rfl) hW hS
  · have hf := oift c2 hf
    refine lv_iconst (v := 1) hx hb dX5_invoke_9 (by decide) ?_
    refine lv_goto (tgt := 14) hx hb dX5_invoke_10 (by decide) ?_
    exact kX5_invoke_b14 N F a0 a1 1 h hf H locs ls (z_sub hl [0, 1] rfl) hW hS
set_option maxRecDepth 100000 in
set_option maxHeartbeats 4000000 in
theorem kX5_invoke (l : Launch) (D : va_G) (base : Nat) (N : Nat) (a0 : Option Nat) (a1 : Option Nat) (h : zH) {h' : zH} (hf : fX5_invoke N a0 a1 h = some h') : zMet l D base yX5_invoke cX5_invoke 6 none rmX5_invoke h [va_rf a0, va_rf a1] none h' :=
  zMet.of (by decide +kernel) (fun v hv => by simp only [List.mem_cons, List.not_mem_nil, or_false] at hv; rcases hv with rfl | rfl <;> first | rfl | exact va_rf_cat _) (Nat.le_of_ble_eq_true rfl) (fun p e s m args below meth c ls F hi hl hW hS => kX5_invoke_w N F a0 a1 h hf s.heap [] ls hl hW hS)
set_option maxRecDepth 100000 in
set_option maxHeartbeats 4000000 in
theorem kX8_isKindType_w (F : zF p s m args meth c cX8_isKindType 1 RX8 (some .boolean)) {r : Int32} {h' : zH} (a0 : Int32) (h : zH) (hf : fX8_isKindType a0 h = some (r, h')) (H : Heap) (locs : List Loc) (ls : Array Slot) (hl : zhas ls 1 [(0, .int a0)]) (hW : z_W D base s h H) (hS : va_S (zA base) s.heap H locs) : W p l e rmX8_isKindType s m args below meth c H locs 0 0 (MQ below (zQ D base (some (.int r)) h') args s rmX8_isKindType.cells rmX8_isKindType.slots (zA base)) (F0 m 0 ls []) := by
  obtain ⟨hx, hb, hml, hown, hts, hret, hlk, hZ⟩ := id F
  unfold fX8_isKindType at hf
  refine lv_iload_n hx hb dX8_isKindType_0 rfl (lv_at hl.1 0 rfl) ?_
  refine lv_iconst (v := 1) hx hb dX8_isKindType_1 (by decide) ?_
  refine lv_icmp_lt (tgt := 15) hx hb dX8_isKindType_2 (by decide) (fun c1 => ?_) (fun c1 => ?_)
  · have hf := oift c1 hf
    refine lv_iconst (v := 0) hx hb dX8_isKindType_15 (by decide) ?_
    obtain ⟨rfl, rfl⟩ := oret hf
    exact zw_zreturn F (by decide) hW hS dX8_isKindType_16
  · have hf := oiff c1 hf
    refine lv_iload_n hx hb dX8_isKindType_5 rfl (lv_at hl.1 0 rfl) ?_
    refine lv_bipush (v := 33) hx hb dX8_isKindType_6 (by decide) ?_
    refine lv_icmp_ge (tgt := 15) hx hb dX8_isKindType_8 (by decide) (fun c2 => ?_) (fun c2 => ?_)
    · have hf := oift c2 hf
      refine lv_iconst (v := 0) hx hb dX8_isKindType_15 (by decide) ?_
      obtain ⟨rfl, rfl⟩ := oret hf
      exact zw_zreturn F (by decide) hW hS dX8_isKindType_16
    · have hf := oiff c2 hf
      refine lv_iconst (v := 1) hx hb dX8_isKindType_11 (by decide) ?_
      refine lv_goto (tgt := 16) hx hb dX8_isKindType_12 (by decide) ?_
      obtain ⟨rfl, rfl⟩ := oret hf
      exact zw_zreturn F (by decide) hW hS dX8_isKindType_16
set_option maxRecDepth 100000 in
set_option maxHeartbeats 4000000 in
theorem kX8_isKindType (l : Launch) (D : va_G) (base : Nat) (a0 : Int32) (h : zH) {r : Int32} {h' : zH} (hf : fX8_isKindType a0 h = some (r, h')) : zMet l D base yX8_isKindType cX8_isKindType 1 (some .boolean) rmX8_isKindType h [.int a0] (some (.int r)) h' :=
  zMet.of (by decide +kernel) (fun v hv => by simp only [List.mem_cons, List.not_mem_nil, or_false] at hv; subst hv; first | rfl | exact va_rf_cat _) (Nat.le_of_ble_eq_true rfl) (fun p e s m args below meth c ls F hi hl hW hS => kX8_isKindType_w F a0 h hf s.heap [] ls hl hW hS)
set_option maxRecDepth 100000 in
set_option maxHeartbeats 4000000 in
theorem kX5_leaveOrTalk_b104 {h' : zH} (F : zF p s m args meth c cX5_leaveOrTalk 4 RX5 none) (s0 : Int32) (s1 : Option Nat) (h : zH) (hf : fX5_leaveOrTalk_b104 s0 s1 h = some h') (H : Heap) (locs : List Loc) (ls : Array Slot) (hl : zhas ls 4 []) (hW : z_W D base s h H) (hS : va_S (zA base) s.heap H locs) : W p l e rmX5_leaveOrTalk s m args below meth c H locs 0 0 (MQ below (zQ D base none h') args s rmX5_leaveOrTalk.cells rmX5_leaveOrTalk.slots (zA base)) (F0 m 104 ls [.int s0, va_rf s1]) := by
  obtain ⟨hx, hb, hml, hown, hts, hret, hlk, hZ⟩ := id F
  unfold fX5_leaveOrTalk_b104 at hf
  obtain ⟨a901, j1, hf⟩ := ob hf
  obtain ⟨h1, e1, hf⟩ := ob hf
  refine zw_callV (rest := []) (n := 1) F (kX5_need l D base s1 s0 h e1) 5 rfl (by decide) j1 wd_470 wd_472 ws_9 wd_5 wd_473 (by decide +kernel) ⟨by decide, by decide⟩ hW hS rfl hl.1.1 (by decide) rfl ⟨(by decide), (by decide)⟩ dX5_leaveOrTalk_104 (fun H locs hW hS => ?_)
  refine W.eq (g2 := F0 m 107 ls []) rfl ?_
  refine lv_goto (tgt := 122) hx hb dX5_leaveOrTalk_107 (by decide) ?_
  obtain rfl := oretv hf
  exact zw_vreturn F hW hS dX5_leaveOrTalk_122
set_option maxRecDepth 100000 in
set_option maxHeartbeats 4000000 in
theorem kX5_leaveOrTalk_b99 {h' : zH} (F : zF p s m args meth c cX5_leaveOrTalk 4 RX5 none) (s0 : Option Nat) (h : zH) (hf : fX5_leaveOrTalk_b99 s0 h = some h') (H : Heap) (locs : List Loc) (ls : Array Slot) (hl : zhas ls 4 []) (hW : z_W D base s h H) (hS : va_S (zA base) s.heap H locs) : W p l e rmX5_leaveOrTalk s m args below meth c H locs 0 0 (MQ below (zQ D base none h') args s rmX5_leaveOrTalk.cells rmX5_leaveOrTalk.slots (zA base)) (F0 m 99 ls [va_rf s0]) := by
  obtain ⟨hx, hb, hml, hown, hts, hret, hlk, hZ⟩ := id F
  unfold fX5_leaveOrTalk_b99 at hf
  refine lv_iconst (v := 1) hx hb dX5_leaveOrTalk_99 (by decide) ?_
  refine lv_goto (tgt := 104) hx hb dX5_leaveOrTalk_100 (by decide) ?_
  exact kX5_leaveOrTalk_b104 F 1 s0 h hf H locs ls (z_sub hl [] rfl) hW hS
set_option maxRecDepth 100000 in
set_option maxHeartbeats 4000000 in
theorem kX5_leaveOrTalk_b66 {h' : zH} (F : zF p s m args meth c cX5_leaveOrTalk 4 RX5 none) (l0 : Option Nat) (l1 : Option Nat) (s0 : Int32) (s1 : Option Nat) (h : zH) (hf : fX5_leaveOrTalk_b66 l0 l1 s0 s1 h = some h') (H : Heap) (locs : List Loc) (ls : Array Slot) (hl : zhas ls 4 [(0, va_rf l0), (1, va_rf l1)]) (hW : z_W D base s h H) (hS : va_S (zA base) s.heap H locs) : W p l e rmX5_leaveOrTalk s m args below meth c H locs 0 0 (MQ below (zQ D base none h') args s rmX5_leaveOrTalk.cells rmX5_leaveOrTalk.slots (zA base)) (F0 m 66 ls [.int s0, va_rf s1]) := by
  obtain ⟨hx, hb, hml, hown, hts, hret, hlk, hZ⟩ := id F
  unfold fX5_leaveOrTalk_b66 at hf
  obtain ⟨a901, j1, hf⟩ := ob hf
  obtain ⟨h1, e1, hf⟩ := ob hf
  refine zw_callV (rest := []) (n := 1) F (kX5_need l D base s1 s0 h e1) 5 rfl (by decide) j1 wd_470 wd_472 ws_9 wd_5 wd_473 (by decide +kernel) ⟨by decide, by decide⟩ hW hS rfl hl.1.1 (by decide) rfl ⟨(by decide), (by decide)⟩ dX5_leaveOrTalk_66 (fun H locs hW hS => ?_)
  refine W.eq (g2 := F0 m 69 ls []) rfl ?_
  refine zw_aload_n hx hb dX5_leaveOrTalk_69 rfl (lv_at hl.1 0 rfl) ?_
  refine zw_aload_n hx hb dX5_leaveOrTalk_70 rfl (lv_at hl.1 1 rfl) ?_
  obtain ⟨v2, e2, hf⟩ := ob hf
  refine zw_gI hx hb hts inX3 hown hW (ci := 3) rfl (by decide) 1 (by decide) (hts _ wd_212) e2 (fun _ _ => rfl) dX5_leaveOrTalk_71 ?_
  obtain ⟨a903, j3, hf⟩ := ob hf
  obtain ⟨h3, e3, hf⟩ := ob hf
  refine zw_callV (rest := []) (n := 1) F (kX5_takeInto l D base l0 v2 h1 e3) 5 rfl (by decide) j3 wd_523 wd_525 ws_19 wd_5 wd_526 (by decide +kernel) ⟨by decide, by decide⟩ hW hS rfl hl.1.1 (by decide) rfl ⟨(by decide), (by decide)⟩ dX5_leaveOrTalk_74 (fun H locs hW hS => ?_)
  refine W.eq (g2 := F0 m 77 ls []) rfl ?_
  refine lv_goto (tgt := 122) hx hb dX5_leaveOrTalk_77 (by decide) ?_
  obtain rfl := oretv hf
  exact zw_vreturn F hW hS dX5_leaveOrTalk_122
set_option maxRecDepth 100000 in
set_option maxHeartbeats 4000000 in
theorem kX5_leaveOrTalk_b46 {h' : zH} (F : zF p s m args meth c cX5_leaveOrTalk 4 RX5 none) (s0 : Int32) (s1 : Option Nat) (h : zH) (hf : fX5_leaveOrTalk_b46 s0 s1 h = some h') (H : Heap) (locs : List Loc) (ls : Array Slot) (hl : zhas ls 4 []) (hW : z_W D base s h H) (hS : va_S (zA base) s.heap H locs) : W p l e rmX5_leaveOrTalk s m args below meth c H locs 0 0 (MQ below (zQ D base none h') args s rmX5_leaveOrTalk.cells rmX5_leaveOrTalk.slots (zA base)) (F0 m 46 ls [.int s0, va_rf s1]) := by
  obtain ⟨hx, hb, hml, hown, hts, hret, hlk, hZ⟩ := id F
  unfold fX5_leaveOrTalk_b46 at hf
  obtain ⟨a901, j1, hf⟩ := ob hf
  obtain ⟨h1, e1, hf⟩ := ob hf
  refine zw_callV (rest := []) (n := 1) F (kX5_need l D base s1 s0 h e1) 5 rfl (by decide) j1 wd_470 wd_472 ws_9 wd_5 wd_473 (by decide +kernel) ⟨by decide, by decide⟩ hW hS rfl hl.1.1 (by decide) rfl ⟨(by decide), (by decide)⟩ dX5_leaveOrTalk_46 (fun H locs hW hS => ?_)
  refine W.eq (g2 := F0 m 49 ls []) rfl ?_
  refine lv_goto (tgt := 122) hx hb dX5_leaveOrTalk_49 (by decide) ?_
  obtain rfl := oretv hf
  exact zw_vreturn F hW hS dX5_leaveOrTalk_122
set_option maxRecDepth 100000 in
set_option maxHeartbeats 4000000 in
theorem kX5_leaveOrTalk_w (F : zF p s m args meth c cX5_leaveOrTalk 4 RX5 none) {h' : zH} (a0 : Option Nat) (a1 : Option Nat) (a2 : Int32) (h : zH) (hf : fX5_leaveOrTalk a0 a1 a2 h = some h') (H : Heap) (locs : List Loc) (ls : Array Slot) (hl : zhas ls 4 [(0, va_rf a0), (1, va_rf a1), (2, .int a2)]) (hW : z_W D base s h H) (hS : va_S (zA base) s.heap H locs) : W p l e rmX5_leaveOrTalk s m args below meth c H locs 0 0 (MQ below (zQ D base none h') args s rmX5_leaveOrTalk.cells rmX5_leaveOrTalk.slots (zA base)) (F0 m 0 ls []) := by
  obtain ⟨hx, hb, hml, hown, hts, hret, hlk, hZ⟩ := id F
  unfold fX5_leaveOrTalk at hf
  refine lv_iload_n hx hb dX5_leaveOrTalk_0 rfl (lv_at hl.1 2 rfl) ?_
  by_cases c1 : a2 = 37
  · have hf := oift c1 hf
    refine zl_tab hx hb (37) (31) (tgt := 32) dX5_leaveOrTalk_1 (by rw [c1]; decide) (by decide) ?_
    refine zw_aload_n hx hb dX5_leaveOrTalk_32 rfl (lv_at hl.1 0 rfl) ?_
    refine zw_aload_n hx hb dX5_leaveOrTalk_33 rfl (lv_at hl.1 1 rfl) ?_
    obtain ⟨v2, e2, hf⟩ := ob hf
    refine zw_gI hx hb hts inX3 hown hW (ci := 3) rfl (by decide) 1 (by decide) (hts _ wd_212) e2 (fun _ _ => rfl) dX5_leaveOrTalk_34 ?_
    refine lv_iconst (v := (-1)) hx hb dX5_leaveOrTalk_37 (by decide) ?_
    refine lv_icmp_ne (tgt := 45) hx hb dX5_leaveOrTalk_38 (by decide) (fun c3 => ?_) (fun c3 => ?_)
    · have hf := oiff c3 hf
      refine lv_iconst (v := 0) hx hb dX5_leaveOrTalk_45 (by decide) ?_
      exact kX5_leaveOrTalk_b46 F 0 a0 h hf H locs ls (z_sub hl [] rfl) hW hS
    · have hf := oift c3 hf
      refine lv_iconst (v := 1) hx hb dX5_leaveOrTalk_41 (by decide) ?_
      refine lv_goto (tgt := 46) hx hb dX5_leaveOrTalk_42 (by decide) ?_
      exact kX5_leaveOrTalk_b46 F 1 a0 h hf H locs ls (z_sub hl [] rfl) hW hS
  · have hf := oiff c1 hf
    by_cases c4 : a2 = 38
    · have hf := oift c4 hf
      refine zl_tab hx hb (38) (51) (tgt := 52) dX5_leaveOrTalk_1 (by rw [c4]; decide) (by decide) ?_
      refine zw_aload_n hx hb dX5_leaveOrTalk_52 rfl (lv_at hl.1 0 rfl) ?_
      refine zw_aload_n hx hb dX5_leaveOrTalk_53 rfl (lv_at hl.1 1 rfl) ?_
      obtain ⟨v5, e5, hf⟩ := ob hf
      refine zw_gI hx hb hts inX3 hown hW (ci := 3) rfl (by decide) 1 (by decide) (hts _ wd_212) e5 (fun _ _ => rfl) dX5_leaveOrTalk_54 ?_
      refine lv_iconst (v := (-1)) hx hb dX5_leaveOrTalk_57 (by decide) ?_
      refine lv_icmp_eq (tgt := 65) hx hb dX5_leaveOrTalk_58 (by decide) (fun c6 => ?_) (fun c6 => ?_)
      · have hf := oift c6 hf
        refine lv_iconst (v := 0) hx hb dX5_leaveOrTalk_65 (by decide) ?_
        exact kX5_leaveOrTalk_b66 F a0 a1 0 a0 h hf H locs ls (z_sub hl [0, 1] rfl) hW hS
      · have hf := oiff c6 hf
        refine lv_iconst (v := 1) hx hb dX5_leaveOrTalk_61 (by decide) ?_
        refine lv_goto (tgt := 66) hx hb dX5_leaveOrTalk_62 (by decide) ?_
        exact kX5_leaveOrTalk_b66 F a0 a1 1 a0 h hf H locs ls (z_sub hl [0, 1] rfl) hW hS
    · have hf := oiff c4 hf
      by_cases c7 : a2 = 39
      · have hf := oift c7 hf
        refine zl_tab hx hb (39) (79) (tgt := 80) dX5_leaveOrTalk_1 (by rw [c7]; decide) (by decide) ?_
        refine zw_aload_n hx hb dX5_leaveOrTalk_80 rfl (lv_at hl.1 0 rfl) ?_
        obtain ⟨a908, j8, hf⟩ := ob hf
        obtain ⟨q8, e8, hf⟩ := ob hf
        refine zw_callV (rest := []) (n := 0) F (kX5_take (r := q8.1) (h' := q8.2) l D base a0 h e8) 5 rfl (by decide) j8 wd_482 wd_484 ws_11 wd_5 wd_485 (by decide +kernel) ⟨by decide, by decide⟩ hW hS rfl hl.1.1 (by decide) rfl ⟨(by decide), (by decide)⟩ dX5_leaveOrTalk_81 (fun H locs hW hS => ?_)
        refine W.eq (g2 := F0 m 84 ls [.int q8.1]) rfl ?_
        refine zl_istore_n (lv' := [(3, .int q8.1), (0, va_rf a0), (1, va_rf a1), (2, .int a2)]) hx hb dX5_leaveOrTalk_84 rfl hl (by decide) rfl (fun ls hl => ?_)
        refine zw_aload_n hx hb dX5_leaveOrTalk_85 rfl (lv_at hl.1 1 rfl) ?_
        refine lv_iload_n hx hb dX5_leaveOrTalk_86 rfl (lv_at hl.1 0 rfl) ?_
        obtain ⟨q9, e9, hf⟩ := ob hf
        refine zw_callSN (rest := [va_rf a0]) (n := 1) F (kX8_isKindType (r := q9.1) (h' := q9.2) l D base q8.1 q8.2 e9) wd_560 wd_561 wd_1 wd_562 (by decide +kernel) ⟨by decide, by decide⟩ hW hS rfl hl.1.1 (by simp only [List.map_cons, List.map_nil, va_rf_cat, z_icat, List.sum_cons, List.sum_nil]; decide) rfl ⟨(by decide), (by decide)⟩ dX5_leaveOrTalk_87 (fun H locs hW hS => ?_)
        refine W.eq (g2 := F0 m 90 ls [.int q9.1, va_rf a0]) rfl ?_
        refine lv_if_ne (tgt := 99) hx hb dX5_leaveOrTalk_90 (by decide) (fun c10 => ?_) (fun c10 => ?_)
        · have hf := oiff c10 hf
          exact kX5_leaveOrTalk_b99 F a0 q9.2 hf H locs ls (z_sub hl [] rfl) hW hS
        · have hf := oift c10 hf
          refine lv_iload_n hx hb dX5_leaveOrTalk_93 rfl (lv_at hl.1 0 rfl) ?_
          refine lv_bipush (v := 97) hx hb dX5_leaveOrTalk_94 (by decide) ?_
          refine lv_icmp_ne (tgt := 103) hx hb dX5_leaveOrTalk_96 (by decide) (fun c11 => ?_) (fun c11 => ?_)
          · have hf := oiff c11 hf
            refine lv_iconst (v := 0) hx hb dX5_leaveOrTalk_103 (by decide) ?_
            exact kX5_leaveOrTalk_b104 F 0 a0 q9.2 hf H locs ls (z_sub hl [] rfl) hW hS
          · have hf := oift c11 hf
            exact kX5_leaveOrTalk_b99 F a0 q9.2 hf H locs ls (z_sub hl [] rfl) hW hS
      · have hf := oiff c7 hf
        by_cases c12 : a2 = 40
        · have hf := oift c12 hf
          refine zl_tab hx hb (40) (109) (tgt := 110) dX5_leaveOrTalk_1 (by rw [c12]; decide) (by decide) ?_
          refine zw_aload_n hx hb dX5_leaveOrTalk_110 rfl (lv_at hl.1 0 rfl) ?_
          refine lv_iconst (v := 0) hx hb dX5_leaveOrTalk_111 (by decide) ?_
          obtain ⟨a913, j13, hf⟩ := ob hf
          obtain ⟨h13, e13, hf⟩ := ob hf
          refine zw_callV (rest := []) (n := 1) F (kX5_put l D base a0 0 h e13) 5 rfl (by decide) j13 wd_465 wd_467 ws_8 wd_5 wd_468 (by decide +kernel) ⟨by decide, by decide⟩ hW hS rfl hl.1.1 (by decide) rfl ⟨(by decide), (by decide)⟩ dX5_leaveOrTalk_112 (fun H locs hW hS => ?_)
          refine W.eq (g2 := F0 m 115 ls []) rfl ?_
          refine lv_goto (tgt := 122) hx hb dX5_leaveOrTalk_115 (by decide) ?_
          obtain rfl := oretv hf
          exact zw_vreturn F hW hS dX5_leaveOrTalk_122
        · have hf := oiff c12 hf
          refine zl_tabD hx hb [37, 38, 39, 40] (tgt := 118) dX5_leaveOrTalk_1 (fun k hk => by simp only [List.mem_cons, List.not_mem_nil, or_false] at hk; rcases hk with rfl | rfl | rfl | rfl <;> first | exact lv_neT c1 (by decide) | exact lv_neT c4 (by decide) | exact lv_neT c7 (by decide) | exact lv_neT c12 (by decide)) (by decide) ?_
          refine zw_aload_n hx hb dX5_leaveOrTalk_118 rfl (lv_at hl.1 0 rfl) ?_
          obtain ⟨a914, j14, hf⟩ := ob hf
          obtain ⟨h14, e14, hf⟩ := ob hf
          refine zw_callV (rest := []) (n := 0) F (kX5_takeInt l D base a0 h e14) 5 rfl (by decide) j14 wd_506 wd_508 ws_15 wd_5 wd_509 (by decide +kernel) ⟨by decide, by decide⟩ hW hS rfl hl.1.1 (by decide) rfl ⟨(by decide), (by decide)⟩ dX5_leaveOrTalk_119 (fun H locs hW hS => ?_)
          refine W.eq (g2 := F0 m 122 ls []) rfl ?_
          obtain rfl := oretv hf
          exact zw_vreturn F hW hS dX5_leaveOrTalk_122
set_option maxRecDepth 100000 in
set_option maxHeartbeats 4000000 in
theorem kX5_leaveOrTalk (l : Launch) (D : va_G) (base : Nat) (a0 : Option Nat) (a1 : Option Nat) (a2 : Int32) (h : zH) {h' : zH} (hf : fX5_leaveOrTalk a0 a1 a2 h = some h') : zMet l D base yX5_leaveOrTalk cX5_leaveOrTalk 4 none rmX5_leaveOrTalk h [va_rf a0, va_rf a1, .int a2] none h' :=
  zMet.of (by decide +kernel) (fun v hv => by simp only [List.mem_cons, List.not_mem_nil, or_false] at hv; rcases hv with rfl | rfl | rfl <;> first | rfl | exact va_rf_cat _) (Nat.le_of_ble_eq_true rfl) (fun p e s m args below meth c ls F hi hl hW hS => kX5_leaveOrTalk_w F a0 a1 a2 h hf s.heap [] ls hl hW hS)
set_option maxRecDepth 100000 in
set_option maxHeartbeats 4000000 in
theorem kX5_perform_b122 (N : Nat) {r : Int32} {h' : zH} (F : zF p s m args meth c cX5_perform 3 RX5 (some .boolean)) (l0 : Option Nat) (h : zH) (hf : fX5_perform_b122 N l0 h = some (r, h')) (H : Heap) (locs : List Loc) (ls : Array Slot) (hl : zhas ls 3 [(0, va_rf l0)]) (hW : z_W D base s h H) (hS : va_S (zA base) s.heap H locs) : W p l e rmX5_perform s m args below meth c H locs 0 0 (MQ below (zQ D base (some (.int r)) h') args s rmX5_perform.cells rmX5_perform.slots (zA base)) (F0 m 122 ls []) := by
  obtain ⟨hx, hb, hml, hown, hts, hret, hlk, hZ⟩ := id F
  unfold fX5_perform_b122 at hf
  refine zw_aload_n hx hb dX5_perform_122 rfl (lv_at hl.1 0 rfl) ?_
  obtain ⟨v1, e1, hf⟩ := ob hf
  refine zw_gI hx hb hts inX5 hown hW (ci := 5) rfl (by decide) 2 (by decide) (hts _ wd_81) e1 (fun _ _ => rfl) dX5_perform_123 ?_
  obtain ⟨hz, rfl, rfl⟩ := oretz hf
  exact zw_zreturn F hz hW hS dX5_perform_126
set_option maxRecDepth 100000 in
set_option maxHeartbeats 4000000 in
theorem kX5_perform_w (N : Nat) (F : zF p s m args meth c cX5_perform 3 RX5 (some .boolean)) {r : Int32} {h' : zH} (a0 : Option Nat) (a1 : Option Nat) (a2 : Option Nat) (h : zH) (hf : fX5_perform N a0 a1 a2 h = some (r, h')) (H : Heap) (locs : List Loc) (ls : Array Slot) (hl : zhas ls 3 [(0, va_rf a0), (1, va_rf a1), (2, va_rf a2)]) (hW : z_W D base s h H) (hS : va_S (zA base) s.heap H locs) : W p l e rmX5_perform s m args below meth c H locs 0 0 (MQ below (zQ D base (some (.int r)) h') args s rmX5_perform.cells rmX5_perform.slots (zA base)) (F0 m 0 ls []) := by
  obtain ⟨hx, hb, hml, hown, hts, hret, hlk, hZ⟩ := id F
  unfold fX5_perform at hf
  refine zw_aload_n hx hb dX5_perform_0 rfl (lv_at hl.1 0 rfl) ?_
  refine lv_iconst (v := 1) hx hb dX5_perform_1 (by decide) ?_
  obtain ⟨h1, e1, hf⟩ := ob hf
  obtain ⟨b1, e1⟩ := pZ_spec e1
  refine zw_pI hx hb hts inX5 tyX5 tyX5_ok nmX5 hown hW hS (ci := 5) rfl (by decide) 2 (by decide) (hts _ wd_81) (Or.inl rfl) (fun _ _ => rfl) (z_bool b1).1 (z_bool b1).2 e1 dX5_perform_2 (fun H locs hW hS => ?_)
  refine zw_aload_n hx hb dX5_perform_5 rfl (lv_at hl.1 2 rfl) ?_
  obtain ⟨v2, e2, hf⟩ := ob hf
  refine zw_gI hx hb hts inX1 hown hW (ci := 1) rfl (by decide) 0 (by decide) (hts _ wd_328) e2 (fun _ _ => rfl) dX5_perform_6 ?_
  refine lv_bipush (v := 6) hx hb dX5_perform_9 (by decide) ?_
  refine lv_icmp_gt (tgt := 22) hx hb dX5_perform_11 (by decide) (fun c3 => ?_) (fun c3 => ?_)
  · have hf := oift c3 hf
    refine zw_aload_n hx hb dX5_perform_22 rfl (lv_at hl.1 2 rfl) ?_
    obtain ⟨v4, e4, hf⟩ := ob hf
    refine zw_gI hx hb hts inX1 hown hW (ci := 1) rfl (by decide) 0 (by decide) (hts _ wd_328) e4 (fun _ _ => rfl) dX5_perform_23 ?_
    refine lv_bipush (v := 18) hx hb dX5_perform_26 (by decide) ?_
    refine lv_icmp_gt (tgt := 42) hx hb dX5_perform_28 (by decide) (fun c5 => ?_) (fun c5 => ?_)
    · have hf := oift c5 hf
      refine zw_aload_n hx hb dX5_perform_42 rfl (lv_at hl.1 2 rfl) ?_
      obtain ⟨v6, e6, hf⟩ := ob hf
      refine zw_gI hx hb hts inX1 hown hW (ci := 1) rfl (by decide) 0 (by decide) (hts _ wd_328) e6 (fun _ _ => rfl) dX5_perform_43 ?_
      refine lv_bipush (v := 25) hx hb dX5_perform_46 (by decide) ?_
      refine lv_icmp_gt (tgt := 62) hx hb dX5_perform_48 (by decide) (fun c7 => ?_) (fun c7 => ?_)
      · have hf := oift c7 hf
        refine zw_aload_n hx hb dX5_perform_62 rfl (lv_at hl.1 2 rfl) ?_
        obtain ⟨v8, e8, hf⟩ := ob hf
        refine zw_gI hx hb hts inX1 hown hW (ci := 1) rfl (by decide) 0 (by decide) (hts _ wd_328) e8 (fun _ _ => rfl) dX5_perform_63 ?_
        refine lv_bipush (v := 30) hx hb dX5_perform_66 (by decide) ?_
        refine lv_icmp_gt (tgt := 79) hx hb dX5_perform_68 (by decide) (fun c9 => ?_) (fun c9 => ?_)
        · have hf := oift c9 hf
          refine zw_aload_n hx hb dX5_perform_79 rfl (lv_at hl.1 2 rfl) ?_
          obtain ⟨v10, e10, hf⟩ := ob hf
          refine zw_gI hx hb hts inX1 hown hW (ci := 1) rfl (by decide) 0 (by decide) (hts _ wd_328) e10 (fun _ _ => rfl) dX5_perform_80 ?_
          refine lv_bipush (v := 34) hx hb dX5_perform_83 (by decide) ?_
          refine lv_icmp_gt (tgt := 96) hx hb dX5_perform_85 (by decide) (fun c11 => ?_) (fun c11 => ?_)
          · have hf := oift c11 hf
            refine zw_aload_n hx hb dX5_perform_96 rfl (lv_at hl.1 2 rfl) ?_
            obtain ⟨v12, e12, hf⟩ := ob hf
            refine zw_gI hx hb hts inX1 hown hW (ci := 1) rfl (by decide) 0 (by decide) (hts _ wd_328) e12 (fun _ _ => rfl) dX5_perform_97 ?_
            refine lv_bipush (v := 36) hx hb dX5_perform_100 (by decide) ?_
            refine lv_icmp_gt (tgt := 113) hx hb dX5_perform_102 (by decide) (fun c13 => ?_) (fun c13 => ?_)
            · have hf := oift c13 hf
              refine zw_aload_n hx hb dX5_perform_113 rfl (lv_at hl.1 0 rfl) ?_
              refine zw_aload_n hx hb dX5_perform_114 rfl (lv_at hl.1 1 rfl) ?_
              refine zw_aload_n hx hb dX5_perform_115 rfl (lv_at hl.1 2 rfl) ?_
              obtain ⟨v14, e14, hf⟩ := ob hf
              refine zw_gI hx hb hts inX1 hown hW (ci := 1) rfl (by decide) 0 (by decide) (hts _ wd_328) e14 (fun _ _ => rfl) dX5_perform_116 ?_
              obtain ⟨a915, j15, hf⟩ := ob hf
              obtain ⟨h15, e15, hf⟩ := ob hf
              refine zw_callV (rest := []) (n := 2) F (kX5_leaveOrTalk l D base a0 a1 v14 h1 e15) 5 rfl (by decide) j15 wd_556 wd_558 ws_23 wd_5 wd_559 (by decide +kernel) ⟨by decide, by decide⟩ hW hS rfl hl.1.1 (by decide) rfl ⟨(by decide), (by decide)⟩ dX5_perform_119 (fun H locs hW hS => ?_)
              refine W.eq (g2 := F0 m 122 ls []) rfl ?_
              exact kX5_perform_b122 N F a0 h15 hf H locs ls (z_sub hl [0] rfl) hW hS
            · have hf := oiff c13 hf
              refine zw_aload_n hx hb dX5_perform_105 rfl (lv_at hl.1 0 rfl) ?_
              refine zw_aload_n hx hb dX5_perform_106 rfl (lv_at hl.1 2 rfl) ?_
              obtain ⟨a916, j16, hf⟩ := ob hf
              obtain ⟨h16, e16, hf⟩ := ob hf
              refine zw_callV (rest := []) (n := 1) F (kX5_invoke l D base N a0 a2 h1 e16) 5 rfl (by decide) j16 wd_549 wd_551 ws_22 wd_5 wd_552 (by decide +kernel) ⟨by decide, by decide⟩ hW hS rfl hl.1.1 (by decide) rfl ⟨(by decide), (by decide)⟩ dX5_perform_107 (fun H locs hW hS => ?_)
              refine W.eq (g2 := F0 m 110 ls []) rfl ?_
              refine lv_goto (tgt := 122) hx hb dX5_perform_110 (by decide) ?_
              exact kX5_perform_b122 N F a0 h16 hf H locs ls (z_sub hl [0] rfl) hW hS
          · have hf := oiff c11 hf
            refine zw_aload_n hx hb dX5_perform_88 rfl (lv_at hl.1 0 rfl) ?_
            refine zw_aload_n hx hb dX5_perform_89 rfl (lv_at hl.1 2 rfl) ?_
            obtain ⟨a917, j17, hf⟩ := ob hf
            obtain ⟨h17, e17, hf⟩ := ob hf
            refine zw_callV (rest := []) (n := 1) F (kX5_useRow l D base a0 a2 h1 e17) 5 rfl (by decide) j17 wd_536 wd_538 ws_20 wd_5 wd_539 (by decide +kernel) ⟨by decide, by decide⟩ hW hS rfl hl.1.1 (by decide) rfl ⟨(by decide), (by decide)⟩ dX5_perform_90 (fun H locs hW hS => ?_)
            refine W.eq (g2 := F0 m 93 ls []) rfl ?_
            refine lv_goto (tgt := 122) hx hb dX5_perform_93 (by decide) ?_
            exact kX5_perform_b122 N F a0 h17 hf H locs ls (z_sub hl [0] rfl) hW hS
        · have hf := oiff c9 hf
          refine zw_aload_n hx hb dX5_perform_71 rfl (lv_at hl.1 0 rfl) ?_
          refine zw_aload_n hx hb dX5_perform_72 rfl (lv_at hl.1 2 rfl) ?_
          obtain ⟨a918, j18, hf⟩ := ob hf
          obtain ⟨h18, e18, hf⟩ := ob hf
          refine zw_callV (rest := []) (n := 1) F (kX5_useObject l D base a0 a2 h1 e18) 5 rfl (by decide) j18 wd_519 wd_521 ws_18 wd_5 wd_522 (by decide +kernel) ⟨by decide, by decide⟩ hW hS rfl hl.1.1 (by decide) rfl ⟨(by decide), (by decide)⟩ dX5_perform_73 (fun H locs hW hS => ?_)
          refine W.eq (g2 := F0 m 76 ls []) rfl ?_
          refine lv_goto (tgt := 122) hx hb dX5_perform_76 (by decide) ?_
          exact kX5_perform_b122 N F a0 h18 hf H locs ls (z_sub hl [0] rfl) hW hS
      · have hf := oiff c7 hf
        refine zw_aload_n hx hb dX5_perform_51 rfl (lv_at hl.1 0 rfl) ?_
        refine zw_aload_n hx hb dX5_perform_52 rfl (lv_at hl.1 2 rfl) ?_
        obtain ⟨v19, e19, hf⟩ := ob hf
        refine zw_gI hx hb hts inX1 hown hW (ci := 1) rfl (by decide) 0 (by decide) (hts _ wd_328) e19 (fun _ _ => rfl) dX5_perform_53 ?_
        obtain ⟨a920, j20, hf⟩ := ob hf
        obtain ⟨h20, e20, hf⟩ := ob hf
        refine zw_callV (rest := []) (n := 1) F (kX5_branch l D base a0 v19 h1 e20) 5 rfl (by decide) j20 wd_510 wd_512 ws_16 wd_5 wd_513 (by decide +kernel) ⟨by decide, by decide⟩ hW hS rfl hl.1.1 (by decide) rfl ⟨(by decide), (by decide)⟩ dX5_perform_56 (fun H locs hW hS => ?_)
        refine W.eq (g2 := F0 m 59 ls []) rfl ?_
        refine lv_goto (tgt := 122) hx hb dX5_perform_59 (by decide) ?_
        exact kX5_perform_b122 N F a0 h20 hf H locs ls (z_sub hl [0] rfl) hW hS
    · have hf := oiff c5 hf
      refine zw_aload_n hx hb dX5_perform_31 rfl (lv_at hl.1 0 rfl) ?_
      refine zw_aload_n hx hb dX5_perform_32 rfl (lv_at hl.1 2 rfl) ?_
      obtain ⟨v21, e21, hf⟩ := ob hf
      refine zw_gI hx hb hts inX1 hown hW (ci := 1) rfl (by decide) 0 (by decide) (hts _ wd_328) e21 (fun _ _ => rfl) dX5_perform_33 ?_
      obtain ⟨a922, j22, hf⟩ := ob hf
      obtain ⟨h22, e22, hf⟩ := ob hf
      refine zw_callV (rest := []) (n := 1) F (kX5_reckon l D base a0 v21 h1 e22) 5 rfl (by decide) j22 wd_502 wd_504 ws_14 wd_5 wd_505 (by decide +kernel) ⟨by decide, by decide⟩ hW hS rfl hl.1.1 (by decide) rfl ⟨(by decide), (by decide)⟩ dX5_perform_36 (fun H locs hW hS => ?_)
      refine W.eq (g2 := F0 m 39 ls []) rfl ?_
      refine lv_goto (tgt := 122) hx hb dX5_perform_39 (by decide) ?_
      exact kX5_perform_b122 N F a0 h22 hf H locs ls (z_sub hl [0] rfl) hW hS
  · have hf := oiff c3 hf
    refine zw_aload_n hx hb dX5_perform_14 rfl (lv_at hl.1 0 rfl) ?_
    refine zw_aload_n hx hb dX5_perform_15 rfl (lv_at hl.1 2 rfl) ?_
    obtain ⟨a923, j23, hf⟩ := ob hf
    obtain ⟨h23, e23, hf⟩ := ob hf
    refine zw_callV (rest := []) (n := 1) F (kX5_move l D base a0 a2 h1 e23) 5 rfl (by decide) j23 wd_461 wd_463 ws_7 wd_5 wd_464 (by decide +kernel) ⟨by decide, by decide⟩ hW hS rfl hl.1.1 (by decide) rfl ⟨(by decide), (by decide)⟩ dX5_perform_16 (fun H locs hW hS => ?_)
    refine W.eq (g2 := F0 m 19 ls []) rfl ?_
    refine lv_goto (tgt := 122) hx hb dX5_perform_19 (by decide) ?_
    exact kX5_perform_b122 N F a0 h23 hf H locs ls (z_sub hl [0] rfl) hW hS
set_option maxRecDepth 100000 in
set_option maxHeartbeats 4000000 in
theorem kX5_perform (l : Launch) (D : va_G) (base : Nat) (N : Nat) (a0 : Option Nat) (a1 : Option Nat) (a2 : Option Nat) (h : zH) {r : Int32} {h' : zH} (hf : fX5_perform N a0 a1 a2 h = some (r, h')) : zMet l D base yX5_perform cX5_perform 3 (some .boolean) rmX5_perform h [va_rf a0, va_rf a1, va_rf a2] (some (.int r)) h' :=
  zMet.of (by decide +kernel) (fun v hv => by simp only [List.mem_cons, List.not_mem_nil, or_false] at hv; rcases hv with rfl | rfl | rfl <;> first | rfl | exact va_rf_cat _) (Nat.le_of_ble_eq_true rfl) (fun p e s m args below meth c ls F hi hl hW hS => kX5_perform_w N F a0 a1 a2 h hf s.heap [] ls hl hW hS)
set_option maxRecDepth 100000 in
set_option maxHeartbeats 4000000 in
theorem kX6_init_w (F : zF p s m args meth c cX6_init 1 RX6 none) (hin : meth.name = "<init>") {h' : zH} (a0 : Option Nat) (h : zH) (hf : fX6_init a0 h = some h') (H : Heap) (locs : List Loc) (ls : Array Slot) (hl : zhas ls 1 [(0, va_rf a0)]) (hW : z_W D base s h H) (hS : va_S (zA base) s.heap H locs) : W p l e rmX6_init s m args below meth c H locs 0 0 (MQ below (zQ D base none h') args s rmX6_init.cells rmX6_init.slots (zA base)) (F0 m 0 ls []) := by
  obtain ⟨hx, hb, hml, hown, hts, hret, hlk, hZ⟩ := id F
  unfold fX6_init at hf
  refine zw_aload_n hx hb dX6_init_0 rfl (lv_at hl.1 0 rfl) ?_
  obtain ⟨a901, e1, hf⟩ := ob hf
  refine zw_objInit F e1 wd_26 wd_19 wd_20 (by decide +kernel) hl.1.1 (by decide) (by simp only [List.map_cons, List.map_nil, va_rf_cat, z_icat, List.sum_cons, List.sum_nil]; decide) dX6_init_1 ?_
  refine zw_aload_n hx hb dX6_init_4 rfl (lv_at hl.1 0 rfl) ?_
  refine lv_bipush (v := 32) hx hb dX6_init_5 (by decide) ?_
  refine zw_nQ hx hb 2 hown (hts _ wd_27) (va_AO.use (hZ.2 _ wd_28)) hW hS 32 (by decide) (by decide) (by decide) (by decide) (by decide) dX6_init_7 (fun H hW hS => ?_)
  obtain ⟨h2, e2, hf⟩ := ob hf
  refine zw_pR hx hb hts inX6 tyX6 tyX6_ok nmX6 hown hW hS (ci := 6) rfl (by decide) 0 (by decide) (hts _ wd_31) (Or.inr ⟨rfl, hin, rfl⟩) (fun _ _ => rfl) (fun v => z_arrn v) (fun v => z_arrf v) e2 dX6_init_10 (fun H locs hW hS => ?_)
  refine zw_aload_n hx hb dX6_init_13 rfl (lv_at hl.1 0 rfl) ?_
  refine lv_bipush (v := 64) hx hb dX6_init_14 (by decide) ?_
  refine zw_nQ hx hb 3 hown (hts _ wd_29) (va_AO.use (hZ.2 _ wd_30)) hW hS 64 (by decide) (by decide) (by decide) (by decide) (by decide) dX6_init_16 (fun H hW hS => ?_)
  obtain ⟨h3, e3, hf⟩ := ob hf
  refine zw_pR hx hb hts inX6 tyX6 tyX6_ok nmX6 hown hW hS (ci := 6) rfl (by decide) 1 (by decide) (hts _ wd_32) (Or.inr ⟨rfl, hin, rfl⟩) (fun _ _ => rfl) (fun v => z_arrn v) (fun v => z_arrf v) e3 dX6_init_19 (fun H locs hW hS => ?_)
  obtain rfl := oretv hf
  exact zw_vreturn F hW hS dX6_init_22
set_option maxRecDepth 100000 in
set_option maxHeartbeats 4000000 in
theorem kX6_init (l : Launch) (D : va_G) (base : Nat) (a0 : Option Nat) (h : zH) {h' : zH} (hf : fX6_init a0 h = some h') : zMet l D base yX6_init cX6_init 1 none rmX6_init h [va_rf a0] none h' :=
  zMet.of (by decide +kernel) (fun v hv => by simp only [List.mem_cons, List.not_mem_nil, or_false] at hv; subst hv; first | rfl | exact va_rf_cat _) (Nat.le_of_ble_eq_true rfl) (fun p e s m args below meth c ls F hi hl hW hS => kX6_init_w F (hi rfl) a0 h hf s.heap [] ls hl hW hS)
set_option maxRecDepth 100000 in
set_option maxHeartbeats 4000000 in
theorem kX6_addKind_b52 (N : Nat) {r : Int32} {h' : zH} (F : zF p s m args meth c cX6_addKind 2 RX6 (some .int)) (l0 : Option Nat) (h : zH) (hf : fX6_addKind_b52 N l0 h = some (r, h')) (H : Heap) (locs : List Loc) (ls : Array Slot) (hl : zhas ls 2 [(0, va_rf l0)]) (hW : z_W D base s h H) (hS : va_S (zA base) s.heap H locs) : W p l e rmX6_addKind s m args below meth c H locs 3 38 (MQ below (zQ D base (some (.int r)) h') args s rmX6_addKind.cells rmX6_addKind.slots (zA base)) (F0 m 52 ls []) := by
  obtain ⟨hx, hb, hml, hown, hts, hret, hlk, hZ⟩ := id F
  unfold fX6_addKind_b52 at hf
  refine zw_aload_n hx hb dX6_addKind_52 rfl (lv_at hl.1 0 rfl) ?_
  obtain ⟨v1, e1, hf⟩ := ob hf
  refine zw_gI hx hb hts inX6 hown hW (ci := 6) rfl (by decide) 2 (by decide) (hts _ wd_33) e1 (fun _ _ => rfl) dX6_addKind_53 ?_
  refine lv_iconst (v := 1) hx hb dX6_addKind_56 (by decide) ?_
  refine lv_isub hx hb dX6_addKind_57 ?_
  obtain ⟨rfl, rfl⟩ := oret hf
  exact zw_ireturn F hW hS dX6_addKind_58
set_option maxRecDepth 100000 in
set_option maxHeartbeats 4000000 in
theorem kX6_addKind_w (N : Nat) (F : zF p s m args meth c cX6_addKind 2 RX6 (some .int)) {r : Int32} {h' : zH} (a0 : Option Nat) (a1 : Option Nat) (h : zH) (hf : fX6_addKind N a0 a1 h = some (r, h')) (H : Heap) (locs : List Loc) (ls : Array Slot) (hl : zhas ls 2 [(0, va_rf a0), (1, va_rf a1)]) (hW : z_W D base s h H) (hS : va_S (zA base) s.heap H locs) : W p l e rmX6_addKind s m args below meth c H locs 0 0 (MQ below (zQ D base (some (.int r)) h') args s rmX6_addKind.cells rmX6_addKind.slots (zA base)) (F0 m 0 ls []) := by
  obtain ⟨hx, hb, hml, hown, hts, hret, hlk, hZ⟩ := id F
  unfold fX6_addKind at hf
  refine zw_aload_n hx hb dX6_addKind_0 rfl (lv_at hl.1 0 rfl) ?_
  obtain ⟨v1, e1, hf⟩ := ob hf
  refine zw_gI hx hb hts inX6 hown hW (ci := 6) rfl (by decide) 2 (by decide) (hts _ wd_33) e1 (fun _ _ => rfl) dX6_addKind_1 ?_
  refine lv_bipush (v := 32) hx hb dX6_addKind_4 (by decide) ?_
  refine lv_icmp_lt (tgt := 12) hx hb dX6_addKind_6 (by decide) (fun c2 => ?_) (fun c2 => ?_)
  · have hf := oift c2 hf
    refine zw_aload_n hx hb dX6_addKind_12 rfl (lv_at hl.1 0 rfl) ?_
    obtain ⟨v3, e3, hf⟩ := ob hf
    refine zw_gR hx hb hts inX6 hown hW (ci := 6) rfl (by decide) 0 (by decide) (hts _ wd_31) e3 (fun _ _ => rfl) dX6_addKind_13 ?_
    refine zw_aload_n hx hb dX6_addKind_16 rfl (lv_at hl.1 0 rfl) ?_
    obtain ⟨v4, e4, hf⟩ := ob hf
    refine zw_gI hx hb hts inX6 hown hW (ci := 6) rfl (by decide) 2 (by decide) (hts _ wd_33) e4 (fun _ _ => rfl) dX6_addKind_17 ?_
    refine zw_nO hx hb hts inX2 tyX2 tyX2_ok hown (hts _ wd_27) (hts _ wd_128) (hts _ wd_7) hW hS (ci := 2) rfl (by decide) zdX2 (by decide) (by decide) dX6_addKind_20 (fun H hW hS => ?_)
    refine lv_dup hx hb dX6_addKind_23 (va_rf_cat _) ?_
    refine zw_aload_n hx hb dX6_addKind_24 rfl (lv_at hl.1 0 rfl) ?_
    obtain ⟨v5, e5, hf⟩ := ob hf
    refine zw_gI hx hb hts inX6 hown hW (ci := 6) rfl (by decide) 2 (by decide) (hts _ wd_33) e5 (fun _ _ => rfl) dX6_addKind_25 ?_
    refine zw_aload_n hx hb dX6_addKind_28 rfl (lv_at hl.1 1 rfl) ?_
    obtain ⟨h6, e6, hf⟩ := ob hf
    refine zw_callI (rest := [va_rf (some (zs h)), .int v4, va_rf v3]) (n := 2) F (kX2_init l D base N (some (zs h)) v5 a1 (nwO 2 h) e6) rfl wd_129 wd_130 wd_7 wd_131 rfl (by decide +kernel) ⟨by decide, by decide⟩ hW hS rfl hl.1.1 (by simp only [List.map_cons, List.map_nil, va_rf_cat, z_icat, List.sum_cons, List.sum_nil]; decide) rfl ⟨(by decide), (by decide)⟩ dX6_addKind_29 (fun H locs hW hS => ?_)
    refine W.eq (g2 := F0 m 32 ls [va_rf (some (zs h)), .int v4, va_rf v3]) rfl ?_
    obtain ⟨h7, e7, hf⟩ := ob hf
    refine zw_sQ hx hb hW hS 2 rfl (by decide) e7 dX6_addKind_32 (fun H locs hW hS => ?_)
    refine zw_aload_n hx hb dX6_addKind_33 rfl (lv_at hl.1 0 rfl) ?_
    refine lv_dup hx hb dX6_addKind_34 (va_rf_cat _) ?_
    obtain ⟨v8, e8, hf⟩ := ob hf
    refine zw_gI hx hb hts inX6 hown hW (ci := 6) rfl (by decide) 2 (by decide) (hts _ wd_33) e8 (fun _ _ => rfl) dX6_addKind_35 ?_
    refine lv_iconst (v := 1) hx hb dX6_addKind_38 (by decide) ?_
    refine lv_iadd hx hb dX6_addKind_39 ?_
    obtain ⟨h9, e9, hf⟩ := ob hf
    refine zw_pI hx hb hts inX6 tyX6 tyX6_ok nmX6 hown hW hS (ci := 6) rfl (by decide) 2 (by decide) (hts _ wd_33) (Or.inl rfl) (fun _ _ => rfl) rfl rfl e9 dX6_addKind_40 (fun H locs hW hS => ?_)
    refine zw_aload_n hx hb dX6_addKind_43 rfl (lv_at hl.1 1 rfl) ?_
    refine zw_ifnull (tgt := 52) hx hb dX6_addKind_44 (by decide) (fun c10 => ?_) (fun c10 => ?_)
    · have hf := oift c10 hf
      exact kX6_addKind_b52 N F a0 h9 hf H locs ls (z_sub hl [0] rfl) hW hS
    · have hf := oiff c10 hf
      refine zw_aload_n hx hb dX6_addKind_47 rfl (lv_at hl.1 1 rfl) ?_
      refine lv_iconst (v := 1) hx hb dX6_addKind_48 (by decide) ?_
      obtain ⟨h11, e11, hf⟩ := ob hf
      obtain ⟨b11, e11⟩ := pZ_spec e11
      refine zw_pI hx hb hts inX2 tyX2 tyX2_ok nmX2 hown hW hS (ci := 2) rfl (by decide) 5 (by decide) (hts _ wd_145) (Or.inl rfl) (fun _ _ => rfl) (z_bool b11).1 (z_bool b11).2 e11 dX6_addKind_49 (fun H locs hW hS => ?_)
      exact kX6_addKind_b52 N F a0 h11 hf H locs ls (z_sub hl [0] rfl) hW hS
  · have hf := oiff c2 hf
    refine lv_bipush (v := (-2)) hx hb dX6_addKind_9 (by decide) ?_
    refine W.widen (k := 3) (n := 38) (by decide) (by decide) ?_
    obtain ⟨rfl, rfl⟩ := oret hf
    exact zw_ireturn F hW hS dX6_addKind_11
set_option maxRecDepth 100000 in
set_option maxHeartbeats 4000000 in
theorem kX6_addKind (l : Launch) (D : va_G) (base : Nat) (N : Nat) (a0 : Option Nat) (a1 : Option Nat) (h : zH) {r : Int32} {h' : zH} (hf : fX6_addKind N a0 a1 h = some (r, h')) : zMet l D base yX6_addKind cX6_addKind 2 (some .int) rmX6_addKind h [va_rf a0, va_rf a1] (some (.int r)) h' :=
  zMet.of (by decide +kernel) (fun v hv => by simp only [List.mem_cons, List.not_mem_nil, or_false] at hv; rcases hv with rfl | rfl <;> first | rfl | exact va_rf_cat _) (Nat.le_of_ble_eq_true rfl) (fun p e s m args below meth c ls F hi hl hW hS => kX6_addKind_w N F a0 a1 h hf s.heap [] ls hl hW hS)
set_option maxRecDepth 100000 in
set_option maxHeartbeats 4000000 in
theorem kX6_addMethod_b52 {r : Int32} {h' : zH} (F : zF p s m args meth c cX6_addMethod 5 RX6 (some .int)) (l0 : Option Nat) (h : zH) (hf : fX6_addMethod_b52 l0 h = some (r, h')) (H : Heap) (locs : List Loc) (ls : Array Slot) (hl : zhas ls 5 [(0, va_rf l0)]) (hW : z_W D base s h H) (hS : va_S (zA base) s.heap H locs) : W p l e rmX6_addMethod s m args below meth c H locs 4 228 (MQ below (zQ D base (some (.int r)) h') args s rmX6_addMethod.cells rmX6_addMethod.slots (zA base)) (F0 m 52 ls []) := by
  obtain ⟨hx, hb, hml, hown, hts, hret, hlk, hZ⟩ := id F
  unfold fX6_addMethod_b52 at hf
  refine zw_aload_n hx hb dX6_addMethod_52 rfl (lv_at hl.1 0 rfl) ?_
  obtain ⟨v1, e1, hf⟩ := ob hf
  refine zw_gI hx hb hts inX6 hown hW (ci := 6) rfl (by decide) 3 (by decide) (hts _ wd_34) e1 (fun _ _ => rfl) dX6_addMethod_53 ?_
  refine lv_iconst (v := 1) hx hb dX6_addMethod_56 (by decide) ?_
  refine lv_isub hx hb dX6_addMethod_57 ?_
  obtain ⟨rfl, rfl⟩ := oret hf
  exact zw_ireturn F hW hS dX6_addMethod_58
set_option maxRecDepth 100000 in
set_option maxHeartbeats 4000000 in
theorem kX6_addMethod_w (F : zF p s m args meth c cX6_addMethod 5 RX6 (some .int)) {r : Int32} {h' : zH} (a0 : Option Nat) (a1 : Option Nat) (a2 : Int32) (a3 : Int32) (a4 : Int32) (h : zH) (hf : fX6_addMethod a0 a1 a2 a3 a4 h = some (r, h')) (H : Heap) (locs : List Loc) (ls : Array Slot) (hl : zhas ls 5 [(0, va_rf a0), (1, va_rf a1), (2, .int a2), (3, .int a3), (4, .int a4)]) (hW : z_W D base s h H) (hS : va_S (zA base) s.heap H locs) : W p l e rmX6_addMethod s m args below meth c H locs 0 0 (MQ below (zQ D base (some (.int r)) h') args s rmX6_addMethod.cells rmX6_addMethod.slots (zA base)) (F0 m 0 ls []) := by
  obtain ⟨hx, hb, hml, hown, hts, hret, hlk, hZ⟩ := id F
  unfold fX6_addMethod at hf
  refine zw_aload_n hx hb dX6_addMethod_0 rfl (lv_at hl.1 0 rfl) ?_
  obtain ⟨v1, e1, hf⟩ := ob hf
  refine zw_gI hx hb hts inX6 hown hW (ci := 6) rfl (by decide) 3 (by decide) (hts _ wd_34) e1 (fun _ _ => rfl) dX6_addMethod_1 ?_
  refine lv_bipush (v := 64) hx hb dX6_addMethod_4 (by decide) ?_
  refine lv_icmp_lt (tgt := 12) hx hb dX6_addMethod_6 (by decide) (fun c2 => ?_) (fun c2 => ?_)
  · have hf := oift c2 hf
    refine zw_aload_n hx hb dX6_addMethod_12 rfl (lv_at hl.1 0 rfl) ?_
    obtain ⟨v3, e3, hf⟩ := ob hf
    refine zw_gR hx hb hts inX6 hown hW (ci := 6) rfl (by decide) 1 (by decide) (hts _ wd_32) e3 (fun _ _ => rfl) dX6_addMethod_13 ?_
    refine zw_aload_n hx hb dX6_addMethod_16 rfl (lv_at hl.1 0 rfl) ?_
    obtain ⟨v4, e4, hf⟩ := ob hf
    refine zw_gI hx hb hts inX6 hown hW (ci := 6) rfl (by decide) 3 (by decide) (hts _ wd_34) e4 (fun _ _ => rfl) dX6_addMethod_17 ?_
    refine zw_nO hx hb hts inX3 tyX3 tyX3_ok hown (hts _ wd_29) (hts _ wd_196) (hts _ wd_9) hW hS (ci := 3) rfl (by decide) zdX3 (by decide) (by decide) dX6_addMethod_20 (fun H hW hS => ?_)
    refine lv_dup hx hb dX6_addMethod_23 (va_rf_cat _) ?_
    refine zw_aload_n hx hb dX6_addMethod_24 rfl (lv_at hl.1 1 rfl) ?_
    refine lv_iload_n hx hb dX6_addMethod_25 rfl (lv_at hl.1 2 rfl) ?_
    refine lv_iload_n hx hb dX6_addMethod_26 rfl (lv_at hl.1 3 rfl) ?_
    refine lv_iload hx hb dX6_addMethod_27 (lv_at hl.1 4 rfl) ?_
    obtain ⟨h5, e5, hf⟩ := ob hf
    refine zw_callI (rest := [va_rf (some (zs h)), .int v4, va_rf v3]) (n := 4) F (kX3_init l D base (some (zs h)) a1 a2 a3 a4 (nwO 3 h) e5) rfl wd_197 wd_198 wd_9 wd_199 rfl (by decide +kernel) ⟨by decide, by decide⟩ hW hS rfl hl.1.1 (by simp only [List.map_cons, List.map_nil, va_rf_cat, z_icat, List.sum_cons, List.sum_nil]; decide) rfl ⟨(by decide), (by decide)⟩ dX6_addMethod_29 (fun H locs hW hS => ?_)
    refine W.eq (g2 := F0 m 32 ls [va_rf (some (zs h)), .int v4, va_rf v3]) rfl ?_
    obtain ⟨h6, e6, hf⟩ := ob hf
    refine zw_sQ hx hb hW hS 3 rfl (by decide) e6 dX6_addMethod_32 (fun H locs hW hS => ?_)
    refine zw_aload_n hx hb dX6_addMethod_33 rfl (lv_at hl.1 0 rfl) ?_
    refine lv_dup hx hb dX6_addMethod_34 (va_rf_cat _) ?_
    obtain ⟨v7, e7, hf⟩ := ob hf
    refine zw_gI hx hb hts inX6 hown hW (ci := 6) rfl (by decide) 3 (by decide) (hts _ wd_34) e7 (fun _ _ => rfl) dX6_addMethod_35 ?_
    refine lv_iconst (v := 1) hx hb dX6_addMethod_38 (by decide) ?_
    refine lv_iadd hx hb dX6_addMethod_39 ?_
    obtain ⟨h8, e8, hf⟩ := ob hf
    refine zw_pI hx hb hts inX6 tyX6 tyX6_ok nmX6 hown hW hS (ci := 6) rfl (by decide) 3 (by decide) (hts _ wd_34) (Or.inl rfl) (fun _ _ => rfl) rfl rfl e8 dX6_addMethod_40 (fun H locs hW hS => ?_)
    refine zw_aload_n hx hb dX6_addMethod_43 rfl (lv_at hl.1 1 rfl) ?_
    refine zw_ifnull (tgt := 52) hx hb dX6_addMethod_44 (by decide) (fun c9 => ?_) (fun c9 => ?_)
    · have hf := oift c9 hf
      exact kX6_addMethod_b52 F a0 h8 hf H locs ls (z_sub hl [0] rfl) hW hS
    · have hf := oiff c9 hf
      refine zw_aload_n hx hb dX6_addMethod_47 rfl (lv_at hl.1 1 rfl) ?_
      refine lv_iconst (v := 1) hx hb dX6_addMethod_48 (by decide) ?_
      obtain ⟨h10, e10, hf⟩ := ob hf
      obtain ⟨b10, e10⟩ := pZ_spec e10
      refine zw_pI hx hb hts inX2 tyX2 tyX2_ok nmX2 hown hW hS (ci := 2) rfl (by decide) 6 (by decide) (hts _ wd_147) (Or.inl rfl) (fun _ _ => rfl) (z_bool b10).1 (z_bool b10).2 e10 dX6_addMethod_49 (fun H locs hW hS => ?_)
      exact kX6_addMethod_b52 F a0 h10 hf H locs ls (z_sub hl [0] rfl) hW hS
  · have hf := oiff c2 hf
    refine lv_bipush (v := (-2)) hx hb dX6_addMethod_9 (by decide) ?_
    refine W.widen (k := 4) (n := 228) (by decide) (by decide) ?_
    obtain ⟨rfl, rfl⟩ := oret hf
    exact zw_ireturn F hW hS dX6_addMethod_11
set_option maxRecDepth 100000 in
set_option maxHeartbeats 4000000 in
theorem kX6_addMethod (l : Launch) (D : va_G) (base : Nat) (a0 : Option Nat) (a1 : Option Nat) (a2 : Int32) (a3 : Int32) (a4 : Int32) (h : zH) {r : Int32} {h' : zH} (hf : fX6_addMethod a0 a1 a2 a3 a4 h = some (r, h')) : zMet l D base yX6_addMethod cX6_addMethod 5 (some .int) rmX6_addMethod h [va_rf a0, va_rf a1, .int a2, .int a3, .int a4] (some (.int r)) h' :=
  zMet.of (by decide +kernel) (fun v hv => by simp only [List.mem_cons, List.not_mem_nil, or_false] at hv; rcases hv with rfl | rfl | rfl | rfl | rfl <;> first | rfl | exact va_rf_cat _) (Nat.le_of_ble_eq_true rfl) (fun p e s m args below meth c ls F hi hl hW hS => kX6_addMethod_w F a0 a1 a2 a3 a4 h hf s.heap [] ls hl hW hS)
end
