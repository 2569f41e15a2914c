section
variable {p : Program} {l : Launch} {e : Env} {s : State} {m : MethodId} {args : Array Value} {below : List Frame} {meth : Method} {c : Code} {D : va_G} {base : Nat}
set_option maxRecDepth 100000 in
set_option maxHeartbeats 4000000 in
theorem kX0_init_w (F : zF p s m args meth c cX0_init 5 RX0 none) (hin : meth.name = "<init>") {h' : zH} (a0 : Option Nat) (a1 : Int32) (a2 : Int32) (a3 : Int32) (a4 : Int32) (h : zH) (hf : fX0_init a0 a1 a2 a3 a4 h = some h') (H : Heap) (locs : List Loc) (ls : Array Slot) (hl : zhas ls 5 [(0, va_rf a0), (1, .int a1), (2, .int a2), (3, .int a3), (4, .int a4)]) (hW : z_W D base s h H) (hS : va_S (zA base) s.heap H locs) : W p l e rmX0_init s m args below meth c H locs 0 0 (MQ below (zQ D base none h') args s rmX0_init.cells rmX0_init.slots (zA base)) (F0 m 0 ls []) := by
  obtain ⟨hx, hb, hml, hown, hts, hret, hlk, hZ⟩ := id F
  unfold fX0_init at hf
  refine zw_aload_n hx hb dX0_init_0 rfl (lv_at hl.1 0 rfl) ?_
  obtain ⟨a901, e1, hf⟩ := ob hf
  refine zw_objInit F e1 wd_366 wd_19 wd_20 (by decide +kernel) hl.1.1 (by decide) (by simp only [List.map_cons, List.map_nil, va_rf_cat, z_icat, List.sum_cons, List.sum_nil]; decide) dX0_init_1 ?_
  refine zw_aload_n hx hb dX0_init_4 rfl (lv_at hl.1 0 rfl) ?_
  refine lv_iload_n hx hb dX0_init_5 rfl (lv_at hl.1 1 rfl) ?_
  obtain ⟨h2, e2, hf⟩ := ob hf
  refine zw_pI hx hb hts inX0 tyX0 tyX0_ok nmX0 hown hW hS (ci := 0) rfl (by decide) 0 (by decide) (hts _ wd_367) (Or.inr ⟨rfl, hin, rfl⟩) (fun _ _ => rfl) rfl rfl e2 dX0_init_6 (fun H locs hW hS => ?_)
  refine zw_aload_n hx hb dX0_init_9 rfl (lv_at hl.1 0 rfl) ?_
  refine lv_iload_n hx hb dX0_init_10 rfl (lv_at hl.1 2 rfl) ?_
  obtain ⟨h3, e3, hf⟩ := ob hf
  refine zw_pI hx hb hts inX0 tyX0 tyX0_ok nmX0 hown hW hS (ci := 0) rfl (by decide) 1 (by decide) (hts _ wd_368) (Or.inr ⟨rfl, hin, rfl⟩) (fun _ _ => rfl) rfl rfl e3 dX0_init_11 (fun H locs hW hS => ?_)
  refine zw_aload_n hx hb dX0_init_14 rfl (lv_at hl.1 0 rfl) ?_
  refine lv_iload_n hx hb dX0_init_15 rfl (lv_at hl.1 3 rfl) ?_
  obtain ⟨h4, e4, hf⟩ := ob hf
  refine zw_pI hx hb hts inX0 tyX0 tyX0_ok nmX0 hown hW hS (ci := 0) rfl (by decide) 2 (by decide) (hts _ wd_369) (Or.inr ⟨rfl, hin, rfl⟩) (fun _ _ => rfl) rfl rfl e4 dX0_init_16 (fun H locs hW hS => ?_)
  refine zw_aload_n hx hb dX0_init_19 rfl (lv_at hl.1 0 rfl) ?_
  refine lv_iload hx hb dX0_init_20 (lv_at hl.1 4 rfl) ?_
  obtain ⟨h5, e5, hf⟩ := ob hf
  refine zw_pI hx hb hts inX0 tyX0 tyX0_ok nmX0 hown hW hS (ci := 0) rfl (by decide) 3 (by decide) (hts _ wd_371) (Or.inr ⟨rfl, hin, rfl⟩) (fun _ _ => rfl) rfl rfl e5 dX0_init_22 (fun H locs hW hS => ?_)
  obtain rfl := oretv hf
  exact zw_vreturn F hW hS dX0_init_25
set_option maxRecDepth 100000 in
set_option maxHeartbeats 4000000 in
theorem kX0_init (l : Launch) (D : va_G) (base : Nat) (a0 : Option Nat) (a1 : Int32) (a2 : Int32) (a3 : Int32) (a4 : Int32) (h : zH) {h' : zH} (hf : fX0_init a0 a1 a2 a3 a4 h = some h') : zMet l D base yX0_init cX0_init 5 none rmX0_init h [va_rf a0, .int a1, .int a2, .int a3, .int a4] none h' :=
  zMet.of (by decide +kernel) (fun v hv => by simp only [List.mem_cons, List.not_mem_nil, or_false] at hv; rcases hv with rfl | rfl | rfl | rfl | rfl <;> first | rfl | exact va_rf_cat _) (Nat.le_of_ble_eq_true rfl) (fun p e s m args below meth c ls F hi hl hW hS => kX0_init_w F (hi rfl) a0 a1 a2 a3 a4 h hf s.heap [] ls hl hW hS)
set_option maxRecDepth 100000 in
set_option maxHeartbeats 4000000 in
theorem kX0_covers_w (F : zF p s m args meth c cX0_covers 2 RX0 (some .boolean)) {r : Int32} {h' : zH} (a0 : Option Nat) (a1 : Int32) (h : zH) (hf : fX0_covers a0 a1 h = some (r, h')) (H : Heap) (locs : List Loc) (ls : Array Slot) (hl : zhas ls 2 [(0, va_rf a0), (1, .int a1)]) (hW : z_W D base s h H) (hS : va_S (zA base) s.heap H locs) : W p l e rmX0_covers s m args below meth c H locs 0 0 (MQ below (zQ D base (some (.int r)) h') args s rmX0_covers.cells rmX0_covers.slots (zA base)) (F0 m 0 ls []) := by
  obtain ⟨hx, hb, hml, hown, hts, hret, hlk, hZ⟩ := id F
  unfold fX0_covers at hf
  refine zw_aload_n hx hb dX0_covers_0 rfl (lv_at hl.1 0 rfl) ?_
  obtain ⟨v1, e1, hf⟩ := ob hf
  refine zw_gI hx hb hts inX0 hown hW (ci := 0) rfl (by decide) 0 (by decide) (hts _ wd_367) e1 (fun _ _ => rfl) dX0_covers_1 ?_
  refine lv_iload_n hx hb dX0_covers_4 rfl (lv_at hl.1 1 rfl) ?_
  refine lv_icmp_gt (tgt := 20) hx hb dX0_covers_5 (by decide) (fun c2 => ?_) (fun c2 => ?_)
  · have hf := oift c2 hf
    refine lv_iconst (v := 0) hx hb dX0_covers_20 (by decide) ?_
    obtain ⟨rfl, rfl⟩ := oret hf
    exact zw_zreturn F (by decide) hW hS dX0_covers_21
  · have hf := oiff c2 hf
    refine lv_iload_n hx hb dX0_covers_8 rfl (lv_at hl.1 1 rfl) ?_
    refine zw_aload_n hx hb dX0_covers_9 rfl (lv_at hl.1 0 rfl) ?_
    obtain ⟨v3, e3, hf⟩ := ob hf
    refine zw_gI hx hb hts inX0 hown hW (ci := 0) rfl (by decide) 1 (by decide) (hts _ wd_368) e3 (fun _ _ => rfl) dX0_covers_10 ?_
    refine lv_icmp_ge (tgt := 20) hx hb dX0_covers_13 (by decide) (fun c4 => ?_) (fun c4 => ?_)
    · have hf := oift c4 hf
      refine lv_iconst (v := 0) hx hb dX0_covers_20 (by decide) ?_
      obtain ⟨rfl, rfl⟩ := oret hf
      exact zw_zreturn F (by decide) hW hS dX0_covers_21
    · have hf := oiff c4 hf
      refine lv_iconst (v := 1) hx hb dX0_covers_16 (by decide) ?_
      refine lv_goto (tgt := 21) hx hb dX0_covers_17 (by decide) ?_
      obtain ⟨rfl, rfl⟩ := oret hf
      exact zw_zreturn F (by decide) hW hS dX0_covers_21
set_option maxRecDepth 100000 in
set_option maxHeartbeats 4000000 in
theorem kX0_covers (l : Launch) (D : va_G) (base : Nat) (a0 : Option Nat) (a1 : Int32) (h : zH) {r : Int32} {h' : zH} (hf : fX0_covers a0 a1 h = some (r, h')) : zMet l D base yX0_covers cX0_covers 2 (some .boolean) rmX0_covers h [va_rf a0, .int a1] (some (.int r)) h' :=
  zMet.of (by decide +kernel) (fun v hv => by simp only [List.mem_cons, List.not_mem_nil, or_false] at hv; rcases hv with rfl | rfl <;> first | rfl | exact va_rf_cat _) (Nat.le_of_ble_eq_true rfl) (fun p e s m args below meth c ls F hi hl hW hS => kX0_covers_w F a0 a1 h hf s.heap [] ls hl hW hS)
set_option maxRecDepth 100000 in
set_option maxHeartbeats 4000000 in
theorem kX4_init_w (F : zF p s m args meth c cX4_init 1 RX4 none) (hin : meth.name = "<init>") {h' : zH} (a0 : Option Nat) (h : zH) (hf : fX4_init a0 h = some h') (H : Heap) (locs : List Loc) (ls : Array Slot) (hl : zhas ls 1 [(0, va_rf a0)]) (hW : z_W D base s h H) (hS : va_S (zA base) s.heap H locs) : W p l e rmX4_init s m args below meth c H locs 0 0 (MQ below (zQ D base none h') args s rmX4_init.cells rmX4_init.slots (zA base)) (F0 m 0 ls []) := by
  obtain ⟨hx, hb, hml, hown, hts, hret, hlk, hZ⟩ := id F
  unfold fX4_init at hf
  refine zw_aload_n hx hb dX4_init_0 rfl (lv_at hl.1 0 rfl) ?_
  obtain ⟨a901, e1, hf⟩ := ob hf
  refine zw_objInit F e1 wd_55 wd_19 wd_20 (by decide +kernel) hl.1.1 (by decide) (by simp only [List.map_cons, List.map_nil, va_rf_cat, z_icat, List.sum_cons, List.sum_nil]; decide) dX4_init_1 ?_
  refine zw_aload_n hx hb dX4_init_4 rfl (lv_at hl.1 0 rfl) ?_
  refine lv_bipush (v := 12) hx hb dX4_init_5 (by decide) ?_
  refine zw_nI hx hb (hts _ wd_72) hW hS 12 (by decide) (by decide) (by decide) (by decide) (by decide) dX4_init_7 (fun H hW hS => ?_)
  obtain ⟨h2, e2, hf⟩ := ob hf
  refine zw_pR hx hb hts inX4 tyX4 tyX4_ok nmX4 hown hW hS (ci := 4) rfl (by decide) 0 (by decide) (hts _ wd_56) (Or.inr ⟨rfl, hin, rfl⟩) (fun _ _ => rfl) (fun v => z_arrn v) (fun v => z_arrf v) e2 dX4_init_9 (fun H locs hW hS => ?_)
  obtain rfl := oretv hf
  exact zw_vreturn F hW hS dX4_init_12
set_option maxRecDepth 100000 in
set_option maxHeartbeats 4000000 in
theorem kX4_init (l : Launch) (D : va_G) (base : Nat) (a0 : Option Nat) (h : zH) {h' : zH} (hf : fX4_init a0 h = some h') : zMet l D base yX4_init cX4_init 1 none rmX4_init h [va_rf a0] none h' :=
  zMet.of (by decide +kernel) (fun v hv => by simp only [List.mem_cons, List.not_mem_nil, or_false] at hv; subst hv; first | rfl | exact va_rf_cat _) (Nat.le_of_ble_eq_true rfl) (fun p e s m args below meth c ls F hi hl hW hS => kX4_init_w F (hi rfl) a0 h hf s.heap [] ls hl hW hS)
set_option maxRecDepth 100000 in
set_option maxHeartbeats 4000000 in
theorem kX1_init_w (F : zF p s m args meth c cX1_init 4 RX1 none) (hin : meth.name = "<init>") {h' : zH} (a0 : Option Nat) (a1 : Int32) (a2 : Int32) (a3 : Int32) (h : zH) (hf : fX1_init a0 a1 a2 a3 h = some h') (H : Heap) (locs : List Loc) (ls : Array Slot) (hl : zhas ls 4 [(0, va_rf a0), (1, .int a1), (2, .int a2), (3, .int a3)]) (hW : z_W D base s h H) (hS : va_S (zA base) s.heap H locs) : W p l e rmX1_init s m args below meth c H locs 0 0 (MQ below (zQ D base none h') args s rmX1_init.cells rmX1_init.slots (zA base)) (F0 m 0 ls []) := by
  obtain ⟨hx, hb, hml, hown, hts, hret, hlk, hZ⟩ := id F
  unfold fX1_init at hf
  refine zw_aload_n hx hb dX1_init_0 rfl (lv_at hl.1 0 rfl) ?_
  obtain ⟨a901, e1, hf⟩ := ob hf
  refine zw_objInit F e1 wd_324 wd_19 wd_20 (by decide +kernel) hl.1.1 (by decide) (by simp only [List.map_cons, List.map_nil, va_rf_cat, z_icat, List.sum_cons, List.sum_nil]; decide) dX1_init_1 ?_
  refine zw_aload_n hx hb dX1_init_4 rfl (lv_at hl.1 0 rfl) ?_
  refine zw_nO hx hb hts inX4 tyX4 tyX4_ok hown (hts _ wd_325) (hts _ wd_51) (hts _ wd_4) hW hS (ci := 4) rfl (by decide) zdX4 (by decide) (by decide) dX1_init_5 (fun H hW hS => ?_)
  refine lv_dup hx hb dX1_init_8 (va_rf_cat _) ?_
  obtain ⟨h2, e2, hf⟩ := ob hf
  refine zw_callIN (rest := [va_rf (some (zs h)), va_rf a0]) (n := 0) F (kX4_init l D base (some (zs h)) (nwO 4 h) e2) rfl wd_326 wd_53 wd_4 wd_54 rfl (by decide +kernel) ⟨by decide, by decide⟩ hW hS rfl hl.1.1 (by simp only [List.map_cons, List.map_nil, va_rf_cat, z_icat, List.sum_cons, List.sum_nil]; decide) rfl ⟨(by decide), (by decide)⟩ dX1_init_9 (fun H locs hW hS => ?_)
  refine W.eq (g2 := F0 m 12 ls [va_rf (some (zs h)), va_rf a0]) rfl ?_
  obtain ⟨h3, e3, hf⟩ := ob hf
  refine zw_pR hx hb hts inX1 tyX1 tyX1_ok nmX1 hown hW hS (ci := 1) rfl (by decide) 3 (by decide) (hts _ wd_334) (Or.inr ⟨rfl, hin, rfl⟩) (fun _ _ => rfl) (fun v => z_refn v) (fun v => z_reff v) e3 dX1_init_12 (fun H locs hW hS => ?_)
  refine zw_aload_n hx hb dX1_init_15 rfl (lv_at hl.1 0 rfl) ?_
  refine lv_iload_n hx hb dX1_init_16 rfl (lv_at hl.1 1 rfl) ?_
  obtain ⟨h4, e4, hf⟩ := ob hf
  refine zw_pI hx hb hts inX1 tyX1 tyX1_ok nmX1 hown hW hS (ci := 1) rfl (by decide) 0 (by decide) (hts _ wd_327) (Or.inr ⟨rfl, hin, rfl⟩) (fun _ _ => rfl) rfl rfl e4 dX1_init_17 (fun H locs hW hS => ?_)
  refine zw_aload_n hx hb dX1_init_20 rfl (lv_at hl.1 0 rfl) ?_
  refine lv_iload_n hx hb dX1_init_21 rfl (lv_at hl.1 2 rfl) ?_
  obtain ⟨h5, e5, hf⟩ := ob hf
  refine zw_pI hx hb hts inX1 tyX1 tyX1_ok nmX1 hown hW hS (ci := 1) rfl (by decide) 1 (by decide) (hts _ wd_329) (Or.inr ⟨rfl, hin, rfl⟩) (fun _ _ => rfl) rfl rfl e5 dX1_init_22 (fun H locs hW hS => ?_)
  refine zw_aload_n hx hb dX1_init_25 rfl (lv_at hl.1 0 rfl) ?_
  refine lv_iload_n hx hb dX1_init_26 rfl (lv_at hl.1 3 rfl) ?_
  obtain ⟨h6, e6, hf⟩ := ob hf
  refine zw_pI hx hb hts inX1 tyX1 tyX1_ok nmX1 hown hW hS (ci := 1) rfl (by decide) 2 (by decide) (hts _ wd_332) (Or.inr ⟨rfl, hin, rfl⟩) (fun _ _ => rfl) rfl rfl e6 dX1_init_27 (fun H locs hW hS => ?_)
  obtain rfl := oretv hf
  exact zw_vreturn F hW hS dX1_init_30
set_option maxRecDepth 100000 in
set_option maxHeartbeats 4000000 in
theorem kX1_init (l : Launch) (D : va_G) (base : Nat) (a0 : Option Nat) (a1 : Int32) (a2 : Int32) (a3 : Int32) (h : zH) {h' : zH} (hf : fX1_init a0 a1 a2 a3 h = some h') : zMet l D base yX1_init cX1_init 4 none rmX1_init h [va_rf a0, .int a1, .int a2, .int a3] none h' :=
  zMet.of (by decide +kernel) (fun v hv => by simp only [List.mem_cons, List.not_mem_nil, or_false] at hv; rcases hv with rfl | rfl | rfl | rfl <;> first | rfl | exact va_rf_cat _) (Nat.le_of_ble_eq_true rfl) (fun p e s m args below meth c ls F hi hl hW hS => kX1_init_w F (hi rfl) a0 a1 a2 a3 h hf s.heap [] ls hl hW hS)
set_option maxRecDepth 100000 in
set_option maxHeartbeats 4000000 in
theorem kX1_isJump_w (F : zF p s m args meth c cX1_isJump 1 RX1 (some .boolean)) {r : Int32} {h' : zH} (a0 : Option Nat) (h : zH) (hf : fX1_isJump a0 h = some (r, h')) (H : Heap) (locs : List Loc) (ls : Array Slot) (hl : zhas ls 1 [(0, va_rf a0)]) (hW : z_W D base s h H) (hS : va_S (zA base) s.heap H locs) : W p l e rmX1_isJump s m args below meth c H locs 0 0 (MQ below (zQ D base (some (.int r)) h') args s rmX1_isJump.cells rmX1_isJump.slots (zA base)) (F0 m 0 ls []) := by
  obtain ⟨hx, hb, hml, hown, hts, hret, hlk, hZ⟩ := id F
  unfold fX1_isJump at hf
  refine zw_aload_n hx hb dX1_isJump_0 rfl (lv_at hl.1 0 rfl) ?_
  obtain ⟨v1, e1, hf⟩ := ob hf
  refine zw_gI hx hb hts inX1 hown hW (ci := 1) rfl (by decide) 0 (by decide) (hts _ wd_327) e1 (fun _ _ => rfl) dX1_isJump_1 ?_
  refine lv_bipush (v := 19) hx hb dX1_isJump_4 (by decide) ?_
  refine lv_icmp_lt (tgt := 22) hx hb dX1_isJump_6 (by decide) (fun c2 => ?_) (fun c2 => ?_)
  · have hf := oift c2 hf
    refine lv_iconst (v := 0) hx hb dX1_isJump_22 (by decide) ?_
    obtain ⟨rfl, rfl⟩ := oret hf
    exact zw_zreturn F (by decide) hW hS dX1_isJump_23
  · have hf := oiff c2 hf
    refine zw_aload_n hx hb dX1_isJump_9 rfl (lv_at hl.1 0 rfl) ?_
    obtain ⟨v3, e3, hf⟩ := ob hf
    refine zw_gI hx hb hts inX1 hown hW (ci := 1) rfl (by decide) 0 (by decide) (hts _ wd_327) e3 (fun _ _ => rfl) dX1_isJump_10 ?_
    refine lv_bipush (v := 25) hx hb dX1_isJump_13 (by decide) ?_
    refine lv_icmp_gt (tgt := 22) hx hb dX1_isJump_15 (by decide) (fun c4 => ?_) (fun c4 => ?_)
    · have hf := oift c4 hf
      refine lv_iconst (v := 0) hx hb dX1_isJump_22 (by decide) ?_
      obtain ⟨rfl, rfl⟩ := oret hf
      exact zw_zreturn F (by decide) hW hS dX1_isJump_23
    · have hf := oiff c4 hf
      refine lv_iconst (v := 1) hx hb dX1_isJump_18 (by decide) ?_
      refine lv_goto (tgt := 23) hx hb dX1_isJump_19 (by decide) ?_
      obtain ⟨rfl, rfl⟩ := oret hf
      exact zw_zreturn F (by decide) hW hS dX1_isJump_23
set_option maxRecDepth 100000 in
set_option maxHeartbeats 4000000 in
theorem kX1_isJump (l : Launch) (D : va_G) (base : Nat) (a0 : Option Nat) (h : zH) {r : Int32} {h' : zH} (hf : fX1_isJump a0 h = some (r, h')) : zMet l D base yX1_isJump cX1_isJump 1 (some .boolean) rmX1_isJump h [va_rf a0] (some (.int r)) h' :=
  zMet.of (by decide +kernel) (fun v hv => by simp only [List.mem_cons, List.not_mem_nil, or_false] at hv; subst hv; first | rfl | exact va_rf_cat _) (Nat.le_of_ble_eq_true rfl) (fun p e s m args below meth c ls F hi hl hW hS => kX1_isJump_w F a0 h hf s.heap [] ls hl hW hS)
set_option maxRecDepth 100000 in
set_option maxHeartbeats 4000000 in
theorem kX1_goesOnBehind_w (F : zF p s m args meth c cX1_goesOnBehind 1 RX1 (some .boolean)) {r : Int32} {h' : zH} (a0 : Option Nat) (h : zH) (hf : fX1_goesOnBehind a0 h = some (r, h')) (H : Heap) (locs : List Loc) (ls : Array Slot) (hl : zhas ls 1 [(0, va_rf a0)]) (hW : z_W D base s h H) (hS : va_S (zA base) s.heap H locs) : W p l e rmX1_goesOnBehind s m args below meth c H locs 0 0 (MQ below (zQ D base (some (.int r)) h') args s rmX1_goesOnBehind.cells rmX1_goesOnBehind.slots (zA base)) (F0 m 0 ls []) := by
  obtain ⟨hx, hb, hml, hown, hts, hret, hlk, hZ⟩ := id F
  unfold fX1_goesOnBehind at hf
  refine zw_aload_n hx hb dX1_goesOnBehind_0 rfl (lv_at hl.1 0 rfl) ?_
  obtain ⟨v1, e1, hf⟩ := ob hf
  refine zw_gI hx hb hts inX1 hown hW (ci := 1) rfl (by decide) 0 (by decide) (hts _ wd_327) e1 (fun _ _ => rfl) dX1_goesOnBehind_1 ?_
  refine lv_bipush (v := 25) hx hb dX1_goesOnBehind_4 (by decide) ?_
  refine lv_icmp_eq (tgt := 40) hx hb dX1_goesOnBehind_6 (by decide) (fun c2 => ?_) (fun c2 => ?_)
  · have hf := oift c2 hf
    refine lv_iconst (v := 0) hx hb dX1_goesOnBehind_40 (by decide) ?_
    obtain ⟨rfl, rfl⟩ := oret hf
    exact zw_zreturn F (by decide) hW hS dX1_goesOnBehind_41
  · have hf := oiff c2 hf
    refine zw_aload_n hx hb dX1_goesOnBehind_9 rfl (lv_at hl.1 0 rfl) ?_
    obtain ⟨v3, e3, hf⟩ := ob hf
    refine zw_gI hx hb hts inX1 hown hW (ci := 1) rfl (by decide) 0 (by decide) (hts _ wd_327) e3 (fun _ _ => rfl) dX1_goesOnBehind_10 ?_
    refine lv_bipush (v := 37) hx hb dX1_goesOnBehind_13 (by decide) ?_
    refine lv_icmp_eq (tgt := 40) hx hb dX1_goesOnBehind_15 (by decide) (fun c4 => ?_) (fun c4 => ?_)
    · have hf := oift c4 hf
      refine lv_iconst (v := 0) hx hb dX1_goesOnBehind_40 (by decide) ?_
      obtain ⟨rfl, rfl⟩ := oret hf
      exact zw_zreturn F (by decide) hW hS dX1_goesOnBehind_41
    · have hf := oiff c4 hf
      refine zw_aload_n hx hb dX1_goesOnBehind_18 rfl (lv_at hl.1 0 rfl) ?_
      obtain ⟨v5, e5, hf⟩ := ob hf
      refine zw_gI hx hb hts inX1 hown hW (ci := 1) rfl (by decide) 0 (by decide) (hts _ wd_327) e5 (fun _ _ => rfl) dX1_goesOnBehind_19 ?_
      refine lv_bipush (v := 38) hx hb dX1_goesOnBehind_22 (by decide) ?_
      refine lv_icmp_eq (tgt := 40) hx hb dX1_goesOnBehind_24 (by decide) (fun c6 => ?_) (fun c6 => ?_)
      · have hf := oift c6 hf
        refine lv_iconst (v := 0) hx hb dX1_goesOnBehind_40 (by decide) ?_
        obtain ⟨rfl, rfl⟩ := oret hf
        exact zw_zreturn F (by decide) hW hS dX1_goesOnBehind_41
      · have hf := oiff c6 hf
        refine zw_aload_n hx hb dX1_goesOnBehind_27 rfl (lv_at hl.1 0 rfl) ?_
        obtain ⟨v7, e7, hf⟩ := ob hf
        refine zw_gI hx hb hts inX1 hown hW (ci := 1) rfl (by decide) 0 (by decide) (hts _ wd_327) e7 (fun _ _ => rfl) dX1_goesOnBehind_28 ?_
        refine lv_bipush (v := 39) hx hb dX1_goesOnBehind_31 (by decide) ?_
        refine lv_icmp_eq (tgt := 40) hx hb dX1_goesOnBehind_33 (by decide) (fun c8 => ?_) (fun c8 => ?_)
        · have hf := oift c8 hf
          refine lv_iconst (v := 0) hx hb dX1_goesOnBehind_40 (by decide) ?_
          obtain ⟨rfl, rfl⟩ := oret hf
          exact zw_zreturn F (by decide) hW hS dX1_goesOnBehind_41
        · have hf := oiff c8 hf
          refine lv_iconst (v := 1) hx hb dX1_goesOnBehind_36 (by decide) ?_
          refine lv_goto (tgt := 41) hx hb dX1_goesOnBehind_37 (by decide) ?_
          obtain ⟨rfl, rfl⟩ := oret hf
          exact zw_zreturn F (by decide) hW hS dX1_goesOnBehind_41
set_option maxRecDepth 100000 in
set_option maxHeartbeats 4000000 in
theorem kX1_goesOnBehind (l : Launch) (D : va_G) (base : Nat) (a0 : Option Nat) (h : zH) {r : Int32} {h' : zH} (hf : fX1_goesOnBehind a0 h = some (r, h')) : zMet l D base yX1_goesOnBehind cX1_goesOnBehind 1 (some .boolean) rmX1_goesOnBehind h [va_rf a0] (some (.int r)) h' :=
  zMet.of (by decide +kernel) (fun v hv => by simp only [List.mem_cons, List.not_mem_nil, or_false] at hv; subst hv; first | rfl | exact va_rf_cat _) (Nat.le_of_ble_eq_true rfl) (fun p e s m args below meth c ls F hi hl hW hS => kX1_goesOnBehind_w F a0 h hf s.heap [] ls hl hW hS)
set_option maxRecDepth 100000 in
set_option maxHeartbeats 4000000 in
theorem kJ7_fill_53178_b5 (N : Nat) {h' : zH} (F : zF p s m args meth c cJ7_fill_53178 4 RJ7 none) : ∀ (n : Nat) (l0 : Option Nat) (l1 : Int32) (l2 : Int32) (l3 : Int32) (h : zH), fJ7_fill_53178_b5 N n l0 l1 l2 l3 h = some h' → ∀ (H : Heap) (locs : List Loc) (ls : Array Slot), zhas ls 4 [(0, va_rf l0), (1, .int l1), (2, .int l2), (3, .int l3)] → z_W D base s h H → va_S (zA base) s.heap H locs → W p l e rmJ7_fill_53178 s m args below meth c H locs 0 0 (MQ below (zQ D base none h') args s rmJ7_fill_53178.cells rmJ7_fill_53178.slots (zA base)) (F0 m 5 ls []) := by
  obtain ⟨hx, hb, hml, hown, hts, hret, hlk, hZ⟩ := id F
  intro n
  induction n with
  | zero =>
    intro l0 l1 l2 l3 h hf
    rw [fJ7_fill_53178_b5] at hf
    cases hf
  | succ n ih =>
    intro l0 l1 l2 l3 h hf H locs ls hl hW hS
    rw [fJ7_fill_53178_b5] at hf
    refine lv_iload_n hx hb dJ7_fill_53178_5 rfl (lv_at hl.1 2 rfl) ?_
    refine lv_iload_n hx hb dJ7_fill_53178_6 rfl (lv_at hl.1 3 rfl) ?_
    refine lv_icmp_ge (tgt := 20) hx hb dJ7_fill_53178_7 (by decide) (fun c1 => ?_) (fun c1 => ?_)
    · have hf := oift c1 hf
      obtain rfl := oretv hf
      exact zw_vreturn F hW hS dJ7_fill_53178_20
    · have hf := oiff c1 hf
      refine zw_aload_n hx hb dJ7_fill_53178_10 rfl (lv_at hl.1 0 rfl) ?_
      refine lv_iload_n hx hb dJ7_fill_53178_11 rfl (lv_at hl.1 2 rfl) ?_
      refine lv_iload_n hx hb dJ7_fill_53178_12 rfl (lv_at hl.1 1 rfl) ?_
      obtain ⟨h2, e2, hf⟩ := ob hf
      refine zw_sI hx hb hW hS e2 dJ7_fill_53178_13 (fun H locs hW hS => ?_)
      refine zl_iinc (v := (l2 + 1)) (lv' := [(2, .int (l2 + 1)), (0, va_rf l0), (1, .int l1), (3, .int l3)]) hx hb dJ7_fill_53178_14 hl (k := 2) rfl rfl (by decide) rfl (fun ls hl => ?_)
      refine lv_goto (tgt := 5) hx hb dJ7_fill_53178_17 (by decide) ?_
      exact ih l0 l1 (l2 + 1) l3 h2 hf H locs ls (z_sub hl [1, 2, 0, 3] rfl) hW hS
set_option maxRecDepth 100000 in
set_option maxHeartbeats 4000000 in
theorem kJ7_fill_53178_w (N : Nat) (F : zF p s m args meth c cJ7_fill_53178 4 RJ7 none) {h' : zH} (a0 : Option Nat) (a1 : Int32) (h : zH) (hf : fJ7_fill_53178 N a0 a1 h = some h') (H : Heap) (locs : List Loc) (ls : Array Slot) (hl : zhas ls 4 [(0, va_rf a0), (1, .int a1)]) (hW : z_W D base s h H) (hS : va_S (zA base) s.heap H locs) : W p l e rmJ7_fill_53178 s m args below meth c H locs 0 0 (MQ below (zQ D base none h') args s rmJ7_fill_53178.cells rmJ7_fill_53178.slots (zA base)) (F0 m 0 ls []) := by
  obtain ⟨hx, hb, hml, hown, hts, hret, hlk, hZ⟩ := id F
  unfold fJ7_fill_53178 at hf
  refine lv_iconst (v := 0) hx hb dJ7_fill_53178_0 (by decide) ?_
  refine zl_istore_n (lv' := [(2, .int 0), (0, va_rf a0), (1, .int a1)]) hx hb dJ7_fill_53178_1 rfl hl (by decide) rfl (fun ls hl => ?_)
  refine zw_aload_n hx hb dJ7_fill_53178_2 rfl (lv_at hl.1 1 rfl) ?_
  obtain ⟨v1, e1, hf⟩ := ob hf
  refine zw_len hx hb hW e1 dJ7_fill_53178_3 ?_
  refine zl_istore_n (lv' := [(3, .int v1), (2, .int 0), (0, va_rf a0), (1, .int a1)]) hx hb dJ7_fill_53178_4 rfl hl (by decide) rfl (fun ls hl => ?_)
  exact kJ7_fill_53178_b5 N F N a0 a1 0 v1 h hf H locs ls (z_sub hl [2, 3, 1, 0] rfl) hW hS
set_option maxRecDepth 100000 in
set_option maxHeartbeats 4000000 in
theorem kJ7_fill_53178 (l : Launch) (D : va_G) (base : Nat) (N : Nat) (a0 : Option Nat) (a1 : Int32) (h : zH) {h' : zH} (hf : fJ7_fill_53178 N a0 a1 h = some h') : zMet l D base yJ7_fill_53178 cJ7_fill_53178 4 none rmJ7_fill_53178 h [va_rf a0, .int a1] none h' :=
  zMet.of (by decide +kernel) (fun v hv => by simp only [List.mem_cons, List.not_mem_nil, or_false] at hv; rcases hv with rfl | rfl <;> first | rfl | exact va_rf_cat _) (Nat.le_of_ble_eq_true rfl) (fun p e s m args below meth c ls F hi hl hW hS => kJ7_fill_53178_w N F a0 a1 h hf s.heap [] ls hl hW hS)
set_option maxRecDepth 100000 in
set_option maxHeartbeats 4000000 in
theorem kX2_init_b98 (N : Nat) {h' : zH} (F : zF p s m args meth c cX2_init 5 RX2 none) (hin : meth.name = "<init>") : ∀ (n : Nat) (l0 : Option Nat) (l2 : Option Nat) (l4 : Int32) (h : zH), fX2_init_b98 N n l0 l2 l4 h = some h' → ∀ (H : Heap) (locs : List Loc) (ls : Array Slot), zhas ls 5 [(0, va_rf l0), (2, va_rf l2), (4, .int l4)] → z_W D base s h H → va_S (zA base) s.heap H locs → W p l e rmX2_init s m args below meth c H locs 2 31 (MQ below (zQ D base none h') args s rmX2_init.cells rmX2_init.slots (zA base)) (F0 m 98 ls []) := by
  obtain ⟨hx, hb, hml, hown, hts, hret, hlk, hZ⟩ := id F
  intro n
  induction n with
  | zero =>
    intro l0 l2 l4 h hf
    rw [fX2_init_b98] at hf
    cases hf
  | succ n ih =>
    intro l0 l2 l4 h hf H locs ls hl hW hS
    rw [fX2_init_b98] at hf
    refine lv_iload hx hb dX2_init_98 (lv_at hl.1 2 rfl) ?_
    refine lv_bipush (v := 16) hx hb dX2_init_100 (by decide) ?_
    refine lv_icmp_ge (tgt := 125) hx hb dX2_init_102 (by decide) (fun c1 => ?_) (fun c1 => ?_)
    · have hf := oift c1 hf
      obtain rfl := oretv hf
      exact zw_vreturn F hW hS dX2_init_125
    · have hf := oiff c1 hf
      refine zw_aload_n hx hb dX2_init_105 rfl (lv_at hl.1 0 rfl) ?_
      obtain ⟨v2, e2, hf⟩ := ob hf
      refine zw_gR hx hb hts inX2 hown hW (ci := 2) rfl (by decide) 3 (by decide) (hts _ wd_141) e2 (fun _ _ => rfl) dX2_init_106 ?_
      refine lv_iload hx hb dX2_init_109 (lv_at hl.1 2 rfl) ?_
      refine zw_aload_n hx hb dX2_init_111 rfl (lv_at hl.1 1 rfl) ?_
      obtain ⟨v3, e3, hf⟩ := ob hf
      refine zw_gR hx hb hts inX2 hown hW (ci := 2) rfl (by decide) 3 (by decide) (hts _ wd_141) e3 (fun _ _ => rfl) dX2_init_112 ?_
      refine lv_iload hx hb dX2_init_115 (lv_at hl.1 2 rfl) ?_
      obtain ⟨v4, e4, hf⟩ := ob hf
      refine zw_aI hx hb hW e4 dX2_init_117 ?_
      obtain ⟨h5, e5, hf⟩ := ob hf
      refine zw_sI hx hb hW hS e5 dX2_init_118 (fun H locs hW hS => ?_)
      refine zl_iinc (v := (l4 + 1)) (lv' := [(4, .int (l4 + 1)), (0, va_rf l0), (2, va_rf l2)]) hx hb dX2_init_119 hl (k := 2) rfl rfl (by decide) rfl (fun ls hl => ?_)
      refine lv_goto (tgt := 98) hx hb dX2_init_122 (by decide) ?_
      exact ih l0 l2 (l4 + 1) h5 hf H locs ls (z_sub hl [1, 2, 0] rfl) hW hS
set_option maxRecDepth 100000 in
set_option maxHeartbeats 4000000 in
theorem kX2_init_b68 (N : Nat) {h' : zH} (F : zF p s m args meth c cX2_init 5 RX2 none) (hin : meth.name = "<init>") : ∀ (n : Nat) (l0 : Option Nat) (l2 : Option Nat) (l4 : Int32) (h : zH), fX2_init_b68 N n l0 l2 l4 h = some h' → ∀ (H : Heap) (locs : List Loc) (ls : Array Slot), zhas ls 5 [(0, va_rf l0), (2, va_rf l2), (4, .int l4)] → z_W D base s h H → va_S (zA base) s.heap H locs → W p l e rmX2_init s m args below meth c H locs 2 31 (MQ below (zQ D base none h') args s rmX2_init.cells rmX2_init.slots (zA base)) (F0 m 68 ls []) := by
  obtain ⟨hx, hb, hml, hown, hts, hret, hlk, hZ⟩ := id F
  intro n
  induction n with
  | zero =>
    intro l0 l2 l4 h hf
    rw [fX2_init_b68] at hf
    cases hf
  | succ n ih =>
    intro l0 l2 l4 h hf H locs ls hl hW hS
    rw [fX2_init_b68] at hf
    refine lv_iload hx hb dX2_init_68 (lv_at hl.1 2 rfl) ?_
    refine lv_bipush (v := 15) hx hb dX2_init_70 (by decide) ?_
    refine lv_icmp_ge (tgt := 95) hx hb dX2_init_72 (by decide) (fun c1 => ?_) (fun c1 => ?_)
    · have hf := oift c1 hf
      refine lv_iconst (v := 0) hx hb dX2_init_95 (by decide) ?_
      refine zl_istore (lv' := [(4, .int 0), (0, va_rf l0), (2, va_rf l2)]) hx hb dX2_init_96 hl (by decide) rfl (fun ls hl => ?_)
      exact kX2_init_b98 N F hin N l0 l2 0 h hf H locs ls (z_sub hl [1, 2, 0] rfl) hW hS
    · have hf := oiff c1 hf
      refine zw_aload_n hx hb dX2_init_75 rfl (lv_at hl.1 0 rfl) ?_
      obtain ⟨v2, e2, hf⟩ := ob hf
      refine zw_gR hx hb hts inX2 hown hW (ci := 2) rfl (by decide) 2 (by decide) (hts _ wd_140) e2 (fun _ _ => rfl) dX2_init_76 ?_
      refine lv_iload hx hb dX2_init_79 (lv_at hl.1 2 rfl) ?_
      refine zw_aload_n hx hb dX2_init_81 rfl (lv_at hl.1 1 rfl) ?_
      obtain ⟨v3, e3, hf⟩ := ob hf
      refine zw_gR hx hb hts inX2 hown hW (ci := 2) rfl (by decide) 2 (by decide) (hts _ wd_140) e3 (fun _ _ => rfl) dX2_init_82 ?_
      refine lv_iload hx hb dX2_init_85 (lv_at hl.1 2 rfl) ?_
      obtain ⟨v4, e4, hf⟩ := ob hf
      refine zw_aI hx hb hW e4 dX2_init_87 ?_
      obtain ⟨h5, e5, hf⟩ := ob hf
      refine zw_sI hx hb hW hS e5 dX2_init_88 (fun H locs hW hS => ?_)
      refine zl_iinc (v := (l4 + 1)) (lv' := [(4, .int (l4 + 1)), (0, va_rf l0), (2, va_rf l2)]) hx hb dX2_init_89 hl (k := 2) rfl rfl (by decide) rfl (fun ls hl => ?_)
      refine lv_goto (tgt := 68) hx hb dX2_init_92 (by decide) ?_
      exact ih l0 l2 (l4 + 1) h5 hf H locs ls (z_sub hl [1, 2, 0] rfl) hW hS
set_option maxRecDepth 100000 in
set_option maxHeartbeats 4000000 in
theorem kX2_init_w (N : Nat) (F : zF p s m args meth c cX2_init 5 RX2 none) (hin : meth.name = "<init>") {h' : zH} (a0 : Option Nat) (a1 : Int32) (a2 : Option Nat) (h : zH) (hf : fX2_init N a0 a1 a2 h = some h') (H : Heap) (locs : List Loc) (ls : Array Slot) (hl : zhas ls 5 [(0, va_rf a0), (1, .int a1), (2, va_rf a2)]) (hW : z_W D base s h H) (hS : va_S (zA base) s.heap H locs) : W p l e rmX2_init s m args below meth c H locs 0 0 (MQ below (zQ D base none h') args s rmX2_init.cells rmX2_init.slots (zA base)) (F0 m 0 ls []) := by
  obtain ⟨hx, hb, hml, hown, hts, hret, hlk, hZ⟩ := id F
  unfold fX2_init at hf
  refine zw_aload_n hx hb dX2_init_0 rfl (lv_at hl.1 0 rfl) ?_
  obtain ⟨a901, e1, hf⟩ := ob hf
  refine zw_objInit F e1 wd_132 wd_19 wd_20 (by decide +kernel) hl.1.1 (by decide) (by simp only [List.map_cons, List.map_nil, va_rf_cat, z_icat, List.sum_cons, List.sum_nil]; decide) dX2_init_1 ?_
  refine zw_aload_n hx hb dX2_init_4 rfl (lv_at hl.1 0 rfl) ?_
  refine lv_bipush (v := 15) hx hb dX2_init_5 (by decide) ?_
  refine zw_nI hx hb (hts _ wd_72) hW hS 15 (by decide) (by decide) (by decide) (by decide) (by decide) dX2_init_7 (fun H hW hS => ?_)
  obtain ⟨h2, e2, hf⟩ := ob hf
  refine zw_pR hx hb hts inX2 tyX2 tyX2_ok nmX2 hown hW hS (ci := 2) rfl (by decide) 2 (by decide) (hts _ wd_140) (Or.inr ⟨rfl, hin, rfl⟩) (fun _ _ => rfl) (fun v => z_arrn v) (fun v => z_arrf v) e2 dX2_init_9 (fun H locs hW hS => ?_)
  refine zw_aload_n hx hb dX2_init_12 rfl (lv_at hl.1 0 rfl) ?_
  refine lv_bipush (v := 16) hx hb dX2_init_13 (by decide) ?_
  refine zw_nI hx hb (hts _ wd_72) hW hS 16 (by decide) (by decide) (by decide) (by decide) (by decide) dX2_init_15 (fun H hW hS => ?_)
  obtain ⟨h3, e3, hf⟩ := ob hf
  refine zw_pR hx hb hts inX2 tyX2 tyX2_ok nmX2 hown hW hS (ci := 2) rfl (by decide) 3 (by decide) (hts _ wd_141) (Or.inr ⟨rfl, hin, rfl⟩) (fun _ _ => rfl) (fun v => z_arrn v) (fun v => z_arrf v) e3 dX2_init_17 (fun H locs hW hS => ?_)
  refine zw_aload_n hx hb dX2_init_20 rfl (lv_at hl.1 0 rfl) ?_
  refine lv_iload_n hx hb dX2_init_21 rfl (lv_at hl.1 1 rfl) ?_
  obtain ⟨h4, e4, hf⟩ := ob hf
  refine zw_pI hx hb hts inX2 tyX2 tyX2_ok nmX2 hown hW hS (ci := 2) rfl (by decide) 0 (by decide) (hts _ wd_136) (Or.inr ⟨rfl, hin, rfl⟩) (fun _ _ => rfl) rfl rfl e4 dX2_init_22 (fun H locs hW hS => ?_)
  refine lv_iconst (v := 1) hx hb dX2_init_25 (by decide) ?_
  refine lv_iload_n hx hb dX2_init_26 rfl (lv_at hl.1 1 rfl) ?_
  refine lv_ishl hx hb dX2_init_27 ?_
  refine zl_istore_n (lv' := [(3, .int (1 <<< (a1 &&& 31))), (0, va_rf a0), (1, .int a1), (2, va_rf a2)]) hx hb dX2_init_28 rfl hl (by decide) rfl (fun ls hl => ?_)
  refine zw_aload_n hx hb dX2_init_29 rfl (lv_at hl.1 3 rfl) ?_
  refine zw_ifnonnull (tgt := 47) hx hb dX2_init_30 (by decide) (fun c5 => ?_) (fun c5 => ?_)
  · have hf := oiff c5 hf
    refine zw_aload_n hx hb dX2_init_47 rfl (lv_at hl.1 1 rfl) ?_
    refine zw_aload_n hx hb dX2_init_48 rfl (lv_at hl.1 3 rfl) ?_
    obtain ⟨v6, e6, hf⟩ := ob hf
    refine zw_gI hx hb hts inX2 hown hW (ci := 2) rfl (by decide) 1 (by decide) (hts _ wd_138) e6 (fun _ _ => rfl) dX2_init_49 ?_
    refine lv_iload_n hx hb dX2_init_52 rfl (lv_at hl.1 0 rfl) ?_
    refine lv_ior hx hb dX2_init_53 ?_
    obtain ⟨h7, e7, hf⟩ := ob hf
    refine zw_pI hx hb hts inX2 tyX2 tyX2_ok nmX2 hown hW hS (ci := 2) rfl (by decide) 1 (by decide) (hts _ wd_138) (Or.inr ⟨rfl, hin, rfl⟩) (fun _ _ => rfl) rfl rfl e7 dX2_init_54 (fun H locs hW hS => ?_)
    refine zw_aload_n hx hb dX2_init_57 rfl (lv_at hl.1 1 rfl) ?_
    refine zw_aload_n hx hb dX2_init_58 rfl (lv_at hl.1 3 rfl) ?_
    obtain ⟨v8, e8, hf⟩ := ob hf
    refine zw_gI hx hb hts inX2 hown hW (ci := 2) rfl (by decide) 4 (by decide) (hts _ wd_143) e8 (fun _ _ => rfl) dX2_init_59 ?_
    obtain ⟨h9, e9, hf⟩ := ob hf
    refine zw_pI hx hb hts inX2 tyX2 tyX2_ok nmX2 hown hW hS (ci := 2) rfl (by decide) 4 (by decide) (hts _ wd_143) (Or.inl rfl) (fun _ _ => rfl) rfl rfl e9 dX2_init_62 (fun H locs hW hS => ?_)
    refine lv_iconst (v := 0) hx hb dX2_init_65 (by decide) ?_
    refine zl_istore (lv' := [(4, .int 0), (3, .int (1 <<< (a1 &&& 31))), (0, va_rf a0), (1, .int a1), (2, va_rf a2)]) hx hb dX2_init_66 hl (by decide) rfl (fun ls hl => ?_)
    exact kX2_init_b68 N F hin N a0 a2 0 h9 hf H locs ls (z_sub hl [2, 4, 0] rfl) hW hS
  · have hf := oift c5 hf
    refine zw_aload_n hx hb dX2_init_33 rfl (lv_at hl.1 1 rfl) ?_
    refine lv_iload_n hx hb dX2_init_34 rfl (lv_at hl.1 0 rfl) ?_
    obtain ⟨h10, e10, hf⟩ := ob hf
    refine zw_pI hx hb hts inX2 tyX2 tyX2_ok nmX2 hown hW hS (ci := 2) rfl (by decide) 1 (by decide) (hts _ wd_138) (Or.inr ⟨rfl, hin, rfl⟩) (fun _ _ => rfl) rfl rfl e10 dX2_init_35 (fun H locs hW hS => ?_)
    refine zw_aload_n hx hb dX2_init_38 rfl (lv_at hl.1 1 rfl) ?_
    obtain ⟨v11, e11, hf⟩ := ob hf
    refine zw_gR hx hb hts inX2 hown hW (ci := 2) rfl (by decide) 3 (by decide) (hts _ wd_141) e11 (fun _ _ => rfl) dX2_init_39 ?_
    refine lv_iconst (v := (-1)) hx hb dX2_init_42 (by decide) ?_
    obtain ⟨h12, e12, hf⟩ := ob hf
    refine zw_callS (rest := []) (n := 2) F (kJ7_fill_53178 l D base N v11 (-1) h10 e12) wd_133 wd_134 wd_8 wd_135 (by decide +kernel) ⟨by decide, by decide⟩ hW hS rfl hl.1.1 (by decide) rfl ⟨(by decide), (by decide)⟩ dX2_init_43 (fun H locs hW hS => ?_)
    refine W.eq (g2 := F0 m 46 ls []) rfl ?_
    obtain rfl := oretv hf
    exact zw_vreturn F hW hS dX2_init_46
set_option maxRecDepth 100000 in
set_option maxHeartbeats 4000000 in
theorem kX2_init (l : Launch) (D : va_G) (base : Nat) (N : Nat) (a0 : Option Nat) (a1 : Int32) (a2 : Option Nat) (h : zH) {h' : zH} (hf : fX2_init N a0 a1 a2 h = some h') : zMet l D base yX2_init cX2_init 5 none rmX2_init h [va_rf a0, .int a1, va_rf a2] none h' :=
  zMet.of (by decide +kernel) (fun v hv => by simp only [List.mem_cons, List.not_mem_nil, or_false] at hv; rcases hv with rfl | rfl | rfl <;> first | rfl | exact va_rf_cat _) (Nat.le_of_ble_eq_true rfl) (fun p e s m args below meth c ls F hi hl hW hS => kX2_init_w N F (hi rfl) a0 a1 a2 h hf s.heap [] ls hl hW hS)
set_option maxRecDepth 100000 in
set_option maxHeartbeats 4000000 in
theorem kX2_asType_w (F : zF p s m args meth c cX2_asType 1 RX2 (some .int)) {r : Int32} {h' : zH} (a0 : Option Nat) (h : zH) (hf : fX2_asType a0 h = some (r, h')) (H : Heap) (locs : List Loc) (ls : Array Slot) (hl : zhas ls 1 [(0, va_rf a0)]) (hW : z_W D base s h H) (hS : va_S (zA base) s.heap H locs) : W p l e rmX2_asType s m args below meth c H locs 0 0 (MQ below (zQ D base (some (.int r)) h') args s rmX2_asType.cells rmX2_asType.slots (zA base)) (F0 m 0 ls []) := by
  obtain ⟨hx, hb, hml, hown, hts, hret, hlk, hZ⟩ := id F
  unfold fX2_asType at hf
  refine lv_iconst (v := 1) hx hb dX2_asType_0 (by decide) ?_
  refine zw_aload_n hx hb dX2_asType_1 rfl (lv_at hl.1 0 rfl) ?_
  obtain ⟨v1, e1, hf⟩ := ob hf
  refine zw_gI hx hb hts inX2 hown hW (ci := 2) rfl (by decide) 0 (by decide) (hts _ wd_136) e1 (fun _ _ => rfl) dX2_asType_2 ?_
  refine lv_iadd hx hb dX2_asType_5 ?_
  obtain ⟨rfl, rfl⟩ := oret hf
  exact zw_ireturn F hW hS dX2_asType_6
set_option maxRecDepth 100000 in
set_option maxHeartbeats 4000000 in
theorem kX2_asType (l : Launch) (D : va_G) (base : Nat) (a0 : Option Nat) (h : zH) {r : Int32} {h' : zH} (hf : fX2_asType a0 h = some (r, h')) : zMet l D base yX2_asType cX2_asType 1 (some .int) rmX2_asType h [va_rf a0] (some (.int r)) h' :=
  zMet.of (by decide +kernel) (fun v hv => by simp only [List.mem_cons, List.not_mem_nil, or_false] at hv; subst hv; first | rfl | exact va_rf_cat _) (Nat.le_of_ble_eq_true rfl) (fun p e s m args below meth c ls F hi hl hW hS => kX2_asType_w F a0 h hf s.heap [] ls hl hW hS)
set_option maxRecDepth 100000 in
set_option maxHeartbeats 4000000 in
theorem kX2_isOrIsUnder_w (F : zF p s m args meth c cX2_isOrIsUnder 2 RX2 (some .boolean)) {r : Int32} {h' : zH} (a0 : Option Nat) (a1 : Int32) (h : zH) (hf : fX2_isOrIsUnder a0 a1 h = some (r, h')) (H : Heap) (locs : List Loc) (ls : Array Slot) (hl : zhas ls 2 [(0, va_rf a0), (1, .int a1)]) (hW : z_W D base s h H) (hS : va_S (zA base) s.heap H locs) : W p l e rmX2_isOrIsUnder s m args below meth c H locs 0 0 (MQ below (zQ D base (some (.int r)) h') args s rmX2_isOrIsUnder.cells rmX2_isOrIsUnder.slots (zA base)) (F0 m 0 ls []) := by
  obtain ⟨hx, hb, hml, hown, hts, hret, hlk, hZ⟩ := id F
  unfold fX2_isOrIsUnder at hf
  refine zw_aload_n hx hb dX2_isOrIsUnder_0 rfl (lv_at hl.1 0 rfl) ?_
  obtain ⟨v1, e1, hf⟩ := ob hf
  refine zw_gI hx hb hts inX2 hown hW (ci := 2) rfl (by decide) 1 (by decide) (hts _ wd_138) e1 (fun _ _ => rfl) dX2_isOrIsUnder_1 ?_
  refine lv_iload_n hx hb dX2_isOrIsUnder_4 rfl (lv_at hl.1 1 rfl) ?_
  refine lv_iushr hx hb dX2_isOrIsUnder_5 rfl ?_
  refine lv_iconst (v := 1) hx hb dX2_isOrIsUnder_6 (by decide) ?_
  refine lv_iand hx hb dX2_isOrIsUnder_7 ?_
  refine lv_if_eq (tgt := 15) hx hb dX2_isOrIsUnder_8 (by decide) (fun c2 => ?_) (fun c2 => ?_)
  · have hf := oift c2 hf
    refine lv_iconst (v := 0) hx hb dX2_isOrIsUnder_15 (by decide) ?_
    obtain ⟨rfl, rfl⟩ := oret hf
    exact zw_zreturn F (by decide) hW hS dX2_isOrIsUnder_16
  · have hf := oiff c2 hf
    refine lv_iconst (v := 1) hx hb dX2_isOrIsUnder_11 (by decide) ?_
    refine lv_goto (tgt := 16) hx hb dX2_isOrIsUnder_12 (by decide) ?_
    obtain ⟨rfl, rfl⟩ := oret hf
    exact zw_zreturn F (by decide) hW hS dX2_isOrIsUnder_16
set_option maxRecDepth 100000 in
set_option maxHeartbeats 4000000 in
theorem kX2_isOrIsUnder (l : Launch) (D : va_G) (base : Nat) (a0 : Option Nat) (a1 : Int32) (h : zH) {r : Int32} {h' : zH} (hf : fX2_isOrIsUnder a0 a1 h = some (r, h')) : zMet l D base yX2_isOrIsUnder cX2_isOrIsUnder 2 (some .boolean) rmX2_isOrIsUnder h [va_rf a0, .int a1] (some (.int r)) h' :=
  zMet.of (by decide +kernel) (fun v hv => by simp only [List.mem_cons, List.not_mem_nil, or_false] at hv; rcases hv with rfl | rfl <;> first | rfl | exact va_rf_cat _) (Nat.le_of_ble_eq_true rfl) (fun p e s m args below meth c ls F hi hl hW hS => kX2_isOrIsUnder_w F a0 a1 h hf s.heap [] ls hl hW hS)
set_option maxRecDepth 100000 in
set_option maxHeartbeats 4000000 in
theorem kX2_addField_w (F : zF p s m args meth c cX2_addField 2 RX2 (some .int)) {r : Int32} {h' : zH} (a0 : Option Nat) (a1 : Int32) (h : zH) (hf : fX2_addField a0 a1 h = some (r, h')) (H : Heap) (locs : List Loc) (ls : Array Slot) (hl : zhas ls 2 [(0, va_rf a0), (1, .int a1)]) (hW : z_W D base s h H) (hS : va_S (zA base) s.heap H locs) : W p l e rmX2_addField s m args below meth c H locs 0 0 (MQ below (zQ D base (some (.int r)) h') args s rmX2_addField.cells rmX2_addField.slots (zA base)) (F0 m 0 ls []) := by
  obtain ⟨hx, hb, hml, hown, hts, hret, hlk, hZ⟩ := id F
  unfold fX2_addField at hf
  refine zw_aload_n hx hb dX2_addField_0 rfl (lv_at hl.1 0 rfl) ?_
  obtain ⟨v1, e1, hf⟩ := ob hf
  refine zw_gI hx hb hts inX2 hown hW (ci := 2) rfl (by decide) 4 (by decide) (hts _ wd_143) e1 (fun _ _ => rfl) dX2_addField_1 ?_
  refine lv_bipush (v := 15) hx hb dX2_addField_4 (by decide) ?_
  refine lv_icmp_lt (tgt := 12) hx hb dX2_addField_6 (by decide) (fun c2 => ?_) (fun c2 => ?_)
  · have hf := oift c2 hf
    refine zw_aload_n hx hb dX2_addField_12 rfl (lv_at hl.1 0 rfl) ?_
    obtain ⟨v3, e3, hf⟩ := ob hf
    refine zw_gR hx hb hts inX2 hown hW (ci := 2) rfl (by decide) 2 (by decide) (hts _ wd_140) e3 (fun _ _ => rfl) dX2_addField_13 ?_
    refine zw_aload_n hx hb dX2_addField_16 rfl (lv_at hl.1 0 rfl) ?_
    obtain ⟨v4, e4, hf⟩ := ob hf
    refine zw_gI hx hb hts inX2 hown hW (ci := 2) rfl (by decide) 4 (by decide) (hts _ wd_143) e4 (fun _ _ => rfl) dX2_addField_17 ?_
    refine lv_iload_n hx hb dX2_addField_20 rfl (lv_at hl.1 1 rfl) ?_
    obtain ⟨h5, e5, hf⟩ := ob hf
    refine zw_sI hx hb hW hS e5 dX2_addField_21 (fun H locs hW hS => ?_)
    refine zw_aload_n hx hb dX2_addField_22 rfl (lv_at hl.1 0 rfl) ?_
    refine lv_dup hx hb dX2_addField_23 (va_rf_cat _) ?_
    obtain ⟨v6, e6, hf⟩ := ob hf
    refine zw_gI hx hb hts inX2 hown hW (ci := 2) rfl (by decide) 4 (by decide) (hts _ wd_143) e6 (fun _ _ => rfl) dX2_addField_24 ?_
    refine lv_iconst (v := 1) hx hb dX2_addField_27 (by decide) ?_
    refine lv_iadd hx hb dX2_addField_28 ?_
    obtain ⟨h7, e7, hf⟩ := ob hf
    refine zw_pI hx hb hts inX2 tyX2 tyX2_ok nmX2 hown hW hS (ci := 2) rfl (by decide) 4 (by decide) (hts _ wd_143) (Or.inl rfl) (fun _ _ => rfl) rfl rfl e7 dX2_addField_29 (fun H locs hW hS => ?_)
    refine zw_aload_n hx hb dX2_addField_32 rfl (lv_at hl.1 0 rfl) ?_
    obtain ⟨v8, e8, hf⟩ := ob hf
    refine zw_gI hx hb hts inX2 hown hW (ci := 2) rfl (by decide) 4 (by decide) (hts _ wd_143) e8 (fun _ _ => rfl) dX2_addField_33 ?_
    refine lv_iconst (v := 1) hx hb dX2_addField_36 (by decide) ?_
    refine lv_isub hx hb dX2_addField_37 ?_
    obtain ⟨rfl, rfl⟩ := oret hf
    exact zw_ireturn F hW hS dX2_addField_38
  · have hf := oiff c2 hf
    refine lv_bipush (v := (-2)) hx hb dX2_addField_9 (by decide) ?_
    obtain ⟨rfl, rfl⟩ := oret hf
    exact zw_ireturn F hW hS dX2_addField_11
set_option maxRecDepth 100000 in
set_option maxHeartbeats 4000000 in
theorem kX2_addField (l : Launch) (D : va_G) (base : Nat) (a0 : Option Nat) (a1 : Int32) (h : zH) {r : Int32} {h' : zH} (hf : fX2_addField a0 a1 h = some (r, h')) : zMet l D base yX2_addField cX2_addField 2 (some .int) rmX2_addField h [va_rf a0, .int a1] (some (.int r)) h' :=
  zMet.of (by decide +kernel) (fun v hv => by simp only [List.mem_cons, List.not_mem_nil, or_false] at hv; rcases hv with rfl | rfl <;> first | rfl | exact va_rf_cat _) (Nat.le_of_ble_eq_true rfl) (fun p e s m args below meth c ls F hi hl hW hS => kX2_addField_w F a0 a1 h hf s.heap [] ls hl hW hS)
set_option maxRecDepth 100000 in
set_option maxHeartbeats 4000000 in
theorem kX2_fieldType_w (F : zF p s m args meth c cX2_fieldType 2 RX2 (some .int)) {r : Int32} {h' : zH} (a0 : Option Nat) (a1 : Int32) (h : zH) (hf : fX2_fieldType a0 a1 h = some (r, h')) (H : Heap) (locs : List Loc) (ls : Array Slot) (hl : zhas ls 2 [(0, va_rf a0), (1, .int a1)]) (hW : z_W D base s h H) (hS : va_S (zA base) s.heap H locs) : W p l e rmX2_fieldType s m args below meth c H locs 0 0 (MQ below (zQ D base (some (.int r)) h') args s rmX2_fieldType.cells rmX2_fieldType.slots (zA base)) (F0 m 0 ls []) := by
  obtain ⟨hx, hb, hml, hown, hts, hret, hlk, hZ⟩ := id F
  unfold fX2_fieldType at hf
  refine lv_iload_n hx hb dX2_fieldType_0 rfl (lv_at hl.1 1 rfl) ?_
  refine lv_if_lt (tgt := 27) hx hb dX2_fieldType_1 (by decide) (fun c1 => ?_) (fun c1 => ?_)
  · have hf := oift c1 hf
    refine lv_iconst (v := (-1)) hx hb dX2_fieldType_27 (by decide) ?_
    obtain ⟨rfl, rfl⟩ := oret hf
    exact zw_ireturn F hW hS dX2_fieldType_28
  · have hf := oiff c1 hf
    refine lv_iload_n hx hb dX2_fieldType_4 rfl (lv_at hl.1 1 rfl) ?_
    refine zw_aload_n hx hb dX2_fieldType_5 rfl (lv_at hl.1 0 rfl) ?_
    obtain ⟨v2, e2, hf⟩ := ob hf
    refine zw_gI hx hb hts inX2 hown hW (ci := 2) rfl (by decide) 4 (by decide) (hts _ wd_143) e2 (fun _ _ => rfl) dX2_fieldType_6 ?_
    refine lv_icmp_ge (tgt := 27) hx hb dX2_fieldType_9 (by decide) (fun c3 => ?_) (fun c3 => ?_)
    · have hf := oift c3 hf
      refine lv_iconst (v := (-1)) hx hb dX2_fieldType_27 (by decide) ?_
      obtain ⟨rfl, rfl⟩ := oret hf
      exact zw_ireturn F hW hS dX2_fieldType_28
    · have hf := oiff c3 hf
      refine lv_iload_n hx hb dX2_fieldType_12 rfl (lv_at hl.1 1 rfl) ?_
      refine lv_bipush (v := 15) hx hb dX2_fieldType_13 (by decide) ?_
      refine lv_icmp_ge (tgt := 27) hx hb dX2_fieldType_15 (by decide) (fun c4 => ?_) (fun c4 => ?_)
      · have hf := oift c4 hf
        refine lv_iconst (v := (-1)) hx hb dX2_fieldType_27 (by decide) ?_
        obtain ⟨rfl, rfl⟩ := oret hf
        exact zw_ireturn F hW hS dX2_fieldType_28
      · have hf := oiff c4 hf
        refine zw_aload_n hx hb dX2_fieldType_18 rfl (lv_at hl.1 0 rfl) ?_
        obtain ⟨v5, e5, hf⟩ := ob hf
        refine zw_gR hx hb hts inX2 hown hW (ci := 2) rfl (by decide) 2 (by decide) (hts _ wd_140) e5 (fun _ _ => rfl) dX2_fieldType_19 ?_
        refine lv_iload_n hx hb dX2_fieldType_22 rfl (lv_at hl.1 1 rfl) ?_
        obtain ⟨v6, e6, hf⟩ := ob hf
        refine zw_aI hx hb hW e6 dX2_fieldType_23 ?_
        refine lv_goto (tgt := 28) hx hb dX2_fieldType_24 (by decide) ?_
        obtain ⟨rfl, rfl⟩ := oret hf
        exact zw_ireturn F hW hS dX2_fieldType_28
set_option maxRecDepth 100000 in
set_option maxHeartbeats 4000000 in
theorem kX2_fieldType (l : Launch) (D : va_G) (base : Nat) (a0 : Option Nat) (a1 : Int32) (h : zH) {r : Int32} {h' : zH} (hf : fX2_fieldType a0 a1 h = some (r, h')) : zMet l D base yX2_fieldType cX2_fieldType 2 (some .int) rmX2_fieldType h [va_rf a0, .int a1] (some (.int r)) h' :=
  zMet.of (by decide +kernel) (fun v hv => by simp only [List.mem_cons, List.not_mem_nil, or_false] at hv; rcases hv with rfl | rfl <;> first | rfl | exact va_rf_cat _) (Nat.le_of_ble_eq_true rfl) (fun p e s m args below meth c ls F hi hl hW hS => kX2_fieldType_w F a0 a1 h hf s.heap [] ls hl hW hS)
set_option maxRecDepth 100000 in
set_option maxHeartbeats 4000000 in
theorem kX2_inSlot_w (F : zF p s m args meth c cX2_inSlot 2 RX2 (some .int)) {r : Int32} {h' : zH} (a0 : Option Nat) (a1 : Int32) (h : zH) (hf : fX2_inSlot a0 a1 h = some (r, h')) (H : Heap) (locs : List Loc) (ls : Array Slot) (hl : zhas ls 2 [(0, va_rf a0), (1, .int a1)]) (hW : z_W D base s h H) (hS : va_S (zA base) s.heap H locs) : W p l e rmX2_inSlot s m args below meth c H locs 0 0 (MQ below (zQ D base (some (.int r)) h') args s rmX2_inSlot.cells rmX2_inSlot.slots (zA base)) (F0 m 0 ls []) := by
  obtain ⟨hx, hb, hml, hown, hts, hret, hlk, hZ⟩ := id F
  unfold fX2_inSlot at hf
  refine lv_iload_n hx hb dX2_inSlot_0 rfl (lv_at hl.1 1 rfl) ?_
  refine lv_if_lt (tgt := 19) hx hb dX2_inSlot_1 (by decide) (fun c1 => ?_) (fun c1 => ?_)
  · have hf := oift c1 hf
    refine lv_iconst (v := (-1)) hx hb dX2_inSlot_19 (by decide) ?_
    obtain ⟨rfl, rfl⟩ := oret hf
    exact zw_ireturn F hW hS dX2_inSlot_20
  · have hf := oiff c1 hf
    refine lv_iload_n hx hb dX2_inSlot_4 rfl (lv_at hl.1 1 rfl) ?_
    refine lv_bipush (v := 16) hx hb dX2_inSlot_5 (by decide) ?_
    refine lv_icmp_ge (tgt := 19) hx hb dX2_inSlot_7 (by decide) (fun c2 => ?_) (fun c2 => ?_)
    · have hf := oift c2 hf
      refine lv_iconst (v := (-1)) hx hb dX2_inSlot_19 (by decide) ?_
      obtain ⟨rfl, rfl⟩ := oret hf
      exact zw_ireturn F hW hS dX2_inSlot_20
    · have hf := oiff c2 hf
      refine zw_aload_n hx hb dX2_inSlot_10 rfl (lv_at hl.1 0 rfl) ?_
      obtain ⟨v3, e3, hf⟩ := ob hf
      refine zw_gR hx hb hts inX2 hown hW (ci := 2) rfl (by decide) 3 (by decide) (hts _ wd_141) e3 (fun _ _ => rfl) dX2_inSlot_11 ?_
      refine lv_iload_n hx hb dX2_inSlot_14 rfl (lv_at hl.1 1 rfl) ?_
      obtain ⟨v4, e4, hf⟩ := ob hf
      refine zw_aI hx hb hW e4 dX2_inSlot_15 ?_
      refine lv_goto (tgt := 20) hx hb dX2_inSlot_16 (by decide) ?_
      obtain ⟨rfl, rfl⟩ := oret hf
      exact zw_ireturn F hW hS dX2_inSlot_20
set_option maxRecDepth 100000 in
set_option maxHeartbeats 4000000 in
theorem kX2_inSlot (l : Launch) (D : va_G) (base : Nat) (a0 : Option Nat) (a1 : Int32) (h : zH) {r : Int32} {h' : zH} (hf : fX2_inSlot a0 a1 h = some (r, h')) : zMet l D base yX2_inSlot cX2_inSlot 2 (some .int) rmX2_inSlot h [va_rf a0, .int a1] (some (.int r)) h' :=
  zMet.of (by decide +kernel) (fun v hv => by simp only [List.mem_cons, List.not_mem_nil, or_false] at hv; rcases hv with rfl | rfl <;> first | rfl | exact va_rf_cat _) (Nat.le_of_ble_eq_true rfl) (fun p e s m args below meth c ls F hi hl hW hS => kX2_inSlot_w F a0 a1 h hf s.heap [] ls hl hW hS)
set_option maxRecDepth 100000 in
set_option maxHeartbeats 4000000 in
theorem kX3_init_w (F : zF p s m args meth c cX3_init 5 RX3 none) (hin : meth.name = "<init>") {h' : zH} (a0 : Option Nat) (a1 : Option Nat) (a2 : Int32) (a3 : Int32) (a4 : Int32) (h : zH) (hf : fX3_init a0 a1 a2 a3 a4 h = some h') (H : Heap) (locs : List Loc) (ls : Array Slot) (hl : zhas ls 5 [(0, va_rf a0), (1, va_rf a1), (2, .int a2), (3, .int a3), (4, .int a4)]) (hW : z_W D base s h H) (hS : va_S (zA base) s.heap H locs) : W p l e rmX3_init s m args below meth c H locs 0 0 (MQ below (zQ D base none h') args s rmX3_init.cells rmX3_init.slots (zA base)) (F0 m 0 ls []) := by
  obtain ⟨hx, hb, hml, hown, hts, hret, hlk, hZ⟩ := id F
  unfold fX3_init at hf
  refine zw_aload_n hx hb dX3_init_0 rfl (lv_at hl.1 0 rfl) ?_
  obtain ⟨a901, e1, hf⟩ := ob hf
  refine zw_objInit F e1 wd_200 wd_19 wd_20 (by decide +kernel) hl.1.1 (by decide) (by simp only [List.map_cons, List.map_nil, va_rf_cat, z_icat, List.sum_cons, List.sum_nil]; decide) dX3_init_1 ?_
  refine zw_aload_n hx hb dX3_init_4 rfl (lv_at hl.1 0 rfl) ?_
  refine lv_bipush (v := 8) hx hb dX3_init_5 (by decide) ?_
  refine zw_nI hx hb (hts _ wd_72) hW hS 8 (by decide) (by decide) (by decide) (by decide) (by decide) dX3_init_7 (fun H hW hS => ?_)
  obtain ⟨h2, e2, hf⟩ := ob hf
  refine zw_pR hx hb hts inX3 tyX3 tyX3_ok nmX3 hown hW hS (ci := 3) rfl (by decide) 4 (by decide) (hts _ wd_218) (Or.inr ⟨rfl, hin, rfl⟩) (fun _ _ => rfl) (fun v => z_arrn v) (fun v => z_arrf v) e2 dX3_init_9 (fun H locs hW hS => ?_)
  refine zw_aload_n hx hb dX3_init_12 rfl (lv_at hl.1 0 rfl) ?_
  refine lv_sipush (v := 200) hx hb dX3_init_13 (by decide) ?_
  refine zw_nQ hx hb 1 hown (hts _ wd_201) (va_AO.use (hZ.2 _ wd_202)) hW hS 200 (by decide) (by decide) (by decide) (by decide) (by decide) dX3_init_16 (fun H hW hS => ?_)
  obtain ⟨h3, e3, hf⟩ := ob hf
  refine zw_pR hx hb hts inX3 tyX3 tyX3_ok nmX3 hown hW hS (ci := 3) rfl (by decide) 5 (by decide) (hts _ wd_219) (Or.inr ⟨rfl, hin, rfl⟩) (fun _ _ => rfl) (fun v => z_arrn v) (fun v => z_arrf v) e3 dX3_init_19 (fun H locs hW hS => ?_)
  refine zw_aload_n hx hb dX3_init_22 rfl (lv_at hl.1 0 rfl) ?_
  refine lv_bipush (v := 8) hx hb dX3_init_23 (by decide) ?_
  refine zw_nQ hx hb 0 hown (hts _ wd_203) (va_AO.use (hZ.2 _ wd_204)) hW hS 8 (by decide) (by decide) (by decide) (by decide) (by decide) dX3_init_25 (fun H hW hS => ?_)
  obtain ⟨h4, e4, hf⟩ := ob hf
  refine zw_pR hx hb hts inX3 tyX3 tyX3_ok nmX3 hown hW hS (ci := 3) rfl (by decide) 6 (by decide) (hts _ wd_220) (Or.inr ⟨rfl, hin, rfl⟩) (fun _ _ => rfl) (fun v => z_arrn v) (fun v => z_arrf v) e4 dX3_init_28 (fun H locs hW hS => ?_)
  refine zw_aload_n hx hb dX3_init_31 rfl (lv_at hl.1 0 rfl) ?_
  refine zw_aload_n hx hb dX3_init_32 rfl (lv_at hl.1 1 rfl) ?_
  obtain ⟨h5, e5, hf⟩ := ob hf
  refine zw_pR hx hb hts inX3 tyX3 tyX3_ok nmX3 hown hW hS (ci := 3) rfl (by decide) 0 (by decide) (hts _ wd_209) (Or.inr ⟨rfl, hin, rfl⟩) (fun _ _ => rfl) (fun v => z_refn v) (fun v => z_reff v) e5 dX3_init_33 (fun H locs hW hS => ?_)
  refine zw_aload_n hx hb dX3_init_36 rfl (lv_at hl.1 0 rfl) ?_
  refine lv_iload_n hx hb dX3_init_37 rfl (lv_at hl.1 2 rfl) ?_
  obtain ⟨h6, e6, hf⟩ := ob hf
  refine zw_pI hx hb hts inX3 tyX3 tyX3_ok nmX3 hown hW hS (ci := 3) rfl (by decide) 1 (by decide) (hts _ wd_211) (Or.inr ⟨rfl, hin, rfl⟩) (fun _ _ => rfl) rfl rfl e6 dX3_init_38 (fun H locs hW hS => ?_)
  refine zw_aload_n hx hb dX3_init_41 rfl (lv_at hl.1 0 rfl) ?_
  refine lv_iload_n hx hb dX3_init_42 rfl (lv_at hl.1 3 rfl) ?_
  obtain ⟨h7, e7, hf⟩ := ob hf
  refine zw_pI hx hb hts inX3 tyX3 tyX3_ok nmX3 hown hW hS (ci := 3) rfl (by decide) 2 (by decide) (hts _ wd_213) (Or.inr ⟨rfl, hin, rfl⟩) (fun _ _ => rfl) rfl rfl e7 dX3_init_43 (fun H locs hW hS => ?_)
  refine zw_aload_n hx hb dX3_init_46 rfl (lv_at hl.1 0 rfl) ?_
  refine lv_iload hx hb dX3_init_47 (lv_at hl.1 4 rfl) ?_
  obtain ⟨h8, e8, hf⟩ := ob hf
  refine zw_pI hx hb hts inX3 tyX3 tyX3_ok nmX3 hown hW hS (ci := 3) rfl (by decide) 3 (by decide) (hts _ wd_216) (Or.inr ⟨rfl, hin, rfl⟩) (fun _ _ => rfl) rfl rfl e8 dX3_init_49 (fun H locs hW hS => ?_)
  refine zw_aload_n hx hb dX3_init_52 rfl (lv_at hl.1 1 rfl) ?_
  refine zw_ifnull (tgt := 71) hx hb dX3_init_53 (by decide) (fun c9 => ?_) (fun c9 => ?_)
  · have hf := oift c9 hf
    obtain rfl := oretv hf
    exact zw_vreturn F hW hS dX3_init_71
  · have hf := oiff c9 hf
    refine zw_aload_n hx hb dX3_init_56 rfl (lv_at hl.1 0 rfl) ?_
    obtain ⟨v10, e10, hf⟩ := ob hf
    refine zw_gR hx hb hts inX3 hown hW (ci := 3) rfl (by decide) 4 (by decide) (hts _ wd_218) e10 (fun _ _ => rfl) dX3_init_57 ?_
    refine lv_iconst (v := 0) hx hb dX3_init_60 (by decide) ?_
    refine zw_aload_n hx hb dX3_init_61 rfl (lv_at hl.1 1 rfl) ?_
    obtain ⟨a911, j11, hf⟩ := ob hf
    obtain ⟨q11, e11, hf⟩ := ob hf
    refine zw_callV (rest := [.int 0, va_rf v10]) (n := 0) F (kX2_asType (r := q11.1) (h' := q11.2) l D base a1 h8 e11) 2 rfl (by decide) j11 wd_205 wd_206 wd_207 wd_7 wd_208 (by decide +kernel) ⟨by decide, by decide⟩ hW hS rfl hl.1.1 (by simp only [List.map_cons, List.map_nil, va_rf_cat, z_icat, List.sum_cons, List.sum_nil]; decide) rfl ⟨(by decide), (by decide)⟩ dX3_init_62 (fun H locs hW hS => ?_)
    refine W.eq (g2 := F0 m 65 ls [.int q11.1, .int 0, va_rf v10]) rfl ?_
    obtain ⟨h12, e12, hf⟩ := ob hf
    refine zw_sI hx hb hW hS e12 dX3_init_65 (fun H locs hW hS => ?_)
    refine zw_aload_n hx hb dX3_init_66 rfl (lv_at hl.1 0 rfl) ?_
    refine lv_iconst (v := 1) hx hb dX3_init_67 (by decide) ?_
    obtain ⟨h13, e13, hf⟩ := ob hf
    refine zw_pI hx hb hts inX3 tyX3 tyX3_ok nmX3 hown hW hS (ci := 3) rfl (by decide) 7 (by decide) (hts _ wd_221) (Or.inl rfl) (fun _ _ => rfl) rfl rfl e13 dX3_init_68 (fun H locs hW hS => ?_)
    obtain rfl := oretv hf
    exact zw_vreturn F hW hS dX3_init_71
set_option maxRecDepth 100000 in
set_option maxHeartbeats 4000000 in
theorem kX3_init (l : Launch) (D : va_G) (base : Nat) (a0 : Option Nat) (a1 : Option Nat) (a2 : Int32) (a3 : Int32) (a4 : Int32) (h : zH) {h' : zH} (hf : fX3_init a0 a1 a2 a3 a4 h = some h') : zMet l D base yX3_init cX3_init 5 none rmX3_init h [va_rf a0, va_rf a1, .int a2, .int a3, .int a4] none h' :=
  zMet.of (by decide +kernel) (fun v hv => by simp only [List.mem_cons, List.not_mem_nil, or_false] at hv; rcases hv with rfl | rfl | rfl | rfl | rfl <;> first | rfl | exact va_rf_cat _) (Nat.le_of_ble_eq_true rfl) (fun p e s m args below meth c ls F hi hl hW hS => kX3_init_w F (hi rfl) a0 a1 a2 a3 a4 h hf s.heap [] ls hl hW hS)
set_option maxRecDepth 100000 in
set_option maxHeartbeats 4000000 in
theorem kX3_isOpenForParameters_w (F : zF p s m args meth c cX3_isOpenForParameters 1 RX3 (some .boolean)) {r : Int32} {h' : zH} (a0 : Option Nat) (h : zH) (hf : fX3_isOpenForParameters a0 h = some (r, h')) (H : Heap) (locs : List Loc) (ls : Array Slot) (hl : zhas ls 1 [(0, va_rf a0)]) (hW : z_W D base s h H) (hS : va_S (zA base) s.heap H locs) : W p l e rmX3_isOpenForParameters s m args below meth c H locs 0 0 (MQ below (zQ D base (some (.int r)) h') args s rmX3_isOpenForParameters.cells rmX3_isOpenForParameters.slots (zA base)) (F0 m 0 ls []) := by
  obtain ⟨hx, hb, hml, hown, hts, hret, hlk, hZ⟩ := id F
  unfold fX3_isOpenForParameters at hf
  refine zw_aload_n hx hb dX3_isOpenForParameters_0 rfl (lv_at hl.1 0 rfl) ?_
  obtain ⟨v1, e1, hf⟩ := ob hf
  refine zw_gI hx hb hts inX3 hown hW (ci := 3) rfl (by decide) 7 (by decide) (hts _ wd_221) e1 (fun _ _ => rfl) dX3_isOpenForParameters_1 ?_
  refine zw_aload_n hx hb dX3_isOpenForParameters_4 rfl (lv_at hl.1 0 rfl) ?_
  obtain ⟨v2, e2, hf⟩ := ob hf
  refine zw_gI hx hb hts inX3 hown hW (ci := 3) rfl (by decide) 2 (by decide) (hts _ wd_213) e2 (fun _ _ => rfl) dX3_isOpenForParameters_5 ?_
  refine lv_icmp_ge (tgt := 38) hx hb dX3_isOpenForParameters_8 (by decide) (fun c3 => ?_) (fun c3 => ?_)
  · have hf := oift c3 hf
    refine lv_iconst (v := 0) hx hb dX3_isOpenForParameters_38 (by decide) ?_
    obtain ⟨rfl, rfl⟩ := oret hf
    exact zw_zreturn F (by decide) hW hS dX3_isOpenForParameters_39
  · have hf := oiff c3 hf
    refine zw_aload_n hx hb dX3_isOpenForParameters_11 rfl (lv_at hl.1 0 rfl) ?_
    obtain ⟨v4, e4, hf⟩ := ob hf
    refine zw_gI hx hb hts inX3 hown hW (ci := 3) rfl (by decide) 7 (by decide) (hts _ wd_221) e4 (fun _ _ => rfl) dX3_isOpenForParameters_12 ?_
    refine lv_bipush (v := 8) hx hb dX3_isOpenForParameters_15 (by decide) ?_
    refine lv_icmp_ge (tgt := 38) hx hb dX3_isOpenForParameters_17 (by decide) (fun c5 => ?_) (fun c5 => ?_)
    · have hf := oift c5 hf
      refine lv_iconst (v := 0) hx hb dX3_isOpenForParameters_38 (by decide) ?_
      obtain ⟨rfl, rfl⟩ := oret hf
      exact zw_zreturn F (by decide) hW hS dX3_isOpenForParameters_39
    · have hf := oiff c5 hf
      refine zw_aload_n hx hb dX3_isOpenForParameters_20 rfl (lv_at hl.1 0 rfl) ?_
      obtain ⟨v6, e6, hf⟩ := ob hf
      refine zw_gI hx hb hts inX3 hown hW (ci := 3) rfl (by decide) 8 (by decide) (hts _ wd_224) e6 (fun _ _ => rfl) dX3_isOpenForParameters_21 ?_
      refine lv_if_ne (tgt := 38) hx hb dX3_isOpenForParameters_24 (by decide) (fun c7 => ?_) (fun c7 => ?_)
      · have hf := oiff c7 hf
        refine lv_iconst (v := 0) hx hb dX3_isOpenForParameters_38 (by decide) ?_
        obtain ⟨rfl, rfl⟩ := oret hf
        exact zw_zreturn F (by decide) hW hS dX3_isOpenForParameters_39
      · have hf := oift c7 hf
        refine zw_aload_n hx hb dX3_isOpenForParameters_27 rfl (lv_at hl.1 0 rfl) ?_
        obtain ⟨v8, e8, hf⟩ := ob hf
        refine zw_gI hx hb hts inX3 hown hW (ci := 3) rfl (by decide) 10 (by decide) (hts _ wd_228) e8 (fun _ _ => rfl) dX3_isOpenForParameters_28 ?_
        refine lv_if_ne (tgt := 38) hx hb dX3_isOpenForParameters_31 (by decide) (fun c9 => ?_) (fun c9 => ?_)
        · have hf := oiff c9 hf
          refine lv_iconst (v := 0) hx hb dX3_isOpenForParameters_38 (by decide) ?_
          obtain ⟨rfl, rfl⟩ := oret hf
          exact zw_zreturn F (by decide) hW hS dX3_isOpenForParameters_39
        · have hf := oift c9 hf
          refine lv_iconst (v := 1) hx hb dX3_isOpenForParameters_34 (by decide) ?_
          refine lv_goto (tgt := 39) hx hb dX3_isOpenForParameters_35 (by decide) ?_
          obtain ⟨rfl, rfl⟩ := oret hf
          exact zw_zreturn F (by decide) hW hS dX3_isOpenForParameters_39
set_option maxRecDepth 100000 in
set_option maxHeartbeats 4000000 in
theorem kX3_isOpenForParameters (l : Launch) (D : va_G) (base : Nat) (a0 : Option Nat) (h : zH) {r : Int32} {h' : zH} (hf : fX3_isOpenForParameters a0 h = some (r, h')) : zMet l D base yX3_isOpenForParameters cX3_isOpenForParameters 1 (some .boolean) rmX3_isOpenForParameters h [va_rf a0] (some (.int r)) h' :=
  zMet.of (by decide +kernel) (fun v hv => by simp only [List.mem_cons, List.not_mem_nil, or_false] at hv; subst hv; first | rfl | exact va_rf_cat _) (Nat.le_of_ble_eq_true rfl) (fun p e s m args below meth c ls F hi hl hW hS => kX3_isOpenForParameters_w F a0 h hf s.heap [] ls hl hW hS)
set_option maxRecDepth 100000 in
set_option maxHeartbeats 4000000 in
theorem kX3_addParameter_w (F : zF p s m args meth c cX3_addParameter 2 RX3 (some .int)) {r : Int32} {h' : zH} (a0 : Option Nat) (a1 : Int32) (h : zH) (hf : fX3_addParameter a0 a1 h = some (r, h')) (H : Heap) (locs : List Loc) (ls : Array Slot) (hl : zhas ls 2 [(0, va_rf a0), (1, .int a1)]) (hW : z_W D base s h H) (hS : va_S (zA base) s.heap H locs) : W p l e rmX3_addParameter s m args below meth c H locs 0 0 (MQ below (zQ D base (some (.int r)) h') args s rmX3_addParameter.cells rmX3_addParameter.slots (zA base)) (F0 m 0 ls []) := by
  obtain ⟨hx, hb, hml, hown, hts, hret, hlk, hZ⟩ := id F
  unfold fX3_addParameter at hf
  refine zw_aload_n hx hb dX3_addParameter_0 rfl (lv_at hl.1 0 rfl) ?_
  obtain ⟨v1, e1, hf⟩ := ob hf
  refine zw_gI hx hb hts inX3 hown hW (ci := 3) rfl (by decide) 7 (by decide) (hts _ wd_221) e1 (fun _ _ => rfl) dX3_addParameter_1 ?_
  refine lv_bipush (v := 8) hx hb dX3_addParameter_4 (by decide) ?_
  refine lv_icmp_lt (tgt := 11) hx hb dX3_addParameter_6 (by decide) (fun c2 => ?_) (fun c2 => ?_)
  · have hf := oift c2 hf
    refine zw_aload_n hx hb dX3_addParameter_11 rfl (lv_at hl.1 0 rfl) ?_
    obtain ⟨v3, e3, hf⟩ := ob hf
    refine zw_gR hx hb hts inX3 hown hW (ci := 3) rfl (by decide) 4 (by decide) (hts _ wd_218) e3 (fun _ _ => rfl) dX3_addParameter_12 ?_
    refine zw_aload_n hx hb dX3_addParameter_15 rfl (lv_at hl.1 0 rfl) ?_
    obtain ⟨v4, e4, hf⟩ := ob hf
    refine zw_gI hx hb hts inX3 hown hW (ci := 3) rfl (by decide) 7 (by decide) (hts _ wd_221) e4 (fun _ _ => rfl) dX3_addParameter_16 ?_
    refine lv_iload_n hx hb dX3_addParameter_19 rfl (lv_at hl.1 1 rfl) ?_
    obtain ⟨h5, e5, hf⟩ := ob hf
    refine zw_sI hx hb hW hS e5 dX3_addParameter_20 (fun H locs hW hS => ?_)
    refine zw_aload_n hx hb dX3_addParameter_21 rfl (lv_at hl.1 0 rfl) ?_
    refine lv_dup hx hb dX3_addParameter_22 (va_rf_cat _) ?_
    obtain ⟨v6, e6, hf⟩ := ob hf
    refine zw_gI hx hb hts inX3 hown hW (ci := 3) rfl (by decide) 7 (by decide) (hts _ wd_221) e6 (fun _ _ => rfl) dX3_addParameter_23 ?_
    refine lv_iconst (v := 1) hx hb dX3_addParameter_26 (by decide) ?_
    refine lv_iadd hx hb dX3_addParameter_27 ?_
    obtain ⟨h7, e7, hf⟩ := ob hf
    refine zw_pI hx hb hts inX3 tyX3 tyX3_ok nmX3 hown hW hS (ci := 3) rfl (by decide) 7 (by decide) (hts _ wd_221) (Or.inl rfl) (fun _ _ => rfl) rfl rfl e7 dX3_addParameter_28 (fun H locs hW hS => ?_)
    refine zw_aload_n hx hb dX3_addParameter_31 rfl (lv_at hl.1 0 rfl) ?_
    refine lv_iconst (v := 0) hx hb dX3_addParameter_32 (by decide) ?_
    obtain ⟨h8, e8, hf⟩ := ob hf
    obtain ⟨b8, e8⟩ := pZ_spec e8
    refine zw_pI hx hb hts inX3 tyX3 tyX3_ok nmX3 hown hW hS (ci := 3) rfl (by decide) 11 (by decide) (hts _ wd_231) (Or.inl rfl) (fun _ _ => rfl) (z_bool b8).1 (z_bool b8).2 e8 dX3_addParameter_33 (fun H locs hW hS => ?_)
    refine zw_aload_n hx hb dX3_addParameter_36 rfl (lv_at hl.1 0 rfl) ?_
    obtain ⟨v9, e9, hf⟩ := ob hf
    refine zw_gI hx hb hts inX3 hown hW (ci := 3) rfl (by decide) 7 (by decide) (hts _ wd_221) e9 (fun _ _ => rfl) dX3_addParameter_37 ?_
    obtain ⟨rfl, rfl⟩ := oret hf
    exact zw_ireturn F hW hS dX3_addParameter_40
  · have hf := oiff c2 hf
    refine lv_iconst (v := (-1)) hx hb dX3_addParameter_9 (by decide) ?_
    obtain ⟨rfl, rfl⟩ := oret hf
    exact zw_ireturn F hW hS dX3_addParameter_10
set_option maxRecDepth 100000 in
set_option maxHeartbeats 4000000 in
theorem kX3_addParameter (l : Launch) (D : va_G) (base : Nat) (a0 : Option Nat) (a1 : Int32) (h : zH) {r : Int32} {h' : zH} (hf : fX3_addParameter a0 a1 h = some (r, h')) : zMet l D base yX3_addParameter cX3_addParameter 2 (some .int) rmX3_addParameter h [va_rf a0, .int a1] (some (.int r)) h' :=
  zMet.of (by decide +kernel) (fun v hv => by simp only [List.mem_cons, List.not_mem_nil, or_false] at hv; rcases hv with rfl | rfl <;> first | rfl | exact va_rf_cat _) (Nat.le_of_ble_eq_true rfl) (fun p e s m args below meth c ls F hi hl hW hS => kX3_addParameter_w F a0 a1 h hf s.heap [] ls hl hW hS)
set_option maxRecDepth 100000 in
set_option maxHeartbeats 4000000 in
theorem kX3_parameterAt_w (F : zF p s m args meth c cX3_parameterAt 2 RX3 (some .int)) {r : Int32} {h' : zH} (a0 : Option Nat) (a1 : Int32) (h : zH) (hf : fX3_parameterAt a0 a1 h = some (r, h')) (H : Heap) (locs : List Loc) (ls : Array Slot) (hl : zhas ls 2 [(0, va_rf a0), (1, .int a1)]) (hW : z_W D base s h H) (hS : va_S (zA base) s.heap H locs) : W p l e rmX3_parameterAt s m args below meth c H locs 0 0 (MQ below (zQ D base (some (.int r)) h') args s rmX3_parameterAt.cells rmX3_parameterAt.slots (zA base)) (F0 m 0 ls []) := by
  obtain ⟨hx, hb, hml, hown, hts, hret, hlk, hZ⟩ := id F
  unfold fX3_parameterAt at hf
  refine lv_iload_n hx hb dX3_parameterAt_0 rfl (lv_at hl.1 1 rfl) ?_
  refine lv_if_lt (tgt := 27) hx hb dX3_parameterAt_1 (by decide) (fun c1 => ?_) (fun c1 => ?_)
  · have hf := oift c1 hf
    refine lv_iconst (v := (-1)) hx hb dX3_parameterAt_27 (by decide) ?_
    obtain ⟨rfl, rfl⟩ := oret hf
    exact zw_ireturn F hW hS dX3_parameterAt_28
  · have hf := oiff c1 hf
    refine lv_iload_n hx hb dX3_parameterAt_4 rfl (lv_at hl.1 1 rfl) ?_
    refine zw_aload_n hx hb dX3_parameterAt_5 rfl (lv_at hl.1 0 rfl) ?_
    obtain ⟨v2, e2, hf⟩ := ob hf
    refine zw_gI hx hb hts inX3 hown hW (ci := 3) rfl (by decide) 7 (by decide) (hts _ wd_221) e2 (fun _ _ => rfl) dX3_parameterAt_6 ?_
    refine lv_icmp_ge (tgt := 27) hx hb dX3_parameterAt_9 (by decide) (fun c3 => ?_) (fun c3 => ?_)
    · have hf := oift c3 hf
      refine lv_iconst (v := (-1)) hx hb dX3_parameterAt_27 (by decide) ?_
      obtain ⟨rfl, rfl⟩ := oret hf
      exact zw_ireturn F hW hS dX3_parameterAt_28
    · have hf := oiff c3 hf
      refine lv_iload_n hx hb dX3_parameterAt_12 rfl (lv_at hl.1 1 rfl) ?_
      refine lv_bipush (v := 8) hx hb dX3_parameterAt_13 (by decide) ?_
      refine lv_icmp_ge (tgt := 27) hx hb dX3_parameterAt_15 (by decide) (fun c4 => ?_) (fun c4 => ?_)
      · have hf := oift c4 hf
        refine lv_iconst (v := (-1)) hx hb dX3_parameterAt_27 (by decide) ?_
        obtain ⟨rfl, rfl⟩ := oret hf
        exact zw_ireturn F hW hS dX3_parameterAt_28
      · have hf := oiff c4 hf
        refine zw_aload_n hx hb dX3_parameterAt_18 rfl (lv_at hl.1 0 rfl) ?_
        obtain ⟨v5, e5, hf⟩ := ob hf
        refine zw_gR hx hb hts inX3 hown hW (ci := 3) rfl (by decide) 4 (by decide) (hts _ wd_218) e5 (fun _ _ => rfl) dX3_parameterAt_19 ?_
        refine lv_iload_n hx hb dX3_parameterAt_22 rfl (lv_at hl.1 1 rfl) ?_
        obtain ⟨v6, e6, hf⟩ := ob hf
        refine zw_aI hx hb hW e6 dX3_parameterAt_23 ?_
        refine lv_goto (tgt := 28) hx hb dX3_parameterAt_24 (by decide) ?_
        obtain ⟨rfl, rfl⟩ := oret hf
        exact zw_ireturn F hW hS dX3_parameterAt_28
set_option maxRecDepth 100000 in
set_option maxHeartbeats 4000000 in
theorem kX3_parameterAt (l : Launch) (D : va_G) (base : Nat) (a0 : Option Nat) (a1 : Int32) (h : zH) {r : Int32} {h' : zH} (hf : fX3_parameterAt a0 a1 h = some (r, h')) : zMet l D base yX3_parameterAt cX3_parameterAt 2 (some .int) rmX3_parameterAt h [va_rf a0, .int a1] (some (.int r)) h' :=
  zMet.of (by decide +kernel) (fun v hv => by simp only [List.mem_cons, List.not_mem_nil, or_false] at hv; rcases hv with rfl | rfl <;> first | rfl | exact va_rf_cat _) (Nat.le_of_ble_eq_true rfl) (fun p e s m args below meth c ls F hi hl hW hS => kX3_parameterAt_w F a0 a1 h hf s.heap [] ls hl hW hS)
set_option maxRecDepth 100000 in
set_option maxHeartbeats 4000000 in
theorem kX3_isCalledLike_b26 (N : Nat) {r : Int32} {h' : zH} (F : zF p s m args meth c cX3_isCalledLike 3 RX3 (some .boolean)) : ∀ (n : Nat) (l0 : Option Nat) (l1 : Option Nat) (l2 : Int32) (h : zH), fX3_isCalledLike_b26 N n l0 l1 l2 h = some (r, h') → ∀ (H : Heap) (locs : List Loc) (ls : Array Slot), zhas ls 3 [(0, va_rf l0), (1, va_rf l1), (2, .int l2)] → z_W D base s h H → va_S (zA base) s.heap H locs → W p l e rmX3_isCalledLike s m args below meth c H locs 0 0 (MQ below (zQ D base (some (.int r)) h') args s rmX3_isCalledLike.cells rmX3_isCalledLike.slots (zA base)) (F0 m 26 ls []) := by
  obtain ⟨hx, hb, hml, hown, hts, hret, hlk, hZ⟩ := id F
  intro n
  induction n with
  | zero =>
    intro l0 l1 l2 h hf
    rw [fX3_isCalledLike_b26] at hf
    cases hf
  | succ n ih =>
    intro l0 l1 l2 h hf H locs ls hl hW hS
    rw [fX3_isCalledLike_b26] at hf
    refine lv_iload_n hx hb dX3_isCalledLike_26 rfl (lv_at hl.1 2 rfl) ?_
    refine zw_aload_n hx hb dX3_isCalledLike_27 rfl (lv_at hl.1 0 rfl) ?_
    obtain ⟨v1, e1, hf⟩ := ob hf
    refine zw_gI hx hb hts inX3 hown hW (ci := 3) rfl (by decide) 7 (by decide) (hts _ wd_221) e1 (fun _ _ => rfl) dX3_isCalledLike_28 ?_
    refine lv_icmp_ge (tgt := 55) hx hb dX3_isCalledLike_31 (by decide) (fun c2 => ?_) (fun c2 => ?_)
    · have hf := oift c2 hf
      refine lv_iconst (v := 1) hx hb dX3_isCalledLike_55 (by decide) ?_
      obtain ⟨rfl, rfl⟩ := oret hf
      exact zw_zreturn F (by decide) hW hS dX3_isCalledLike_56
    · have hf := oiff c2 hf
      refine zw_aload_n hx hb dX3_isCalledLike_34 rfl (lv_at hl.1 0 rfl) ?_
      refine lv_iload_n hx hb dX3_isCalledLike_35 rfl (lv_at hl.1 2 rfl) ?_
      obtain ⟨a903, j3, hf⟩ := ob hf
      obtain ⟨q3, e3, hf⟩ := ob hf
      refine zw_callV (rest := []) (n := 1) F (kX3_parameterAt (r := q3.1) (h' := q3.2) l D base l0 l2 h e3) 3 rfl (by decide) j3 wd_286 wd_287 wd_288 wd_9 wd_289 (by decide +kernel) ⟨by decide, by decide⟩ hW hS rfl hl.1.1 (by decide) rfl ⟨(by decide), (by decide)⟩ dX3_isCalledLike_36 (fun H locs hW hS => ?_)
      refine W.eq (g2 := F0 m 39 ls [.int q3.1]) rfl ?_
      refine zw_aload_n hx hb dX3_isCalledLike_39 rfl (lv_at hl.1 1 rfl) ?_
      refine lv_iload_n hx hb dX3_isCalledLike_40 rfl (lv_at hl.1 2 rfl) ?_
      obtain ⟨a904, j4, hf⟩ := ob hf
      obtain ⟨q4, e4, hf⟩ := ob hf
      refine zw_callV (rest := [.int q3.1]) (n := 1) F (kX3_parameterAt (r := q4.1) (h' := q4.2) l D base l1 l2 q3.2 e4) 3 rfl (by decide) j4 wd_286 wd_287 wd_288 wd_9 wd_289 (by decide +kernel) ⟨by decide, by decide⟩ hW hS rfl hl.1.1 (by simp only [List.map_cons, List.map_nil, va_rf_cat, z_icat, List.sum_cons, List.sum_nil]; decide) rfl ⟨(by decide), (by decide)⟩ dX3_isCalledLike_41 (fun H locs hW hS => ?_)
      refine W.eq (g2 := F0 m 44 ls [.int q4.1, .int q3.1]) rfl ?_
      refine lv_icmp_eq (tgt := 49) hx hb dX3_isCalledLike_44 (by decide) (fun c5 => ?_) (fun c5 => ?_)
      · have hf := oift c5 hf
        refine zl_iinc (v := (l2 + 1)) (lv' := [(2, .int (l2 + 1)), (0, va_rf l0), (1, va_rf l1)]) hx hb dX3_isCalledLike_49 hl (k := 2) rfl rfl (by decide) rfl (fun ls hl => ?_)
        refine lv_goto (tgt := 26) hx hb dX3_isCalledLike_52 (by decide) ?_
        exact ih l0 l1 (l2 + 1) q4.2 hf H locs ls (z_sub hl [1, 2, 0] rfl) hW hS
      · have hf := oiff c5 hf
        refine lv_iconst (v := 0) hx hb dX3_isCalledLike_47 (by decide) ?_
        obtain ⟨rfl, rfl⟩ := oret hf
        exact zw_zreturn F (by decide) hW hS dX3_isCalledLike_48
set_option maxRecDepth 100000 in
set_option maxHeartbeats 4000000 in
theorem kX3_isCalledLike_w (N : Nat) (F : zF p s m args meth c cX3_isCalledLike 3 RX3 (some .boolean)) {r : Int32} {h' : zH} (a0 : Option Nat) (a1 : Option Nat) (h : zH) (hf : fX3_isCalledLike N a0 a1 h = some (r, h')) (H : Heap) (locs : List Loc) (ls : Array Slot) (hl : zhas ls 3 [(0, va_rf a0), (1, va_rf a1)]) (hW : z_W D base s h H) (hS : va_S (zA base) s.heap H locs) : W p l e rmX3_isCalledLike s m args below meth c H locs 0 0 (MQ below (zQ D base (some (.int r)) h') args s rmX3_isCalledLike.cells rmX3_isCalledLike.slots (zA base)) (F0 m 0 ls []) := by
  obtain ⟨hx, hb, hml, hown, hts, hret, hlk, hZ⟩ := id F
  unfold fX3_isCalledLike at hf
  refine zw_aload_n hx hb dX3_isCalledLike_0 rfl (lv_at hl.1 0 rfl) ?_
  obtain ⟨v1, e1, hf⟩ := ob hf
  refine zw_gI hx hb hts inX3 hown hW (ci := 3) rfl (by decide) 1 (by decide) (hts _ wd_211) e1 (fun _ _ => rfl) dX3_isCalledLike_1 ?_
  refine zw_aload_n hx hb dX3_isCalledLike_4 rfl (lv_at hl.1 1 rfl) ?_
  obtain ⟨v2, e2, hf⟩ := ob hf
  refine zw_gI hx hb hts inX3 hown hW (ci := 3) rfl (by decide) 1 (by decide) (hts _ wd_211) e2 (fun _ _ => rfl) dX3_isCalledLike_5 ?_
  refine lv_icmp_ne (tgt := 22) hx hb dX3_isCalledLike_8 (by decide) (fun c3 => ?_) (fun c3 => ?_)
  · have hf := oiff c3 hf
    refine lv_iconst (v := 0) hx hb dX3_isCalledLike_22 (by decide) ?_
    obtain ⟨rfl, rfl⟩ := oret hf
    exact zw_zreturn F (by decide) hW hS dX3_isCalledLike_23
  · have hf := oift c3 hf
    refine zw_aload_n hx hb dX3_isCalledLike_11 rfl (lv_at hl.1 0 rfl) ?_
    obtain ⟨v4, e4, hf⟩ := ob hf
    refine zw_gI hx hb hts inX3 hown hW (ci := 3) rfl (by decide) 7 (by decide) (hts _ wd_221) e4 (fun _ _ => rfl) dX3_isCalledLike_12 ?_
    refine zw_aload_n hx hb dX3_isCalledLike_15 rfl (lv_at hl.1 1 rfl) ?_
    obtain ⟨v5, e5, hf⟩ := ob hf
    refine zw_gI hx hb hts inX3 hown hW (ci := 3) rfl (by decide) 7 (by decide) (hts _ wd_221) e5 (fun _ _ => rfl) dX3_isCalledLike_16 ?_
    refine lv_icmp_eq (tgt := 24) hx hb dX3_isCalledLike_19 (by decide) (fun c6 => ?_) (fun c6 => ?_)
    · have hf := oift c6 hf
      refine lv_iconst (v := 1) hx hb dX3_isCalledLike_24 (by decide) ?_
      refine zl_istore_n (lv' := [(2, .int 1), (0, va_rf a0), (1, va_rf a1)]) hx hb dX3_isCalledLike_25 rfl hl (by decide) rfl (fun ls hl => ?_)
      exact kX3_isCalledLike_b26 N F N a0 a1 1 h hf H locs ls (z_sub hl [1, 2, 0] rfl) hW hS
    · have hf := oiff c6 hf
      refine lv_iconst (v := 0) hx hb dX3_isCalledLike_22 (by decide) ?_
      obtain ⟨rfl, rfl⟩ := oret hf
      exact zw_zreturn F (by decide) hW hS dX3_isCalledLike_23
set_option maxRecDepth 100000 in
set_option maxHeartbeats 4000000 in
theorem kX3_isCalledLike (l : Launch) (D : va_G) (base : Nat) (N : Nat) (a0 : Option Nat) (a1 : Option Nat) (h : zH) {r : Int32} {h' : zH} (hf : fX3_isCalledLike N a0 a1 h = some (r, h')) : zMet l D base yX3_isCalledLike cX3_isCalledLike 3 (some .boolean) rmX3_isCalledLike h [va_rf a0, va_rf a1] (some (.int r)) h' :=
  zMet.of (by decide +kernel) (fun v hv => by simp only [List.mem_cons, List.not_mem_nil, or_false] at hv; rcases hv with rfl | rfl <;> first | rfl | exact va_rf_cat _) (Nat.le_of_ble_eq_true rfl) (fun p e s m args below meth c ls F hi hl hW hS => kX3_isCalledLike_w N F a0 a1 h hf s.heap [] ls hl hW hS)
set_option maxRecDepth 100000 in
set_option maxHeartbeats 4000000 in
theorem kX3_addInstruction_w (F : zF p s m args meth c cX3_addInstruction 4 RX3 (some .int)) {r : Int32} {h' : zH} (a0 : Option Nat) (a1 : Int32) (a2 : Int32) (a3 : Int32) (h : zH) (hf : fX3_addInstruction a0 a1 a2 a3 h = some (r, h')) (H : Heap) (locs : List Loc) (ls : Array Slot) (hl : zhas ls 4 [(0, va_rf a0), (1, .int a1), (2, .int a2), (3, .int a3)]) (hW : z_W D base s h H) (hS : va_S (zA base) s.heap H locs) : W p l e rmX3_addInstruction s m args below meth c H locs 0 0 (MQ below (zQ D base (some (.int r)) h') args s rmX3_addInstruction.cells rmX3_addInstruction.slots (zA base)) (F0 m 0 ls []) := by
  obtain ⟨hx, hb, hml, hown, hts, hret, hlk, hZ⟩ := id F
  unfold fX3_addInstruction at hf
  refine zw_aload_n hx hb dX3_addInstruction_0 rfl (lv_at hl.1 0 rfl) ?_
  obtain ⟨v1, e1, hf⟩ := ob hf
  refine zw_gI hx hb hts inX3 hown hW (ci := 3) rfl (by decide) 8 (by decide) (hts _ wd_224) e1 (fun _ _ => rfl) dX3_addInstruction_1 ?_
  refine lv_sipush (v := 200) hx hb dX3_addInstruction_4 (by decide) ?_
  refine lv_icmp_lt (tgt := 13) hx hb dX3_addInstruction_7 (by decide) (fun c2 => ?_) (fun c2 => ?_)
  · have hf := oift c2 hf
    refine zw_aload_n hx hb dX3_addInstruction_13 rfl (lv_at hl.1 0 rfl) ?_
    obtain ⟨v3, e3, hf⟩ := ob hf
    refine zw_gR hx hb hts inX3 hown hW (ci := 3) rfl (by decide) 5 (by decide) (hts _ wd_219) e3 (fun _ _ => rfl) dX3_addInstruction_14 ?_
    refine zw_aload_n hx hb dX3_addInstruction_17 rfl (lv_at hl.1 0 rfl) ?_
    obtain ⟨v4, e4, hf⟩ := ob hf
    refine zw_gI hx hb hts inX3 hown hW (ci := 3) rfl (by decide) 8 (by decide) (hts _ wd_224) e4 (fun _ _ => rfl) dX3_addInstruction_18 ?_
    refine zw_nO hx hb hts inX1 tyX1 tyX1_ok hown (hts _ wd_201) (hts _ wd_320) (hts _ wd_10) hW hS (ci := 1) rfl (by decide) zdX1 (by decide) (by decide) dX3_addInstruction_21 (fun H hW hS => ?_)
    refine lv_dup hx hb dX3_addInstruction_24 (va_rf_cat _) ?_
    refine lv_iload_n hx hb dX3_addInstruction_25 rfl (lv_at hl.1 1 rfl) ?_
    refine lv_iload_n hx hb dX3_addInstruction_26 rfl (lv_at hl.1 2 rfl) ?_
    refine lv_iload_n hx hb dX3_addInstruction_27 rfl (lv_at hl.1 3 rfl) ?_
    obtain ⟨h5, e5, hf⟩ := ob hf
    refine zw_callI (rest := [va_rf (some (zs h)), .int v4, va_rf v3]) (n := 3) F (kX1_init l D base (some (zs h)) a1 a2 a3 (nwO 1 h) e5) rfl wd_321 wd_322 wd_10 wd_323 rfl (by decide +kernel) ⟨by decide, by decide⟩ hW hS rfl hl.1.1 (by simp only [List.map_cons, List.map_nil, va_rf_cat, z_icat, List.sum_cons, List.sum_nil]; decide) rfl ⟨(by decide), (by decide)⟩ dX3_addInstruction_28 (fun H locs hW hS => ?_)
    refine W.eq (g2 := F0 m 31 ls [va_rf (some (zs h)), .int v4, va_rf v3]) rfl ?_
    obtain ⟨h6, e6, hf⟩ := ob hf
    refine zw_sQ hx hb hW hS 1 rfl (by decide) e6 dX3_addInstruction_31 (fun H locs hW hS => ?_)
    refine zw_aload_n hx hb dX3_addInstruction_32 rfl (lv_at hl.1 0 rfl) ?_
    refine lv_dup hx hb dX3_addInstruction_33 (va_rf_cat _) ?_
    obtain ⟨v7, e7, hf⟩ := ob hf
    refine zw_gI hx hb hts inX3 hown hW (ci := 3) rfl (by decide) 8 (by decide) (hts _ wd_224) e7 (fun _ _ => rfl) dX3_addInstruction_34 ?_
    refine lv_iconst (v := 1) hx hb dX3_addInstruction_37 (by decide) ?_
    refine lv_iadd hx hb dX3_addInstruction_38 ?_
    obtain ⟨h8, e8, hf⟩ := ob hf
    refine zw_pI hx hb hts inX3 tyX3 tyX3_ok nmX3 hown hW hS (ci := 3) rfl (by decide) 8 (by decide) (hts _ wd_224) (Or.inl rfl) (fun _ _ => rfl) rfl rfl e8 dX3_addInstruction_39 (fun H locs hW hS => ?_)
    refine zw_aload_n hx hb dX3_addInstruction_42 rfl (lv_at hl.1 0 rfl) ?_
    refine lv_iconst (v := 0) hx hb dX3_addInstruction_43 (by decide) ?_
    obtain ⟨h9, e9, hf⟩ := ob hf
    obtain ⟨b9, e9⟩ := pZ_spec e9
    refine zw_pI hx hb hts inX3 tyX3 tyX3_ok nmX3 hown hW hS (ci := 3) rfl (by decide) 11 (by decide) (hts _ wd_231) (Or.inl rfl) (fun _ _ => rfl) (z_bool b9).1 (z_bool b9).2 e9 dX3_addInstruction_44 (fun H locs hW hS => ?_)
    refine zw_aload_n hx hb dX3_addInstruction_47 rfl (lv_at hl.1 0 rfl) ?_
    obtain ⟨v10, e10, hf⟩ := ob hf
    refine zw_gI hx hb hts inX3 hown hW (ci := 3) rfl (by decide) 8 (by decide) (hts _ wd_224) e10 (fun _ _ => rfl) dX3_addInstruction_48 ?_
    refine lv_iconst (v := 1) hx hb dX3_addInstruction_51 (by decide) ?_
    refine lv_isub hx hb dX3_addInstruction_52 ?_
    obtain ⟨rfl, rfl⟩ := oret hf
    exact zw_ireturn F hW hS dX3_addInstruction_53
  · have hf := oiff c2 hf
    refine lv_bipush (v := (-2)) hx hb dX3_addInstruction_10 (by decide) ?_
    refine W.widen (k := 3) (n := 22) (by decide) (by decide) ?_
    obtain ⟨rfl, rfl⟩ := oret hf
    exact zw_ireturn F hW hS dX3_addInstruction_12
set_option maxRecDepth 100000 in
set_option maxHeartbeats 4000000 in
theorem kX3_addInstruction (l : Launch) (D : va_G) (base : Nat) (a0 : Option Nat) (a1 : Int32) (a2 : Int32) (a3 : Int32) (h : zH) {r : Int32} {h' : zH} (hf : fX3_addInstruction a0 a1 a2 a3 h = some (r, h')) : zMet l D base yX3_addInstruction cX3_addInstruction 4 (some .int) rmX3_addInstruction h [va_rf a0, .int a1, .int a2, .int a3] (some (.int r)) h' :=
  zMet.of (by decide +kernel) (fun v hv => by simp only [List.mem_cons, List.not_mem_nil, or_false] at hv; rcases hv with rfl | rfl | rfl | rfl <;> first | rfl | exact va_rf_cat _) (Nat.le_of_ble_eq_true rfl) (fun p e s m args below meth c ls F hi hl hW hS => kX3_addInstruction_w F a0 a1 a2 a3 h hf s.heap [] ls hl hW hS)
set_option maxRecDepth 100000 in
set_option maxHeartbeats 4000000 in
theorem kX3_instructionAt_w (F : zF p s m args meth c cX3_instructionAt 2 RX3 (some (.object "CodeVerifier$Instruction"))) {r : Option Nat} {h' : zH} (a0 : Option Nat) (a1 : Int32) (h : zH) (hf : fX3_instructionAt a0 a1 h = some (r, h')) (H : Heap) (locs : List Loc) (ls : Array Slot) (hl : zhas ls 2 [(0, va_rf a0), (1, .int a1)]) (hW : z_W D base s h H) (hS : va_S (zA base) s.heap H locs) : W p l e rmX3_instructionAt s m args below meth c H locs 0 0 (MQ below (zQ D base (some (va_rf r)) h') args s rmX3_instructionAt.cells rmX3_instructionAt.slots (zA base)) (F0 m 0 ls []) := by
  obtain ⟨hx, hb, hml, hown, hts, hret, hlk, hZ⟩ := id F
  unfold fX3_instructionAt at hf
  refine lv_iload_n hx hb dX3_instructionAt_0 rfl (lv_at hl.1 1 rfl) ?_
  refine lv_if_lt (tgt := 28) hx hb dX3_instructionAt_1 (by decide) (fun c1 => ?_) (fun c1 => ?_)
  · have hf := oift c1 hf
    refine zw_null hx hb dX3_instructionAt_28 ?_
    obtain ⟨rfl, rfl⟩ := oret hf
    exact zw_areturn F hW hS dX3_instructionAt_29
  · have hf := oiff c1 hf
    refine lv_iload_n hx hb dX3_instructionAt_4 rfl (lv_at hl.1 1 rfl) ?_
    refine zw_aload_n hx hb dX3_instructionAt_5 rfl (lv_at hl.1 0 rfl) ?_
    obtain ⟨v2, e2, hf⟩ := ob hf
    refine zw_gI hx hb hts inX3 hown hW (ci := 3) rfl (by decide) 8 (by decide) (hts _ wd_224) e2 (fun _ _ => rfl) dX3_instructionAt_6 ?_
    refine lv_icmp_ge (tgt := 28) hx hb dX3_instructionAt_9 (by decide) (fun c3 => ?_) (fun c3 => ?_)
    · have hf := oift c3 hf
      refine zw_null hx hb dX3_instructionAt_28 ?_
      obtain ⟨rfl, rfl⟩ := oret hf
      exact zw_areturn F hW hS dX3_instructionAt_29
    · have hf := oiff c3 hf
      refine lv_iload_n hx hb dX3_instructionAt_12 rfl (lv_at hl.1 1 rfl) ?_
      refine lv_sipush (v := 200) hx hb dX3_instructionAt_13 (by decide) ?_
      refine lv_icmp_ge (tgt := 28) hx hb dX3_instructionAt_16 (by decide) (fun c4 => ?_) (fun c4 => ?_)
      · have hf := oift c4 hf
        refine zw_null hx hb dX3_instructionAt_28 ?_
        obtain ⟨rfl, rfl⟩ := oret hf
        exact zw_areturn F hW hS dX3_instructionAt_29
      · have hf := oiff c4 hf
        refine zw_aload_n hx hb dX3_instructionAt_19 rfl (lv_at hl.1 0 rfl) ?_
        obtain ⟨v5, e5, hf⟩ := ob hf
        refine zw_gR hx hb hts inX3 hown hW (ci := 3) rfl (by decide) 5 (by decide) (hts _ wd_219) e5 (fun _ _ => rfl) dX3_instructionAt_20 ?_
        refine lv_iload_n hx hb dX3_instructionAt_23 rfl (lv_at hl.1 1 rfl) ?_
        obtain ⟨v6, e6, hf⟩ := ob hf
        refine zw_aQ hx hb hW 103 (by decide) e6 dX3_instructionAt_24 ?_
        refine lv_goto (tgt := 29) hx hb dX3_instructionAt_25 (by decide) ?_
        obtain ⟨rfl, rfl⟩ := oret hf
        exact zw_areturn F hW hS dX3_instructionAt_29
set_option maxRecDepth 100000 in
set_option maxHeartbeats 4000000 in
theorem kX3_instructionAt (l : Launch) (D : va_G) (base : Nat) (a0 : Option Nat) (a1 : Int32) (h : zH) {r : Option Nat} {h' : zH} (hf : fX3_instructionAt a0 a1 h = some (r, h')) : zMet l D base yX3_instructionAt cX3_instructionAt 2 (some (.object "CodeVerifier$Instruction")) rmX3_instructionAt h [va_rf a0, .int a1] (some (va_rf r)) h' :=
  zMet.of (by decide +kernel) (fun v hv => by simp only [List.mem_cons, List.not_mem_nil, or_false] at hv; rcases hv with rfl | rfl <;> first | rfl | exact va_rf_cat _) (Nat.le_of_ble_eq_true rfl) (fun p e s m args below meth c ls F hi hl hW hS => kX3_instructionAt_w F a0 a1 h hf s.heap [] ls hl hW hS)
end
