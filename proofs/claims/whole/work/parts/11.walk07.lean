section
variable {p : Program} {l : Launch} {e : Env} {s : State} {m : MethodId} {args : Array Value} {below : List Frame} {meth : Method} {c : Code} {D : va_G} {base : Nat}
set_option maxRecDepth 100000 in
set_option maxHeartbeats 4000000 in
theorem kX8_stands_w (F : zF p s m args meth c cX8_stands 7 RX8 (some .int)) {r : Int32} {h' : zH} (a0 : Option Nat) (a1 : Int32) (a2 : Int32) (a3 : Int32) (a4 : Int32) (h : zH) (hf : fX8_stands a0 a1 a2 a3 a4 h = some (r, h')) (H : Heap) (locs : List Loc) (ls : Array Slot) (hl : zhas ls 7 [(0, va_rf a0), (1, .int a1), (2, .int a2), (3, .int a3), (4, .int a4)]) (hW : z_W D base s h H) (hS : va_S (zA base) s.heap H locs) : W p l e rmX8_stands s m args below meth c H locs 0 0 (MQ below (zQ D base (some (.int r)) h') args s rmX8_stands.cells rmX8_stands.slots (zA base)) (F0 m 0 ls []) := by
  obtain ⟨hx, hb, hml, hown, hts, hret, hlk, hZ⟩ := id F
  unfold fX8_stands at hf
  refine zw_aload_n hx hb dX8_stands_0 rfl (lv_at hl.1 0 rfl) ?_
  obtain ⟨v1, e1, hf⟩ := ob hf
  refine zw_gR hx hb hts inX8 hown hW (ci := 8) rfl (by decide) 0 (by decide) (hts _ wd_109) e1 (fun _ _ => rfl) dX8_stands_1 ?_
  refine lv_iload_n hx hb dX8_stands_4 rfl (lv_at hl.1 1 rfl) ?_
  obtain ⟨a902, j2, hf⟩ := ob hf
  obtain ⟨q2, e2, hf⟩ := ob hf
  refine zw_callV (rest := []) (n := 1) F (kX6_methodAt (r := q2.1) (h' := q2.2) l D base v1 a1 h e2) 6 rfl (by decide) j2 wd_262 wd_263 wd_264 wd_2 wd_265 (by decide +kernel) ⟨by decide, by decide⟩ hW hS rfl hl.1.1 (by decide) rfl ⟨(by decide), (by decide)⟩ dX8_stands_5 (fun H locs hW hS => ?_)
  refine W.eq (g2 := F0 m 8 ls [va_rf q2.1]) rfl ?_
  refine zl_astore (lv' := [(5, va_rf q2.1), (0, va_rf a0), (1, .int a1), (2, .int a2), (3, .int a3), (4, .int a4)]) hx hb dX8_stands_8 hl (by decide) rfl (fun ls hl => ?_)
  refine zw_aload hx hb dX8_stands_10 (lv_at hl.1 0 rfl) ?_
  refine zw_ifnull (tgt := 23) hx hb dX8_stands_12 (by decide) (fun c3 => ?_) (fun c3 => ?_)
  · have hf := oift c3 hf
    refine lv_iconst (v := (-1)) hx hb dX8_stands_23 (by decide) ?_
    obtain ⟨rfl, rfl⟩ := oret hf
    exact zw_ireturn F hW hS dX8_stands_24
  · have hf := oiff c3 hf
    refine zw_aload hx hb dX8_stands_15 (lv_at hl.1 0 rfl) ?_
    obtain ⟨v4, e4, hf⟩ := ob hf
    refine zw_gI hx hb hts inX3 hown hW (ci := 3) rfl (by decide) 11 (by decide) (hts _ wd_232) e4 (fun _ _ => rfl) dX8_stands_17 ?_
    refine lv_if_ne (tgt := 25) hx hb dX8_stands_20 (by decide) (fun c5 => ?_) (fun c5 => ?_)
    · have hf := oiff c5 hf
      refine zw_aload hx hb dX8_stands_25 (lv_at hl.1 0 rfl) ?_
      refine lv_iload_n hx hb dX8_stands_27 rfl (lv_at hl.1 3 rfl) ?_
      obtain ⟨a906, j6, hf⟩ := ob hf
      obtain ⟨q6, e6, hf⟩ := ob hf
      refine zw_callV (rest := []) (n := 1) F (kX3_instructionAt (r := q6.1) (h' := q6.2) l D base q2.1 a2 q2.2 e6) 3 rfl (by decide) j6 wd_575 wd_395 wd_396 wd_9 wd_397 (by decide +kernel) ⟨by decide, by decide⟩ hW hS rfl hl.1.1 (by decide) rfl ⟨(by decide), (by decide)⟩ dX8_stands_28 (fun H locs hW hS => ?_)
      refine W.eq (g2 := F0 m 31 ls [va_rf q6.1]) rfl ?_
      refine zl_astore (lv' := [(6, va_rf q6.1), (5, va_rf q2.1), (0, va_rf a0), (1, .int a1), (2, .int a2), (3, .int a3), (4, .int a4)]) hx hb dX8_stands_31 hl (by decide) rfl (fun ls hl => ?_)
      refine zw_aload hx hb dX8_stands_33 (lv_at hl.1 0 rfl) ?_
      refine zw_ifnull (tgt := 46) hx hb dX8_stands_35 (by decide) (fun c7 => ?_) (fun c7 => ?_)
      · have hf := oift c7 hf
        refine lv_iconst (v := (-1)) hx hb dX8_stands_46 (by decide) ?_
        obtain ⟨rfl, rfl⟩ := oret hf
        exact zw_ireturn F hW hS dX8_stands_47
      · have hf := oiff c7 hf
        refine zw_aload hx hb dX8_stands_38 (lv_at hl.1 0 rfl) ?_
        obtain ⟨v8, e8, hf⟩ := ob hf
        refine zw_gI hx hb hts inX1 hown hW (ci := 1) rfl (by decide) 4 (by decide) (hts _ wd_338) e8 (fun _ _ => rfl) dX8_stands_40 ?_
        refine lv_if_ne (tgt := 48) hx hb dX8_stands_43 (by decide) (fun c9 => ?_) (fun c9 => ?_)
        · have hf := oiff c9 hf
          refine lv_iload_n hx hb dX8_stands_48 rfl (lv_at hl.1 5 rfl) ?_
          by_cases c10 : a3 = 0
          · have hf := oift c10 hf
            refine zl_tab hx hb (0) (27) (tgt := 76) dX8_stands_49 (by rw [c10]; decide) (by decide) ?_
            refine zw_aload hx hb dX8_stands_76 (lv_at hl.1 0 rfl) ?_
            obtain ⟨v11, e11, hf⟩ := ob hf
            refine zw_gR hx hb hts inX1 hown hW (ci := 1) rfl (by decide) 3 (by decide) (hts _ wd_336) e11 (fun _ _ => rfl) dX8_stands_78 ?_
            obtain ⟨v12, e12, hf⟩ := ob hf
            refine zw_gI hx hb hts inX4 hown hW (ci := 4) rfl (by decide) 3 (by decide) (hts _ wd_61) e12 (fun _ _ => rfl) dX8_stands_81 ?_
            obtain ⟨rfl, rfl⟩ := oret hf
            exact zw_ireturn F hW hS dX8_stands_84
          · have hf := oiff c10 hf
            by_cases c13 : a3 = 1
            · have hf := oift c13 hf
              refine zl_tab hx hb (1) (36) (tgt := 85) dX8_stands_49 (by rw [c13]; decide) (by decide) ?_
              refine zw_aload hx hb dX8_stands_85 (lv_at hl.1 0 rfl) ?_
              obtain ⟨v14, e14, hf⟩ := ob hf
              refine zw_gR hx hb hts inX1 hown hW (ci := 1) rfl (by decide) 3 (by decide) (hts _ wd_336) e14 (fun _ _ => rfl) dX8_stands_87 ?_
              refine lv_iload hx hb dX8_stands_90 (lv_at hl.1 6 rfl) ?_
              obtain ⟨a915, j15, hf⟩ := ob hf
              obtain ⟨q15, e15, hf⟩ := ob hf
              refine zw_callV (rest := []) (n := 1) F (kX4_localAt (r := q15.1) (h' := q15.2) l D base v14 a4 q6.2 e15) 4 rfl (by decide) j15 wd_576 wd_479 wd_480 wd_4 wd_481 (by decide +kernel) ⟨by decide, by decide⟩ hW hS rfl hl.1.1 (by decide) rfl ⟨(by decide), (by decide)⟩ dX8_stands_92 (fun H locs hW hS => ?_)
              refine W.eq (g2 := F0 m 95 ls [.int q15.1]) rfl ?_
              obtain ⟨rfl, rfl⟩ := oret hf
              exact zw_ireturn F hW hS dX8_stands_95
            · have hf := oiff c13 hf
              by_cases c16 : a3 = 2
              · have hf := oift c16 hf
                refine zl_tab hx hb (2) (47) (tgt := 96) dX8_stands_49 (by rw [c16]; decide) (by decide) ?_
                refine zw_aload hx hb dX8_stands_96 (lv_at hl.1 0 rfl) ?_
                obtain ⟨v17, e17, hf⟩ := ob hf
                refine zw_gR hx hb hts inX1 hown hW (ci := 1) rfl (by decide) 3 (by decide) (hts _ wd_336) e17 (fun _ _ => rfl) dX8_stands_98 ?_
                refine lv_iload hx hb dX8_stands_101 (lv_at hl.1 6 rfl) ?_
                obtain ⟨a918, j18, hf⟩ := ob hf
                obtain ⟨q18, e18, hf⟩ := ob hf
                refine zw_callV (rest := []) (n := 1) F (kX4_placeAt (r := q18.1) (h' := q18.2) l D base v17 a4 q6.2 e18) 4 rfl (by decide) j18 wd_577 wd_487 wd_488 wd_4 wd_489 (by decide +kernel) ⟨by decide, by decide⟩ hW hS rfl hl.1.1 (by decide) rfl ⟨(by decide), (by decide)⟩ dX8_stands_103 (fun H locs hW hS => ?_)
                refine W.eq (g2 := F0 m 106 ls [.int q18.1]) rfl ?_
                obtain ⟨rfl, rfl⟩ := oret hf
                exact zw_ireturn F hW hS dX8_stands_106
              · have hf := oiff c16 hf
                refine zl_tabD hx hb [0, 1, 2] (tgt := 107) dX8_stands_49 (fun k hk => by simp only [List.mem_cons, List.not_mem_nil, or_false] at hk; rcases hk with rfl | rfl | rfl <;> first | exact lv_neT c10 (by decide) | exact lv_neT c13 (by decide) | exact lv_neT c16 (by decide)) (by decide) ?_
                refine lv_iconst (v := (-1)) hx hb dX8_stands_107 (by decide) ?_
                obtain ⟨rfl, rfl⟩ := oret hf
                exact zw_ireturn F hW hS dX8_stands_108
        · have hf := oift c9 hf
          refine lv_iconst (v := (-1)) hx hb dX8_stands_46 (by decide) ?_
          obtain ⟨rfl, rfl⟩ := oret hf
          exact zw_ireturn F hW hS dX8_stands_47
    · have hf := oift c5 hf
      refine lv_iconst (v := (-1)) hx hb dX8_stands_23 (by decide) ?_
      obtain ⟨rfl, rfl⟩ := oret hf
      exact zw_ireturn F hW hS dX8_stands_24
set_option maxRecDepth 100000 in
set_option maxHeartbeats 4000000 in
theorem kX8_stands (l : Launch) (D : va_G) (base : Nat) (a0 : Option Nat) (a1 : Int32) (a2 : Int32) (a3 : Int32) (a4 : Int32) (h : zH) {r : Int32} {h' : zH} (hf : fX8_stands a0 a1 a2 a3 a4 h = some (r, h')) : zMet l D base yX8_stands cX8_stands 7 (some .int) rmX8_stands h [va_rf a0, .int a1, .int a2, .int a3, .int a4] (some (.int r)) h' :=
  zMet.of (by decide +kernel) (fun v hv => by simp only [List.mem_cons, List.not_mem_nil, or_false] at hv; rcases hv with rfl | rfl | rfl | rfl | rfl <;> first | rfl | exact va_rf_cat _) (Nat.le_of_ble_eq_true rfl) (fun p e s m args below meth c ls F hi hl hW hS => kX8_stands_w F a0 a1 a2 a3 a4 h hf s.heap [] ls hl hW hS)
set_option maxRecDepth 100000 in
set_option maxHeartbeats 4000000 in
theorem kX8_looked_w (F : zF p s m args meth c cX8_looked 1 RX8 (some .int)) {r : Int32} {h' : zH} (a0 : Option Nat) (h : zH) (hf : fX8_looked a0 h = some (r, h')) (H : Heap) (locs : List Loc) (ls : Array Slot) (hl : zhas ls 1 [(0, va_rf a0)]) (hW : z_W D base s h H) (hS : va_S (zA base) s.heap H locs) : W p l e rmX8_looked s m args below meth c H locs 0 0 (MQ below (zQ D base (some (.int r)) h') args s rmX8_looked.cells rmX8_looked.slots (zA base)) (F0 m 0 ls []) := by
  obtain ⟨hx, hb, hml, hown, hts, hret, hlk, hZ⟩ := id F
  unfold fX8_looked at hf
  refine zw_aload_n hx hb dX8_looked_0 rfl (lv_at hl.1 0 rfl) ?_
  obtain ⟨v1, e1, hf⟩ := ob hf
  refine zw_gR hx hb hts inX8 hown hW (ci := 8) rfl (by decide) 1 (by decide) (hts _ wd_110) e1 (fun _ _ => rfl) dX8_looked_1 ?_
  obtain ⟨v2, e2, hf⟩ := ob hf
  refine zw_gI hx hb hts inX7 hown hW (ci := 7) rfl (by decide) 5 (by decide) (hts _ wd_95) e2 (fun _ _ => rfl) dX8_looked_4 ?_
  obtain ⟨rfl, rfl⟩ := oret hf
  exact zw_ireturn F hW hS dX8_looked_7
set_option maxRecDepth 100000 in
set_option maxHeartbeats 4000000 in
theorem kX8_looked (l : Launch) (D : va_G) (base : Nat) (a0 : Option Nat) (h : zH) {r : Int32} {h' : zH} (hf : fX8_looked a0 h = some (r, h')) : zMet l D base yX8_looked cX8_looked 1 (some .int) rmX8_looked h [va_rf a0] (some (.int r)) h' :=
  zMet.of (by decide +kernel) (fun v hv => by simp only [List.mem_cons, List.not_mem_nil, or_false] at hv; subst hv; first | rfl | exact va_rf_cat _) (Nat.le_of_ble_eq_true rfl) (fun p e s m args below meth c ls F hi hl hW hS => kX8_looked_w F a0 h hf s.heap [] ls hl hW hS)
set_option maxRecDepth 100000 in
set_option maxHeartbeats 4000000 in
theorem kX9_init_w (F : zF p s m args meth c cX9_init 1 RX9 none) (hin : meth.name = "<init>") {h' : zH} (a0 : Option Nat) (h : zH) (hf : fX9_init a0 h = some h') (H : Heap) (locs : List Loc) (ls : Array Slot) (hl : zhas ls 1 [(0, va_rf a0)]) (hW : z_W D base s h H) (hS : va_S (zA base) s.heap H locs) : W p l e rmX9_init s m args below meth c H locs 0 0 (MQ below (zQ D base none h') args s rmX9_init.cells rmX9_init.slots (zA base)) (F0 m 0 ls []) := by
  obtain ⟨hx, hb, hml, hown, hts, hret, hlk, hZ⟩ := id F
  unfold fX9_init at hf
  refine zw_aload_n hx hb dX9_init_0 rfl (lv_at hl.1 0 rfl) ?_
  obtain ⟨a901, e1, hf⟩ := ob hf
  refine zw_objInit F e1 wd_587 wd_19 wd_20 (by decide +kernel) hl.1.1 (by decide) (by simp only [List.map_cons, List.map_nil, va_rf_cat, z_icat, List.sum_cons, List.sum_nil]; decide) dX9_init_1 ?_
  refine zw_aload_n hx hb dX9_init_4 rfl (lv_at hl.1 0 rfl) ?_
  refine lv_bipush (v := 32) hx hb dX9_init_5 (by decide) ?_
  refine zw_nI hx hb (hts _ wd_72) hW hS 32 (by decide) (by decide) (by decide) (by decide) (by decide) dX9_init_7 (fun H hW hS => ?_)
  obtain ⟨h2, e2, hf⟩ := ob hf
  refine zw_pR hx hb hts inX9 tyX9 tyX9_ok nmX9 hown hW hS (ci := 9) rfl (by decide) 1 (by decide) (hts _ wd_590) (Or.inr ⟨rfl, hin, rfl⟩) (fun _ _ => rfl) (fun v => z_arrn v) (fun v => z_arrf v) e2 dX9_init_9 (fun H locs hW hS => ?_)
  refine zw_aload_n hx hb dX9_init_12 rfl (lv_at hl.1 0 rfl) ?_
  refine lv_bipush (v := 32) hx hb dX9_init_13 (by decide) ?_
  refine zw_nZ hx hb (hts _ wd_686) hW hS 32 (by decide) (by decide) (by decide) (by decide) (by decide) dX9_init_15 (fun H hW hS => ?_)
  obtain ⟨h3, e3, hf⟩ := ob hf
  refine zw_pR hx hb hts inX9 tyX9 tyX9_ok nmX9 hown hW hS (ci := 9) rfl (by decide) 2 (by decide) (hts _ wd_591) (Or.inr ⟨rfl, hin, rfl⟩) (fun _ _ => rfl) (fun v => z_arrn v) (fun v => z_arrf v) e3 dX9_init_17 (fun H locs hW hS => ?_)
  refine zw_aload_n hx hb dX9_init_20 rfl (lv_at hl.1 0 rfl) ?_
  refine lv_bipush (v := 32) hx hb dX9_init_21 (by decide) ?_
  refine zw_nI hx hb (hts _ wd_72) hW hS 32 (by decide) (by decide) (by decide) (by decide) (by decide) dX9_init_23 (fun H hW hS => ?_)
  obtain ⟨h4, e4, hf⟩ := ob hf
  refine zw_pR hx hb hts inX9 tyX9 tyX9_ok nmX9 hown hW hS (ci := 9) rfl (by decide) 3 (by decide) (hts _ wd_592) (Or.inr ⟨rfl, hin, rfl⟩) (fun _ _ => rfl) (fun v => z_arrn v) (fun v => z_arrf v) e4 dX9_init_25 (fun H locs hW hS => ?_)
  refine zw_aload_n hx hb dX9_init_28 rfl (lv_at hl.1 0 rfl) ?_
  refine lv_sipush (v := 480) hx hb dX9_init_29 (by decide) ?_
  refine zw_nI hx hb (hts _ wd_72) hW hS 480 (by decide) (by decide) (by decide) (by decide) (by decide) dX9_init_32 (fun H hW hS => ?_)
  obtain ⟨h5, e5, hf⟩ := ob hf
  refine zw_pR hx hb hts inX9 tyX9 tyX9_ok nmX9 hown hW hS (ci := 9) rfl (by decide) 4 (by decide) (hts _ wd_593) (Or.inr ⟨rfl, hin, rfl⟩) (fun _ _ => rfl) (fun v => z_arrn v) (fun v => z_arrf v) e5 dX9_init_34 (fun H locs hW hS => ?_)
  refine zw_aload_n hx hb dX9_init_37 rfl (lv_at hl.1 0 rfl) ?_
  refine lv_sipush (v := 512) hx hb dX9_init_38 (by decide) ?_
  refine zw_nI hx hb (hts _ wd_72) hW hS 512 (by decide) (by decide) (by decide) (by decide) (by decide) dX9_init_41 (fun H hW hS => ?_)
  obtain ⟨h6, e6, hf⟩ := ob hf
  refine zw_pR hx hb hts inX9 tyX9 tyX9_ok nmX9 hown hW hS (ci := 9) rfl (by decide) 5 (by decide) (hts _ wd_594) (Or.inr ⟨rfl, hin, rfl⟩) (fun _ _ => rfl) (fun v => z_arrn v) (fun v => z_arrf v) e6 dX9_init_43 (fun H locs hW hS => ?_)
  refine zw_aload_n hx hb dX9_init_46 rfl (lv_at hl.1 0 rfl) ?_
  refine lv_bipush (v := 64) hx hb dX9_init_47 (by decide) ?_
  refine zw_nI hx hb (hts _ wd_72) hW hS 64 (by decide) (by decide) (by decide) (by decide) (by decide) dX9_init_49 (fun H hW hS => ?_)
  obtain ⟨h7, e7, hf⟩ := ob hf
  refine zw_pR hx hb hts inX9 tyX9 tyX9_ok nmX9 hown hW hS (ci := 9) rfl (by decide) 7 (by decide) (hts _ wd_596) (Or.inr ⟨rfl, hin, rfl⟩) (fun _ _ => rfl) (fun v => z_arrn v) (fun v => z_arrf v) e7 dX9_init_51 (fun H locs hW hS => ?_)
  refine zw_aload_n hx hb dX9_init_54 rfl (lv_at hl.1 0 rfl) ?_
  refine lv_bipush (v := 64) hx hb dX9_init_55 (by decide) ?_
  refine zw_nI hx hb (hts _ wd_72) hW hS 64 (by decide) (by decide) (by decide) (by decide) (by decide) dX9_init_57 (fun H hW hS => ?_)
  obtain ⟨h8, e8, hf⟩ := ob hf
  refine zw_pR hx hb hts inX9 tyX9 tyX9_ok nmX9 hown hW hS (ci := 9) rfl (by decide) 8 (by decide) (hts _ wd_597) (Or.inr ⟨rfl, hin, rfl⟩) (fun _ _ => rfl) (fun v => z_arrn v) (fun v => z_arrf v) e8 dX9_init_59 (fun H locs hW hS => ?_)
  refine zw_aload_n hx hb dX9_init_62 rfl (lv_at hl.1 0 rfl) ?_
  refine lv_bipush (v := 64) hx hb dX9_init_63 (by decide) ?_
  refine zw_nI hx hb (hts _ wd_72) hW hS 64 (by decide) (by decide) (by decide) (by decide) (by decide) dX9_init_65 (fun H hW hS => ?_)
  obtain ⟨h9, e9, hf⟩ := ob hf
  refine zw_pR hx hb hts inX9 tyX9 tyX9_ok nmX9 hown hW hS (ci := 9) rfl (by decide) 9 (by decide) (hts _ wd_598) (Or.inr ⟨rfl, hin, rfl⟩) (fun _ _ => rfl) (fun v => z_arrn v) (fun v => z_arrf v) e9 dX9_init_67 (fun H locs hW hS => ?_)
  refine zw_aload_n hx hb dX9_init_70 rfl (lv_at hl.1 0 rfl) ?_
  refine lv_bipush (v := 64) hx hb dX9_init_71 (by decide) ?_
  refine zw_nI hx hb (hts _ wd_72) hW hS 64 (by decide) (by decide) (by decide) (by decide) (by decide) dX9_init_73 (fun H hW hS => ?_)
  obtain ⟨h10, e10, hf⟩ := ob hf
  refine zw_pR hx hb hts inX9 tyX9 tyX9_ok nmX9 hown hW hS (ci := 9) rfl (by decide) 10 (by decide) (hts _ wd_599) (Or.inr ⟨rfl, hin, rfl⟩) (fun _ _ => rfl) (fun v => z_arrn v) (fun v => z_arrf v) e10 dX9_init_75 (fun H locs hW hS => ?_)
  refine zw_aload_n hx hb dX9_init_78 rfl (lv_at hl.1 0 rfl) ?_
  refine lv_bipush (v := 64) hx hb dX9_init_79 (by decide) ?_
  refine zw_nI hx hb (hts _ wd_72) hW hS 64 (by decide) (by decide) (by decide) (by decide) (by decide) dX9_init_81 (fun H hW hS => ?_)
  obtain ⟨h11, e11, hf⟩ := ob hf
  refine zw_pR hx hb hts inX9 tyX9 tyX9_ok nmX9 hown hW hS (ci := 9) rfl (by decide) 11 (by decide) (hts _ wd_600) (Or.inr ⟨rfl, hin, rfl⟩) (fun _ _ => rfl) (fun v => z_arrn v) (fun v => z_arrf v) e11 dX9_init_83 (fun H locs hW hS => ?_)
  refine zw_aload_n hx hb dX9_init_86 rfl (lv_at hl.1 0 rfl) ?_
  refine lv_sipush (v := 512) hx hb dX9_init_87 (by decide) ?_
  refine zw_nI hx hb (hts _ wd_72) hW hS 512 (by decide) (by decide) (by decide) (by decide) (by decide) dX9_init_90 (fun H hW hS => ?_)
  obtain ⟨h12, e12, hf⟩ := ob hf
  refine zw_pR hx hb hts inX9 tyX9 tyX9_ok nmX9 hown hW hS (ci := 9) rfl (by decide) 12 (by decide) (hts _ wd_601) (Or.inr ⟨rfl, hin, rfl⟩) (fun _ _ => rfl) (fun v => z_arrn v) (fun v => z_arrf v) e12 dX9_init_92 (fun H locs hW hS => ?_)
  refine zw_aload_n hx hb dX9_init_95 rfl (lv_at hl.1 0 rfl) ?_
  refine lv_bipush (v := 64) hx hb dX9_init_96 (by decide) ?_
  refine zw_nZ hx hb (hts _ wd_686) hW hS 64 (by decide) (by decide) (by decide) (by decide) (by decide) dX9_init_98 (fun H hW hS => ?_)
  obtain ⟨h13, e13, hf⟩ := ob hf
  refine zw_pR hx hb hts inX9 tyX9 tyX9_ok nmX9 hown hW hS (ci := 9) rfl (by decide) 13 (by decide) (hts _ wd_602) (Or.inr ⟨rfl, hin, rfl⟩) (fun _ _ => rfl) (fun v => z_arrn v) (fun v => z_arrf v) e13 dX9_init_100 (fun H locs hW hS => ?_)
  refine zw_aload_n hx hb dX9_init_103 rfl (lv_at hl.1 0 rfl) ?_
  refine lv_bipush (v := 64) hx hb dX9_init_104 (by decide) ?_
  refine zw_nI hx hb (hts _ wd_72) hW hS 64 (by decide) (by decide) (by decide) (by decide) (by decide) dX9_init_106 (fun H hW hS => ?_)
  obtain ⟨h14, e14, hf⟩ := ob hf
  refine zw_pR hx hb hts inX9 tyX9 tyX9_ok nmX9 hown hW hS (ci := 9) rfl (by decide) 14 (by decide) (hts _ wd_603) (Or.inr ⟨rfl, hin, rfl⟩) (fun _ _ => rfl) (fun v => z_arrn v) (fun v => z_arrf v) e14 dX9_init_108 (fun H locs hW hS => ?_)
  refine zw_aload_n hx hb dX9_init_111 rfl (lv_at hl.1 0 rfl) ?_
  refine lv_sipush (v := 12800) hx hb dX9_init_112 (by decide) ?_
  refine zw_nI hx hb (hts _ wd_72) hW hS 12800 (by decide) (by decide) (by decide) (by decide) (by decide) dX9_init_115 (fun H hW hS => ?_)
  obtain ⟨h15, e15, hf⟩ := ob hf
  refine zw_pR hx hb hts inX9 tyX9 tyX9_ok nmX9 hown hW hS (ci := 9) rfl (by decide) 15 (by decide) (hts _ wd_604) (Or.inr ⟨rfl, hin, rfl⟩) (fun _ _ => rfl) (fun v => z_arrn v) (fun v => z_arrf v) e15 dX9_init_117 (fun H locs hW hS => ?_)
  refine zw_aload_n hx hb dX9_init_120 rfl (lv_at hl.1 0 rfl) ?_
  refine lv_sipush (v := 12800) hx hb dX9_init_121 (by decide) ?_
  refine zw_nI hx hb (hts _ wd_72) hW hS 12800 (by decide) (by decide) (by decide) (by decide) (by decide) dX9_init_124 (fun H hW hS => ?_)
  obtain ⟨h16, e16, hf⟩ := ob hf
  refine zw_pR hx hb hts inX9 tyX9 tyX9_ok nmX9 hown hW hS (ci := 9) rfl (by decide) 16 (by decide) (hts _ wd_605) (Or.inr ⟨rfl, hin, rfl⟩) (fun _ _ => rfl) (fun v => z_arrn v) (fun v => z_arrf v) e16 dX9_init_126 (fun H locs hW hS => ?_)
  refine zw_aload_n hx hb dX9_init_129 rfl (lv_at hl.1 0 rfl) ?_
  refine lv_sipush (v := 12800) hx hb dX9_init_130 (by decide) ?_
  refine zw_nI hx hb (hts _ wd_72) hW hS 12800 (by decide) (by decide) (by decide) (by decide) (by decide) dX9_init_133 (fun H hW hS => ?_)
  obtain ⟨h17, e17, hf⟩ := ob hf
  refine zw_pR hx hb hts inX9 tyX9 tyX9_ok nmX9 hown hW hS (ci := 9) rfl (by decide) 17 (by decide) (hts _ wd_606) (Or.inr ⟨rfl, hin, rfl⟩) (fun _ _ => rfl) (fun v => z_arrn v) (fun v => z_arrf v) e17 dX9_init_135 (fun H locs hW hS => ?_)
  refine zw_aload_n hx hb dX9_init_138 rfl (lv_at hl.1 0 rfl) ?_
  refine lv_bipush (v := 64) hx hb dX9_init_139 (by decide) ?_
  refine zw_nI hx hb (hts _ wd_72) hW hS 64 (by decide) (by decide) (by decide) (by decide) (by decide) dX9_init_141 (fun H hW hS => ?_)
  obtain ⟨h18, e18, hf⟩ := ob hf
  refine zw_pR hx hb hts inX9 tyX9 tyX9_ok nmX9 hown hW hS (ci := 9) rfl (by decide) 18 (by decide) (hts _ wd_607) (Or.inr ⟨rfl, hin, rfl⟩) (fun _ _ => rfl) (fun v => z_arrn v) (fun v => z_arrf v) e18 dX9_init_143 (fun H locs hW hS => ?_)
  refine zw_aload_n hx hb dX9_init_146 rfl (lv_at hl.1 0 rfl) ?_
  refine lv_sipush (v := 512) hx hb dX9_init_147 (by decide) ?_
  refine zw_nI hx hb (hts _ wd_72) hW hS 512 (by decide) (by decide) (by decide) (by decide) (by decide) dX9_init_150 (fun H hW hS => ?_)
  obtain ⟨h19, e19, hf⟩ := ob hf
  refine zw_pR hx hb hts inX9 tyX9 tyX9_ok nmX9 hown hW hS (ci := 9) rfl (by decide) 19 (by decide) (hts _ wd_608) (Or.inr ⟨rfl, hin, rfl⟩) (fun _ _ => rfl) (fun v => z_arrn v) (fun v => z_arrf v) e19 dX9_init_152 (fun H locs hW hS => ?_)
  refine zw_aload_n hx hb dX9_init_155 rfl (lv_at hl.1 0 rfl) ?_
  refine lv_sipush (v := 512) hx hb dX9_init_156 (by decide) ?_
  refine zw_nI hx hb (hts _ wd_72) hW hS 512 (by decide) (by decide) (by decide) (by decide) (by decide) dX9_init_159 (fun H hW hS => ?_)
  obtain ⟨h20, e20, hf⟩ := ob hf
  refine zw_pR hx hb hts inX9 tyX9 tyX9_ok nmX9 hown hW hS (ci := 9) rfl (by decide) 20 (by decide) (hts _ wd_609) (Or.inr ⟨rfl, hin, rfl⟩) (fun _ _ => rfl) (fun v => z_arrn v) (fun v => z_arrf v) e20 dX9_init_161 (fun H locs hW hS => ?_)
  refine zw_aload_n hx hb dX9_init_164 rfl (lv_at hl.1 0 rfl) ?_
  refine lv_sipush (v := 512) hx hb dX9_init_165 (by decide) ?_
  refine zw_nI hx hb (hts _ wd_72) hW hS 512 (by decide) (by decide) (by decide) (by decide) (by decide) dX9_init_168 (fun H hW hS => ?_)
  obtain ⟨h21, e21, hf⟩ := ob hf
  refine zw_pR hx hb hts inX9 tyX9 tyX9_ok nmX9 hown hW hS (ci := 9) rfl (by decide) 21 (by decide) (hts _ wd_610) (Or.inr ⟨rfl, hin, rfl⟩) (fun _ _ => rfl) (fun v => z_arrn v) (fun v => z_arrf v) e21 dX9_init_170 (fun H locs hW hS => ?_)
  refine zw_aload_n hx hb dX9_init_173 rfl (lv_at hl.1 0 rfl) ?_
  refine lv_sipush (v := 512) hx hb dX9_init_174 (by decide) ?_
  refine zw_nI hx hb (hts _ wd_72) hW hS 512 (by decide) (by decide) (by decide) (by decide) (by decide) dX9_init_177 (fun H hW hS => ?_)
  obtain ⟨h22, e22, hf⟩ := ob hf
  refine zw_pR hx hb hts inX9 tyX9 tyX9_ok nmX9 hown hW hS (ci := 9) rfl (by decide) 22 (by decide) (hts _ wd_611) (Or.inr ⟨rfl, hin, rfl⟩) (fun _ _ => rfl) (fun v => z_arrn v) (fun v => z_arrf v) e22 dX9_init_179 (fun H locs hW hS => ?_)
  refine zw_aload_n hx hb dX9_init_182 rfl (lv_at hl.1 0 rfl) ?_
  refine lv_bipush (v := 64) hx hb dX9_init_183 (by decide) ?_
  refine zw_nZ hx hb (hts _ wd_686) hW hS 64 (by decide) (by decide) (by decide) (by decide) (by decide) dX9_init_185 (fun H hW hS => ?_)
  obtain ⟨h23, e23, hf⟩ := ob hf
  refine zw_pR hx hb hts inX9 tyX9 tyX9_ok nmX9 hown hW hS (ci := 9) rfl (by decide) 23 (by decide) (hts _ wd_612) (Or.inr ⟨rfl, hin, rfl⟩) (fun _ _ => rfl) (fun v => z_arrn v) (fun v => z_arrf v) e23 dX9_init_187 (fun H locs hW hS => ?_)
  refine zw_aload_n hx hb dX9_init_190 rfl (lv_at hl.1 0 rfl) ?_
  refine lv_sipush (v := 12800) hx hb dX9_init_191 (by decide) ?_
  refine zw_nI hx hb (hts _ wd_72) hW hS 12800 (by decide) (by decide) (by decide) (by decide) (by decide) dX9_init_194 (fun H hW hS => ?_)
  obtain ⟨h24, e24, hf⟩ := ob hf
  refine zw_pR hx hb hts inX9 tyX9 tyX9_ok nmX9 hown hW hS (ci := 9) rfl (by decide) 24 (by decide) (hts _ wd_613) (Or.inr ⟨rfl, hin, rfl⟩) (fun _ _ => rfl) (fun v => z_arrn v) (fun v => z_arrf v) e24 dX9_init_196 (fun H locs hW hS => ?_)
  refine zw_aload_n hx hb dX9_init_199 rfl (lv_at hl.1 0 rfl) ?_
  refine lv_ldc (v := 153600) hx hb hown (hts _ wd_588) dX9_init_200 ?_
  refine zw_nI hx hb (hts _ wd_72) hW hS 153600 (by decide) (by decide) (by decide) (by decide) (by decide) dX9_init_202 (fun H hW hS => ?_)
  obtain ⟨h25, e25, hf⟩ := ob hf
  refine zw_pR hx hb hts inX9 tyX9 tyX9_ok nmX9 hown hW hS (ci := 9) rfl (by decide) 25 (by decide) (hts _ wd_614) (Or.inr ⟨rfl, hin, rfl⟩) (fun _ _ => rfl) (fun v => z_arrn v) (fun v => z_arrf v) e25 dX9_init_204 (fun H locs hW hS => ?_)
  refine zw_aload_n hx hb dX9_init_207 rfl (lv_at hl.1 0 rfl) ?_
  refine lv_sipush (v := 200) hx hb dX9_init_208 (by decide) ?_
  refine zw_nZ hx hb (hts _ wd_686) hW hS 200 (by decide) (by decide) (by decide) (by decide) (by decide) dX9_init_211 (fun H hW hS => ?_)
  obtain ⟨h26, e26, hf⟩ := ob hf
  refine zw_pR hx hb hts inX9 tyX9 tyX9_ok nmX9 hown hW hS (ci := 9) rfl (by decide) 26 (by decide) (hts _ wd_615) (Or.inr ⟨rfl, hin, rfl⟩) (fun _ _ => rfl) (fun v => z_arrn v) (fun v => z_arrf v) e26 dX9_init_213 (fun H locs hW hS => ?_)
  refine zw_aload_n hx hb dX9_init_216 rfl (lv_at hl.1 0 rfl) ?_
  refine lv_bipush (v := 12) hx hb dX9_init_217 (by decide) ?_
  refine zw_nI hx hb (hts _ wd_72) hW hS 12 (by decide) (by decide) (by decide) (by decide) (by decide) dX9_init_219 (fun H hW hS => ?_)
  obtain ⟨h27, e27, hf⟩ := ob hf
  refine zw_pR hx hb hts inX9 tyX9 tyX9_ok nmX9 hown hW hS (ci := 9) rfl (by decide) 28 (by decide) (hts _ wd_617) (Or.inr ⟨rfl, hin, rfl⟩) (fun _ _ => rfl) (fun v => z_arrn v) (fun v => z_arrf v) e27 dX9_init_221 (fun H locs hW hS => ?_)
  obtain rfl := oretv hf
  exact zw_vreturn F hW hS dX9_init_224
set_option maxRecDepth 100000 in
set_option maxHeartbeats 4000000 in
theorem kX9_init (l : Launch) (D : va_G) (base : Nat) (a0 : Option Nat) (h : zH) {h' : zH} (hf : fX9_init a0 h = some h') : zMet l D base yX9_init cX9_init 1 none rmX9_init h [va_rf a0] none h' :=
  zMet.of (by decide +kernel) (fun v hv => by simp only [List.mem_cons, List.not_mem_nil, or_false] at hv; subst hv; first | rfl | exact va_rf_cat _) (Nat.le_of_ble_eq_true rfl) (fun p e s m args below meth c ls F hi hl hW hS => kX9_init_w F (hi rfl) a0 h hf s.heap [] ls hl hW hS)
set_option maxRecDepth 100000 in
set_option maxHeartbeats 4000000 in
theorem kX9_isClass_w (F : zF p s m args meth c cX9_isClass 2 RX9 (some .boolean)) {r : Int32} {h' : zH} (a0 : Option Nat) (a1 : Int32) (h : zH) (hf : fX9_isClass a0 a1 h = some (r, h')) (H : Heap) (locs : List Loc) (ls : Array Slot) (hl : zhas ls 2 [(0, va_rf a0), (1, .int a1)]) (hW : z_W D base s h H) (hS : va_S (zA base) s.heap H locs) : W p l e rmX9_isClass s m args below meth c H locs 0 0 (MQ below (zQ D base (some (.int r)) h') args s rmX9_isClass.cells rmX9_isClass.slots (zA base)) (F0 m 0 ls []) := by
  obtain ⟨hx, hb, hml, hown, hts, hret, hlk, hZ⟩ := id F
  unfold fX9_isClass at hf
  refine lv_iload_n hx hb dX9_isClass_0 rfl (lv_at hl.1 1 rfl) ?_
  refine lv_if_lt (tgt := 16) hx hb dX9_isClass_1 (by decide) (fun c1 => ?_) (fun c1 => ?_)
  · have hf := oift c1 hf
    refine lv_iconst (v := 0) hx hb dX9_isClass_16 (by decide) ?_
    obtain ⟨rfl, rfl⟩ := oret hf
    exact zw_zreturn F (by decide) hW hS dX9_isClass_17
  · have hf := oiff c1 hf
    refine lv_iload_n hx hb dX9_isClass_4 rfl (lv_at hl.1 1 rfl) ?_
    refine zw_aload_n hx hb dX9_isClass_5 rfl (lv_at hl.1 0 rfl) ?_
    obtain ⟨v2, e2, hf⟩ := ob hf
    refine zw_gI hx hb hts inX9 hown hW (ci := 9) rfl (by decide) 0 (by decide) (hts _ wd_589) e2 (fun _ _ => rfl) dX9_isClass_6 ?_
    refine lv_icmp_ge (tgt := 16) hx hb dX9_isClass_9 (by decide) (fun c3 => ?_) (fun c3 => ?_)
    · have hf := oift c3 hf
      refine lv_iconst (v := 0) hx hb dX9_isClass_16 (by decide) ?_
      obtain ⟨rfl, rfl⟩ := oret hf
      exact zw_zreturn F (by decide) hW hS dX9_isClass_17
    · have hf := oiff c3 hf
      refine lv_iconst (v := 1) hx hb dX9_isClass_12 (by decide) ?_
      refine lv_goto (tgt := 17) hx hb dX9_isClass_13 (by decide) ?_
      obtain ⟨rfl, rfl⟩ := oret hf
      exact zw_zreturn F (by decide) hW hS dX9_isClass_17
set_option maxRecDepth 100000 in
set_option maxHeartbeats 4000000 in
theorem kX9_isClass (l : Launch) (D : va_G) (base : Nat) (a0 : Option Nat) (a1 : Int32) (h : zH) {r : Int32} {h' : zH} (hf : fX9_isClass a0 a1 h = some (r, h')) : zMet l D base yX9_isClass cX9_isClass 2 (some .boolean) rmX9_isClass h [va_rf a0, .int a1] (some (.int r)) h' :=
  zMet.of (by decide +kernel) (fun v hv => by simp only [List.mem_cons, List.not_mem_nil, or_false] at hv; rcases hv with rfl | rfl <;> first | rfl | exact va_rf_cat _) (Nat.le_of_ble_eq_true rfl) (fun p e s m args below meth c ls F hi hl hW hS => kX9_isClass_w F a0 a1 h hf s.heap [] ls hl hW hS)
set_option maxRecDepth 100000 in
set_option maxHeartbeats 4000000 in
theorem kX9_isMethod_w (F : zF p s m args meth c cX9_isMethod 2 RX9 (some .boolean)) {r : Int32} {h' : zH} (a0 : Option Nat) (a1 : Int32) (h : zH) (hf : fX9_isMethod a0 a1 h = some (r, h')) (H : Heap) (locs : List Loc) (ls : Array Slot) (hl : zhas ls 2 [(0, va_rf a0), (1, .int a1)]) (hW : z_W D base s h H) (hS : va_S (zA base) s.heap H locs) : W p l e rmX9_isMethod s m args below meth c H locs 0 0 (MQ below (zQ D base (some (.int r)) h') args s rmX9_isMethod.cells rmX9_isMethod.slots (zA base)) (F0 m 0 ls []) := by
  obtain ⟨hx, hb, hml, hown, hts, hret, hlk, hZ⟩ := id F
  unfold fX9_isMethod at hf
  refine lv_iload_n hx hb dX9_isMethod_0 rfl (lv_at hl.1 1 rfl) ?_
  refine lv_if_lt (tgt := 16) hx hb dX9_isMethod_1 (by decide) (fun c1 => ?_) (fun c1 => ?_)
  · have hf := oift c1 hf
    refine lv_iconst (v := 0) hx hb dX9_isMethod_16 (by decide) ?_
    obtain ⟨rfl, rfl⟩ := oret hf
    exact zw_zreturn F (by decide) hW hS dX9_isMethod_17
  · have hf := oiff c1 hf
    refine lv_iload_n hx hb dX9_isMethod_4 rfl (lv_at hl.1 1 rfl) ?_
    refine zw_aload_n hx hb dX9_isMethod_5 rfl (lv_at hl.1 0 rfl) ?_
    obtain ⟨v2, e2, hf⟩ := ob hf
    refine zw_gI hx hb hts inX9 hown hW (ci := 9) rfl (by decide) 6 (by decide) (hts _ wd_595) e2 (fun _ _ => rfl) dX9_isMethod_6 ?_
    refine lv_icmp_ge (tgt := 16) hx hb dX9_isMethod_9 (by decide) (fun c3 => ?_) (fun c3 => ?_)
    · have hf := oift c3 hf
      refine lv_iconst (v := 0) hx hb dX9_isMethod_16 (by decide) ?_
      obtain ⟨rfl, rfl⟩ := oret hf
      exact zw_zreturn F (by decide) hW hS dX9_isMethod_17
    · have hf := oiff c3 hf
      refine lv_iconst (v := 1) hx hb dX9_isMethod_12 (by decide) ?_
      refine lv_goto (tgt := 17) hx hb dX9_isMethod_13 (by decide) ?_
      obtain ⟨rfl, rfl⟩ := oret hf
      exact zw_zreturn F (by decide) hW hS dX9_isMethod_17
set_option maxRecDepth 100000 in
set_option maxHeartbeats 4000000 in
theorem kX9_isMethod (l : Launch) (D : va_G) (base : Nat) (a0 : Option Nat) (a1 : Int32) (h : zH) {r : Int32} {h' : zH} (hf : fX9_isMethod a0 a1 h = some (r, h')) : zMet l D base yX9_isMethod cX9_isMethod 2 (some .boolean) rmX9_isMethod h [va_rf a0, .int a1] (some (.int r)) h' :=
  zMet.of (by decide +kernel) (fun v hv => by simp only [List.mem_cons, List.not_mem_nil, or_false] at hv; rcases hv with rfl | rfl <;> first | rfl | exact va_rf_cat _) (Nat.le_of_ble_eq_true rfl) (fun p e s m args below meth c ls F hi hl hW hS => kX9_isMethod_w F a0 a1 h hf s.heap [] ls hl hW hS)
set_option maxRecDepth 100000 in
set_option maxHeartbeats 4000000 in
theorem kX9_isType_b29 {r : Int32} {h' : zH} (F : zF p s m args meth c cX9_isType 2 RX9 (some .boolean))  (h : zH) (hf : fX9_isType_b29  h = some (r, h')) (H : Heap) (locs : List Loc) (ls : Array Slot) (hl : zhas ls 2 []) (hW : z_W D base s h H) (hS : va_S (zA base) s.heap H locs) : W p l e rmX9_isType s m args below meth c H locs 0 0 (MQ below (zQ D base (some (.int r)) h') args s rmX9_isType.cells rmX9_isType.slots (zA base)) (F0 m 29 ls []) := by
  obtain ⟨hx, hb, hml, hown, hts, hret, hlk, hZ⟩ := id F
  unfold fX9_isType_b29 at hf
  refine lv_iconst (v := 1) hx hb dX9_isType_29 (by decide) ?_
  refine lv_goto (tgt := 34) hx hb dX9_isType_30 (by decide) ?_
  obtain ⟨rfl, rfl⟩ := oret hf
  exact zw_zreturn F (by decide) hW hS dX9_isType_34
set_option maxRecDepth 100000 in
set_option maxHeartbeats 4000000 in
theorem kX9_isType_b12 {r : Int32} {h' : zH} (F : zF p s m args meth c cX9_isType 2 RX9 (some .boolean)) (l0 : Option Nat) (l1 : Int32) (h : zH) (hf : fX9_isType_b12 l0 l1 h = some (r, h')) (H : Heap) (locs : List Loc) (ls : Array Slot) (hl : zhas ls 2 [(0, va_rf l0), (1, .int l1)]) (hW : z_W D base s h H) (hS : va_S (zA base) s.heap H locs) : W p l e rmX9_isType s m args below meth c H locs 0 0 (MQ below (zQ D base (some (.int r)) h') args s rmX9_isType.cells rmX9_isType.slots (zA base)) (F0 m 12 ls []) := by
  obtain ⟨hx, hb, hml, hown, hts, hret, hlk, hZ⟩ := id F
  unfold fX9_isType_b12 at hf
  refine lv_iload_n hx hb dX9_isType_12 rfl (lv_at hl.1 1 rfl) ?_
  refine lv_bipush (v := 64) hx hb dX9_isType_13 (by decide) ?_
  refine lv_icmp_lt (tgt := 33) hx hb dX9_isType_15 (by decide) (fun c1 => ?_) (fun c1 => ?_)
  · have hf := oift c1 hf
    refine lv_iconst (v := 0) hx hb dX9_isType_33 (by decide) ?_
    obtain ⟨rfl, rfl⟩ := oret hf
    exact zw_zreturn F (by decide) hW hS dX9_isType_34
  · have hf := oiff c1 hf
    refine lv_iload_n hx hb dX9_isType_18 rfl (lv_at hl.1 1 rfl) ?_
    refine lv_bipush (v := 64) hx hb dX9_isType_19 (by decide) ?_
    refine zw_aload_n hx hb dX9_isType_21 rfl (lv_at hl.1 0 rfl) ?_
    obtain ⟨v2, e2, hf⟩ := ob hf
    refine zw_gI hx hb hts inX9 hown hW (ci := 9) rfl (by decide) 0 (by decide) (hts _ wd_589) e2 (fun _ _ => rfl) dX9_isType_22 ?_
    refine lv_iadd hx hb dX9_isType_25 ?_
    refine lv_icmp_gt (tgt := 33) hx hb dX9_isType_26 (by decide) (fun c3 => ?_) (fun c3 => ?_)
    · have hf := oift c3 hf
      refine lv_iconst (v := 0) hx hb dX9_isType_33 (by decide) ?_
      obtain ⟨rfl, rfl⟩ := oret hf
      exact zw_zreturn F (by decide) hW hS dX9_isType_34
    · have hf := oiff c3 hf
      exact kX9_isType_b29 F h hf H locs ls (z_sub hl [] rfl) hW hS
set_option maxRecDepth 100000 in
set_option maxHeartbeats 4000000 in
theorem kX9_isType_w (F : zF p s m args meth c cX9_isType 2 RX9 (some .boolean)) {r : Int32} {h' : zH} (a0 : Option Nat) (a1 : Int32) (h : zH) (hf : fX9_isType a0 a1 h = some (r, h')) (H : Heap) (locs : List Loc) (ls : Array Slot) (hl : zhas ls 2 [(0, va_rf a0), (1, .int a1)]) (hW : z_W D base s h H) (hS : va_S (zA base) s.heap H locs) : W p l e rmX9_isType s m args below meth c H locs 0 0 (MQ below (zQ D base (some (.int r)) h') args s rmX9_isType.cells rmX9_isType.slots (zA base)) (F0 m 0 ls []) := by
  obtain ⟨hx, hb, hml, hown, hts, hret, hlk, hZ⟩ := id F
  unfold fX9_isType at hf
  refine lv_iload_n hx hb dX9_isType_0 rfl (lv_at hl.1 1 rfl) ?_
  refine lv_if_lt (tgt := 12) hx hb dX9_isType_1 (by decide) (fun c1 => ?_) (fun c1 => ?_)
  · have hf := oift c1 hf
    exact kX9_isType_b12 F a0 a1 h hf H locs ls (z_sub hl [0, 1] rfl) hW hS
  · have hf := oiff c1 hf
    refine lv_iload_n hx hb dX9_isType_4 rfl (lv_at hl.1 1 rfl) ?_
    refine zw_aload_n hx hb dX9_isType_5 rfl (lv_at hl.1 0 rfl) ?_
    obtain ⟨v2, e2, hf⟩ := ob hf
    refine zw_gI hx hb hts inX9 hown hW (ci := 9) rfl (by decide) 0 (by decide) (hts _ wd_589) e2 (fun _ _ => rfl) dX9_isType_6 ?_
    refine lv_icmp_le (tgt := 29) hx hb dX9_isType_9 (by decide) (fun c3 => ?_) (fun c3 => ?_)
    · have hf := oift c3 hf
      exact kX9_isType_b29 F h hf H locs ls (z_sub hl [] rfl) hW hS
    · have hf := oiff c3 hf
      exact kX9_isType_b12 F a0 a1 h hf H locs ls (z_sub hl [0, 1] rfl) hW hS
set_option maxRecDepth 100000 in
set_option maxHeartbeats 4000000 in
theorem kX9_isType (l : Launch) (D : va_G) (base : Nat) (a0 : Option Nat) (a1 : Int32) (h : zH) {r : Int32} {h' : zH} (hf : fX9_isType a0 a1 h = some (r, h')) : zMet l D base yX9_isType cX9_isType 2 (some .boolean) rmX9_isType h [va_rf a0, .int a1] (some (.int r)) h' :=
  zMet.of (by decide +kernel) (fun v hv => by simp only [List.mem_cons, List.not_mem_nil, or_false] at hv; rcases hv with rfl | rfl <;> first | rfl | exact va_rf_cat _) (Nat.le_of_ble_eq_true rfl) (fun p e s m args below meth c ls F hi hl hW hS => kX9_isType_w F a0 a1 h hf s.heap [] ls hl hW hS)
set_option maxRecDepth 100000 in
set_option maxHeartbeats 4000000 in
theorem kX9_isRow_w (F : zF p s m args meth c cX9_isRow 1 RX9 (some .boolean)) {r : Int32} {h' : zH} (a0 : Int32) (h : zH) (hf : fX9_isRow a0 h = some (r, h')) (H : Heap) (locs : List Loc) (ls : Array Slot) (hl : zhas ls 1 [(0, .int a0)]) (hW : z_W D base s h H) (hS : va_S (zA base) s.heap H locs) : W p l e rmX9_isRow s m args below meth c H locs 0 0 (MQ below (zQ D base (some (.int r)) h') args s rmX9_isRow.cells rmX9_isRow.slots (zA base)) (F0 m 0 ls []) := by
  obtain ⟨hx, hb, hml, hown, hts, hret, hlk, hZ⟩ := id F
  unfold fX9_isRow at hf
  refine lv_iload_n hx hb dX9_isRow_0 rfl (lv_at hl.1 0 rfl) ?_
  refine lv_bipush (v := 64) hx hb dX9_isRow_1 (by decide) ?_
  refine lv_icmp_lt (tgt := 16) hx hb dX9_isRow_3 (by decide) (fun c1 => ?_) (fun c1 => ?_)
  · have hf := oift c1 hf
    refine lv_iconst (v := 0) hx hb dX9_isRow_16 (by decide) ?_
    obtain ⟨rfl, rfl⟩ := oret hf
    exact zw_zreturn F (by decide) hW hS dX9_isRow_17
  · have hf := oiff c1 hf
    refine lv_iload_n hx hb dX9_isRow_6 rfl (lv_at hl.1 0 rfl) ?_
    refine lv_bipush (v := 96) hx hb dX9_isRow_7 (by decide) ?_
    refine lv_icmp_gt (tgt := 16) hx hb dX9_isRow_9 (by decide) (fun c2 => ?_) (fun c2 => ?_)
    · have hf := oift c2 hf
      refine lv_iconst (v := 0) hx hb dX9_isRow_16 (by decide) ?_
      obtain ⟨rfl, rfl⟩ := oret hf
      exact zw_zreturn F (by decide) hW hS dX9_isRow_17
    · have hf := oiff c2 hf
      refine lv_iconst (v := 1) hx hb dX9_isRow_12 (by decide) ?_
      refine lv_goto (tgt := 17) hx hb dX9_isRow_13 (by decide) ?_
      obtain ⟨rfl, rfl⟩ := oret hf
      exact zw_zreturn F (by decide) hW hS dX9_isRow_17
set_option maxRecDepth 100000 in
set_option maxHeartbeats 4000000 in
theorem kX9_isRow (l : Launch) (D : va_G) (base : Nat) (a0 : Int32) (h : zH) {r : Int32} {h' : zH} (hf : fX9_isRow a0 h = some (r, h')) : zMet l D base yX9_isRow cX9_isRow 1 (some .boolean) rmX9_isRow h [.int a0] (some (.int r)) h' :=
  zMet.of (by decide +kernel) (fun v hv => by simp only [List.mem_cons, List.not_mem_nil, or_false] at hv; subst hv; first | rfl | exact va_rf_cat _) (Nat.le_of_ble_eq_true rfl) (fun p e s m args below meth c ls F hi hl hW hS => kX9_isRow_w F a0 h hf s.heap [] ls hl hW hS)
set_option maxRecDepth 100000 in
set_option maxHeartbeats 4000000 in
theorem kX9_isSome_w (F : zF p s m args meth c cX9_isSome 1 RX9 (some .boolean)) {r : Int32} {h' : zH} (a0 : Int32) (h : zH) (hf : fX9_isSome a0 h = some (r, h')) (H : Heap) (locs : List Loc) (ls : Array Slot) (hl : zhas ls 1 [(0, .int a0)]) (hW : z_W D base s h H) (hS : va_S (zA base) s.heap H locs) : W p l e rmX9_isSome s m args below meth c H locs 0 0 (MQ below (zQ D base (some (.int r)) h') args s rmX9_isSome.cells rmX9_isSome.slots (zA base)) (F0 m 0 ls []) := by
  obtain ⟨hx, hb, hml, hown, hts, hret, hlk, hZ⟩ := id F
  unfold fX9_isSome at hf
  refine lv_iload_n hx hb dX9_isSome_0 rfl (lv_at hl.1 0 rfl) ?_
  refine lv_if_le (tgt := 14) hx hb dX9_isSome_1 (by decide) (fun c1 => ?_) (fun c1 => ?_)
  · have hf := oift c1 hf
    refine lv_iconst (v := 0) hx hb dX9_isSome_14 (by decide) ?_
    obtain ⟨rfl, rfl⟩ := oret hf
    exact zw_zreturn F (by decide) hW hS dX9_isSome_15
  · have hf := oiff c1 hf
    refine lv_iload_n hx hb dX9_isSome_4 rfl (lv_at hl.1 0 rfl) ?_
    refine lv_bipush (v := 32) hx hb dX9_isSome_5 (by decide) ?_
    refine lv_icmp_gt (tgt := 14) hx hb dX9_isSome_7 (by decide) (fun c2 => ?_) (fun c2 => ?_)
    · have hf := oift c2 hf
      refine lv_iconst (v := 0) hx hb dX9_isSome_14 (by decide) ?_
      obtain ⟨rfl, rfl⟩ := oret hf
      exact zw_zreturn F (by decide) hW hS dX9_isSome_15
    · have hf := oiff c2 hf
      refine lv_iconst (v := 1) hx hb dX9_isSome_10 (by decide) ?_
      refine lv_goto (tgt := 15) hx hb dX9_isSome_11 (by decide) ?_
      obtain ⟨rfl, rfl⟩ := oret hf
      exact zw_zreturn F (by decide) hW hS dX9_isSome_15
set_option maxRecDepth 100000 in
set_option maxHeartbeats 4000000 in
theorem kX9_isSome (l : Launch) (D : va_G) (base : Nat) (a0 : Int32) (h : zH) {r : Int32} {h' : zH} (hf : fX9_isSome a0 h = some (r, h')) : zMet l D base yX9_isSome cX9_isSome 1 (some .boolean) rmX9_isSome h [.int a0] (some (.int r)) h' :=
  zMet.of (by decide +kernel) (fun v hv => by simp only [List.mem_cons, List.not_mem_nil, or_false] at hv; subst hv; first | rfl | exact va_rf_cat _) (Nat.le_of_ble_eq_true rfl) (fun p e s m args below meth c ls F hi hl hW hS => kX9_isSome_w F a0 h hf s.heap [] ls hl hW hS)
set_option maxRecDepth 100000 in
set_option maxHeartbeats 4000000 in
theorem kX9_isReference_w (F : zF p s m args meth c cX9_isReference 1 RX9 (some .boolean)) {r : Int32} {h' : zH} (a0 : Int32) (h : zH) (hf : fX9_isReference a0 h = some (r, h')) (H : Heap) (locs : List Loc) (ls : Array Slot) (hl : zhas ls 1 [(0, .int a0)]) (hW : z_W D base s h H) (hS : va_S (zA base) s.heap H locs) : W p l e rmX9_isReference s m args below meth c H locs 0 0 (MQ below (zQ D base (some (.int r)) h') args s rmX9_isReference.cells rmX9_isReference.slots (zA base)) (F0 m 0 ls []) := by
  obtain ⟨hx, hb, hml, hown, hts, hret, hlk, hZ⟩ := id F
  unfold fX9_isReference at hf
  refine lv_iload_n hx hb dX9_isReference_0 rfl (lv_at hl.1 0 rfl) ?_
  refine lv_if_eq (tgt := 14) hx hb dX9_isReference_1 (by decide) (fun c1 => ?_) (fun c1 => ?_)
  · have hf := oift c1 hf
    refine lv_iconst (v := 0) hx hb dX9_isReference_14 (by decide) ?_
    obtain ⟨rfl, rfl⟩ := oret hf
    exact zw_zreturn F (by decide) hW hS dX9_isReference_15
  · have hf := oiff c1 hf
    refine lv_iload_n hx hb dX9_isReference_4 rfl (lv_at hl.1 0 rfl) ?_
    refine lv_bipush (v := 99) hx hb dX9_isReference_5 (by decide) ?_
    refine lv_icmp_eq (tgt := 14) hx hb dX9_isReference_7 (by decide) (fun c2 => ?_) (fun c2 => ?_)
    · have hf := oift c2 hf
      refine lv_iconst (v := 0) hx hb dX9_isReference_14 (by decide) ?_
      obtain ⟨rfl, rfl⟩ := oret hf
      exact zw_zreturn F (by decide) hW hS dX9_isReference_15
    · have hf := oiff c2 hf
      refine lv_iconst (v := 1) hx hb dX9_isReference_10 (by decide) ?_
      refine lv_goto (tgt := 15) hx hb dX9_isReference_11 (by decide) ?_
      obtain ⟨rfl, rfl⟩ := oret hf
      exact zw_zreturn F (by decide) hW hS dX9_isReference_15
set_option maxRecDepth 100000 in
set_option maxHeartbeats 4000000 in
theorem kX9_isReference (l : Launch) (D : va_G) (base : Nat) (a0 : Int32) (h : zH) {r : Int32} {h' : zH} (hf : fX9_isReference a0 h = some (r, h')) : zMet l D base yX9_isReference cX9_isReference 1 (some .boolean) rmX9_isReference h [.int a0] (some (.int r)) h' :=
  zMet.of (by decide +kernel) (fun v hv => by simp only [List.mem_cons, List.not_mem_nil, or_false] at hv; subst hv; first | rfl | exact va_rf_cat _) (Nat.le_of_ble_eq_true rfl) (fun p e s m args below meth c ls F hi hl hW hS => kX9_isReference_w F a0 h hf s.heap [] ls hl hW hS)
set_option maxRecDepth 100000 in
set_option maxHeartbeats 4000000 in
theorem kX9_isUnder_b21 (N : Nat) {r : Int32} {h' : zH} (F : zF p s m args meth c cX9_isUnder 4 RX9 (some .boolean)) (l2 : Int32) (l3 : Int32) (h : zH) (hf : fX9_isUnder_b21 N l2 l3 h = some (r, h')) (H : Heap) (locs : List Loc) (ls : Array Slot) (hl : zhas ls 4 [(2, .int l2), (3, .int l3)]) (hW : z_W D base s h H) (hS : va_S (zA base) s.heap H locs) : W p l e rmX9_isUnder s m args below meth c H locs 0 0 (MQ below (zQ D base (some (.int r)) h') args s rmX9_isUnder.cells rmX9_isUnder.slots (zA base)) (F0 m 21 ls []) := by
  obtain ⟨hx, hb, hml, hown, hts, hret, hlk, hZ⟩ := id F
  unfold fX9_isUnder_b21 at hf
  refine lv_iload_n hx hb dX9_isUnder_21 rfl (lv_at hl.1 1 rfl) ?_
  refine lv_iload_n hx hb dX9_isUnder_22 rfl (lv_at hl.1 0 rfl) ?_
  refine lv_icmp_ne (tgt := 30) hx hb dX9_isUnder_23 (by decide) (fun c1 => ?_) (fun c1 => ?_)
  · have hf := oiff c1 hf
    refine lv_iconst (v := 0) hx hb dX9_isUnder_30 (by decide) ?_
    obtain ⟨rfl, rfl⟩ := oret hf
    exact zw_zreturn F (by decide) hW hS dX9_isUnder_31
  · have hf := oift c1 hf
    refine lv_iconst (v := 1) hx hb dX9_isUnder_26 (by decide) ?_
    refine lv_goto (tgt := 31) hx hb dX9_isUnder_27 (by decide) ?_
    obtain ⟨rfl, rfl⟩ := oret hf
    exact zw_zreturn F (by decide) hW hS dX9_isUnder_31
set_option maxRecDepth 100000 in
set_option maxHeartbeats 4000000 in
theorem kX9_isUnder_b2 (N : Nat) {r : Int32} {h' : zH} (F : zF p s m args meth c cX9_isUnder 4 RX9 (some .boolean)) : ∀ (n : Nat) (l0 : Option Nat) (l2 : Int32) (l3 : Int32) (h : zH), fX9_isUnder_b2 N n l0 l2 l3 h = some (r, h') → ∀ (H : Heap) (locs : List Loc) (ls : Array Slot), zhas ls 4 [(0, va_rf l0), (2, .int l2), (3, .int l3)] → z_W D base s h H → va_S (zA base) s.heap H locs → W p l e rmX9_isUnder s m args below meth c H locs 0 0 (MQ below (zQ D base (some (.int r)) h') args s rmX9_isUnder.cells rmX9_isUnder.slots (zA base)) (F0 m 2 ls []) := by
  obtain ⟨hx, hb, hml, hown, hts, hret, hlk, hZ⟩ := id F
  intro n
  induction n with
  | zero =>
    intro l0 l2 l3 h hf
    rw [fX9_isUnder_b2] at hf
    cases hf
  | succ n ih =>
    intro l0 l2 l3 h hf H locs ls hl hW hS
    rw [fX9_isUnder_b2] at hf
    refine lv_iload_n hx hb dX9_isUnder_2 rfl (lv_at hl.1 2 rfl) ?_
    refine lv_if_lt (tgt := 21) hx hb dX9_isUnder_3 (by decide) (fun c1 => ?_) (fun c1 => ?_)
    · have hf := oift c1 hf
      exact kX9_isUnder_b21 N F l2 l3 h hf H locs ls (z_sub hl [1, 2] rfl) hW hS
    · have hf := oiff c1 hf
      refine lv_iload_n hx hb dX9_isUnder_6 rfl (lv_at hl.1 2 rfl) ?_
      refine lv_iload_n hx hb dX9_isUnder_7 rfl (lv_at hl.1 1 rfl) ?_
      refine lv_icmp_eq (tgt := 21) hx hb dX9_isUnder_8 (by decide) (fun c2 => ?_) (fun c2 => ?_)
      · have hf := oift c2 hf
        exact kX9_isUnder_b21 N F l2 l3 h hf H locs ls (z_sub hl [1, 2] rfl) hW hS
      · have hf := oiff c2 hf
        refine zw_aload_n hx hb dX9_isUnder_11 rfl (lv_at hl.1 0 rfl) ?_
        obtain ⟨v3, e3, hf⟩ := ob hf
        refine zw_gR hx hb hts inX9 hown hW (ci := 9) rfl (by decide) 1 (by decide) (hts _ wd_590) e3 (fun _ _ => rfl) dX9_isUnder_12 ?_
        refine lv_iload_n hx hb dX9_isUnder_15 rfl (lv_at hl.1 2 rfl) ?_
        obtain ⟨v4, e4, hf⟩ := ob hf
        refine zw_aI hx hb hW e4 dX9_isUnder_16 ?_
        refine zl_istore_n (lv' := [(3, .int v4), (0, va_rf l0), (2, .int l2)]) hx hb dX9_isUnder_17 rfl hl (by decide) rfl (fun ls hl => ?_)
        refine lv_goto (tgt := 2) hx hb dX9_isUnder_18 (by decide) ?_
        exact ih l0 l2 v4 h hf H locs ls (z_sub hl [1, 2, 0] rfl) hW hS
set_option maxRecDepth 100000 in
set_option maxHeartbeats 4000000 in
theorem kX9_isUnder_w (N : Nat) (F : zF p s m args meth c cX9_isUnder 4 RX9 (some .boolean)) {r : Int32} {h' : zH} (a0 : Option Nat) (a1 : Int32) (a2 : Int32) (h : zH) (hf : fX9_isUnder N a0 a1 a2 h = some (r, h')) (H : Heap) (locs : List Loc) (ls : Array Slot) (hl : zhas ls 4 [(0, va_rf a0), (1, .int a1), (2, .int a2)]) (hW : z_W D base s h H) (hS : va_S (zA base) s.heap H locs) : W p l e rmX9_isUnder s m args below meth c H locs 0 0 (MQ below (zQ D base (some (.int r)) h') args s rmX9_isUnder.cells rmX9_isUnder.slots (zA base)) (F0 m 0 ls []) := by
  obtain ⟨hx, hb, hml, hown, hts, hret, hlk, hZ⟩ := id F
  unfold fX9_isUnder at hf
  refine lv_iload_n hx hb dX9_isUnder_0 rfl (lv_at hl.1 1 rfl) ?_
  refine zl_istore_n (lv' := [(3, .int a1), (0, va_rf a0), (1, .int a1), (2, .int a2)]) hx hb dX9_isUnder_1 rfl hl (by decide) rfl (fun ls hl => ?_)
  exact kX9_isUnder_b2 N F N a0 a2 a1 h hf H locs ls (z_sub hl [1, 3, 0] rfl) hW hS
set_option maxRecDepth 100000 in
set_option maxHeartbeats 4000000 in
theorem kX9_isUnder (l : Launch) (D : va_G) (base : Nat) (N : Nat) (a0 : Option Nat) (a1 : Int32) (a2 : Int32) (h : zH) {r : Int32} {h' : zH} (hf : fX9_isUnder N a0 a1 a2 h = some (r, h')) : zMet l D base yX9_isUnder cX9_isUnder 4 (some .boolean) rmX9_isUnder h [va_rf a0, .int a1, .int a2] (some (.int r)) h' :=
  zMet.of (by decide +kernel) (fun v hv => by simp only [List.mem_cons, List.not_mem_nil, or_false] at hv; rcases hv with rfl | rfl | rfl <;> first | rfl | exact va_rf_cat _) (Nat.le_of_ble_eq_true rfl) (fun p e s m args below meth c ls F hi hl hW hS => kX9_isUnder_w N F a0 a1 a2 h hf s.heap [] ls hl hW hS)
set_option maxRecDepth 100000 in
set_option maxHeartbeats 4000000 in
theorem kX9_kind_b161 (N : Nat) {r : Int32} {h' : zH} (F : zF p s m args meth c cX9_kind 4 RX9 (some .int)) (l0 : Option Nat) (l2 : Int32) (h : zH) (hf : fX9_kind_b161 N l0 l2 h = some (r, h')) (H : Heap) (locs : List Loc) (ls : Array Slot) (hl : zhas ls 4 [(0, va_rf l0), (2, .int l2)]) (hW : z_W D base s h H) (hS : va_S (zA base) s.heap H locs) : W p l e rmX9_kind s m args below meth c H locs 0 0 (MQ below (zQ D base (some (.int r)) h') args s rmX9_kind.cells rmX9_kind.slots (zA base)) (F0 m 161 ls []) := by
  obtain ⟨hx, hb, hml, hown, hts, hret, hlk, hZ⟩ := id F
  unfold fX9_kind_b161 at hf
  refine zw_aload_n hx hb dX9_kind_161 rfl (lv_at hl.1 0 rfl) ?_
  refine lv_dup hx hb dX9_kind_162 (va_rf_cat _) ?_
  obtain ⟨v1, e1, hf⟩ := ob hf
  refine zw_gI hx hb hts inX9 hown hW (ci := 9) rfl (by decide) 0 (by decide) (hts _ wd_589) e1 (fun _ _ => rfl) dX9_kind_163 ?_
  refine lv_iconst (v := 1) hx hb dX9_kind_166 (by decide) ?_
  refine lv_iadd hx hb dX9_kind_167 ?_
  obtain ⟨h2, e2, hf⟩ := ob hf
  refine zw_pI hx hb hts inX9 tyX9 tyX9_ok nmX9 hown hW hS (ci := 9) rfl (by decide) 0 (by decide) (hts _ wd_589) (Or.inl rfl) (fun _ _ => rfl) rfl rfl e2 dX9_kind_168 (fun H locs hW hS => ?_)
  refine lv_iload_n hx hb dX9_kind_171 rfl (lv_at hl.1 1 rfl) ?_
  obtain ⟨rfl, rfl⟩ := oret hf
  exact zw_ireturn F hW hS dX9_kind_172
set_option maxRecDepth 100000 in
set_option maxHeartbeats 4000000 in
theorem kX9_kind_b136 (N : Nat) {r : Int32} {h' : zH} (k101 : Option Nat → Int32 → Int32 → Int32 → zH → Option (Int32 × zH)) (hk101 : ∀ (l0 : Option Nat) (l1 : Int32) (l2 : Int32) (l3 : Int32) (h : zH), k101 l0 l1 l2 l3 h = some (r, h') → ∀ (H : Heap) (locs : List Loc) (ls : Array Slot), zhas ls 4 [(0, va_rf l0), (1, .int l1), (2, .int l2), (3, .int l3)] → z_W D base s h H → va_S (zA base) s.heap H locs → W p l e rmX9_kind s m args below meth c H locs 0 0 (MQ below (zQ D base (some (.int r)) h') args s rmX9_kind.cells rmX9_kind.slots (zA base)) (F0 m 101 ls [])) (F : zF p s m args meth c cX9_kind 4 RX9 (some .int)) (l0 : Option Nat) (l1 : Int32) (l2 : Int32) (l3 : Int32) (s0 : Int32) (s1 : Int32) (s2 : Option Nat) (h : zH) (hf : fX9_kind_b136 N k101 l0 l1 l2 l3 s0 s1 s2 h = some (r, h')) (H : Heap) (locs : List Loc) (ls : Array Slot) (hl : zhas ls 4 [(0, va_rf l0), (1, .int l1), (2, .int l2), (3, .int l3)]) (hW : z_W D base s h H) (hS : va_S (zA base) s.heap H locs) : W p l e rmX9_kind s m args below meth c H locs 0 0 (MQ below (zQ D base (some (.int r)) h') args s rmX9_kind.cells rmX9_kind.slots (zA base)) (F0 m 136 ls [.int s0, .int s1, va_rf s2]) := by
  obtain ⟨hx, hb, hml, hown, hts, hret, hlk, hZ⟩ := id F
  unfold fX9_kind_b136 at hf
  obtain ⟨h1, e1, hf⟩ := ob hf
  refine zw_sI hx hb hW hS e1 dX9_kind_136 (fun H locs hW hS => ?_)
  refine zl_iinc (v := (l3 + 1)) (lv' := [(3, .int (l3 + 1)), (0, va_rf l0), (1, .int l1), (2, .int l2)]) hx hb dX9_kind_137 hl (k := 3) rfl rfl (by decide) rfl (fun ls hl => ?_)
  refine lv_goto (tgt := 101) hx hb dX9_kind_140 (by decide) ?_
  exact hk101 l0 l1 l2 (l3 + 1) h1 hf H locs ls (z_sub hl [1, 2, 3, 0] rfl) hW hS
set_option maxRecDepth 100000 in
set_option maxHeartbeats 4000000 in
theorem kX9_kind_b101 (N : Nat) {r : Int32} {h' : zH} (F : zF p s m args meth c cX9_kind 4 RX9 (some .int)) : ∀ (n : Nat) (l0 : Option Nat) (l1 : Int32) (l2 : Int32) (l3 : Int32) (h : zH), fX9_kind_b101 N n l0 l1 l2 l3 h = some (r, h') → ∀ (H : Heap) (locs : List Loc) (ls : Array Slot), zhas ls 4 [(0, va_rf l0), (1, .int l1), (2, .int l2), (3, .int l3)] → z_W D base s h H → va_S (zA base) s.heap H locs → W p l e rmX9_kind s m args below meth c H locs 0 0 (MQ below (zQ D base (some (.int r)) h') args s rmX9_kind.cells rmX9_kind.slots (zA base)) (F0 m 101 ls []) := by
  obtain ⟨hx, hb, hml, hown, hts, hret, hlk, hZ⟩ := id F
  intro n
  induction n with
  | zero =>
    intro l0 l1 l2 l3 h hf
    rw [fX9_kind_b101] at hf
    cases hf
  | succ n ih =>
    intro l0 l1 l2 l3 h hf H locs ls hl hW hS
    rw [fX9_kind_b101] at hf
    refine lv_iload_n hx hb dX9_kind_101 rfl (lv_at hl.1 3 rfl) ?_
    refine lv_bipush (v := 16) hx hb dX9_kind_102 (by decide) ?_
    refine lv_icmp_ge (tgt := 143) hx hb dX9_kind_104 (by decide) (fun c1 => ?_) (fun c1 => ?_)
    · have hf := oift c1 hf
      refine zw_aload_n hx hb dX9_kind_143 rfl (lv_at hl.1 0 rfl) ?_
      obtain ⟨v2, e2, hf⟩ := ob hf
      refine zw_gR hx hb hts inX9 hown hW (ci := 9) rfl (by decide) 2 (by decide) (hts _ wd_591) e2 (fun _ _ => rfl) dX9_kind_144 ?_
      refine lv_iload_n hx hb dX9_kind_147 rfl (lv_at hl.1 2 rfl) ?_
      refine lv_iconst (v := 0) hx hb dX9_kind_148 (by decide) ?_
      obtain ⟨h3, e3, hf⟩ := ob hf
      refine zw_sZ hx hb hW hS e3 dX9_kind_149 (fun H locs hW hS => ?_)
      refine lv_iload_n hx hb dX9_kind_150 rfl (lv_at hl.1 1 rfl) ?_
      refine lv_if_lt (tgt := 161) hx hb dX9_kind_151 (by decide) (fun c4 => ?_) (fun c4 => ?_)
      · have hf := oift c4 hf
        exact kX9_kind_b161 N F l0 l2 h3 hf H locs ls (z_sub hl [0, 2] rfl) hW hS
      · have hf := oiff c4 hf
        refine zw_aload_n hx hb dX9_kind_154 rfl (lv_at hl.1 0 rfl) ?_
        obtain ⟨v5, e5, hf⟩ := ob hf
        refine zw_gR hx hb hts inX9 hown hW (ci := 9) rfl (by decide) 2 (by decide) (hts _ wd_591) e5 (fun _ _ => rfl) dX9_kind_155 ?_
        refine lv_iload_n hx hb dX9_kind_158 rfl (lv_at hl.1 1 rfl) ?_
        refine lv_iconst (v := 1) hx hb dX9_kind_159 (by decide) ?_
        obtain ⟨h6, e6, hf⟩ := ob hf
        refine zw_sZ hx hb hW hS e6 dX9_kind_160 (fun H locs hW hS => ?_)
        exact kX9_kind_b161 N F l0 l2 h6 hf H locs ls (z_sub hl [0, 2] rfl) hW hS
    · have hf := oiff c1 hf
      refine zw_aload_n hx hb dX9_kind_107 rfl (lv_at hl.1 0 rfl) ?_
      obtain ⟨v7, e7, hf⟩ := ob hf
      refine zw_gR hx hb hts inX9 hown hW (ci := 9) rfl (by decide) 5 (by decide) (hts _ wd_594) e7 (fun _ _ => rfl) dX9_kind_108 ?_
      refine lv_bipush (v := 16) hx hb dX9_kind_111 (by decide) ?_
      refine lv_iload_n hx hb dX9_kind_113 rfl (lv_at hl.1 2 rfl) ?_
      refine lv_imul hx hb dX9_kind_114 ?_
      refine lv_iload_n hx hb dX9_kind_115 rfl (lv_at hl.1 3 rfl) ?_
      refine lv_iadd hx hb dX9_kind_116 ?_
      refine lv_iload_n hx hb dX9_kind_117 rfl (lv_at hl.1 1 rfl) ?_
      refine lv_if_ge (tgt := 125) hx hb dX9_kind_118 (by decide) (fun c8 => ?_) (fun c8 => ?_)
      · have hf := oift c8 hf
        refine zw_aload_n hx hb dX9_kind_125 rfl (lv_at hl.1 0 rfl) ?_
        obtain ⟨v9, e9, hf⟩ := ob hf
        refine zw_gR hx hb hts inX9 hown hW (ci := 9) rfl (by decide) 5 (by decide) (hts _ wd_594) e9 (fun _ _ => rfl) dX9_kind_126 ?_
        refine lv_bipush (v := 16) hx hb dX9_kind_129 (by decide) ?_
        refine lv_iload_n hx hb dX9_kind_131 rfl (lv_at hl.1 1 rfl) ?_
        refine lv_imul hx hb dX9_kind_132 ?_
        refine lv_iload_n hx hb dX9_kind_133 rfl (lv_at hl.1 3 rfl) ?_
        refine lv_iadd hx hb dX9_kind_134 ?_
        obtain ⟨v10, e10, hf⟩ := ob hf
        refine zw_aI hx hb hW e10 dX9_kind_135 ?_
        exact kX9_kind_b136 N (fX9_kind_b101 N n) (fun l0 l1 l2 l3 h hf H locs ls hl hW hS => ih l0 l1 l2 l3 h hf H locs ls hl hW hS) F l0 l1 l2 l3 v10 ((16 * l2) + l3) v7 h hf H locs ls (z_sub hl [0, 1, 2, 3] rfl) hW hS
      · have hf := oiff c8 hf
        refine lv_iconst (v := (-1)) hx hb dX9_kind_121 (by decide) ?_
        refine lv_goto (tgt := 136) hx hb dX9_kind_122 (by decide) ?_
        exact kX9_kind_b136 N (fX9_kind_b101 N n) (fun l0 l1 l2 l3 h hf H locs ls hl hW hS => ih l0 l1 l2 l3 h hf H locs ls hl hW hS) F l0 l1 l2 l3 (-1) ((16 * l2) + l3) v7 h hf H locs ls (z_sub hl [0, 1, 2, 3] rfl) hW hS
set_option maxRecDepth 100000 in
set_option maxHeartbeats 4000000 in
theorem kX9_kind_b61 (N : Nat) {r : Int32} {h' : zH} (F : zF p s m args meth c cX9_kind 4 RX9 (some .int)) : ∀ (n : Nat) (l0 : Option Nat) (l1 : Int32) (l2 : Int32) (l3 : Int32) (h : zH), fX9_kind_b61 N n l0 l1 l2 l3 h = some (r, h') → ∀ (H : Heap) (locs : List Loc) (ls : Array Slot), zhas ls 4 [(0, va_rf l0), (1, .int l1), (2, .int l2), (3, .int l3)] → z_W D base s h H → va_S (zA base) s.heap H locs → W p l e rmX9_kind s m args below meth c H locs 0 0 (MQ below (zQ D base (some (.int r)) h') args s rmX9_kind.cells rmX9_kind.slots (zA base)) (F0 m 61 ls []) := by
  obtain ⟨hx, hb, hml, hown, hts, hret, hlk, hZ⟩ := id F
  intro n
  induction n with
  | zero =>
    intro l0 l1 l2 l3 h hf
    rw [fX9_kind_b61] at hf
    cases hf
  | succ n ih =>
    intro l0 l1 l2 l3 h hf H locs ls hl hW hS
    rw [fX9_kind_b61] at hf
    refine lv_iload_n hx hb dX9_kind_61 rfl (lv_at hl.1 3 rfl) ?_
    refine zw_aload_n hx hb dX9_kind_62 rfl (lv_at hl.1 0 rfl) ?_
    obtain ⟨v1, e1, hf⟩ := ob hf
    refine zw_gR hx hb hts inX9 hown hW (ci := 9) rfl (by decide) 3 (by decide) (hts _ wd_592) e1 (fun _ _ => rfl) dX9_kind_63 ?_
    refine lv_iload_n hx hb dX9_kind_66 rfl (lv_at hl.1 2 rfl) ?_
    obtain ⟨v2, e2, hf⟩ := ob hf
    refine zw_aI hx hb hW e2 dX9_kind_67 ?_
    refine lv_icmp_ge (tgt := 99) hx hb dX9_kind_68 (by decide) (fun c3 => ?_) (fun c3 => ?_)
    · have hf := oift c3 hf
      refine lv_iconst (v := 0) hx hb dX9_kind_99 (by decide) ?_
      refine zl_istore_n (lv' := [(3, .int 0), (0, va_rf l0), (1, .int l1), (2, .int l2)]) hx hb dX9_kind_100 rfl hl (by decide) rfl (fun ls hl => ?_)
      exact kX9_kind_b101 N F N l0 l1 l2 0 h hf H locs ls (z_sub hl [1, 2, 3, 0] rfl) hW hS
    · have hf := oiff c3 hf
      refine zw_aload_n hx hb dX9_kind_71 rfl (lv_at hl.1 0 rfl) ?_
      obtain ⟨v4, e4, hf⟩ := ob hf
      refine zw_gR hx hb hts inX9 hown hW (ci := 9) rfl (by decide) 4 (by decide) (hts _ wd_593) e4 (fun _ _ => rfl) dX9_kind_72 ?_
      refine lv_bipush (v := 15) hx hb dX9_kind_75 (by decide) ?_
      refine lv_iload_n hx hb dX9_kind_77 rfl (lv_at hl.1 2 rfl) ?_
      refine lv_imul hx hb dX9_kind_78 ?_
      refine lv_iload_n hx hb dX9_kind_79 rfl (lv_at hl.1 3 rfl) ?_
      refine lv_iadd hx hb dX9_kind_80 ?_
      refine zw_aload_n hx hb dX9_kind_81 rfl (lv_at hl.1 0 rfl) ?_
      obtain ⟨v5, e5, hf⟩ := ob hf
      refine zw_gR hx hb hts inX9 hown hW (ci := 9) rfl (by decide) 4 (by decide) (hts _ wd_593) e5 (fun _ _ => rfl) dX9_kind_82 ?_
      refine lv_bipush (v := 15) hx hb dX9_kind_85 (by decide) ?_
      refine lv_iload_n hx hb dX9_kind_87 rfl (lv_at hl.1 1 rfl) ?_
      refine lv_imul hx hb dX9_kind_88 ?_
      refine lv_iload_n hx hb dX9_kind_89 rfl (lv_at hl.1 3 rfl) ?_
      refine lv_iadd hx hb dX9_kind_90 ?_
      obtain ⟨v6, e6, hf⟩ := ob hf
      refine zw_aI hx hb hW e6 dX9_kind_91 ?_
      obtain ⟨h7, e7, hf⟩ := ob hf
      refine zw_sI hx hb hW hS e7 dX9_kind_92 (fun H locs hW hS => ?_)
      refine zl_iinc (v := (l3 + 1)) (lv' := [(3, .int (l3 + 1)), (0, va_rf l0), (1, .int l1), (2, .int l2)]) hx hb dX9_kind_93 hl (k := 3) rfl rfl (by decide) rfl (fun ls hl => ?_)
      refine lv_goto (tgt := 61) hx hb dX9_kind_96 (by decide) ?_
      exact ih l0 l1 l2 (l3 + 1) h7 hf H locs ls (z_sub hl [1, 2, 3, 0] rfl) hW hS
set_option maxRecDepth 100000 in
set_option maxHeartbeats 4000000 in
theorem kX9_kind_b58 (N : Nat) {r : Int32} {h' : zH} (F : zF p s m args meth c cX9_kind 4 RX9 (some .int)) (l0 : Option Nat) (l1 : Int32) (l2 : Int32) (s0 : Int32) (s1 : Int32) (s2 : Option Nat) (h : zH) (hf : fX9_kind_b58 N l0 l1 l2 s0 s1 s2 h = some (r, h')) (H : Heap) (locs : List Loc) (ls : Array Slot) (hl : zhas ls 4 [(0, va_rf l0), (1, .int l1), (2, .int l2)]) (hW : z_W D base s h H) (hS : va_S (zA base) s.heap H locs) : W p l e rmX9_kind s m args below meth c H locs 0 0 (MQ below (zQ D base (some (.int r)) h') args s rmX9_kind.cells rmX9_kind.slots (zA base)) (F0 m 58 ls [.int s0, .int s1, va_rf s2]) := by
  obtain ⟨hx, hb, hml, hown, hts, hret, hlk, hZ⟩ := id F
  unfold fX9_kind_b58 at hf
  obtain ⟨h1, e1, hf⟩ := ob hf
  refine zw_sI hx hb hW hS e1 dX9_kind_58 (fun H locs hW hS => ?_)
  refine lv_iconst (v := 0) hx hb dX9_kind_59 (by decide) ?_
  refine zl_istore_n (lv' := [(3, .int 0), (0, va_rf l0), (1, .int l1), (2, .int l2)]) hx hb dX9_kind_60 rfl hl (by decide) rfl (fun ls hl => ?_)
  exact kX9_kind_b61 N F N l0 l1 l2 0 h1 hf H locs ls (z_sub hl [1, 2, 3, 0] rfl) hW hS
set_option maxRecDepth 100000 in
set_option maxHeartbeats 4000000 in
theorem kX9_kind_b15 (N : Nat) {r : Int32} {h' : zH} (F : zF p s m args meth c cX9_kind 4 RX9 (some .int)) (l0 : Option Nat) (l1 : Int32) (h : zH) (hf : fX9_kind_b15 N l0 l1 h = some (r, h')) (H : Heap) (locs : List Loc) (ls : Array Slot) (hl : zhas ls 4 [(0, va_rf l0), (1, .int l1)]) (hW : z_W D base s h H) (hS : va_S (zA base) s.heap H locs) : W p l e rmX9_kind s m args below meth c H locs 0 0 (MQ below (zQ D base (some (.int r)) h') args s rmX9_kind.cells rmX9_kind.slots (zA base)) (F0 m 15 ls []) := by
  obtain ⟨hx, hb, hml, hown, hts, hret, hlk, hZ⟩ := id F
  unfold fX9_kind_b15 at hf
  refine zw_aload_n hx hb dX9_kind_15 rfl (lv_at hl.1 0 rfl) ?_
  obtain ⟨v1, e1, hf⟩ := ob hf
  refine zw_gI hx hb hts inX9 hown hW (ci := 9) rfl (by decide) 0 (by decide) (hts _ wd_589) e1 (fun _ _ => rfl) dX9_kind_16 ?_
  refine lv_bipush (v := 32) hx hb dX9_kind_19 (by decide) ?_
  refine lv_icmp_ne (tgt := 27) hx hb dX9_kind_21 (by decide) (fun c2 => ?_) (fun c2 => ?_)
  · have hf := oiff c2 hf
    refine zw_aload_n hx hb dX9_kind_27 rfl (lv_at hl.1 0 rfl) ?_
    obtain ⟨v3, e3, hf⟩ := ob hf
    refine zw_gI hx hb hts inX9 hown hW (ci := 9) rfl (by decide) 0 (by decide) (hts _ wd_589) e3 (fun _ _ => rfl) dX9_kind_28 ?_
    refine zl_istore_n (lv' := [(2, .int v3), (0, va_rf l0), (1, .int l1)]) hx hb dX9_kind_31 rfl hl (by decide) rfl (fun ls hl => ?_)
    refine zw_aload_n hx hb dX9_kind_32 rfl (lv_at hl.1 1 rfl) ?_
    obtain ⟨v4, e4, hf⟩ := ob hf
    refine zw_gR hx hb hts inX9 hown hW (ci := 9) rfl (by decide) 1 (by decide) (hts _ wd_590) e4 (fun _ _ => rfl) dX9_kind_33 ?_
    refine lv_iload_n hx hb dX9_kind_36 rfl (lv_at hl.1 0 rfl) ?_
    refine lv_iload_n hx hb dX9_kind_37 rfl (lv_at hl.1 2 rfl) ?_
    obtain ⟨h5, e5, hf⟩ := ob hf
    refine zw_sI hx hb hW hS e5 dX9_kind_38 (fun H locs hW hS => ?_)
    refine zw_aload_n hx hb dX9_kind_39 rfl (lv_at hl.1 1 rfl) ?_
    obtain ⟨v6, e6, hf⟩ := ob hf
    refine zw_gR hx hb hts inX9 hown hW (ci := 9) rfl (by decide) 3 (by decide) (hts _ wd_592) e6 (fun _ _ => rfl) dX9_kind_40 ?_
    refine lv_iload_n hx hb dX9_kind_43 rfl (lv_at hl.1 0 rfl) ?_
    refine lv_iload_n hx hb dX9_kind_44 rfl (lv_at hl.1 2 rfl) ?_
    refine lv_if_ge (tgt := 52) hx hb dX9_kind_45 (by decide) (fun c7 => ?_) (fun c7 => ?_)
    · have hf := oift c7 hf
      refine zw_aload_n hx hb dX9_kind_52 rfl (lv_at hl.1 1 rfl) ?_
      obtain ⟨v8, e8, hf⟩ := ob hf
      refine zw_gR hx hb hts inX9 hown hW (ci := 9) rfl (by decide) 3 (by decide) (hts _ wd_592) e8 (fun _ _ => rfl) dX9_kind_53 ?_
      refine lv_iload_n hx hb dX9_kind_56 rfl (lv_at hl.1 2 rfl) ?_
      obtain ⟨v9, e9, hf⟩ := ob hf
      refine zw_aI hx hb hW e9 dX9_kind_57 ?_
      exact kX9_kind_b58 N F l0 l1 v3 v9 v3 v6 h5 hf H locs ls (z_sub hl [1, 2, 0] rfl) hW hS
    · have hf := oiff c7 hf
      refine lv_iconst (v := 0) hx hb dX9_kind_48 (by decide) ?_
      refine lv_goto (tgt := 58) hx hb dX9_kind_49 (by decide) ?_
      exact kX9_kind_b58 N F l0 l1 v3 0 v3 v6 h5 hf H locs ls (z_sub hl [1, 2, 0] rfl) hW hS
  · have hf := oift c2 hf
    refine lv_bipush (v := (-2)) hx hb dX9_kind_24 (by decide) ?_
    obtain ⟨rfl, rfl⟩ := oret hf
    exact zw_ireturn F hW hS dX9_kind_26
set_option maxRecDepth 100000 in
set_option maxHeartbeats 4000000 in
theorem kX9_kind_w (N : Nat) (F : zF p s m args meth c cX9_kind 4 RX9 (some .int)) {r : Int32} {h' : zH} (a0 : Option Nat) (a1 : Int32) (h : zH) (hf : fX9_kind N a0 a1 h = some (r, h')) (H : Heap) (locs : List Loc) (ls : Array Slot) (hl : zhas ls 4 [(0, va_rf a0), (1, .int a1)]) (hW : z_W D base s h H) (hS : va_S (zA base) s.heap H locs) : W p l e rmX9_kind s m args below meth c H locs 0 0 (MQ below (zQ D base (some (.int r)) h') args s rmX9_kind.cells rmX9_kind.slots (zA base)) (F0 m 0 ls []) := by
  obtain ⟨hx, hb, hml, hown, hts, hret, hlk, hZ⟩ := id F
  unfold fX9_kind at hf
  refine lv_iload_n hx hb dX9_kind_0 rfl (lv_at hl.1 1 rfl) ?_
  refine lv_iconst (v := (-1)) hx hb dX9_kind_1 (by decide) ?_
  refine lv_icmp_eq (tgt := 15) hx hb dX9_kind_2 (by decide) (fun c1 => ?_) (fun c1 => ?_)
  · have hf := oift c1 hf
    exact kX9_kind_b15 N F a0 a1 h hf H locs ls (z_sub hl [0, 1] rfl) hW hS
  · have hf := oiff c1 hf
    refine zw_aload_n hx hb dX9_kind_5 rfl (lv_at hl.1 0 rfl) ?_
    refine lv_iload_n hx hb dX9_kind_6 rfl (lv_at hl.1 1 rfl) ?_
    obtain ⟨a902, j2, hf⟩ := ob hf
    obtain ⟨q2, e2, hf⟩ := ob hf
    refine zw_callV (rest := []) (n := 1) F (kX9_isClass (r := q2.1) (h' := q2.2) l D base a0 a1 h e2) 9 rfl (by decide) j2 wd_691 wd_693 ws_24 wd_6 wd_694 (by decide +kernel) ⟨by decide, by decide⟩ hW hS rfl hl.1.1 (by decide) rfl ⟨(by decide), (by decide)⟩ dX9_kind_7 (fun H locs hW hS => ?_)
    refine W.eq (g2 := F0 m 10 ls [.int q2.1]) rfl ?_
    refine lv_if_ne (tgt := 15) hx hb dX9_kind_10 (by decide) (fun c3 => ?_) (fun c3 => ?_)
    · have hf := oiff c3 hf
      exact kX9_kind_b15 N F a0 a1 q2.2 hf H locs ls (z_sub hl [0, 1] rfl) hW hS
    · have hf := oift c3 hf
      refine lv_iconst (v := (-1)) hx hb dX9_kind_13 (by decide) ?_
      obtain ⟨rfl, rfl⟩ := oret hf
      exact zw_ireturn F hW hS dX9_kind_14
set_option maxRecDepth 100000 in
set_option maxHeartbeats 4000000 in
theorem kX9_kind (l : Launch) (D : va_G) (base : Nat) (N : Nat) (a0 : Option Nat) (a1 : Int32) (h : zH) {r : Int32} {h' : zH} (hf : fX9_kind N a0 a1 h = some (r, h')) : zMet l D base yX9_kind cX9_kind 4 (some .int) rmX9_kind h [va_rf a0, .int a1] (some (.int r)) h' :=
  zMet.of (by decide +kernel) (fun v hv => by simp only [List.mem_cons, List.not_mem_nil, or_false] at hv; rcases hv with rfl | rfl <;> first | rfl | exact va_rf_cat _) (Nat.le_of_ble_eq_true rfl) (fun p e s m args below meth c ls F hi hl hW hS => kX9_kind_w N F a0 a1 h hf s.heap [] ls hl hW hS)
set_option maxRecDepth 100000 in
set_option maxHeartbeats 4000000 in
theorem kX9_field_w (F : zF p s m args meth c cX9_field 3 RX9 (some .int)) {r : Int32} {h' : zH} (a0 : Option Nat) (a1 : Int32) (a2 : Int32) (h : zH) (hf : fX9_field a0 a1 a2 h = some (r, h')) (H : Heap) (locs : List Loc) (ls : Array Slot) (hl : zhas ls 3 [(0, va_rf a0), (1, .int a1), (2, .int a2)]) (hW : z_W D base s h H) (hS : va_S (zA base) s.heap H locs) : W p l e rmX9_field s m args below meth c H locs 0 0 (MQ below (zQ D base (some (.int r)) h') args s rmX9_field.cells rmX9_field.slots (zA base)) (F0 m 0 ls []) := by
  obtain ⟨hx, hb, hml, hown, hts, hret, hlk, hZ⟩ := id F
  unfold fX9_field at hf
  refine zw_aload_n hx hb dX9_field_0 rfl (lv_at hl.1 0 rfl) ?_
  refine lv_iload_n hx hb dX9_field_1 rfl (lv_at hl.1 1 rfl) ?_
  obtain ⟨a901, j1, hf⟩ := ob hf
  obtain ⟨q1, e1, hf⟩ := ob hf
  refine zw_callV (rest := []) (n := 1) F (kX9_isClass (r := q1.1) (h' := q1.2) l D base a0 a1 h e1) 9 rfl (by decide) j1 wd_691 wd_693 ws_24 wd_6 wd_694 (by decide +kernel) ⟨by decide, by decide⟩ hW hS rfl hl.1.1 (by decide) rfl ⟨(by decide), (by decide)⟩ dX9_field_2 (fun H locs hW hS => ?_)
  refine W.eq (g2 := F0 m 5 ls [.int q1.1]) rfl ?_
  refine lv_if_eq (tgt := 25) hx hb dX9_field_5 (by decide) (fun c2 => ?_) (fun c2 => ?_)
  · have hf := oift c2 hf
    refine lv_iconst (v := (-1)) hx hb dX9_field_25 (by decide) ?_
    obtain ⟨rfl, rfl⟩ := oret hf
    exact zw_ireturn F hW hS dX9_field_26
  · have hf := oiff c2 hf
    refine zw_aload_n hx hb dX9_field_8 rfl (lv_at hl.1 0 rfl) ?_
    refine lv_iload_n hx hb dX9_field_9 rfl (lv_at hl.1 2 rfl) ?_
    obtain ⟨a903, j3, hf⟩ := ob hf
    obtain ⟨q3, e3, hf⟩ := ob hf
    refine zw_callV (rest := []) (n := 1) F (kX9_isType (r := q3.1) (h' := q3.2) l D base a0 a2 q1.2 e3) 9 rfl (by decide) j3 wd_699 wd_701 ws_25 wd_6 wd_702 (by decide +kernel) ⟨by decide, by decide⟩ hW hS rfl hl.1.1 (by decide) rfl ⟨(by decide), (by decide)⟩ dX9_field_10 (fun H locs hW hS => ?_)
    refine W.eq (g2 := F0 m 13 ls [.int q3.1]) rfl ?_
    refine lv_if_eq (tgt := 25) hx hb dX9_field_13 (by decide) (fun c4 => ?_) (fun c4 => ?_)
    · have hf := oift c4 hf
      refine lv_iconst (v := (-1)) hx hb dX9_field_25 (by decide) ?_
      obtain ⟨rfl, rfl⟩ := oret hf
      exact zw_ireturn F hW hS dX9_field_26
    · have hf := oiff c4 hf
      refine zw_aload_n hx hb dX9_field_16 rfl (lv_at hl.1 0 rfl) ?_
      obtain ⟨v5, e5, hf⟩ := ob hf
      refine zw_gR hx hb hts inX9 hown hW (ci := 9) rfl (by decide) 2 (by decide) (hts _ wd_591) e5 (fun _ _ => rfl) dX9_field_17 ?_
      refine lv_iload_n hx hb dX9_field_20 rfl (lv_at hl.1 1 rfl) ?_
      obtain ⟨v6, e6, hf⟩ := ob hf
      refine zw_aZ hx hb hW e6 dX9_field_21 ?_
      refine lv_if_eq (tgt := 27) hx hb dX9_field_22 (by decide) (fun c7 => ?_) (fun c7 => ?_)
      · have hf := oift c7 hf
        refine zw_aload_n hx hb dX9_field_27 rfl (lv_at hl.1 0 rfl) ?_
        obtain ⟨v8, e8, hf⟩ := ob hf
        refine zw_gR hx hb hts inX9 hown hW (ci := 9) rfl (by decide) 3 (by decide) (hts _ wd_592) e8 (fun _ _ => rfl) dX9_field_28 ?_
        refine lv_iload_n hx hb dX9_field_31 rfl (lv_at hl.1 1 rfl) ?_
        obtain ⟨v9, e9, hf⟩ := ob hf
        refine zw_aI hx hb hW e9 dX9_field_32 ?_
        refine lv_bipush (v := 15) hx hb dX9_field_33 (by decide) ?_
        refine lv_icmp_ne (tgt := 41) hx hb dX9_field_35 (by decide) (fun c10 => ?_) (fun c10 => ?_)
        · have hf := oiff c10 hf
          refine zw_aload_n hx hb dX9_field_41 rfl (lv_at hl.1 0 rfl) ?_
          obtain ⟨v11, e11, hf⟩ := ob hf
          refine zw_gR hx hb hts inX9 hown hW (ci := 9) rfl (by decide) 4 (by decide) (hts _ wd_593) e11 (fun _ _ => rfl) dX9_field_42 ?_
          refine lv_bipush (v := 15) hx hb dX9_field_45 (by decide) ?_
          refine lv_iload_n hx hb dX9_field_47 rfl (lv_at hl.1 1 rfl) ?_
          refine lv_imul hx hb dX9_field_48 ?_
          refine zw_aload_n hx hb dX9_field_49 rfl (lv_at hl.1 0 rfl) ?_
          obtain ⟨v12, e12, hf⟩ := ob hf
          refine zw_gR hx hb hts inX9 hown hW (ci := 9) rfl (by decide) 3 (by decide) (hts _ wd_592) e12 (fun _ _ => rfl) dX9_field_50 ?_
          refine lv_iload_n hx hb dX9_field_53 rfl (lv_at hl.1 1 rfl) ?_
          obtain ⟨v13, e13, hf⟩ := ob hf
          refine zw_aI hx hb hW e13 dX9_field_54 ?_
          refine lv_iadd hx hb dX9_field_55 ?_
          refine lv_iload_n hx hb dX9_field_56 rfl (lv_at hl.1 2 rfl) ?_
          obtain ⟨h14, e14, hf⟩ := ob hf
          refine zw_sI hx hb hW hS e14 dX9_field_57 (fun H locs hW hS => ?_)
          refine zw_aload_n hx hb dX9_field_58 rfl (lv_at hl.1 0 rfl) ?_
          obtain ⟨v15, e15, hf⟩ := ob hf
          refine zw_gR hx hb hts inX9 hown hW (ci := 9) rfl (by decide) 3 (by decide) (hts _ wd_592) e15 (fun _ _ => rfl) dX9_field_59 ?_
          refine lv_iload_n hx hb dX9_field_62 rfl (lv_at hl.1 1 rfl) ?_
          refine lv_dup2_11 hx hb dX9_field_63 rfl (va_rf_cat _) ?_
          obtain ⟨v16, e16, hf⟩ := ob hf
          refine zw_aI hx hb hW e16 dX9_field_64 ?_
          refine lv_iconst (v := 1) hx hb dX9_field_65 (by decide) ?_
          refine lv_iadd hx hb dX9_field_66 ?_
          obtain ⟨h17, e17, hf⟩ := ob hf
          refine zw_sI hx hb hW hS e17 dX9_field_67 (fun H locs hW hS => ?_)
          refine zw_aload_n hx hb dX9_field_68 rfl (lv_at hl.1 0 rfl) ?_
          obtain ⟨v18, e18, hf⟩ := ob hf
          refine zw_gR hx hb hts inX9 hown hW (ci := 9) rfl (by decide) 3 (by decide) (hts _ wd_592) e18 (fun _ _ => rfl) dX9_field_69 ?_
          refine lv_iload_n hx hb dX9_field_72 rfl (lv_at hl.1 1 rfl) ?_
          obtain ⟨v19, e19, hf⟩ := ob hf
          refine zw_aI hx hb hW e19 dX9_field_73 ?_
          refine lv_iconst (v := 1) hx hb dX9_field_74 (by decide) ?_
          refine lv_isub hx hb dX9_field_75 ?_
          obtain ⟨rfl, rfl⟩ := oret hf
          exact zw_ireturn F hW hS dX9_field_76
        · have hf := oift c10 hf
          refine lv_bipush (v := (-2)) hx hb dX9_field_38 (by decide) ?_
          obtain ⟨rfl, rfl⟩ := oret hf
          exact zw_ireturn F hW hS dX9_field_40
      · have hf := oiff c7 hf
        refine lv_iconst (v := (-1)) hx hb dX9_field_25 (by decide) ?_
        obtain ⟨rfl, rfl⟩ := oret hf
        exact zw_ireturn F hW hS dX9_field_26
set_option maxRecDepth 100000 in
set_option maxHeartbeats 4000000 in
theorem kX9_field (l : Launch) (D : va_G) (base : Nat) (a0 : Option Nat) (a1 : Int32) (a2 : Int32) (h : zH) {r : Int32} {h' : zH} (hf : fX9_field a0 a1 a2 h = some (r, h')) : zMet l D base yX9_field cX9_field 3 (some .int) rmX9_field h [va_rf a0, .int a1, .int a2] (some (.int r)) h' :=
  zMet.of (by decide +kernel) (fun v hv => by simp only [List.mem_cons, List.not_mem_nil, or_false] at hv; rcases hv with rfl | rfl | rfl <;> first | rfl | exact va_rf_cat _) (Nat.le_of_ble_eq_true rfl) (fun p e s m args below meth c ls F hi hl hW hS => kX9_field_w F a0 a1 a2 h hf s.heap [] ls hl hW hS)
end
