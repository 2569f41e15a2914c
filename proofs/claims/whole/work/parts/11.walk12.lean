section
variable {p : Program} {l : Launch} {e : Env} {s : State} {m : MethodId} {args : Array Value} {below : List Frame} {meth : Method} {c : Code} {D : va_G} {base : Nat}
set_option maxRecDepth 100000 in
set_option maxHeartbeats 4000000 in
theorem kX9_fits_b491 (N : Nat) {r : Int32} {h' : zH} (F : zF p s m args meth c cX9_fits 6 RX9 (some .boolean))  (h : zH) (hf : fX9_fits_b491 N  h = some (r, h')) (H : Heap) (locs : List Loc) (ls : Array Slot) (hl : zhas ls 6 []) (hW : z_W D base s h H) (hS : va_S (zA base) s.heap H locs) : W p l e rmX9_fits s m args below meth c H locs 0 0 (MQ below (zQ D base (some (.int r)) h') args s rmX9_fits.cells rmX9_fits.slots (zA base)) (F0 m 491 ls []) := by
  obtain ⟨hx, hb, hml, hown, hts, hret, hlk, hZ⟩ := id F
  unfold fX9_fits_b491 at hf
  refine lv_iconst (v := 1) hx hb dX9_fits_491 (by decide) ?_
  refine lv_goto (tgt := 496) hx hb dX9_fits_492 (by decide) ?_
  obtain ⟨rfl, rfl⟩ := oret hf
  exact zw_zreturn F (by decide) hW hS dX9_fits_496
set_option maxRecDepth 100000 in
set_option maxHeartbeats 4000000 in
theorem kX9_fits_b60 (N : Nat) {r : Int32} {h' : zH} (F : zF p s m args meth c cX9_fits 6 RX9 (some .boolean)) (l0 : Option Nat) (s0 : Int32) (s1 : Option Nat) (h : zH) (hf : fX9_fits_b60 N l0 s0 s1 h = some (r, h')) (H : Heap) (locs : List Loc) (ls : Array Slot) (hl : zhas ls 6 [(0, va_rf l0)]) (hW : z_W D base s h H) (hS : va_S (zA base) s.heap H locs) : W p l e rmX9_fits s m args below meth c H locs 0 0 (MQ below (zQ D base (some (.int r)) h') args s rmX9_fits.cells rmX9_fits.slots (zA base)) (F0 m 60 ls [.int s0, va_rf s1]) := by
  obtain ⟨hx, hb, hml, hown, hts, hret, hlk, hZ⟩ := id F
  unfold fX9_fits_b60 at hf
  obtain ⟨a901, j1, hf⟩ := ob hf
  obtain ⟨q1, e1, hf⟩ := ob hf
  refine zw_callV (rest := []) (n := 1) F (kX9_ints (r := q1.1) (h' := q1.2) l D base N s1 s0 h e1) 9 rfl (by decide) j1 wd_781 wd_783 ws_38 wd_6 wd_784 (by decide +kernel) ⟨by decide, by decide⟩ hW hS rfl hl.1.1 (by decide) rfl ⟨(by decide), (by decide)⟩ dX9_fits_60 (fun H locs hW hS => ?_)
  refine W.eq (g2 := F0 m 63 ls [.int q1.1]) rfl ?_
  refine lv_if_eq (tgt := 78) hx hb dX9_fits_63 (by decide) (fun c2 => ?_) (fun c2 => ?_)
  · have hf := oift c2 hf
    refine lv_iconst (v := 0) hx hb dX9_fits_78 (by decide) ?_
    obtain ⟨rfl, rfl⟩ := oret hf
    exact zw_zreturn F (by decide) hW hS dX9_fits_79
  · have hf := oiff c2 hf
    refine zw_aload_n hx hb dX9_fits_66 rfl (lv_at hl.1 0 rfl) ?_
    refine lv_iconst (v := 0) hx hb dX9_fits_67 (by decide) ?_
    obtain ⟨a903, j3, hf⟩ := ob hf
    obtain ⟨q3, e3, hf⟩ := ob hf
    refine zw_callV (rest := []) (n := 1) F (kX9_push (r := q3.1) (h' := q3.2) l D base l0 0 q1.2 e3) 9 rfl (by decide) j3 wd_765 wd_767 ws_34 wd_6 wd_768 (by decide +kernel) ⟨by decide, by decide⟩ hW hS rfl hl.1.1 (by decide) rfl ⟨(by decide), (by decide)⟩ dX9_fits_68 (fun H locs hW hS => ?_)
    refine W.eq (g2 := F0 m 71 ls [.int q3.1]) rfl ?_
    refine lv_if_eq (tgt := 78) hx hb dX9_fits_71 (by decide) (fun c4 => ?_) (fun c4 => ?_)
    · have hf := oift c4 hf
      refine lv_iconst (v := 0) hx hb dX9_fits_78 (by decide) ?_
      obtain ⟨rfl, rfl⟩ := oret hf
      exact zw_zreturn F (by decide) hW hS dX9_fits_79
    · have hf := oiff c4 hf
      refine lv_iconst (v := 1) hx hb dX9_fits_74 (by decide) ?_
      refine lv_goto (tgt := 79) hx hb dX9_fits_75 (by decide) ?_
      obtain ⟨rfl, rfl⟩ := oret hf
      exact zw_zreturn F (by decide) hW hS dX9_fits_79
set_option maxRecDepth 100000 in
set_option maxHeartbeats 4000000 in
theorem kX9_fits_b10 (N : Nat) {r : Int32} {h' : zH} (F : zF p s m args meth c cX9_fits 6 RX9 (some .boolean)) (l0 : Option Nat) (h : zH) (hf : fX9_fits_b10 N l0 h = some (r, h')) (H : Heap) (locs : List Loc) (ls : Array Slot) (hl : zhas ls 6 [(0, va_rf l0)]) (hW : z_W D base s h H) (hS : va_S (zA base) s.heap H locs) : W p l e rmX9_fits s m args below meth c H locs 0 0 (MQ below (zQ D base (some (.int r)) h') args s rmX9_fits.cells rmX9_fits.slots (zA base)) (F0 m 10 ls []) := by
  obtain ⟨hx, hb, hml, hown, hts, hret, hlk, hZ⟩ := id F
  unfold fX9_fits_b10 at hf
  refine zw_aload_n hx hb dX9_fits_10 rfl (lv_at hl.1 0 rfl) ?_
  refine lv_iconst (v := 0) hx hb dX9_fits_11 (by decide) ?_
  obtain ⟨a901, j1, hf⟩ := ob hf
  obtain ⟨q1, e1, hf⟩ := ob hf
  refine zw_callV (rest := []) (n := 1) F (kX9_push (r := q1.1) (h' := q1.2) l D base l0 0 h e1) 9 rfl (by decide) j1 wd_765 wd_767 ws_34 wd_6 wd_768 (by decide +kernel) ⟨by decide, by decide⟩ hW hS rfl hl.1.1 (by decide) rfl ⟨(by decide), (by decide)⟩ dX9_fits_12 (fun H locs hW hS => ?_)
  refine W.eq (g2 := F0 m 15 ls [.int q1.1]) rfl ?_
  obtain ⟨hz, rfl, rfl⟩ := oretz hf
  exact zw_zreturn F hz hW hS dX9_fits_15
set_option maxRecDepth 100000 in
set_option maxHeartbeats 4000000 in
theorem kX9_fits_w (N : Nat) (F : zF p s m args meth c cX9_fits 6 RX9 (some .boolean)) {r : Int32} {h' : zH} (a0 : Option Nat) (a1 : Int32) (a2 : Int32) (a3 : Int32) (a4 : Int32) (h : zH) (hf : fX9_fits N a0 a1 a2 a3 a4 h = some (r, h')) (H : Heap) (locs : List Loc) (ls : Array Slot) (hl : zhas ls 6 [(0, va_rf a0), (1, .int a1), (2, .int a2), (3, .int a3), (4, .int a4)]) (hW : z_W D base s h H) (hS : va_S (zA base) s.heap H locs) : W p l e rmX9_fits s m args below meth c H locs 0 0 (MQ below (zQ D base (some (.int r)) h') args s rmX9_fits.cells rmX9_fits.slots (zA base)) (F0 m 0 ls []) := by
  obtain ⟨hx, hb, hml, hown, hts, hret, hlk, hZ⟩ := id F
  unfold fX9_fits at hf
  refine lv_iload_n hx hb dX9_fits_0 rfl (lv_at hl.1 2 rfl) ?_
  refine lv_if_eq (tgt := 10) hx hb dX9_fits_1 (by decide) (fun c1 => ?_) (fun c1 => ?_)
  · have hf := oift c1 hf
    exact kX9_fits_b10 N F a0 h hf H locs ls (z_sub hl [0] rfl) hW hS
  · have hf := oiff c1 hf
    refine lv_iload_n hx hb dX9_fits_4 rfl (lv_at hl.1 2 rfl) ?_
    refine lv_bipush (v := 40) hx hb dX9_fits_5 (by decide) ?_
    refine lv_icmp_ne (tgt := 16) hx hb dX9_fits_7 (by decide) (fun c2 => ?_) (fun c2 => ?_)
    · have hf := oiff c2 hf
      refine lv_iload_n hx hb dX9_fits_16 rfl (lv_at hl.1 2 rfl) ?_
      refine lv_iconst (v := 1) hx hb dX9_fits_17 (by decide) ?_
      refine lv_icmp_ne (tgt := 28) hx hb dX9_fits_18 (by decide) (fun c3 => ?_) (fun c3 => ?_)
      · have hf := oiff c3 hf
        refine lv_iload_n hx hb dX9_fits_28 rfl (lv_at hl.1 2 rfl) ?_
        refine lv_bipush (v := 7) hx hb dX9_fits_29 (by decide) ?_
        refine lv_icmp_ge (tgt := 42) hx hb dX9_fits_31 (by decide) (fun c4 => ?_) (fun c4 => ?_)
        · have hf := oift c4 hf
          refine lv_iload_n hx hb dX9_fits_42 rfl (lv_at hl.1 2 rfl) ?_
          refine lv_bipush (v := 19) hx hb dX9_fits_43 (by decide) ?_
          refine lv_icmp_ge (tgt := 80) hx hb dX9_fits_45 (by decide) (fun c5 => ?_) (fun c5 => ?_)
          · have hf := oift c5 hf
            refine lv_iload_n hx hb dX9_fits_80 rfl (lv_at hl.1 2 rfl) ?_
            by_cases c6 : a2 = 19
            · have hf := oift c6 hf
              refine zl_tab hx hb (19) (107) (tgt := 188) dX9_fits_81 (by rw [c6]; decide) (by decide) ?_
              refine zw_aload_n hx hb dX9_fits_188 rfl (lv_at hl.1 0 rfl) ?_
              refine lv_iconst (v := 1) hx hb dX9_fits_189 (by decide) ?_
              obtain ⟨a907, j7, hf⟩ := ob hf
              obtain ⟨q7, e7, hf⟩ := ob hf
              refine zw_callV (rest := []) (n := 1) F (kX9_ints (r := q7.1) (h' := q7.2) l D base N a0 1 h e7) 9 rfl (by decide) j7 wd_781 wd_783 ws_38 wd_6 wd_784 (by decide +kernel) ⟨by decide, by decide⟩ hW hS rfl hl.1.1 (by decide) rfl ⟨(by decide), (by decide)⟩ dX9_fits_190 (fun H locs hW hS => ?_)
              refine W.eq (g2 := F0 m 193 ls [.int q7.1]) rfl ?_
              obtain ⟨hz, rfl, rfl⟩ := oretz hf
              exact zw_zreturn F hz hW hS dX9_fits_193
            · have hf := oiff c6 hf
              by_cases c8 : a2 = 20
              · have hf := oift c8 hf
                refine zl_tab hx hb (20) (113) (tgt := 194) dX9_fits_81 (by rw [c8]; decide) (by decide) ?_
                refine zw_aload_n hx hb dX9_fits_194 rfl (lv_at hl.1 0 rfl) ?_
                refine lv_iconst (v := 2) hx hb dX9_fits_195 (by decide) ?_
                obtain ⟨a909, j9, hf⟩ := ob hf
                obtain ⟨q9, e9, hf⟩ := ob hf
                refine zw_callV (rest := []) (n := 1) F (kX9_ints (r := q9.1) (h' := q9.2) l D base N a0 2 h e9) 9 rfl (by decide) j9 wd_781 wd_783 ws_38 wd_6 wd_784 (by decide +kernel) ⟨by decide, by decide⟩ hW hS rfl hl.1.1 (by decide) rfl ⟨(by decide), (by decide)⟩ dX9_fits_196 (fun H locs hW hS => ?_)
                refine W.eq (g2 := F0 m 199 ls [.int q9.1]) rfl ?_
                obtain ⟨hz, rfl, rfl⟩ := oretz hf
                exact zw_zreturn F hz hW hS dX9_fits_199
              · have hf := oiff c8 hf
                by_cases c10 : a2 = 21
                · have hf := oift c10 hf
                  refine zl_tab hx hb (21) (119) (tgt := 200) dX9_fits_81 (by rw [c10]; decide) (by decide) ?_
                  refine zw_aload_n hx hb dX9_fits_200 rfl (lv_at hl.1 0 rfl) ?_
                  obtain ⟨a911, j11, hf⟩ := ob hf
                  obtain ⟨q11, e11, hf⟩ := ob hf
                  refine zw_callV (rest := []) (n := 0) F (kX9_popReference (r := q11.1) (h' := q11.2) l D base a0 h e11) 9 rfl (by decide) j11 wd_785 wd_787 ws_39 wd_6 wd_788 (by decide +kernel) ⟨by decide, by decide⟩ hW hS rfl hl.1.1 (by decide) rfl ⟨(by decide), (by decide)⟩ dX9_fits_201 (fun H locs hW hS => ?_)
                  refine W.eq (g2 := F0 m 204 ls [.int q11.1]) rfl ?_
                  obtain ⟨hz, rfl, rfl⟩ := oretz hf
                  exact zw_zreturn F hz hW hS dX9_fits_204
                · have hf := oiff c10 hf
                  by_cases c12 : a2 = 22
                  · have hf := oift c12 hf
                    refine zl_tab hx hb (22) (119) (tgt := 200) dX9_fits_81 (by rw [c12]; decide) (by decide) ?_
                    refine zw_aload_n hx hb dX9_fits_200 rfl (lv_at hl.1 0 rfl) ?_
                    obtain ⟨a913, j13, hf⟩ := ob hf
                    obtain ⟨q13, e13, hf⟩ := ob hf
                    refine zw_callV (rest := []) (n := 0) F (kX9_popReference (r := q13.1) (h' := q13.2) l D base a0 h e13) 9 rfl (by decide) j13 wd_785 wd_787 ws_39 wd_6 wd_788 (by decide +kernel) ⟨by decide, by decide⟩ hW hS rfl hl.1.1 (by decide) rfl ⟨(by decide), (by decide)⟩ dX9_fits_201 (fun H locs hW hS => ?_)
                    refine W.eq (g2 := F0 m 204 ls [.int q13.1]) rfl ?_
                    obtain ⟨hz, rfl, rfl⟩ := oretz hf
                    exact zw_zreturn F hz hW hS dX9_fits_204
                  · have hf := oiff c12 hf
                    by_cases c14 : a2 = 23
                    · have hf := oift c14 hf
                      refine zl_tab hx hb (23) (124) (tgt := 205) dX9_fits_81 (by rw [c14]; decide) (by decide) ?_
                      refine zw_aload_n hx hb dX9_fits_205 rfl (lv_at hl.1 0 rfl) ?_
                      obtain ⟨a915, j15, hf⟩ := ob hf
                      obtain ⟨q15, e15, hf⟩ := ob hf
                      refine zw_callV (rest := []) (n := 0) F (kX9_popReference (r := q15.1) (h' := q15.2) l D base a0 h e15) 9 rfl (by decide) j15 wd_785 wd_787 ws_39 wd_6 wd_788 (by decide +kernel) ⟨by decide, by decide⟩ hW hS rfl hl.1.1 (by decide) rfl ⟨(by decide), (by decide)⟩ dX9_fits_206 (fun H locs hW hS => ?_)
                      refine W.eq (g2 := F0 m 209 ls [.int q15.1]) rfl ?_
                      refine lv_if_eq (tgt := 223) hx hb dX9_fits_209 (by decide) (fun c16 => ?_) (fun c16 => ?_)
                      · have hf := oift c16 hf
                        refine lv_iconst (v := 0) hx hb dX9_fits_223 (by decide) ?_
                        obtain ⟨rfl, rfl⟩ := oret hf
                        exact zw_zreturn F (by decide) hW hS dX9_fits_224
                      · have hf := oiff c16 hf
                        refine zw_aload_n hx hb dX9_fits_212 rfl (lv_at hl.1 0 rfl) ?_
                        obtain ⟨a917, j17, hf⟩ := ob hf
                        obtain ⟨q17, e17, hf⟩ := ob hf
                        refine zw_callV (rest := []) (n := 0) F (kX9_popReference (r := q17.1) (h' := q17.2) l D base a0 q15.2 e17) 9 rfl (by decide) j17 wd_785 wd_787 ws_39 wd_6 wd_788 (by decide +kernel) ⟨by decide, by decide⟩ hW hS rfl hl.1.1 (by decide) rfl ⟨(by decide), (by decide)⟩ dX9_fits_213 (fun H locs hW hS => ?_)
                        refine W.eq (g2 := F0 m 216 ls [.int q17.1]) rfl ?_
                        refine lv_if_eq (tgt := 223) hx hb dX9_fits_216 (by decide) (fun c18 => ?_) (fun c18 => ?_)
                        · have hf := oift c18 hf
                          refine lv_iconst (v := 0) hx hb dX9_fits_223 (by decide) ?_
                          obtain ⟨rfl, rfl⟩ := oret hf
                          exact zw_zreturn F (by decide) hW hS dX9_fits_224
                        · have hf := oiff c18 hf
                          refine lv_iconst (v := 1) hx hb dX9_fits_219 (by decide) ?_
                          refine lv_goto (tgt := 224) hx hb dX9_fits_220 (by decide) ?_
                          obtain ⟨rfl, rfl⟩ := oret hf
                          exact zw_zreturn F (by decide) hW hS dX9_fits_224
                    · have hf := oiff c14 hf
                      by_cases c19 : a2 = 24
                      · have hf := oift c19 hf
                        refine zl_tab hx hb (24) (124) (tgt := 205) dX9_fits_81 (by rw [c19]; decide) (by decide) ?_
                        refine zw_aload_n hx hb dX9_fits_205 rfl (lv_at hl.1 0 rfl) ?_
                        obtain ⟨a920, j20, hf⟩ := ob hf
                        obtain ⟨q20, e20, hf⟩ := ob hf
                        refine zw_callV (rest := []) (n := 0) F (kX9_popReference (r := q20.1) (h' := q20.2) l D base a0 h e20) 9 rfl (by decide) j20 wd_785 wd_787 ws_39 wd_6 wd_788 (by decide +kernel) ⟨by decide, by decide⟩ hW hS rfl hl.1.1 (by decide) rfl ⟨(by decide), (by decide)⟩ dX9_fits_206 (fun H locs hW hS => ?_)
                        refine W.eq (g2 := F0 m 209 ls [.int q20.1]) rfl ?_
                        refine lv_if_eq (tgt := 223) hx hb dX9_fits_209 (by decide) (fun c21 => ?_) (fun c21 => ?_)
                        · have hf := oift c21 hf
                          refine lv_iconst (v := 0) hx hb dX9_fits_223 (by decide) ?_
                          obtain ⟨rfl, rfl⟩ := oret hf
                          exact zw_zreturn F (by decide) hW hS dX9_fits_224
                        · have hf := oiff c21 hf
                          refine zw_aload_n hx hb dX9_fits_212 rfl (lv_at hl.1 0 rfl) ?_
                          obtain ⟨a922, j22, hf⟩ := ob hf
                          obtain ⟨q22, e22, hf⟩ := ob hf
                          refine zw_callV (rest := []) (n := 0) F (kX9_popReference (r := q22.1) (h' := q22.2) l D base a0 q20.2 e22) 9 rfl (by decide) j22 wd_785 wd_787 ws_39 wd_6 wd_788 (by decide +kernel) ⟨by decide, by decide⟩ hW hS rfl hl.1.1 (by decide) rfl ⟨(by decide), (by decide)⟩ dX9_fits_213 (fun H locs hW hS => ?_)
                          refine W.eq (g2 := F0 m 216 ls [.int q22.1]) rfl ?_
                          refine lv_if_eq (tgt := 223) hx hb dX9_fits_216 (by decide) (fun c23 => ?_) (fun c23 => ?_)
                          · have hf := oift c23 hf
                            refine lv_iconst (v := 0) hx hb dX9_fits_223 (by decide) ?_
                            obtain ⟨rfl, rfl⟩ := oret hf
                            exact zw_zreturn F (by decide) hW hS dX9_fits_224
                          · have hf := oiff c23 hf
                            refine lv_iconst (v := 1) hx hb dX9_fits_219 (by decide) ?_
                            refine lv_goto (tgt := 224) hx hb dX9_fits_220 (by decide) ?_
                            obtain ⟨rfl, rfl⟩ := oret hf
                            exact zw_zreturn F (by decide) hW hS dX9_fits_224
                      · have hf := oiff c19 hf
                        by_cases c24 : a2 = 25
                        · have hf := oift c24 hf
                          refine zl_tab hx hb (25) (144) (tgt := 225) dX9_fits_81 (by rw [c24]; decide) (by decide) ?_
                          refine lv_iconst (v := 1) hx hb dX9_fits_225 (by decide) ?_
                          obtain ⟨rfl, rfl⟩ := oret hf
                          exact zw_zreturn F (by decide) hW hS dX9_fits_226
                        · have hf := oiff c24 hf
                          by_cases c25 : a2 = 26
                          · have hf := oift c25 hf
                            refine zl_tab hx hb (26) (146) (tgt := 227) dX9_fits_81 (by rw [c25]; decide) (by decide) ?_
                            refine zw_aload_n hx hb dX9_fits_227 rfl (lv_at hl.1 0 rfl) ?_
                            refine lv_iconst (v := 1) hx hb dX9_fits_228 (by decide) ?_
                            refine lv_iload_n hx hb dX9_fits_229 rfl (lv_at hl.1 3 rfl) ?_
                            refine lv_iadd hx hb dX9_fits_230 ?_
                            obtain ⟨a926, j26, hf⟩ := ob hf
                            obtain ⟨q26, e26, hf⟩ := ob hf
                            refine zw_callV (rest := []) (n := 1) F (kX9_push (r := q26.1) (h' := q26.2) l D base a0 (1 + a3) h e26) 9 rfl (by decide) j26 wd_765 wd_767 ws_34 wd_6 wd_768 (by decide +kernel) ⟨by decide, by decide⟩ hW hS rfl hl.1.1 (by decide) rfl ⟨(by decide), (by decide)⟩ dX9_fits_231 (fun H locs hW hS => ?_)
                            refine W.eq (g2 := F0 m 234 ls [.int q26.1]) rfl ?_
                            obtain ⟨hz, rfl, rfl⟩ := oretz hf
                            exact zw_zreturn F hz hW hS dX9_fits_234
                          · have hf := oiff c25 hf
                            by_cases c27 : a2 = 27
                            · have hf := oift c27 hf
                              refine zl_tab hx hb (27) (154) (tgt := 235) dX9_fits_81 (by rw [c27]; decide) (by decide) ?_
                              refine zw_aload_n hx hb dX9_fits_235 rfl (lv_at hl.1 0 rfl) ?_
                              refine lv_iconst (v := 1) hx hb dX9_fits_236 (by decide) ?_
                              refine lv_iload_n hx hb dX9_fits_237 rfl (lv_at hl.1 3 rfl) ?_
                              refine lv_iadd hx hb dX9_fits_238 ?_
                              obtain ⟨a928, j28, hf⟩ := ob hf
                              obtain ⟨q28, e28, hf⟩ := ob hf
                              refine zw_callV (rest := []) (n := 1) F (kX9_popInto (r := q28.1) (h' := q28.2) l D base N a0 (1 + a3) h e28) 9 rfl (by decide) j28 wd_789 wd_791 ws_40 wd_6 wd_792 (by decide +kernel) ⟨by decide, by decide⟩ hW hS rfl hl.1.1 (by decide) rfl ⟨(by decide), (by decide)⟩ dX9_fits_239 (fun H locs hW hS => ?_)
                              refine W.eq (g2 := F0 m 242 ls [.int q28.1]) rfl ?_
                              refine lv_if_eq (tgt := 268) hx hb dX9_fits_242 (by decide) (fun c29 => ?_) (fun c29 => ?_)
                              · have hf := oift c29 hf
                                refine lv_iconst (v := 0) hx hb dX9_fits_268 (by decide) ?_
                                obtain ⟨rfl, rfl⟩ := oret hf
                                exact zw_zreturn F (by decide) hW hS dX9_fits_269
                              · have hf := oiff c29 hf
                                refine zw_aload_n hx hb dX9_fits_245 rfl (lv_at hl.1 0 rfl) ?_
                                refine zw_aload_n hx hb dX9_fits_246 rfl (lv_at hl.1 0 rfl) ?_
                                obtain ⟨v30, e30, hf⟩ := ob hf
                                refine zw_gR hx hb hts inX9 hown hW (ci := 9) rfl (by decide) 4 (by decide) (hts _ wd_593) e30 (fun _ _ => rfl) dX9_fits_247 ?_
                                refine lv_bipush (v := 15) hx hb dX9_fits_250 (by decide) ?_
                                refine lv_iload_n hx hb dX9_fits_252 rfl (lv_at hl.1 3 rfl) ?_
                                refine lv_imul hx hb dX9_fits_253 ?_
                                refine lv_iload hx hb dX9_fits_254 (lv_at hl.1 4 rfl) ?_
                                refine lv_iadd hx hb dX9_fits_256 ?_
                                obtain ⟨v31, e31, hf⟩ := ob hf
                                refine zw_aI hx hb hW e31 dX9_fits_257 ?_
                                obtain ⟨a932, j32, hf⟩ := ob hf
                                obtain ⟨q32, e32, hf⟩ := ob hf
                                refine zw_callV (rest := []) (n := 1) F (kX9_push (r := q32.1) (h' := q32.2) l D base a0 v31 q28.2 e32) 9 rfl (by decide) j32 wd_765 wd_767 ws_34 wd_6 wd_768 (by decide +kernel) ⟨by decide, by decide⟩ hW hS rfl hl.1.1 (by decide) rfl ⟨(by decide), (by decide)⟩ dX9_fits_258 (fun H locs hW hS => ?_)
                                refine W.eq (g2 := F0 m 261 ls [.int q32.1]) rfl ?_
                                refine lv_if_eq (tgt := 268) hx hb dX9_fits_261 (by decide) (fun c33 => ?_) (fun c33 => ?_)
                                · have hf := oift c33 hf
                                  refine lv_iconst (v := 0) hx hb dX9_fits_268 (by decide) ?_
                                  obtain ⟨rfl, rfl⟩ := oret hf
                                  exact zw_zreturn F (by decide) hW hS dX9_fits_269
                                · have hf := oiff c33 hf
                                  refine lv_iconst (v := 1) hx hb dX9_fits_264 (by decide) ?_
                                  refine lv_goto (tgt := 269) hx hb dX9_fits_265 (by decide) ?_
                                  obtain ⟨rfl, rfl⟩ := oret hf
                                  exact zw_zreturn F (by decide) hW hS dX9_fits_269
                            · have hf := oiff c27 hf
                              by_cases c34 : a2 = 28
                              · have hf := oift c34 hf
                                refine zl_tab hx hb (28) (189) (tgt := 270) dX9_fits_81 (by rw [c34]; decide) (by decide) ?_
                                refine zw_aload_n hx hb dX9_fits_270 rfl (lv_at hl.1 0 rfl) ?_
                                refine zw_aload_n hx hb dX9_fits_271 rfl (lv_at hl.1 0 rfl) ?_
                                obtain ⟨v35, e35, hf⟩ := ob hf
                                refine zw_gR hx hb hts inX9 hown hW (ci := 9) rfl (by decide) 4 (by decide) (hts _ wd_593) e35 (fun _ _ => rfl) dX9_fits_272 ?_
                                refine lv_bipush (v := 15) hx hb dX9_fits_275 (by decide) ?_
                                refine lv_iload_n hx hb dX9_fits_277 rfl (lv_at hl.1 3 rfl) ?_
                                refine lv_imul hx hb dX9_fits_278 ?_
                                refine lv_iload hx hb dX9_fits_279 (lv_at hl.1 4 rfl) ?_
                                refine lv_iadd hx hb dX9_fits_281 ?_
                                obtain ⟨v36, e36, hf⟩ := ob hf
                                refine zw_aI hx hb hW e36 dX9_fits_282 ?_
                                obtain ⟨a937, j37, hf⟩ := ob hf
                                obtain ⟨q37, e37, hf⟩ := ob hf
                                refine zw_callV (rest := []) (n := 1) F (kX9_popInto (r := q37.1) (h' := q37.2) l D base N a0 v36 h e37) 9 rfl (by decide) j37 wd_789 wd_791 ws_40 wd_6 wd_792 (by decide +kernel) ⟨by decide, by decide⟩ hW hS rfl hl.1.1 (by decide) rfl ⟨(by decide), (by decide)⟩ dX9_fits_283 (fun H locs hW hS => ?_)
                                refine W.eq (g2 := F0 m 286 ls [.int q37.1]) rfl ?_
                                refine lv_if_eq (tgt := 303) hx hb dX9_fits_286 (by decide) (fun c38 => ?_) (fun c38 => ?_)
                                · have hf := oift c38 hf
                                  refine lv_iconst (v := 0) hx hb dX9_fits_303 (by decide) ?_
                                  obtain ⟨rfl, rfl⟩ := oret hf
                                  exact zw_zreturn F (by decide) hW hS dX9_fits_304
                                · have hf := oiff c38 hf
                                  refine zw_aload_n hx hb dX9_fits_289 rfl (lv_at hl.1 0 rfl) ?_
                                  refine lv_iconst (v := 1) hx hb dX9_fits_290 (by decide) ?_
                                  refine lv_iload_n hx hb dX9_fits_291 rfl (lv_at hl.1 3 rfl) ?_
                                  refine lv_iadd hx hb dX9_fits_292 ?_
                                  obtain ⟨a939, j39, hf⟩ := ob hf
                                  obtain ⟨q39, e39, hf⟩ := ob hf
                                  refine zw_callV (rest := []) (n := 1) F (kX9_popInto (r := q39.1) (h' := q39.2) l D base N a0 (1 + a3) q37.2 e39) 9 rfl (by decide) j39 wd_789 wd_791 ws_40 wd_6 wd_792 (by decide +kernel) ⟨by decide, by decide⟩ hW hS rfl hl.1.1 (by decide) rfl ⟨(by decide), (by decide)⟩ dX9_fits_293 (fun H locs hW hS => ?_)
                                  refine W.eq (g2 := F0 m 296 ls [.int q39.1]) rfl ?_
                                  refine lv_if_eq (tgt := 303) hx hb dX9_fits_296 (by decide) (fun c40 => ?_) (fun c40 => ?_)
                                  · have hf := oift c40 hf
                                    refine lv_iconst (v := 0) hx hb dX9_fits_303 (by decide) ?_
                                    obtain ⟨rfl, rfl⟩ := oret hf
                                    exact zw_zreturn F (by decide) hW hS dX9_fits_304
                                  · have hf := oiff c40 hf
                                    refine lv_iconst (v := 1) hx hb dX9_fits_299 (by decide) ?_
                                    refine lv_goto (tgt := 304) hx hb dX9_fits_300 (by decide) ?_
                                    obtain ⟨rfl, rfl⟩ := oret hf
                                    exact zw_zreturn F (by decide) hW hS dX9_fits_304
                              · have hf := oiff c34 hf
                                by_cases c41 : a2 = 29
                                · have hf := oift c41 hf
                                  refine zl_tab hx hb (29) (224) (tgt := 305) dX9_fits_81 (by rw [c41]; decide) (by decide) ?_
                                  refine zw_aload_n hx hb dX9_fits_305 rfl (lv_at hl.1 0 rfl) ?_
                                  obtain ⟨a942, j42, hf⟩ := ob hf
                                  obtain ⟨q42, e42, hf⟩ := ob hf
                                  refine zw_callV (rest := []) (n := 0) F (kX9_popReference (r := q42.1) (h' := q42.2) l D base a0 h e42) 9 rfl (by decide) j42 wd_785 wd_787 ws_39 wd_6 wd_788 (by decide +kernel) ⟨by decide, by decide⟩ hW hS rfl hl.1.1 (by decide) rfl ⟨(by decide), (by decide)⟩ dX9_fits_306 (fun H locs hW hS => ?_)
                                  refine W.eq (g2 := F0 m 309 ls [.int q42.1]) rfl ?_
                                  refine lv_if_eq (tgt := 324) hx hb dX9_fits_309 (by decide) (fun c43 => ?_) (fun c43 => ?_)
                                  · have hf := oift c43 hf
                                    refine lv_iconst (v := 0) hx hb dX9_fits_324 (by decide) ?_
                                    obtain ⟨rfl, rfl⟩ := oret hf
                                    exact zw_zreturn F (by decide) hW hS dX9_fits_325
                                  · have hf := oiff c43 hf
                                    refine zw_aload_n hx hb dX9_fits_312 rfl (lv_at hl.1 0 rfl) ?_
                                    refine lv_iconst (v := 0) hx hb dX9_fits_313 (by decide) ?_
                                    obtain ⟨a944, j44, hf⟩ := ob hf
                                    obtain ⟨q44, e44, hf⟩ := ob hf
                                    refine zw_callV (rest := []) (n := 1) F (kX9_push (r := q44.1) (h' := q44.2) l D base a0 0 q42.2 e44) 9 rfl (by decide) j44 wd_765 wd_767 ws_34 wd_6 wd_768 (by decide +kernel) ⟨by decide, by decide⟩ hW hS rfl hl.1.1 (by decide) rfl ⟨(by decide), (by decide)⟩ dX9_fits_314 (fun H locs hW hS => ?_)
                                    refine W.eq (g2 := F0 m 317 ls [.int q44.1]) rfl ?_
                                    refine lv_if_eq (tgt := 324) hx hb dX9_fits_317 (by decide) (fun c45 => ?_) (fun c45 => ?_)
                                    · have hf := oift c45 hf
                                      refine lv_iconst (v := 0) hx hb dX9_fits_324 (by decide) ?_
                                      obtain ⟨rfl, rfl⟩ := oret hf
                                      exact zw_zreturn F (by decide) hW hS dX9_fits_325
                                    · have hf := oiff c45 hf
                                      refine lv_iconst (v := 1) hx hb dX9_fits_320 (by decide) ?_
                                      refine lv_goto (tgt := 325) hx hb dX9_fits_321 (by decide) ?_
                                      obtain ⟨rfl, rfl⟩ := oret hf
                                      exact zw_zreturn F (by decide) hW hS dX9_fits_325
                                · have hf := oiff c41 hf
                                  by_cases c46 : a2 = 30
                                  · have hf := oift c46 hf
                                    refine zl_tab hx hb (30) (245) (tgt := 326) dX9_fits_81 (by rw [c46]; decide) (by decide) ?_
                                    refine zw_aload_n hx hb dX9_fits_326 rfl (lv_at hl.1 0 rfl) ?_
                                    obtain ⟨a947, j47, hf⟩ := ob hf
                                    obtain ⟨q47, e47, hf⟩ := ob hf
                                    refine zw_callV (rest := []) (n := 0) F (kX9_popReference (r := q47.1) (h' := q47.2) l D base a0 h e47) 9 rfl (by decide) j47 wd_785 wd_787 ws_39 wd_6 wd_788 (by decide +kernel) ⟨by decide, by decide⟩ hW hS rfl hl.1.1 (by decide) rfl ⟨(by decide), (by decide)⟩ dX9_fits_327 (fun H locs hW hS => ?_)
                                    refine W.eq (g2 := F0 m 330 ls [.int q47.1]) rfl ?_
                                    refine lv_if_eq (tgt := 347) hx hb dX9_fits_330 (by decide) (fun c48 => ?_) (fun c48 => ?_)
                                    · have hf := oift c48 hf
                                      refine lv_iconst (v := 0) hx hb dX9_fits_347 (by decide) ?_
                                      obtain ⟨rfl, rfl⟩ := oret hf
                                      exact zw_zreturn F (by decide) hW hS dX9_fits_348
                                    · have hf := oiff c48 hf
                                      refine zw_aload_n hx hb dX9_fits_333 rfl (lv_at hl.1 0 rfl) ?_
                                      refine lv_iconst (v := 1) hx hb dX9_fits_334 (by decide) ?_
                                      refine lv_iload_n hx hb dX9_fits_335 rfl (lv_at hl.1 3 rfl) ?_
                                      refine lv_iadd hx hb dX9_fits_336 ?_
                                      obtain ⟨a949, j49, hf⟩ := ob hf
                                      obtain ⟨q49, e49, hf⟩ := ob hf
                                      refine zw_callV (rest := []) (n := 1) F (kX9_push (r := q49.1) (h' := q49.2) l D base a0 (1 + a3) q47.2 e49) 9 rfl (by decide) j49 wd_765 wd_767 ws_34 wd_6 wd_768 (by decide +kernel) ⟨by decide, by decide⟩ hW hS rfl hl.1.1 (by decide) rfl ⟨(by decide), (by decide)⟩ dX9_fits_337 (fun H locs hW hS => ?_)
                                      refine W.eq (g2 := F0 m 340 ls [.int q49.1]) rfl ?_
                                      refine lv_if_eq (tgt := 347) hx hb dX9_fits_340 (by decide) (fun c50 => ?_) (fun c50 => ?_)
                                      · have hf := oift c50 hf
                                        refine lv_iconst (v := 0) hx hb dX9_fits_347 (by decide) ?_
                                        obtain ⟨rfl, rfl⟩ := oret hf
                                        exact zw_zreturn F (by decide) hW hS dX9_fits_348
                                      · have hf := oiff c50 hf
                                        refine lv_iconst (v := 1) hx hb dX9_fits_343 (by decide) ?_
                                        refine lv_goto (tgt := 348) hx hb dX9_fits_344 (by decide) ?_
                                        obtain ⟨rfl, rfl⟩ := oret hf
                                        exact zw_zreturn F (by decide) hW hS dX9_fits_348
                                  · have hf := oiff c46 hf
                                    by_cases c51 : a2 = 35
                                    · have hf := oift c51 hf
                                      refine zl_tab hx hb (35) (268) (tgt := 349) dX9_fits_81 (by rw [c51]; decide) (by decide) ?_
                                      refine zw_aload_n hx hb dX9_fits_349 rfl (lv_at hl.1 0 rfl) ?_
                                      refine lv_iload_n hx hb dX9_fits_350 rfl (lv_at hl.1 3 rfl) ?_
                                      refine lv_iconst (v := 0) hx hb dX9_fits_351 (by decide) ?_
                                      obtain ⟨a952, j52, hf⟩ := ob hf
                                      obtain ⟨q52, e52, hf⟩ := ob hf
                                      refine zw_callV (rest := []) (n := 2) F (kX9_parameters (r := q52.1) (h' := q52.2) l D base N a0 a3 0 h e52) 9 rfl (by decide) j52 wd_797 wd_799 ws_42 wd_6 wd_800 (by decide +kernel) ⟨by decide, by decide⟩ hW hS rfl hl.1.1 (by decide) rfl ⟨(by decide), (by decide)⟩ dX9_fits_352 (fun H locs hW hS => ?_)
                                      refine W.eq (g2 := F0 m 355 ls [.int q52.1]) rfl ?_
                                      refine lv_if_eq (tgt := 370) hx hb dX9_fits_355 (by decide) (fun c53 => ?_) (fun c53 => ?_)
                                      · have hf := oift c53 hf
                                        refine lv_iconst (v := 0) hx hb dX9_fits_370 (by decide) ?_
                                        obtain ⟨rfl, rfl⟩ := oret hf
                                        exact zw_zreturn F (by decide) hW hS dX9_fits_371
                                      · have hf := oiff c53 hf
                                        refine zw_aload_n hx hb dX9_fits_358 rfl (lv_at hl.1 0 rfl) ?_
                                        refine lv_iload_n hx hb dX9_fits_359 rfl (lv_at hl.1 3 rfl) ?_
                                        obtain ⟨a954, j54, hf⟩ := ob hf
                                        obtain ⟨q54, e54, hf⟩ := ob hf
                                        refine zw_callV (rest := []) (n := 1) F (kX9_given (r := q54.1) (h' := q54.2) l D base a0 a3 q52.2 e54) 9 rfl (by decide) j54 wd_801 wd_803 ws_43 wd_6 wd_804 (by decide +kernel) ⟨by decide, by decide⟩ hW hS rfl hl.1.1 (by decide) rfl ⟨(by decide), (by decide)⟩ dX9_fits_360 (fun H locs hW hS => ?_)
                                        refine W.eq (g2 := F0 m 363 ls [.int q54.1]) rfl ?_
                                        refine lv_if_eq (tgt := 370) hx hb dX9_fits_363 (by decide) (fun c55 => ?_) (fun c55 => ?_)
                                        · have hf := oift c55 hf
                                          refine lv_iconst (v := 0) hx hb dX9_fits_370 (by decide) ?_
                                          obtain ⟨rfl, rfl⟩ := oret hf
                                          exact zw_zreturn F (by decide) hW hS dX9_fits_371
                                        · have hf := oiff c55 hf
                                          refine lv_iconst (v := 1) hx hb dX9_fits_366 (by decide) ?_
                                          refine lv_goto (tgt := 371) hx hb dX9_fits_367 (by decide) ?_
                                          obtain ⟨rfl, rfl⟩ := oret hf
                                          exact zw_zreturn F (by decide) hW hS dX9_fits_371
                                    · have hf := oiff c51 hf
                                      by_cases c56 : a2 = 36
                                      · have hf := oift c56 hf
                                        refine zl_tab hx hb (36) (291) (tgt := 372) dX9_fits_81 (by rw [c56]; decide) (by decide) ?_
                                        refine zw_aload_n hx hb dX9_fits_372 rfl (lv_at hl.1 0 rfl) ?_
                                        refine zw_aload_n hx hb dX9_fits_373 rfl (lv_at hl.1 0 rfl) ?_
                                        obtain ⟨v57, e57, hf⟩ := ob hf
                                        refine zw_gR hx hb hts inX9 hown hW (ci := 9) rfl (by decide) 5 (by decide) (hts _ wd_594) e57 (fun _ _ => rfl) dX9_fits_374 ?_
                                        refine lv_bipush (v := 16) hx hb dX9_fits_377 (by decide) ?_
                                        refine lv_iload_n hx hb dX9_fits_379 rfl (lv_at hl.1 3 rfl) ?_
                                        refine lv_imul hx hb dX9_fits_380 ?_
                                        refine lv_iload hx hb dX9_fits_381 (lv_at hl.1 4 rfl) ?_
                                        refine lv_iadd hx hb dX9_fits_383 ?_
                                        obtain ⟨v58, e58, hf⟩ := ob hf
                                        refine zw_aI hx hb hW e58 dX9_fits_384 ?_
                                        refine lv_iconst (v := 1) hx hb dX9_fits_385 (by decide) ?_
                                        obtain ⟨a959, j59, hf⟩ := ob hf
                                        obtain ⟨q59, e59, hf⟩ := ob hf
                                        refine zw_callV (rest := []) (n := 2) F (kX9_parameters (r := q59.1) (h' := q59.2) l D base N a0 v58 1 h e59) 9 rfl (by decide) j59 wd_797 wd_799 ws_42 wd_6 wd_800 (by decide +kernel) ⟨by decide, by decide⟩ hW hS rfl hl.1.1 (by decide) rfl ⟨(by decide), (by decide)⟩ dX9_fits_386 (fun H locs hW hS => ?_)
                                        refine W.eq (g2 := F0 m 389 ls [.int q59.1]) rfl ?_
                                        refine lv_if_eq (tgt := 425) hx hb dX9_fits_389 (by decide) (fun c60 => ?_) (fun c60 => ?_)
                                        · have hf := oift c60 hf
                                          refine lv_iconst (v := 0) hx hb dX9_fits_425 (by decide) ?_
                                          obtain ⟨rfl, rfl⟩ := oret hf
                                          exact zw_zreturn F (by decide) hW hS dX9_fits_426
                                        · have hf := oiff c60 hf
                                          refine zw_aload_n hx hb dX9_fits_392 rfl (lv_at hl.1 0 rfl) ?_
                                          refine lv_iconst (v := 1) hx hb dX9_fits_393 (by decide) ?_
                                          refine lv_iload_n hx hb dX9_fits_394 rfl (lv_at hl.1 3 rfl) ?_
                                          refine lv_iadd hx hb dX9_fits_395 ?_
                                          obtain ⟨a961, j61, hf⟩ := ob hf
                                          obtain ⟨q61, e61, hf⟩ := ob hf
                                          refine zw_callV (rest := []) (n := 1) F (kX9_popInto (r := q61.1) (h' := q61.2) l D base N a0 (1 + a3) q59.2 e61) 9 rfl (by decide) j61 wd_789 wd_791 ws_40 wd_6 wd_792 (by decide +kernel) ⟨by decide, by decide⟩ hW hS rfl hl.1.1 (by decide) rfl ⟨(by decide), (by decide)⟩ dX9_fits_396 (fun H locs hW hS => ?_)
                                          refine W.eq (g2 := F0 m 399 ls [.int q61.1]) rfl ?_
                                          refine lv_if_eq (tgt := 425) hx hb dX9_fits_399 (by decide) (fun c62 => ?_) (fun c62 => ?_)
                                          · have hf := oift c62 hf
                                            refine lv_iconst (v := 0) hx hb dX9_fits_425 (by decide) ?_
                                            obtain ⟨rfl, rfl⟩ := oret hf
                                            exact zw_zreturn F (by decide) hW hS dX9_fits_426
                                          · have hf := oiff c62 hf
                                            refine zw_aload_n hx hb dX9_fits_402 rfl (lv_at hl.1 0 rfl) ?_
                                            refine zw_aload_n hx hb dX9_fits_403 rfl (lv_at hl.1 0 rfl) ?_
                                            obtain ⟨v63, e63, hf⟩ := ob hf
                                            refine zw_gR hx hb hts inX9 hown hW (ci := 9) rfl (by decide) 5 (by decide) (hts _ wd_594) e63 (fun _ _ => rfl) dX9_fits_404 ?_
                                            refine lv_bipush (v := 16) hx hb dX9_fits_407 (by decide) ?_
                                            refine lv_iload_n hx hb dX9_fits_409 rfl (lv_at hl.1 3 rfl) ?_
                                            refine lv_imul hx hb dX9_fits_410 ?_
                                            refine lv_iload hx hb dX9_fits_411 (lv_at hl.1 4 rfl) ?_
                                            refine lv_iadd hx hb dX9_fits_413 ?_
                                            obtain ⟨v64, e64, hf⟩ := ob hf
                                            refine zw_aI hx hb hW e64 dX9_fits_414 ?_
                                            obtain ⟨a965, j65, hf⟩ := ob hf
                                            obtain ⟨q65, e65, hf⟩ := ob hf
                                            refine zw_callV (rest := []) (n := 1) F (kX9_given (r := q65.1) (h' := q65.2) l D base a0 v64 q61.2 e65) 9 rfl (by decide) j65 wd_801 wd_803 ws_43 wd_6 wd_804 (by decide +kernel) ⟨by decide, by decide⟩ hW hS rfl hl.1.1 (by decide) rfl ⟨(by decide), (by decide)⟩ dX9_fits_415 (fun H locs hW hS => ?_)
                                            refine W.eq (g2 := F0 m 418 ls [.int q65.1]) rfl ?_
                                            refine lv_if_eq (tgt := 425) hx hb dX9_fits_418 (by decide) (fun c66 => ?_) (fun c66 => ?_)
                                            · have hf := oift c66 hf
                                              refine lv_iconst (v := 0) hx hb dX9_fits_425 (by decide) ?_
                                              obtain ⟨rfl, rfl⟩ := oret hf
                                              exact zw_zreturn F (by decide) hW hS dX9_fits_426
                                            · have hf := oiff c66 hf
                                              refine lv_iconst (v := 1) hx hb dX9_fits_421 (by decide) ?_
                                              refine lv_goto (tgt := 426) hx hb dX9_fits_422 (by decide) ?_
                                              obtain ⟨rfl, rfl⟩ := oret hf
                                              exact zw_zreturn F (by decide) hW hS dX9_fits_426
                                      · have hf := oiff c56 hf
                                        by_cases c67 : a2 = 37
                                        · have hf := oift c67 hf
                                          refine zl_tab hx hb (37) (346) (tgt := 427) dX9_fits_81 (by rw [c67]; decide) (by decide) ?_
                                          refine zw_aload_n hx hb dX9_fits_427 rfl (lv_at hl.1 0 rfl) ?_
                                          obtain ⟨v68, e68, hf⟩ := ob hf
                                          refine zw_gR hx hb hts inX9 hown hW (ci := 9) rfl (by decide) 8 (by decide) (hts _ wd_597) e68 (fun _ _ => rfl) dX9_fits_428 ?_
                                          refine lv_iload_n hx hb dX9_fits_431 rfl (lv_at hl.1 1 rfl) ?_
                                          obtain ⟨v69, e69, hf⟩ := ob hf
                                          refine zw_aI hx hb hW e69 dX9_fits_432 ?_
                                          refine lv_if_ge (tgt := 440) hx hb dX9_fits_433 (by decide) (fun c70 => ?_) (fun c70 => ?_)
                                          · have hf := oift c70 hf
                                            refine lv_iconst (v := 0) hx hb dX9_fits_440 (by decide) ?_
                                            obtain ⟨rfl, rfl⟩ := oret hf
                                            exact zw_zreturn F (by decide) hW hS dX9_fits_441
                                          · have hf := oiff c70 hf
                                            refine lv_iconst (v := 1) hx hb dX9_fits_436 (by decide) ?_
                                            refine lv_goto (tgt := 441) hx hb dX9_fits_437 (by decide) ?_
                                            obtain ⟨rfl, rfl⟩ := oret hf
                                            exact zw_zreturn F (by decide) hW hS dX9_fits_441
                                        · have hf := oiff c67 hf
                                          by_cases c71 : a2 = 38
                                          · have hf := oift c71 hf
                                            refine zl_tab hx hb (38) (361) (tgt := 442) dX9_fits_81 (by rw [c71]; decide) (by decide) ?_
                                            refine zw_aload_n hx hb dX9_fits_442 rfl (lv_at hl.1 0 rfl) ?_
                                            obtain ⟨v72, e72, hf⟩ := ob hf
                                            refine zw_gR hx hb hts inX9 hown hW (ci := 9) rfl (by decide) 8 (by decide) (hts _ wd_597) e72 (fun _ _ => rfl) dX9_fits_443 ?_
                                            refine lv_iload_n hx hb dX9_fits_446 rfl (lv_at hl.1 1 rfl) ?_
                                            obtain ⟨v73, e73, hf⟩ := ob hf
                                            refine zw_aI hx hb hW e73 dX9_fits_447 ?_
                                            refine lv_if_lt (tgt := 468) hx hb dX9_fits_448 (by decide) (fun c74 => ?_) (fun c74 => ?_)
                                            · have hf := oift c74 hf
                                              refine lv_iconst (v := 0) hx hb dX9_fits_468 (by decide) ?_
                                              obtain ⟨rfl, rfl⟩ := oret hf
                                              exact zw_zreturn F (by decide) hW hS dX9_fits_469
                                            · have hf := oiff c74 hf
                                              refine zw_aload_n hx hb dX9_fits_451 rfl (lv_at hl.1 0 rfl) ?_
                                              refine zw_aload_n hx hb dX9_fits_452 rfl (lv_at hl.1 0 rfl) ?_
                                              obtain ⟨v75, e75, hf⟩ := ob hf
                                              refine zw_gR hx hb hts inX9 hown hW (ci := 9) rfl (by decide) 8 (by decide) (hts _ wd_597) e75 (fun _ _ => rfl) dX9_fits_453 ?_
                                              refine lv_iload_n hx hb dX9_fits_456 rfl (lv_at hl.1 1 rfl) ?_
                                              obtain ⟨v76, e76, hf⟩ := ob hf
                                              refine zw_aI hx hb hW e76 dX9_fits_457 ?_
                                              obtain ⟨a977, j77, hf⟩ := ob hf
                                              obtain ⟨q77, e77, hf⟩ := ob hf
                                              refine zw_callV (rest := []) (n := 1) F (kX9_popInto (r := q77.1) (h' := q77.2) l D base N a0 v76 h e77) 9 rfl (by decide) j77 wd_789 wd_791 ws_40 wd_6 wd_792 (by decide +kernel) ⟨by decide, by decide⟩ hW hS rfl hl.1.1 (by decide) rfl ⟨(by decide), (by decide)⟩ dX9_fits_458 (fun H locs hW hS => ?_)
                                              refine W.eq (g2 := F0 m 461 ls [.int q77.1]) rfl ?_
                                              refine lv_if_eq (tgt := 468) hx hb dX9_fits_461 (by decide) (fun c78 => ?_) (fun c78 => ?_)
                                              · have hf := oift c78 hf
                                                refine lv_iconst (v := 0) hx hb dX9_fits_468 (by decide) ?_
                                                obtain ⟨rfl, rfl⟩ := oret hf
                                                exact zw_zreturn F (by decide) hW hS dX9_fits_469
                                              · have hf := oiff c78 hf
                                                refine lv_iconst (v := 1) hx hb dX9_fits_464 (by decide) ?_
                                                refine lv_goto (tgt := 469) hx hb dX9_fits_465 (by decide) ?_
                                                obtain ⟨rfl, rfl⟩ := oret hf
                                                exact zw_zreturn F (by decide) hW hS dX9_fits_469
                                          · have hf := oiff c71 hf
                                            by_cases c79 : a2 = 39
                                            · have hf := oift c79 hf
                                              refine zl_tab hx hb (39) (389) (tgt := 470) dX9_fits_81 (by rw [c79]; decide) (by decide) ?_
                                              refine zw_aload_n hx hb dX9_fits_470 rfl (lv_at hl.1 0 rfl) ?_
                                              obtain ⟨a980, j80, hf⟩ := ob hf
                                              obtain ⟨q80, e80, hf⟩ := ob hf
                                              refine zw_callV (rest := []) (n := 0) F (kX9_pop (r := q80.1) (h' := q80.2) l D base a0 h e80) 9 rfl (by decide) j80 wd_777 wd_779 ws_37 wd_6 wd_780 (by decide +kernel) ⟨by decide, by decide⟩ hW hS rfl hl.1.1 (by decide) rfl ⟨(by decide), (by decide)⟩ dX9_fits_471 (fun H locs hW hS => ?_)
                                              refine W.eq (g2 := F0 m 474 ls [.int q80.1]) rfl ?_
                                              refine zl_istore (lv' := [(5, .int q80.1), (0, va_rf a0), (1, .int a1), (2, .int a2), (3, .int a3), (4, .int a4)]) hx hb dX9_fits_474 hl (by decide) rfl (fun ls hl => ?_)
                                              refine lv_iload hx hb dX9_fits_476 (lv_at hl.1 0 rfl) ?_
                                              refine lv_bipush (v := 97) hx hb dX9_fits_478 (by decide) ?_
                                              refine lv_icmp_eq (tgt := 491) hx hb dX9_fits_480 (by decide) (fun c81 => ?_) (fun c81 => ?_)
                                              · have hf := oift c81 hf
                                                exact kX9_fits_b491 N F q80.2 hf H locs ls (z_sub hl [] rfl) hW hS
                                              · have hf := oiff c81 hf
                                                refine lv_iload hx hb dX9_fits_483 (lv_at hl.1 0 rfl) ?_
                                                obtain ⟨q82, e82, hf⟩ := ob hf
                                                refine zw_callS (rest := []) (n := 1) F (kX9_isSome (r := q82.1) (h' := q82.2) l D base q80.1 q80.2 e82) wd_750 wd_751 wd_6 wd_752 (by decide +kernel) ⟨by decide, by decide⟩ hW hS rfl hl.1.1 (by decide) rfl ⟨(by decide), (by decide)⟩ dX9_fits_485 (fun H locs hW hS => ?_)
                                                refine W.eq (g2 := F0 m 488 ls [.int q82.1]) rfl ?_
                                                refine lv_if_eq (tgt := 495) hx hb dX9_fits_488 (by decide) (fun c83 => ?_) (fun c83 => ?_)
                                                · have hf := oift c83 hf
                                                  refine lv_iconst (v := 0) hx hb dX9_fits_495 (by decide) ?_
                                                  obtain ⟨rfl, rfl⟩ := oret hf
                                                  exact zw_zreturn F (by decide) hW hS dX9_fits_496
                                                · have hf := oiff c83 hf
                                                  exact kX9_fits_b491 N F q82.2 hf H locs ls (z_sub hl [] rfl) hW hS
                                            · have hf := oiff c79 hf
                                              by_cases c84 : a2 = 41
                                              · have hf := oift c84 hf
                                                refine zl_tab hx hb (41) (107) (tgt := 188) dX9_fits_81 (by rw [c84]; decide) (by decide) ?_
                                                refine zw_aload_n hx hb dX9_fits_188 rfl (lv_at hl.1 0 rfl) ?_
                                                refine lv_iconst (v := 1) hx hb dX9_fits_189 (by decide) ?_
                                                obtain ⟨a985, j85, hf⟩ := ob hf
                                                obtain ⟨q85, e85, hf⟩ := ob hf
                                                refine zw_callV (rest := []) (n := 1) F (kX9_ints (r := q85.1) (h' := q85.2) l D base N a0 1 h e85) 9 rfl (by decide) j85 wd_781 wd_783 ws_38 wd_6 wd_784 (by decide +kernel) ⟨by decide, by decide⟩ hW hS rfl hl.1.1 (by decide) rfl ⟨(by decide), (by decide)⟩ dX9_fits_190 (fun H locs hW hS => ?_)
                                                refine W.eq (g2 := F0 m 193 ls [.int q85.1]) rfl ?_
                                                obtain ⟨hz, rfl, rfl⟩ := oretz hf
                                                exact zw_zreturn F hz hW hS dX9_fits_193
                                              · have hf := oiff c84 hf
                                                refine zl_tabD hx hb [19, 20, 21, 22, 23, 24, 25, 26, 27, 28, 29, 30, 35, 36, 37, 38, 39, 41] (tgt := 497) dX9_fits_81 (fun k hk => by simp only [List.mem_cons, List.not_mem_nil, or_false] at hk; rcases hk with rfl | rfl | rfl | rfl | rfl | rfl | rfl | rfl | rfl | rfl | rfl | rfl | rfl | rfl | rfl | rfl | rfl | rfl <;> first | exact lv_neT c6 (by decide) | exact lv_neT c8 (by decide) | exact lv_neT c10 (by decide) | exact lv_neT c12 (by decide) | exact lv_neT c14 (by decide) | exact lv_neT c19 (by decide) | exact lv_neT c24 (by decide) | exact lv_neT c25 (by decide) | exact lv_neT c27 (by decide) | exact lv_neT c34 (by decide) | exact lv_neT c41 (by decide) | exact lv_neT c46 (by decide) | exact lv_neT c51 (by decide) | exact lv_neT c56 (by decide) | exact lv_neT c67 (by decide) | exact lv_neT c71 (by decide) | exact lv_neT c79 (by decide) | exact lv_neT c84 (by decide)) (by decide) ?_
                                                refine zw_aload_n hx hb dX9_fits_497 rfl (lv_at hl.1 0 rfl) ?_
                                                refine lv_iload_n hx hb dX9_fits_498 rfl (lv_at hl.1 2 rfl) ?_
                                                refine lv_iload_n hx hb dX9_fits_499 rfl (lv_at hl.1 3 rfl) ?_
                                                obtain ⟨a986, j86, hf⟩ := ob hf
                                                obtain ⟨q86, e86, hf⟩ := ob hf
                                                refine zw_callV (rest := []) (n := 2) F (kX9_rows (r := q86.1) (h' := q86.2) l D base N a0 a2 a3 h e86) 9 rfl (by decide) j86 wd_805 wd_807 ws_44 wd_6 wd_808 (by decide +kernel) ⟨by decide, by decide⟩ hW hS rfl hl.1.1 (by decide) rfl ⟨(by decide), (by decide)⟩ dX9_fits_500 (fun H locs hW hS => ?_)
                                                refine W.eq (g2 := F0 m 503 ls [.int q86.1]) rfl ?_
                                                obtain ⟨hz, rfl, rfl⟩ := oretz hf
                                                exact zw_zreturn F hz hW hS dX9_fits_503
          · have hf := oiff c5 hf
            refine zw_aload_n hx hb dX9_fits_48 rfl (lv_at hl.1 0 rfl) ?_
            refine lv_iload_n hx hb dX9_fits_49 rfl (lv_at hl.1 2 rfl) ?_
            refine lv_bipush (v := 18) hx hb dX9_fits_50 (by decide) ?_
            refine lv_icmp_ge (tgt := 59) hx hb dX9_fits_52 (by decide) (fun c87 => ?_) (fun c87 => ?_)
            · have hf := oift c87 hf
              refine lv_iconst (v := 1) hx hb dX9_fits_59 (by decide) ?_
              exact kX9_fits_b60 N F a0 1 a0 h hf H locs ls (z_sub hl [0] rfl) hW hS
            · have hf := oiff c87 hf
              refine lv_iconst (v := 2) hx hb dX9_fits_55 (by decide) ?_
              refine lv_goto (tgt := 60) hx hb dX9_fits_56 (by decide) ?_
              exact kX9_fits_b60 N F a0 2 a0 h hf H locs ls (z_sub hl [0] rfl) hW hS
        · have hf := oiff c4 hf
          refine zw_aload_n hx hb dX9_fits_34 rfl (lv_at hl.1 0 rfl) ?_
          refine lv_iload_n hx hb dX9_fits_35 rfl (lv_at hl.1 1 rfl) ?_
          refine lv_iload_n hx hb dX9_fits_36 rfl (lv_at hl.1 2 rfl) ?_
          refine lv_iload_n hx hb dX9_fits_37 rfl (lv_at hl.1 3 rfl) ?_
          obtain ⟨a988, j88, hf⟩ := ob hf
          obtain ⟨q88, e88, hf⟩ := ob hf
          refine zw_callV (rest := []) (n := 3) F (kX9_places (r := q88.1) (h' := q88.2) l D base a0 a1 a2 a3 h e88) 9 rfl (by decide) j88 wd_773 wd_775 ws_36 wd_6 wd_776 (by decide +kernel) ⟨by decide, by decide⟩ hW hS rfl hl.1.1 (by decide) rfl ⟨(by decide), (by decide)⟩ dX9_fits_38 (fun H locs hW hS => ?_)
          refine W.eq (g2 := F0 m 41 ls [.int q88.1]) rfl ?_
          obtain ⟨hz, rfl, rfl⟩ := oretz hf
          exact zw_zreturn F hz hW hS dX9_fits_41
      · have hf := oift c3 hf
        refine zw_aload_n hx hb dX9_fits_21 rfl (lv_at hl.1 0 rfl) ?_
        refine lv_bipush (v := 97) hx hb dX9_fits_22 (by decide) ?_
        obtain ⟨a989, j89, hf⟩ := ob hf
        obtain ⟨q89, e89, hf⟩ := ob hf
        refine zw_callV (rest := []) (n := 1) F (kX9_push (r := q89.1) (h' := q89.2) l D base a0 97 h e89) 9 rfl (by decide) j89 wd_765 wd_767 ws_34 wd_6 wd_768 (by decide +kernel) ⟨by decide, by decide⟩ hW hS rfl hl.1.1 (by decide) rfl ⟨(by decide), (by decide)⟩ dX9_fits_24 (fun H locs hW hS => ?_)
        refine W.eq (g2 := F0 m 27 ls [.int q89.1]) rfl ?_
        obtain ⟨hz, rfl, rfl⟩ := oretz hf
        exact zw_zreturn F hz hW hS dX9_fits_27
    · have hf := oift c2 hf
      exact kX9_fits_b10 N F a0 h hf H locs ls (z_sub hl [0] rfl) hW hS
set_option maxRecDepth 100000 in
set_option maxHeartbeats 4000000 in
theorem kX9_fits (l : Launch) (D : va_G) (base : Nat) (N : Nat) (a0 : Option Nat) (a1 : Int32) (a2 : Int32) (a3 : Int32) (a4 : Int32) (h : zH) {r : Int32} {h' : zH} (hf : fX9_fits N a0 a1 a2 a3 a4 h = some (r, h')) : zMet l D base yX9_fits cX9_fits 6 (some .boolean) rmX9_fits h [va_rf a0, .int a1, .int a2, .int a3, .int a4] (some (.int r)) h' :=
  zMet.of (by decide +kernel) (fun v hv => by simp only [List.mem_cons, List.not_mem_nil, or_false] at hv; rcases hv with rfl | rfl | rfl | rfl | rfl <;> first | rfl | exact va_rf_cat _) (Nat.le_of_ble_eq_true rfl) (fun p e s m args below meth c ls F hi hl hW hS => kX9_fits_w N F a0 a1 a2 a3 a4 h hf s.heap [] ls hl hW hS)
set_option maxRecDepth 100000 in
set_option maxHeartbeats 4000000 in
theorem kX9_step_b227 (N : Nat) {r : Int32} {h' : zH} (F : zF p s m args meth c cX9_step 7 RX9 (some .boolean))  (h : zH) (hf : fX9_step_b227 N  h = some (r, h')) (H : Heap) (locs : List Loc) (ls : Array Slot) (hl : zhas ls 7 []) (hW : z_W D base s h H) (hS : va_S (zA base) s.heap H locs) : W p l e rmX9_step s m args below meth c H locs 0 0 (MQ below (zQ D base (some (.int r)) h') args s rmX9_step.cells rmX9_step.slots (zA base)) (F0 m 227 ls []) := by
  obtain ⟨hx, hb, hml, hown, hts, hret, hlk, hZ⟩ := id F
  unfold fX9_step_b227 at hf
  refine lv_iconst (v := 1) hx hb dX9_step_227 (by decide) ?_
  refine lv_goto (tgt := 232) hx hb dX9_step_228 (by decide) ?_
  obtain ⟨rfl, rfl⟩ := oret hf
  exact zw_zreturn F (by decide) hW hS dX9_step_232
set_option maxRecDepth 100000 in
set_option maxHeartbeats 4000000 in
theorem kX9_step_b199 (N : Nat) {r : Int32} {h' : zH} (F : zF p s m args meth c cX9_step 7 RX9 (some .boolean)) (l0 : Option Nat) (l1 : Int32) (l3 : Int32) (l5 : Int32) (h : zH) (hf : fX9_step_b199 N l0 l1 l3 l5 h = some (r, h')) (H : Heap) (locs : List Loc) (ls : Array Slot) (hl : zhas ls 7 [(0, va_rf l0), (1, .int l1), (3, .int l3), (5, .int l5)]) (hW : z_W D base s h H) (hS : va_S (zA base) s.heap H locs) : W p l e rmX9_step s m args below meth c H locs 0 0 (MQ below (zQ D base (some (.int r)) h') args s rmX9_step.cells rmX9_step.slots (zA base)) (F0 m 199 ls []) := by
  obtain ⟨hx, hb, hml, hown, hts, hret, hlk, hZ⟩ := id F
  unfold fX9_step_b199 at hf
  refine lv_iload hx hb dX9_step_199 (lv_at hl.1 3 rfl) ?_
  refine lv_bipush (v := 19) hx hb dX9_step_201 (by decide) ?_
  refine lv_icmp_lt (tgt := 227) hx hb dX9_step_203 (by decide) (fun c1 => ?_) (fun c1 => ?_)
  · have hf := oift c1 hf
    exact kX9_step_b227 N F h hf H locs ls (z_sub hl [] rfl) hW hS
  · have hf := oiff c1 hf
    refine lv_iload hx hb dX9_step_206 (lv_at hl.1 3 rfl) ?_
    refine lv_bipush (v := 25) hx hb dX9_step_208 (by decide) ?_
    refine lv_icmp_gt (tgt := 227) hx hb dX9_step_210 (by decide) (fun c2 => ?_) (fun c2 => ?_)
    · have hf := oift c2 hf
      exact kX9_step_b227 N F h hf H locs ls (z_sub hl [] rfl) hW hS
    · have hf := oiff c2 hf
      refine zw_aload_n hx hb dX9_step_213 rfl (lv_at hl.1 0 rfl) ?_
      refine lv_iload_n hx hb dX9_step_214 rfl (lv_at hl.1 1 rfl) ?_
      refine zw_aload_n hx hb dX9_step_215 rfl (lv_at hl.1 0 rfl) ?_
      obtain ⟨v3, e3, hf⟩ := ob hf
      refine zw_gR hx hb hts inX9 hown hW (ci := 9) rfl (by decide) 16 (by decide) (hts _ wd_605) e3 (fun _ _ => rfl) dX9_step_216 ?_
      refine lv_iload_n hx hb dX9_step_219 rfl (lv_at hl.1 2 rfl) ?_
      obtain ⟨v4, e4, hf⟩ := ob hf
      refine zw_aI hx hb hW e4 dX9_step_220 ?_
      obtain ⟨a905, j5, hf⟩ := ob hf
      obtain ⟨q5, e5, hf⟩ := ob hf
      refine zw_callV (rest := []) (n := 2) F (kX9_come (r := q5.1) (h' := q5.2) l D base N l0 l1 v4 h e5) 9 rfl (by decide) j5 wd_739 wd_741 ws_29 wd_6 wd_742 (by decide +kernel) ⟨by decide, by decide⟩ hW hS rfl hl.1.1 (by decide) rfl ⟨(by decide), (by decide)⟩ dX9_step_221 (fun H locs hW hS => ?_)
      refine W.eq (g2 := F0 m 224 ls [.int q5.1]) rfl ?_
      refine lv_if_eq (tgt := 231) hx hb dX9_step_224 (by decide) (fun c6 => ?_) (fun c6 => ?_)
      · have hf := oift c6 hf
        refine lv_iconst (v := 0) hx hb dX9_step_231 (by decide) ?_
        obtain ⟨rfl, rfl⟩ := oret hf
        exact zw_zreturn F (by decide) hW hS dX9_step_232
      · have hf := oiff c6 hf
        exact kX9_step_b227 N F q5.2 hf H locs ls (z_sub hl [] rfl) hW hS
set_option maxRecDepth 100000 in
set_option maxHeartbeats 4000000 in
theorem kX9_step_b181 (N : Nat) {r : Int32} {h' : zH} (F : zF p s m args meth c cX9_step 7 RX9 (some .boolean)) (l0 : Option Nat) (l1 : Int32) (l2 : Int32) (l3 : Int32) (l5 : Int32) (s0 : Int32) (h : zH) (hf : fX9_step_b181 N l0 l1 l2 l3 l5 s0 h = some (r, h')) (H : Heap) (locs : List Loc) (ls : Array Slot) (hl : zhas ls 7 [(0, va_rf l0), (1, .int l1), (2, .int l2), (3, .int l3), (5, .int l5)]) (hW : z_W D base s h H) (hS : va_S (zA base) s.heap H locs) : W p l e rmX9_step s m args below meth c H locs 0 0 (MQ below (zQ D base (some (.int r)) h') args s rmX9_step.cells rmX9_step.slots (zA base)) (F0 m 181 ls [.int s0]) := by
  obtain ⟨hx, hb, hml, hown, hts, hret, hlk, hZ⟩ := id F
  unfold fX9_step_b181 at hf
  refine zl_istore (lv' := [(6, .int s0), (0, va_rf l0), (1, .int l1), (2, .int l2), (3, .int l3), (5, .int l5)]) hx hb dX9_step_181 hl (by decide) rfl (fun ls hl => ?_)
  refine lv_iload hx hb dX9_step_183 (lv_at hl.1 0 rfl) ?_
  refine lv_if_ne (tgt := 199) hx hb dX9_step_185 (by decide) (fun c1 => ?_) (fun c1 => ?_)
  · have hf := oiff c1 hf
    exact kX9_step_b199 N F l0 l1 l3 l5 h hf H locs ls (z_sub hl [1, 2, 4, 5] rfl) hW hS
  · have hf := oift c1 hf
    refine zw_aload_n hx hb dX9_step_188 rfl (lv_at hl.1 1 rfl) ?_
    refine lv_iload_n hx hb dX9_step_189 rfl (lv_at hl.1 2 rfl) ?_
    refine lv_iload_n hx hb dX9_step_190 rfl (lv_at hl.1 3 rfl) ?_
    refine lv_iconst (v := 1) hx hb dX9_step_191 (by decide) ?_
    refine lv_iadd hx hb dX9_step_192 ?_
    obtain ⟨a902, j2, hf⟩ := ob hf
    obtain ⟨q2, e2, hf⟩ := ob hf
    refine zw_callV (rest := []) (n := 2) F (kX9_come (r := q2.1) (h' := q2.2) l D base N l0 l1 (l2 + 1) h e2) 9 rfl (by decide) j2 wd_739 wd_741 ws_29 wd_6 wd_742 (by decide +kernel) ⟨by decide, by decide⟩ hW hS rfl hl.1.1 (by decide) rfl ⟨(by decide), (by decide)⟩ dX9_step_193 (fun H locs hW hS => ?_)
    refine W.eq (g2 := F0 m 196 ls [.int q2.1]) rfl ?_
    refine lv_if_eq (tgt := 231) hx hb dX9_step_196 (by decide) (fun c3 => ?_) (fun c3 => ?_)
    · have hf := oift c3 hf
      refine lv_iconst (v := 0) hx hb dX9_step_231 (by decide) ?_
      obtain ⟨rfl, rfl⟩ := oret hf
      exact zw_zreturn F (by decide) hW hS dX9_step_232
    · have hf := oiff c3 hf
      exact kX9_step_b199 N F l0 l1 l3 l5 q2.2 hf H locs ls (z_sub hl [1, 2, 4, 5] rfl) hW hS
set_option maxRecDepth 100000 in
set_option maxHeartbeats 4000000 in
theorem kX9_step_b176 (N : Nat) {r : Int32} {h' : zH} (F : zF p s m args meth c cX9_step 7 RX9 (some .boolean)) (l0 : Option Nat) (l1 : Int32) (l2 : Int32) (l3 : Int32) (l5 : Int32) (h : zH) (hf : fX9_step_b176 N l0 l1 l2 l3 l5 h = some (r, h')) (H : Heap) (locs : List Loc) (ls : Array Slot) (hl : zhas ls 7 [(0, va_rf l0), (1, .int l1), (2, .int l2), (3, .int l3), (5, .int l5)]) (hW : z_W D base s h H) (hS : va_S (zA base) s.heap H locs) : W p l e rmX9_step s m args below meth c H locs 0 0 (MQ below (zQ D base (some (.int r)) h') args s rmX9_step.cells rmX9_step.slots (zA base)) (F0 m 176 ls []) := by
  obtain ⟨hx, hb, hml, hown, hts, hret, hlk, hZ⟩ := id F
  unfold fX9_step_b176 at hf
  refine lv_iconst (v := 1) hx hb dX9_step_176 (by decide) ?_
  refine lv_goto (tgt := 181) hx hb dX9_step_177 (by decide) ?_
  exact kX9_step_b181 N F l0 l1 l2 l3 l5 1 h hf H locs ls (z_sub hl [0, 1, 2, 3, 4] rfl) hW hS
set_option maxRecDepth 100000 in
set_option maxHeartbeats 4000000 in
theorem kX9_step_b104 (N : Nat) {r : Int32} {h' : zH} (k22 : Option Nat → Int32 → Int32 → Int32 → Int32 → zH → Option (Int32 × zH)) (hk22 : ∀ (l0 : Option Nat) (l1 : Int32) (l2 : Int32) (l3 : Int32) (l5 : Int32) (h : zH), k22 l0 l1 l2 l3 l5 h = some (r, h') → ∀ (H : Heap) (locs : List Loc) (ls : Array Slot), zhas ls 7 [(0, va_rf l0), (1, .int l1), (2, .int l2), (3, .int l3), (5, .int l5)] → z_W D base s h H → va_S (zA base) s.heap H locs → W p l e rmX9_step s m args below meth c H locs 0 0 (MQ below (zQ D base (some (.int r)) h') args s rmX9_step.cells rmX9_step.slots (zA base)) (F0 m 22 ls [])) (F : zF p s m args meth c cX9_step 7 RX9 (some .boolean)) (l0 : Option Nat) (l1 : Int32) (l2 : Int32) (l3 : Int32) (l5 : Int32) (h : zH) (hf : fX9_step_b104 N k22 l0 l1 l2 l3 l5 h = some (r, h')) (H : Heap) (locs : List Loc) (ls : Array Slot) (hl : zhas ls 7 [(0, va_rf l0), (1, .int l1), (2, .int l2), (3, .int l3), (5, .int l5)]) (hW : z_W D base s h H) (hS : va_S (zA base) s.heap H locs) : W p l e rmX9_step s m args below meth c H locs 0 0 (MQ below (zQ D base (some (.int r)) h') args s rmX9_step.cells rmX9_step.slots (zA base)) (F0 m 104 ls []) := by
  obtain ⟨hx, hb, hml, hown, hts, hret, hlk, hZ⟩ := id F
  unfold fX9_step_b104 at hf
  refine zl_iinc (v := (l5 + 1)) (lv' := [(5, .int (l5 + 1)), (0, va_rf l0), (1, .int l1), (2, .int l2), (3, .int l3)]) hx hb dX9_step_104 hl (k := 4) rfl rfl (by decide) rfl (fun ls hl => ?_)
  refine lv_goto (tgt := 22) hx hb dX9_step_107 (by decide) ?_
  exact hk22 l0 l1 l2 l3 (l5 + 1) h hf H locs ls (z_sub hl [1, 2, 3, 4, 0] rfl) hW hS
set_option maxRecDepth 100000 in
set_option maxHeartbeats 4000000 in
theorem kX9_step_b22 (N : Nat) {r : Int32} {h' : zH} (F : zF p s m args meth c cX9_step 7 RX9 (some .boolean)) : ∀ (n : Nat) (l0 : Option Nat) (l1 : Int32) (l2 : Int32) (l3 : Int32) (l5 : Int32) (h : zH), fX9_step_b22 N n l0 l1 l2 l3 l5 h = some (r, h') → ∀ (H : Heap) (locs : List Loc) (ls : Array Slot), zhas ls 7 [(0, va_rf l0), (1, .int l1), (2, .int l2), (3, .int l3), (5, .int l5)] → z_W D base s h H → va_S (zA base) s.heap H locs → W p l e rmX9_step s m args below meth c H locs 0 0 (MQ below (zQ D base (some (.int r)) h') args s rmX9_step.cells rmX9_step.slots (zA base)) (F0 m 22 ls []) := by
  obtain ⟨hx, hb, hml, hown, hts, hret, hlk, hZ⟩ := id F
  intro n
  induction n with
  | zero =>
    intro l0 l1 l2 l3 l5 h hf
    rw [fX9_step_b22] at hf
    cases hf
  | succ n ih =>
    intro l0 l1 l2 l3 l5 h hf H locs ls hl hW hS
    rw [fX9_step_b22] at hf
    refine lv_iload hx hb dX9_step_22 (lv_at hl.1 4 rfl) ?_
    refine lv_bipush (v := 8) hx hb dX9_step_24 (by decide) ?_
    refine lv_iload_n hx hb dX9_step_26 rfl (lv_at hl.1 1 rfl) ?_
    refine lv_imul hx hb dX9_step_27 ?_
    refine zw_aload_n hx hb dX9_step_28 rfl (lv_at hl.1 0 rfl) ?_
    obtain ⟨v1, e1, hf⟩ := ob hf
    refine zw_gR hx hb hts inX9 hown hW (ci := 9) rfl (by decide) 18 (by decide) (hts _ wd_607) e1 (fun _ _ => rfl) dX9_step_29 ?_
    refine lv_iload_n hx hb dX9_step_32 rfl (lv_at hl.1 1 rfl) ?_
    obtain ⟨v2, e2, hf⟩ := ob hf
    refine zw_aI hx hb hW e2 dX9_step_33 ?_
    refine lv_iadd hx hb dX9_step_34 ?_
    refine lv_icmp_ge (tgt := 110) hx hb dX9_step_35 (by decide) (fun c3 => ?_) (fun c3 => ?_)
    · have hf := oift c3 hf
      refine zw_aload_n hx hb dX9_step_110 rfl (lv_at hl.1 0 rfl) ?_
      refine lv_iload_n hx hb dX9_step_111 rfl (lv_at hl.1 1 rfl) ?_
      refine lv_iload_n hx hb dX9_step_112 rfl (lv_at hl.1 2 rfl) ?_
      obtain ⟨a904, j4, hf⟩ := ob hf
      obtain ⟨h4, e4, hf⟩ := ob hf
      refine zw_callV (rest := []) (n := 2) F (kX9_takeUp l D base N l0 l1 l2 h e4) 9 rfl (by decide) j4 wd_761 wd_763 ws_33 wd_6 wd_764 (by decide +kernel) ⟨by decide, by decide⟩ hW hS rfl hl.1.1 (by decide) rfl ⟨(by decide), (by decide)⟩ dX9_step_113 (fun H locs hW hS => ?_)
      refine W.eq (g2 := F0 m 116 ls []) rfl ?_
      refine zw_aload_n hx hb dX9_step_116 rfl (lv_at hl.1 0 rfl) ?_
      obtain ⟨v5, e5, hf⟩ := ob hf
      refine zw_gR hx hb hts inX9 hown hW (ci := 9) rfl (by decide) 15 (by decide) (hts _ wd_604) e5 (fun _ _ => rfl) dX9_step_117 ?_
      refine lv_iload_n hx hb dX9_step_120 rfl (lv_at hl.1 3 rfl) ?_
      obtain ⟨v6, e6, hf⟩ := ob hf
      refine zw_aI hx hb hW e6 dX9_step_121 ?_
      refine zl_istore (lv' := [(5, .int v6), (0, va_rf l0), (1, .int l1), (2, .int l2), (3, .int l3)]) hx hb dX9_step_122 hl (by decide) rfl (fun ls hl => ?_)
      refine zw_aload_n hx hb dX9_step_124 rfl (lv_at hl.1 1 rfl) ?_
      refine lv_iload_n hx hb dX9_step_125 rfl (lv_at hl.1 2 rfl) ?_
      refine lv_iload hx hb dX9_step_126 (lv_at hl.1 0 rfl) ?_
      refine zw_aload_n hx hb dX9_step_128 rfl (lv_at hl.1 1 rfl) ?_
      obtain ⟨v7, e7, hf⟩ := ob hf
      refine zw_gR hx hb hts inX9 hown hW (ci := 9) rfl (by decide) 16 (by decide) (hts _ wd_605) e7 (fun _ _ => rfl) dX9_step_129 ?_
      refine lv_iload_n hx hb dX9_step_132 rfl (lv_at hl.1 4 rfl) ?_
      obtain ⟨v8, e8, hf⟩ := ob hf
      refine zw_aI hx hb hW e8 dX9_step_133 ?_
      refine zw_aload_n hx hb dX9_step_134 rfl (lv_at hl.1 1 rfl) ?_
      obtain ⟨v9, e9, hf⟩ := ob hf
      refine zw_gR hx hb hts inX9 hown hW (ci := 9) rfl (by decide) 17 (by decide) (hts _ wd_606) e9 (fun _ _ => rfl) dX9_step_135 ?_
      refine lv_iload_n hx hb dX9_step_138 rfl (lv_at hl.1 4 rfl) ?_
      obtain ⟨v10, e10, hf⟩ := ob hf
      refine zw_aI hx hb hW e10 dX9_step_139 ?_
      obtain ⟨a911, j11, hf⟩ := ob hf
      obtain ⟨q11, e11, hf⟩ := ob hf
      refine zw_callV (rest := []) (n := 4) F (kX9_fits (r := q11.1) (h' := q11.2) l D base N l0 l1 v6 v8 v10 h4 e11) 9 rfl (by decide) j11 wd_769 wd_771 ws_35 wd_6 wd_772 (by decide +kernel) ⟨by decide, by decide⟩ hW hS rfl hl.1.1 (by decide) rfl ⟨(by decide), (by decide)⟩ dX9_step_140 (fun H locs hW hS => ?_)
      refine W.eq (g2 := F0 m 143 ls [.int q11.1]) rfl ?_
      refine lv_if_ne (tgt := 148) hx hb dX9_step_143 (by decide) (fun c12 => ?_) (fun c12 => ?_)
      · have hf := oiff c12 hf
        refine lv_iload hx hb dX9_step_148 (lv_at hl.1 0 rfl) ?_
        refine lv_bipush (v := 25) hx hb dX9_step_150 (by decide) ?_
        refine lv_icmp_eq (tgt := 176) hx hb dX9_step_152 (by decide) (fun c13 => ?_) (fun c13 => ?_)
        · have hf := oift c13 hf
          exact kX9_step_b176 N F l0 l1 l2 l3 v6 q11.2 hf H locs ls (z_sub hl [1, 2, 3, 4, 0] rfl) hW hS
        · have hf := oiff c13 hf
          refine lv_iload hx hb dX9_step_155 (lv_at hl.1 0 rfl) ?_
          refine lv_bipush (v := 37) hx hb dX9_step_157 (by decide) ?_
          refine lv_icmp_eq (tgt := 176) hx hb dX9_step_159 (by decide) (fun c14 => ?_) (fun c14 => ?_)
          · have hf := oift c14 hf
            exact kX9_step_b176 N F l0 l1 l2 l3 v6 q11.2 hf H locs ls (z_sub hl [1, 2, 3, 4, 0] rfl) hW hS
          · have hf := oiff c14 hf
            refine lv_iload hx hb dX9_step_162 (lv_at hl.1 0 rfl) ?_
            refine lv_bipush (v := 38) hx hb dX9_step_164 (by decide) ?_
            refine lv_icmp_eq (tgt := 176) hx hb dX9_step_166 (by decide) (fun c15 => ?_) (fun c15 => ?_)
            · have hf := oift c15 hf
              exact kX9_step_b176 N F l0 l1 l2 l3 v6 q11.2 hf H locs ls (z_sub hl [1, 2, 3, 4, 0] rfl) hW hS
            · have hf := oiff c15 hf
              refine lv_iload hx hb dX9_step_169 (lv_at hl.1 0 rfl) ?_
              refine lv_bipush (v := 39) hx hb dX9_step_171 (by decide) ?_
              refine lv_icmp_ne (tgt := 180) hx hb dX9_step_173 (by decide) (fun c16 => ?_) (fun c16 => ?_)
              · have hf := oiff c16 hf
                refine lv_iconst (v := 0) hx hb dX9_step_180 (by decide) ?_
                exact kX9_step_b181 N F l0 l1 l2 l3 v6 0 q11.2 hf H locs ls (z_sub hl [1, 2, 3, 4, 0] rfl) hW hS
              · have hf := oift c16 hf
                exact kX9_step_b176 N F l0 l1 l2 l3 v6 q11.2 hf H locs ls (z_sub hl [1, 2, 3, 4, 0] rfl) hW hS
      · have hf := oift c12 hf
        refine lv_iconst (v := 0) hx hb dX9_step_146 (by decide) ?_
        obtain ⟨rfl, rfl⟩ := oret hf
        exact zw_zreturn F (by decide) hW hS dX9_step_147
    · have hf := oiff c3 hf
      refine zw_aload_n hx hb dX9_step_38 rfl (lv_at hl.1 0 rfl) ?_
      obtain ⟨v17, e17, hf⟩ := ob hf
      refine zw_gR hx hb hts inX9 hown hW (ci := 9) rfl (by decide) 19 (by decide) (hts _ wd_608) e17 (fun _ _ => rfl) dX9_step_39 ?_
      refine lv_iload hx hb dX9_step_42 (lv_at hl.1 4 rfl) ?_
      obtain ⟨v18, e18, hf⟩ := ob hf
      refine zw_aI hx hb hW e18 dX9_step_44 ?_
      refine lv_iload_n hx hb dX9_step_45 rfl (lv_at hl.1 2 rfl) ?_
      refine lv_icmp_gt (tgt := 104) hx hb dX9_step_46 (by decide) (fun c19 => ?_) (fun c19 => ?_)
      · have hf := oift c19 hf
        exact kX9_step_b104 N (fX9_step_b22 N n) (fun l0 l1 l2 l3 l5 h hf H locs ls hl hW hS => ih l0 l1 l2 l3 l5 h hf H locs ls hl hW hS) F l0 l1 l2 l3 l5 h hf H locs ls (z_sub hl [0, 1, 2, 3, 4] rfl) hW hS
      · have hf := oiff c19 hf
        refine lv_iload_n hx hb dX9_step_49 rfl (lv_at hl.1 2 rfl) ?_
        refine zw_aload_n hx hb dX9_step_50 rfl (lv_at hl.1 0 rfl) ?_
        obtain ⟨v20, e20, hf⟩ := ob hf
        refine zw_gR hx hb hts inX9 hown hW (ci := 9) rfl (by decide) 20 (by decide) (hts _ wd_609) e20 (fun _ _ => rfl) dX9_step_51 ?_
        refine lv_iload hx hb dX9_step_54 (lv_at hl.1 4 rfl) ?_
        obtain ⟨v21, e21, hf⟩ := ob hf
        refine zw_aI hx hb hW e21 dX9_step_56 ?_
        refine lv_icmp_ge (tgt := 104) hx hb dX9_step_57 (by decide) (fun c22 => ?_) (fun c22 => ?_)
        · have hf := oift c22 hf
          exact kX9_step_b104 N (fX9_step_b22 N n) (fun l0 l1 l2 l3 l5 h hf H locs ls hl hW hS => ih l0 l1 l2 l3 l5 h hf H locs ls hl hW hS) F l0 l1 l2 l3 l5 h hf H locs ls (z_sub hl [0, 1, 2, 3, 4] rfl) hW hS
        · have hf := oiff c22 hf
          refine zw_aload_n hx hb dX9_step_60 rfl (lv_at hl.1 0 rfl) ?_
          refine lv_iload_n hx hb dX9_step_61 rfl (lv_at hl.1 1 rfl) ?_
          refine lv_iload_n hx hb dX9_step_62 rfl (lv_at hl.1 2 rfl) ?_
          obtain ⟨a923, j23, hf⟩ := ob hf
          obtain ⟨h23, e23, hf⟩ := ob hf
          refine zw_callV (rest := []) (n := 2) F (kX9_takeUp l D base N l0 l1 l2 h e23) 9 rfl (by decide) j23 wd_761 wd_763 ws_33 wd_6 wd_764 (by decide +kernel) ⟨by decide, by decide⟩ hW hS rfl hl.1.1 (by decide) rfl ⟨(by decide), (by decide)⟩ dX9_step_63 (fun H locs hW hS => ?_)
          refine W.eq (g2 := F0 m 66 ls []) rfl ?_
          refine zw_aload_n hx hb dX9_step_66 rfl (lv_at hl.1 0 rfl) ?_
          refine lv_iconst (v := 0) hx hb dX9_step_67 (by decide) ?_
          obtain ⟨h24, e24, hf⟩ := ob hf
          refine zw_pI hx hb hts inX9 tyX9 tyX9_ok nmX9 hown hW hS (ci := 9) rfl (by decide) 29 (by decide) (hts _ wd_618) (Or.inl rfl) (fun _ _ => rfl) rfl rfl e24 dX9_step_68 (fun H locs hW hS => ?_)
          refine zw_aload_n hx hb dX9_step_71 rfl (lv_at hl.1 0 rfl) ?_
          refine lv_iconst (v := 1) hx hb dX9_step_72 (by decide) ?_
          refine zw_aload_n hx hb dX9_step_73 rfl (lv_at hl.1 0 rfl) ?_
          obtain ⟨v25, e25, hf⟩ := ob hf
          refine zw_gR hx hb hts inX9 hown hW (ci := 9) rfl (by decide) 21 (by decide) (hts _ wd_610) e25 (fun _ _ => rfl) dX9_step_74 ?_
          refine lv_iload hx hb dX9_step_77 (lv_at hl.1 4 rfl) ?_
          obtain ⟨v26, e26, hf⟩ := ob hf
          refine zw_aI hx hb hW e26 dX9_step_79 ?_
          refine lv_iadd hx hb dX9_step_80 ?_
          obtain ⟨a927, j27, hf⟩ := ob hf
          obtain ⟨q27, e27, hf⟩ := ob hf
          refine zw_callV (rest := []) (n := 1) F (kX9_push (r := q27.1) (h' := q27.2) l D base l0 (1 + v26) h24 e27) 9 rfl (by decide) j27 wd_765 wd_767 ws_34 wd_6 wd_768 (by decide +kernel) ⟨by decide, by decide⟩ hW hS rfl hl.1.1 (by decide) rfl ⟨(by decide), (by decide)⟩ dX9_step_81 (fun H locs hW hS => ?_)
          refine W.eq (g2 := F0 m 84 ls [.int q27.1]) rfl ?_
          refine lv_if_eq (tgt := 102) hx hb dX9_step_84 (by decide) (fun c28 => ?_) (fun c28 => ?_)
          · have hf := oift c28 hf
            refine lv_iconst (v := 0) hx hb dX9_step_102 (by decide) ?_
            obtain ⟨rfl, rfl⟩ := oret hf
            exact zw_zreturn F (by decide) hW hS dX9_step_103
          · have hf := oiff c28 hf
            refine zw_aload_n hx hb dX9_step_87 rfl (lv_at hl.1 0 rfl) ?_
            refine lv_iload_n hx hb dX9_step_88 rfl (lv_at hl.1 1 rfl) ?_
            refine zw_aload_n hx hb dX9_step_89 rfl (lv_at hl.1 0 rfl) ?_
            obtain ⟨v29, e29, hf⟩ := ob hf
            refine zw_gR hx hb hts inX9 hown hW (ci := 9) rfl (by decide) 22 (by decide) (hts _ wd_611) e29 (fun _ _ => rfl) dX9_step_90 ?_
            refine lv_iload hx hb dX9_step_93 (lv_at hl.1 4 rfl) ?_
            obtain ⟨v30, e30, hf⟩ := ob hf
            refine zw_aI hx hb hW e30 dX9_step_95 ?_
            obtain ⟨a931, j31, hf⟩ := ob hf
            obtain ⟨q31, e31, hf⟩ := ob hf
            refine zw_callV (rest := []) (n := 2) F (kX9_come (r := q31.1) (h' := q31.2) l D base N l0 l1 v30 q27.2 e31) 9 rfl (by decide) j31 wd_739 wd_741 ws_29 wd_6 wd_742 (by decide +kernel) ⟨by decide, by decide⟩ hW hS rfl hl.1.1 (by decide) rfl ⟨(by decide), (by decide)⟩ dX9_step_96 (fun H locs hW hS => ?_)
            refine W.eq (g2 := F0 m 99 ls [.int q31.1]) rfl ?_
            refine lv_if_ne (tgt := 104) hx hb dX9_step_99 (by decide) (fun c32 => ?_) (fun c32 => ?_)
            · have hf := oiff c32 hf
              exact kX9_step_b104 N (fX9_step_b22 N n) (fun l0 l1 l2 l3 l5 h hf H locs ls hl hW hS => ih l0 l1 l2 l3 l5 h hf H locs ls hl hW hS) F l0 l1 l2 l3 l5 q31.2 hf H locs ls (z_sub hl [0, 1, 2, 3, 4] rfl) hW hS
            · have hf := oift c32 hf
              refine lv_iconst (v := 0) hx hb dX9_step_102 (by decide) ?_
              obtain ⟨rfl, rfl⟩ := oret hf
              exact zw_zreturn F (by decide) hW hS dX9_step_103
set_option maxRecDepth 100000 in
set_option maxHeartbeats 4000000 in
theorem kX9_step_w (N : Nat) (F : zF p s m args meth c cX9_step 7 RX9 (some .boolean)) {r : Int32} {h' : zH} (a0 : Option Nat) (a1 : Int32) (a2 : Int32) (h : zH) (hf : fX9_step N a0 a1 a2 h = some (r, h')) (H : Heap) (locs : List Loc) (ls : Array Slot) (hl : zhas ls 7 [(0, va_rf a0), (1, .int a1), (2, .int a2)]) (hW : z_W D base s h H) (hS : va_S (zA base) s.heap H locs) : W p l e rmX9_step s m args below meth c H locs 0 0 (MQ below (zQ D base (some (.int r)) h') args s rmX9_step.cells rmX9_step.slots (zA base)) (F0 m 0 ls []) := by
  obtain ⟨hx, hb, hml, hown, hts, hret, hlk, hZ⟩ := id F
  unfold fX9_step at hf
  refine lv_sipush (v := 200) hx hb dX9_step_0 (by decide) ?_
  refine lv_iload_n hx hb dX9_step_3 rfl (lv_at hl.1 1 rfl) ?_
  refine lv_imul hx hb dX9_step_4 ?_
  refine lv_iload_n hx hb dX9_step_5 rfl (lv_at hl.1 2 rfl) ?_
  refine lv_iadd hx hb dX9_step_6 ?_
  refine zl_istore_n (lv' := [(3, .int ((200 * a1) + a2)), (0, va_rf a0), (1, .int a1), (2, .int a2)]) hx hb dX9_step_7 rfl hl (by decide) rfl (fun ls hl => ?_)
  refine zw_aload_n hx hb dX9_step_8 rfl (lv_at hl.1 1 rfl) ?_
  obtain ⟨v1, e1, hf⟩ := ob hf
  refine zw_gR hx hb hts inX9 hown hW (ci := 9) rfl (by decide) 9 (by decide) (hts _ wd_598) e1 (fun _ _ => rfl) dX9_step_9 ?_
  refine lv_iload_n hx hb dX9_step_12 rfl (lv_at hl.1 2 rfl) ?_
  obtain ⟨v2, e2, hf⟩ := ob hf
  refine zw_aI hx hb hW e2 dX9_step_13 ?_
  refine zl_istore (lv' := [(4, .int v2), (3, .int ((200 * a1) + a2)), (0, va_rf a0), (1, .int a1), (2, .int a2)]) hx hb dX9_step_14 hl (by decide) rfl (fun ls hl => ?_)
  refine lv_bipush (v := 8) hx hb dX9_step_16 (by decide) ?_
  refine lv_iload_n hx hb dX9_step_18 rfl (lv_at hl.1 3 rfl) ?_
  refine lv_imul hx hb dX9_step_19 ?_
  refine zl_istore (lv' := [(5, .int (8 * a1)), (4, .int v2), (3, .int ((200 * a1) + a2)), (0, va_rf a0), (1, .int a1), (2, .int a2)]) hx hb dX9_step_20 hl (by decide) rfl (fun ls hl => ?_)
  exact kX9_step_b22 N F N a0 a1 a2 ((200 * a1) + a2) (8 * a1) h hf H locs ls (z_sub hl [3, 4, 5, 2, 0] rfl) hW hS
set_option maxRecDepth 100000 in
set_option maxHeartbeats 4000000 in
theorem kX9_step (l : Launch) (D : va_G) (base : Nat) (N : Nat) (a0 : Option Nat) (a1 : Int32) (a2 : Int32) (h : zH) {r : Int32} {h' : zH} (hf : fX9_step N a0 a1 a2 h = some (r, h')) : zMet l D base yX9_step cX9_step 7 (some .boolean) rmX9_step h [va_rf a0, .int a1, .int a2] (some (.int r)) h' :=
  zMet.of (by decide +kernel) (fun v hv => by simp only [List.mem_cons, List.not_mem_nil, or_false] at hv; rcases hv with rfl | rfl | rfl <;> first | rfl | exact va_rf_cat _) (Nat.le_of_ble_eq_true rfl) (fun p e s m args below meth c ls F hi hl hW hS => kX9_step_w N F a0 a1 a2 h hf s.heap [] ls hl hW hS)
end
